theorem az_inv {γ : Type} {sh : az_Sh} {b : Nat} (F : Nat → List (Option (Option Nat)) → Option γ) {y : γ} (h : (match sh with | (kd, ln, rs) => bif Nat.beq kd b then F ln rs else none) = some y) : ∃ ln rs, sh = (b, ln, rs) ∧ F ln rs = some y := by
  obtain ⟨kd, ln, rs⟩ := sh
  have h : (bif Nat.beq kd b then F ln rs else none) = some y := h
  cases hk : Nat.beq kd b with
  | false => rw [hk] at h; cases h
  | true => rw [hk] at h; exact ⟨ln, rs, by rw [Nat.eq_of_beq_eq_true hk], h⟩
theorem az_kd {γ : Type} {sh : az_Sh} {b : Nat} {G : Nat → Nat → List (Option (Option Nat)) → Option γ} {y : γ} (h : (match sh with | (kd, ln, rs) => bif Nat.beq kd b then G kd ln rs else none) = some y) : (match sh with | (kd, ln, rs) => bif Nat.beq kd b then G b ln rs else none) = some y := by
  obtain ⟨kd, ln, rs⟩ := sh
  have h : (bif Nat.beq kd b then G kd ln rs else none) = some y := h
  show (bif Nat.beq kd b then G b ln rs else none) = some y
  cases hk : Nat.beq kd b with
  | false => rw [hk] at h; cases h
  | true => rw [hk] at h; rw [Nat.eq_of_beq_eq_true hk] at h; exact h
theorem az_inv_g {q k nx hz hw : Nat} {hS : Nat → az_Sh} {hM : Nat → Nat → Int32} {ls : List az_V} {r : List Value} {rs : List (Option (Option Nat))} {y : az_S} (h : (match az_nth rs k with | some none => some (nx, ls, Value.int (hM q k) :: r, (hz, hS, hM, hw)) | some (some none) => some (nx, ls, Value.null :: r, (hz, hS, hM, hw)) | some (some (some q2)) => some (nx, ls, Value.ref q2 :: r, (hz, hS, hM, hw)) | none => none) = some y) : ∃ o v, az_nth rs k = some o ∧ (∀ z0, az_sv z0 v = az_va1 z0 (hM q) k o) ∧ y = (nx, ls, v :: r, (hz, hS, hM, hw)) := by
  rcases hn : az_nth rs k with _ | _ | _ | q2 <;> rw [hn] at h
  · cases h
  · cases h; exact ⟨_, _, rfl, fun _ => rfl, rfl⟩
  · cases h; exact ⟨_, _, rfl, fun _ => rfl, rfl⟩
  · cases h; exact ⟨_, _, rfl, fun _ => rfl, rfl⟩
theorem az_inv_p {γ : Type} {k : Nat} {rs : List (Option (Option Nat))} {x y : γ} (h : (match az_nth rs k with | some none => some x | _ => none) = some y) : az_nth rs k = some none ∧ y = x := by
  rcases hn : az_nth rs k with _ | _ | o <;> rw [hn] at h
  · cases h
  · cases h; exact ⟨rfl, rfl⟩
  · cases h
theorem az_inv_f {γ : Type} {k : Nat} {rs : List (Option (Option Nat))} {x y : γ} (h : (match az_nth rs k with | some (some _) => some x | _ => none) = some y) : (∃ o, az_nth rs k = some (some o)) ∧ y = x := by
  rcases hn : az_nth rs k with _ | _ | o <;> rw [hn] at h
  · cases h
  · cases h
  · cases h; exact ⟨⟨o, rfl⟩, rfl⟩
section ST1
variable {p : Program} {l : Launch} {e : Env} {R : Room} {s : State} {m : MethodId} {args : Array Value} {below : List Frame} {meth : Method} {c : Code} {Q : State → Prop}
variable {D : va_G} {nL oi rc z0 : Nat} {cc : ByteArray} {h0 : az_H} {pc : Nat} {ls : List az_V} {stk : List Value}
theorem az_snd_st1 {hz hw : Nat} {hS : Nat → az_Sh} {hM : Nat → Nat → Int32} {i : az_I} {p' : Nat} {ls' : List az_V} {stk' : List Value} {h' : az_H} (X : az_CX p s m args meth c D nL oi rc cc) (hok : az_ok oi rc cc pc i = true) (hs : az_st1 i ls stk (hz, hS, hM, hw) = some (p', ls', stk', h')) (R1 : 1 ≤ R.frames) (R2 : 21 ≤ R.locals) (r1 : h'.1 ≤ h0.1 + R.cells) (r2 : h'.2.2.2 ≤ h0.2.2.2 + R.slots) (kk : az_MS p l e R s m args below meth c D nL z0 h0 Q p' ls' stk' h') : az_MS p l e R s m args below meth c D nL z0 h0 Q pc ls stk (hz, hS, hM, hw) := by
  obtain ⟨t, a, b, k, im, nx, sw⟩ := i
  have big : (31 ≤ t ∧ t ≤ 65) ∨ 71 ≤ t → False := by
    intro h
    rcases h with ⟨h1, h2⟩ | h1
    · rw [az_st1_hi h1 h2] at hs
      cases hs
    · simp only [az_st1, az_bF (show 10 < t by omega), az_bF (show 15 < t by omega), az_bF (show 20 < t by omega), az_bF (show 25 < t by omega), az_bF (show 30 < t by omega), az_eF (show t ≠ 66 by omega), az_eF (show t ≠ 67 by omega), az_eF (show t ≠ 68 by omega), az_eF (show t ≠ 69 by omega), az_eF (show t ≠ 70 by omega), cond_false] at hs
      cases hs
  rcases (show t = 0 ∨ t = 1 ∨ t = 2 ∨ t = 3 ∨ t = 4 ∨ t = 5 ∨ t = 6 ∨ t = 7 ∨ t = 8 ∨ t = 9 ∨ t = 10 ∨ t = 11 ∨ t = 12 ∨ t = 13 ∨ t = 14 ∨ t = 15 ∨ t = 16 ∨ t = 17 ∨ t = 18 ∨ t = 19 ∨ t = 20 ∨ t = 21 ∨ t = 22 ∨ t = 23 ∨ t = 24 ∨ t = 25 ∨ t = 26 ∨ t = 27 ∨ t = 28 ∨ t = 29 ∨ t = 30 ∨ t = 66 ∨ t = 67 ∨ t = 68 ∨ t = 69 ∨ t = 70 ∨ ((31 ≤ t ∧ t ≤ 65) ∨ 71 ≤ t) by omega) with rfl | rfl | rfl | rfl | rfl | rfl | rfl | rfl | rfl | rfl | rfl | rfl | rfl | rfl | rfl | rfl | rfl | rfl | rfl | rfl | rfl | rfl | rfl | rfl | rfl | rfl | rfl | rfl | rfl | rfl | rfl | rfl | rfl | rfl | rfl | rfl | hbig
  · obtain ⟨hdg, hnx, hx2⟩ := az_okd hok (show az_exp pc (0, a, b, k, im, nx, sw) = some (.iconst im.toInt, 1) from rfl)
    have hnx : nx = pc + 1 := hnx (show 0 ≠ 55 by decide) (show 0 ≠ 56 by decide)
    subst hnx
    cases hs
    exact az_snd_const X (Or.inl ⟨hdg, rfl⟩) kk
  · obtain ⟨hdg, hnx, hx2⟩ := az_okd hok (show az_exp pc (1, a, b, k, im, nx, sw) = some (.bipush im.toInt, 2) from rfl)
    have hnx : nx = pc + 2 := hnx (show 1 ≠ 55 by decide) (show 1 ≠ 56 by decide)
    subst hnx
    have hx2 : decide ((Int8.ofInt im.toInt).toInt32 = im) = true := hx2
    cases hs
    exact az_snd_const X (Or.inr (Or.inl ⟨hdg, rfl, of_decide_eq_true hx2⟩)) kk
  · obtain ⟨hdg, hnx, hx2⟩ := az_okd hok (show az_exp pc (2, a, b, k, im, nx, sw) = some (.sipush im.toInt, 3) from rfl)
    have hnx : nx = pc + 3 := hnx (show 2 ≠ 55 by decide) (show 2 ≠ 56 by decide)
    subst hnx
    have hx2 : decide ((Int16.ofInt im.toInt).toInt32 = im) = true := hx2
    cases hs
    exact az_snd_const X (Or.inr (Or.inr ⟨hdg, rfl, of_decide_eq_true hx2⟩)) kk
  · obtain ⟨hdg, hnx, hx2⟩ := az_okd hok (show az_exp pc (3, a, b, k, im, nx, sw) = some (.iload_n (Fin.ofNat 4 a), 1) from rfl)
    have hnx : nx = pc + 1 := hnx (show 3 ≠ 55 by decide) (show 3 ≠ 56 by decide)
    subst hnx
    have hx2 : decide (a < 4) = true := hx2
    have hs : (match (generalizing := false) az_get ls a with | some (.int x) => some (pc + 1, ls, Value.int x :: stk, (hz, hS, hM, hw)) | _ => none) = some (p', ls', stk', h') := hs
    split at hs
    · next x hg =>
      cases hs
      intro H locs cells slots la hH hS0 hL h1 h2
      have k1 := kk H locs cells slots la hH hS0 hL h1 h2
      exact lv_iload_n X.1 X.2.1 hdg (az_fin (of_decide_eq_true hx2)) (hL.2.2.2 a _ hg).1 k1
    · cases hs
  · obtain ⟨hdg, hnx, hx2⟩ := az_okd hok (show az_exp pc (4, a, b, k, im, nx, sw) = some (.iload a, 2) from rfl)
    have hnx : nx = pc + 2 := hnx (show 4 ≠ 55 by decide) (show 4 ≠ 56 by decide)
    subst hnx
    have hs : (match (generalizing := false) az_get ls a with | some (.int x) => some (pc + 2, ls, Value.int x :: stk, (hz, hS, hM, hw)) | _ => none) = some (p', ls', stk', h') := hs
    split at hs
    · next x hg =>
      cases hs
      intro H locs cells slots la hH hS0 hL h1 h2
      have k1 := kk H locs cells slots la hH hS0 hL h1 h2
      exact lv_iload X.1 X.2.1 hdg (hL.2.2.2 a _ hg).1 k1
    · cases hs
  · obtain ⟨hdg, hnx, hx2⟩ := az_okd hok (show az_exp pc (5, a, b, k, im, nx, sw) = some (.aload_n (Fin.ofNat 4 a), 1) from rfl)
    have hnx : nx = pc + 1 := hnx (show 5 ≠ 55 by decide) (show 5 ≠ 56 by decide)
    subst hnx
    have hx2 : decide (a < 4) = true := hx2
    have hs : (match (generalizing := false) az_get ls a with | some (.ref q) => some (pc + 1, ls, Value.ref q :: stk, (hz, hS, hM, hw)) | some .null => some (pc + 1, ls, Value.null :: stk, (hz, hS, hM, hw)) | _ => none) = some (p', ls', stk', h') := hs
    split at hs
    · next q hg =>
      cases hs
      intro H locs cells slots la hH hS0 hL h1 h2
      have k1 := kk H locs cells slots la hH hS0 hL h1 h2
      exact lv_aload_n X.1 X.2.1 hdg (az_fin (of_decide_eq_true hx2)) (hL.2.2.2 a _ hg).1 k1
    · next hg =>
      cases hs
      intro H locs cells slots la hH hS0 hL h1 h2
      have k1 := kk H locs cells slots la hH hS0 hL h1 h2
      exact lv_aload_nN X.1 X.2.1 hdg (az_fin (of_decide_eq_true hx2)) (hL.2.2.2 a _ hg).1 k1
    · cases hs
  · obtain ⟨hdg, hnx, hx2⟩ := az_okd hok (show az_exp pc (6, a, b, k, im, nx, sw) = some (.aload a, 2) from rfl)
    have hnx : nx = pc + 2 := hnx (show 6 ≠ 55 by decide) (show 6 ≠ 56 by decide)
    subst hnx
    have hs : (match (generalizing := false) az_get ls a with | some (.ref q) => some (pc + 2, ls, Value.ref q :: stk, (hz, hS, hM, hw)) | some .null => some (pc + 2, ls, Value.null :: stk, (hz, hS, hM, hw)) | _ => none) = some (p', ls', stk', h') := hs
    split at hs
    · next q hg =>
      cases hs
      intro H locs cells slots la hH hS0 hL h1 h2
      have k1 := kk H locs cells slots la hH hS0 hL h1 h2
      exact lv_aload X.1 X.2.1 hdg (hL.2.2.2 a _ hg).1 k1
    · next hg =>
      cases hs
      intro H locs cells slots la hH hS0 hL h1 h2
      have k1 := kk H locs cells slots la hH hS0 hL h1 h2
      exact lv_aloadN X.1 X.2.1 hdg (hL.2.2.2 a _ hg).1 k1
    · cases hs
  · obtain ⟨hdg, hnx, hx2⟩ := az_okd hok (show az_exp pc (7, a, b, k, im, nx, sw) = some (.istore_n (Fin.ofNat 4 a), 1) from rfl)
    have hnx : nx = pc + 1 := hnx (show 7 ≠ 55 by decide) (show 7 ≠ 56 by decide)
    subst hnx
    have hx2 : decide (a < 4) = true := hx2
    have hs : (match (generalizing := false) stk with | .int x :: r => az_set ls a (.int x) (fun ls1 => some (pc + 1, ls1, r, (hz, hS, hM, hw))) | _ => none) = some (p', ls', stk', h') := hs
    split at hs
    · next x r _ =>
      rw [az_set_eq] at hs
      split at hs
      · next ha =>
        cases hs
        intro H locs cells slots la hH hS0 hL h1 h2
        refine lv_istore_n X.1 X.2.1 hdg (az_fin (of_decide_eq_true hx2)) hL.has (by rw [← hL.2.2.1]; exact ha) rfl (fun la1 hl1 => ?_)
        exact kk H locs cells slots la1 hH hS0 (hL.store (x := .int x) rfl ha hl1) h1 h2
      · cases hs
    · cases hs
  · obtain ⟨hdg, hnx, hx2⟩ := az_okd hok (show az_exp pc (8, a, b, k, im, nx, sw) = some (.istore a, 2) from rfl)
    have hnx : nx = pc + 2 := hnx (show 8 ≠ 55 by decide) (show 8 ≠ 56 by decide)
    subst hnx
    have hs : (match (generalizing := false) stk with | .int x :: r => az_set ls a (.int x) (fun ls1 => some (pc + 2, ls1, r, (hz, hS, hM, hw))) | _ => none) = some (p', ls', stk', h') := hs
    split at hs
    · next x r _ =>
      rw [az_set_eq] at hs
      split at hs
      · next ha =>
        cases hs
        intro H locs cells slots la hH hS0 hL h1 h2
        refine lv_istore X.1 X.2.1 hdg hL.has (by rw [← hL.2.2.1]; exact ha) rfl (fun la1 hl1 => ?_)
        exact kk H locs cells slots la1 hH hS0 (hL.store (x := .int x) rfl ha hl1) h1 h2
      · cases hs
    · cases hs
  · obtain ⟨hdg, hnx, hx2⟩ := az_okd hok (show az_exp pc (9, a, b, k, im, nx, sw) = some (.astore_n (Fin.ofNat 4 a), 1) from rfl)
    have hnx : nx = pc + 1 := hnx (show 9 ≠ 55 by decide) (show 9 ≠ 56 by decide)
    subst hnx
    have hx2 : decide (a < 4) = true := hx2
    have hs : (match (generalizing := false) stk with | .ref q :: r => az_set ls a (.ref q) (fun ls1 => some (pc + 1, ls1, r, (hz, hS, hM, hw))) | .null :: r => az_set ls a .null (fun ls1 => some (pc + 1, ls1, r, (hz, hS, hM, hw))) | _ => none) = some (p', ls', stk', h') := hs
    split at hs
    · next q r _ =>
      rw [az_set_eq] at hs
      split at hs
      · next ha =>
        cases hs
        intro H locs cells slots la hH hS0 hL h1 h2
        refine lv_astore_n X.1 X.2.1 hdg (az_fin (of_decide_eq_true hx2)) hL.has (by rw [← hL.2.2.1]; exact ha) rfl (fun la1 hl1 => ?_)
        exact kk H locs cells slots la1 hH hS0 (hL.store (x := .ref q) rfl ha hl1) h1 h2
      · cases hs
    · next r _ =>
      rw [az_set_eq] at hs
      split at hs
      · next ha =>
        cases hs
        intro H locs cells slots la hH hS0 hL h1 h2
        refine lv_astore_nN X.1 X.2.1 hdg (az_fin (of_decide_eq_true hx2)) hL.has (by rw [← hL.2.2.1]; exact ha) rfl (fun la1 hl1 => ?_)
        exact kk H locs cells slots la1 hH hS0 (hL.store (x := .null) rfl ha hl1) h1 h2
      · cases hs
    · cases hs
  · obtain ⟨hdg, hnx, hx2⟩ := az_okd hok (show az_exp pc (10, a, b, k, im, nx, sw) = some (.astore a, 2) from rfl)
    have hnx : nx = pc + 2 := hnx (show 10 ≠ 55 by decide) (show 10 ≠ 56 by decide)
    subst hnx
    have hs : (match (generalizing := false) stk with | .ref q :: r => az_set ls a (.ref q) (fun ls1 => some (pc + 2, ls1, r, (hz, hS, hM, hw))) | .null :: r => az_set ls a .null (fun ls1 => some (pc + 2, ls1, r, (hz, hS, hM, hw))) | _ => none) = some (p', ls', stk', h') := hs
    split at hs
    · next q r _ =>
      rw [az_set_eq] at hs
      split at hs
      · next ha =>
        cases hs
        intro H locs cells slots la hH hS0 hL h1 h2
        refine lv_astore X.1 X.2.1 hdg hL.has (by rw [← hL.2.2.1]; exact ha) rfl (fun la1 hl1 => ?_)
        exact kk H locs cells slots la1 hH hS0 (hL.store (x := .ref q) rfl ha hl1) h1 h2
      · cases hs
    · next r _ =>
      rw [az_set_eq] at hs
      split at hs
      · next ha =>
        cases hs
        intro H locs cells slots la hH hS0 hL h1 h2
        refine lv_astoreN X.1 X.2.1 hdg hL.has (by rw [← hL.2.2.1]; exact ha) rfl (fun la1 hl1 => ?_)
        exact kk H locs cells slots la1 hH hS0 (hL.store (x := .null) rfl ha hl1) h1 h2
      · cases hs
    · cases hs
  · obtain ⟨hdg, hnx, hx2⟩ := az_okd hok (show az_exp pc (11, a, b, k, im, nx, sw) = some (.iinc a im.toInt, 3) from rfl)
    have hnx : nx = pc + 3 := hnx (show 11 ≠ 55 by decide) (show 11 ≠ 56 by decide)
    subst hnx
    have hs : (match (generalizing := false) az_get ls a with | some (.int x) => az_set ls a (.int (x + im)) (fun ls1 => some (pc + 3, ls1, stk, (hz, hS, hM, hw))) | _ => none) = some (p', ls', stk', h') := hs
    split at hs
    · next x hg =>
      rw [az_set_eq] at hs
      split at hs
      · next ha =>
        cases hs
        intro H locs cells slots la hH hS0 hL h1 h2
        obtain ⟨kx, hkx⟩ := List.getElem?_of_mem (show (a, Value.int x) ∈ az_lv nL z0 ls from List.mem_filterMap.mpr ⟨a, List.mem_range.mpr (by rw [← hL.2.2.1]; exact ha), by rw [hg]; rfl⟩)
        refine lv_iinc X.1 X.2.1 hdg hL.has hkx (by rw [Int32.ofInt_toInt]) (by rw [← hL.2.2.1]; exact ha) rfl (fun la1 hl1 => ?_)
        exact kk H locs cells slots la1 hH hS0 (hL.store (x := .int (x + im)) rfl ha hl1) h1 h2
      · cases hs
    · cases hs
  · obtain ⟨hdg, hnx, hx2⟩ := az_okd hok (show az_exp pc (12, a, b, k, im, nx, sw) = some (.iadd, 1) from rfl)
    have hnx : nx = pc + 1 := hnx (show 12 ≠ 55 by decide) (show 12 ≠ 56 by decide)
    subst hnx
    have hs : (match (generalizing := false) stk with | .int y :: .int x :: r => some (pc + 1, ls, Value.int (x + y) :: r, (hz, hS, hM, hw)) | _ => none) = some (p', ls', stk', h') := hs
    split at hs
    · next y x r _ =>
      cases hs
      intro H locs cells slots la hH hS0 hL h1 h2
      have k1 := kk H locs cells slots la hH hS0 hL h1 h2
      exact lv_iadd X.1 X.2.1 hdg k1
    · cases hs
  · obtain ⟨hdg, hnx, hx2⟩ := az_okd hok (show az_exp pc (13, a, b, k, im, nx, sw) = some (.isub, 1) from rfl)
    have hnx : nx = pc + 1 := hnx (show 13 ≠ 55 by decide) (show 13 ≠ 56 by decide)
    subst hnx
    have hs : (match (generalizing := false) stk with | .int y :: .int x :: r => some (pc + 1, ls, Value.int (x - y) :: r, (hz, hS, hM, hw)) | _ => none) = some (p', ls', stk', h') := hs
    split at hs
    · next y x r _ =>
      cases hs
      intro H locs cells slots la hH hS0 hL h1 h2
      have k1 := kk H locs cells slots la hH hS0 hL h1 h2
      exact lv_isub X.1 X.2.1 hdg k1
    · cases hs
  · obtain ⟨hdg, hnx, hx2⟩ := az_okd hok (show az_exp pc (14, a, b, k, im, nx, sw) = some (.imul, 1) from rfl)
    have hnx : nx = pc + 1 := hnx (show 14 ≠ 55 by decide) (show 14 ≠ 56 by decide)
    subst hnx
    have hs : (match (generalizing := false) stk with | .int y :: .int x :: r => some (pc + 1, ls, Value.int (x * y) :: r, (hz, hS, hM, hw)) | _ => none) = some (p', ls', stk', h') := hs
    split at hs
    · next y x r _ =>
      cases hs
      intro H locs cells slots la hH hS0 hL h1 h2
      have k1 := kk H locs cells slots la hH hS0 hL h1 h2
      exact lv_imul X.1 X.2.1 hdg k1
    · cases hs
  · obtain ⟨hdg, hnx, hx2⟩ := az_okd hok (show az_exp pc (15, a, b, k, im, nx, sw) = some (.iand, 1) from rfl)
    have hnx : nx = pc + 1 := hnx (show 15 ≠ 55 by decide) (show 15 ≠ 56 by decide)
    subst hnx
    have hs : (match (generalizing := false) stk with | .int y :: .int x :: r => some (pc + 1, ls, Value.int (x &&& y) :: r, (hz, hS, hM, hw)) | _ => none) = some (p', ls', stk', h') := hs
    split at hs
    · next y x r _ =>
      cases hs
      intro H locs cells slots la hH hS0 hL h1 h2
      have k1 := kk H locs cells slots la hH hS0 hL h1 h2
      exact lv_iand X.1 X.2.1 hdg k1
    · cases hs
  · obtain ⟨hdg, hnx, hx2⟩ := az_okd hok (show az_exp pc (16, a, b, k, im, nx, sw) = some (.dup, 1) from rfl)
    have hnx : nx = pc + 1 := hnx (show 16 ≠ 55 by decide) (show 16 ≠ 56 by decide)
    subst hnx
    have hs : (match (generalizing := false) stk with | .ref q :: r => some (pc + 1, ls, Value.ref q :: Value.ref q :: r, (hz, hS, hM, hw)) | _ => none) = some (p', ls', stk', h') := hs
    split at hs
    · next q r _ =>
      cases hs
      intro H locs cells slots la hH hS0 hL h1 h2
      have k1 := kk H locs cells slots la hH hS0 hL h1 h2
      exact lv_dup X.1 X.2.1 hdg rfl k1
    · cases hs
  · obtain ⟨hdg, hnx, hx2⟩ := az_okd hok (show az_exp pc (17, a, b, k, im, nx, sw) = some (.pop, 1) from rfl)
    have hnx : nx = pc + 1 := hnx (show 17 ≠ 55 by decide) (show 17 ≠ 56 by decide)
    subst hnx
    have hs : (match (generalizing := false) stk with | .int _ :: r => some (pc + 1, ls, r, (hz, hS, hM, hw)) | _ => none) = some (p', ls', stk', h') := hs
    split at hs
    · next x r _ =>
      cases hs
      intro H locs cells slots la hH hS0 hL h1 h2
      have k1 := kk H locs cells slots la hH hS0 hL h1 h2
      exact lv_pop X.1 X.2.1 hdg rfl k1
    · cases hs
  · obtain ⟨hdg, hnx, hx2⟩ := az_okd hok (show az_exp pc (18, a, b, k, im, nx, sw) = some (.i2c, 1) from rfl)
    have hnx : nx = pc + 1 := hnx (show 18 ≠ 55 by decide) (show 18 ≠ 56 by decide)
    subst hnx
    have hs : (match (generalizing := false) stk with | .int x :: r => some (pc + 1, ls, Value.int ((x.toUInt32 % 65536).toInt32) :: r, (hz, hS, hM, hw)) | _ => none) = some (p', ls', stk', h') := hs
    split at hs
    · next x r _ =>
      cases hs
      intro H locs cells slots la hH hS0 hL h1 h2
      have k1 := kk H locs cells slots la hH hS0 hL h1 h2
      exact lv_i2c X.1 X.2.1 hdg rfl k1
    · cases hs
  · obtain ⟨hdg, hnx, hx2⟩ := az_okd hok (show az_exp pc (19, a, b, k, im, nx, sw) = some (.goto (az_off pc a), 3) from rfl)
    cases hs
    intro H locs cells slots la hH hS0 hL h1 h2
    have k1 := kk H locs cells slots la hH hS0 hL h1 h2
    exact lv_goto X.1 X.2.1 hdg (by unfold az_off; omega) k1
  · obtain ⟨hdg, hnx, hx2⟩ := az_okd hok (show az_exp pc (20, a, b, k, im, nx, sw) = some (.aconst_null, 1) from rfl)
    have hnx : nx = pc + 1 := hnx (show 20 ≠ 55 by decide) (show 20 ≠ 56 by decide)
    subst hnx
    cases hs
    intro H locs cells slots la hH hS0 hL h1 h2
    have k1 := kk H locs cells slots la hH hS0 hL h1 h2
    exact lv_null X.1 X.2.1 hdg k1
  · obtain ⟨hdg, hnx, hx2⟩ := az_okd hok (show az_exp pc (21, a, b, k, im, nx, sw) = some (.getfield a, 3) from rfl)
    have hnx : nx = pc + 3 := hnx (show 21 ≠ 55 by decide) (show 21 ≠ 56 by decide)
    subst hnx
    have hs : (match (generalizing := false) stk with | .ref q :: r => (match (generalizing := false) hS q with | (kd, _, rs) => bif Nat.beq kd b then (match (generalizing := false) az_nth rs k with | some none => some (pc + 3, ls, Value.int (hM q k) :: r, (hz, hS, hM, hw)) | some (some none) => some (pc + 3, ls, Value.null :: r, (hz, hS, hM, hw)) | some (some (some q2)) => some (pc + 3, ls, Value.ref q2 :: r, (hz, hS, hM, hw)) | none => none) else none) | _ => none) = some (p', ls', stk', h') := hs
    split at hs
    · next q r _ =>
      obtain ⟨ln, rs, hq, hs2⟩ := az_inv (fun ln rs => match az_nth rs k with | some none => some (pc + 3, ls, Value.int (hM q k) :: r, (hz, hS, hM, hw)) | some (some none) => some (pc + 3, ls, Value.null :: r, (hz, hS, hM, hw)) | some (some (some q2)) => some (pc + 3, ls, Value.ref q2 :: r, (hz, hS, hM, hw)) | none => none) hs
      obtain ⟨o, v, hn, hv, e1⟩ := az_inv_g hs2
      simp only [Prod.mk.injEq] at e1
      obtain ⟨rfl, rfl, rfl, rfl⟩ := e1
      exact az_snd_get X (az_gN0 hx2) hq hn (hv z0) hdg kk
    · cases hs
  · obtain ⟨hdg, hnx, hx2⟩ := az_okd hok (show az_exp pc (22, a, b, k, im, nx, sw) = some (.getfield a, 3) from rfl)
    have hnx : nx = pc + 3 := hnx (show 22 ≠ 55 by decide) (show 22 ≠ 56 by decide)
    subst hnx
    have hs : (match (generalizing := false) stk with | .ref q :: r => (match (generalizing := false) hS q with | (kd, _, rs) => bif Nat.beq kd b then (match (generalizing := false) az_nth rs k with | some none => some (pc + 3, ls, Value.int (hM q k) :: r, (hz, hS, hM, hw)) | some (some none) => some (pc + 3, ls, Value.null :: r, (hz, hS, hM, hw)) | some (some (some q2)) => some (pc + 3, ls, Value.ref q2 :: r, (hz, hS, hM, hw)) | none => none) else none) | _ => none) = some (p', ls', stk', h') := hs
    split at hs
    · next q r _ =>
      obtain ⟨ln, rs, hq, hs2⟩ := az_inv (fun ln rs => match az_nth rs k with | some none => some (pc + 3, ls, Value.int (hM q k) :: r, (hz, hS, hM, hw)) | some (some none) => some (pc + 3, ls, Value.null :: r, (hz, hS, hM, hw)) | some (some (some q2)) => some (pc + 3, ls, Value.ref q2 :: r, (hz, hS, hM, hw)) | none => none) hs
      obtain ⟨o, v, hn, hv, e1⟩ := az_inv_g hs2
      simp only [Prod.mk.injEq] at e1
      obtain ⟨rfl, rfl, rfl, rfl⟩ := e1
      exact az_snd_get X (az_gN1 hx2) hq hn (hv z0) hdg kk
    · cases hs
  · obtain ⟨hdg, hnx, hx2⟩ := az_okd hok (show az_exp pc (23, a, b, k, im, nx, sw) = some (.putfield a, 3) from rfl)
    have hnx : nx = pc + 3 := hnx (show 23 ≠ 55 by decide) (show 23 ≠ 56 by decide)
    subst hnx
    have hs : (match (generalizing := false) stk with | .int x :: .ref q :: r => (match (generalizing := false) hS q with | (kd, _, rs) => bif Nat.beq kd b then (match (generalizing := false) az_nth rs k with | some none => some (pc + 3, ls, r, (hz, hS, az_up hM q k x, hw)) | _ => none) else none) | _ => none) = some (p', ls', stk', h') := hs
    split at hs
    · next x q r _ =>
      obtain ⟨ln, rs, hq, hs2⟩ := az_inv (fun ln rs => match az_nth rs k with | some none => some (pc + 3, ls, r, (hz, hS, az_up hM q k x, hw)) | _ => none) hs
      obtain ⟨hn, e1⟩ := az_inv_p hs2
      simp only [Prod.mk.injEq] at e1
      obtain ⟨rfl, rfl, rfl, rfl⟩ := e1
      exact az_snd_put X (az_fld hx2) hq hn hdg kk
    · cases hs
  · obtain ⟨hdg, hnx, hx2⟩ := az_okd hok (show az_exp pc (24, a, b, k, im, nx, sw) = some (.putfield a, 3) from rfl)
    have hnx : nx = pc + 3 := hnx (show 24 ≠ 55 by decide) (show 24 ≠ 56 by decide)
    subst hnx
    have hs : (match (generalizing := false) stk with | .int x :: .ref q :: r => (match (generalizing := false) hS q with | (kd, _, rs) => bif Nat.beq kd b then (match (generalizing := false) az_nth rs k with | some none => some (pc + 3, ls, r, (hz, hS, az_up hM q k x, hw)) | _ => none) else none) | _ => none) = some (p', ls', stk', h') := hs
    split at hs
    · next x q r _ =>
      obtain ⟨ln, rs, hq, hs2⟩ := az_inv (fun ln rs => match az_nth rs k with | some none => some (pc + 3, ls, r, (hz, hS, az_up hM q k x, hw)) | _ => none) hs
      obtain ⟨hn, e1⟩ := az_inv_p hs2
      simp only [Prod.mk.injEq] at e1
      obtain ⟨rfl, rfl, rfl, rfl⟩ := e1
      exact az_snd_putN X (az_fld hx2) hq hn hdg kk
    · cases hs
  · obtain ⟨hdg, hnx, hx2⟩ := az_okd hok (show az_exp pc (25, a, b, k, im, nx, sw) = some (.putfield a, 3) from rfl)
    have hnx : nx = pc + 3 := hnx (show 25 ≠ 55 by decide) (show 25 ≠ 56 by decide)
    subst hnx
    have hx2 : (decide (rc = 4) && az_ft.contains (oi, a, b, k, 4)) = true := hx2
    have hs : (match (generalizing := false) stk with | .ref v :: .ref q :: r => (match (generalizing := false) hS q with | (kd, ln, rs) => bif Nat.beq kd b then (match (generalizing := false) az_nth rs k with | some (some _) => some (pc + 3, ls, r, (hz, az_put hS q (kd, ln, az_sub rs k (some (some v))), hM, hw)) | _ => none) else none) | _ => none) = some (p', ls', stk', h') := hs
    rw [Bool.and_eq_true] at hx2
    split at hs
    · next v q r _ =>
      obtain ⟨ln, rs, hq, hs2⟩ := az_inv (fun ln rs => match az_nth rs k with | some (some _) => some (pc + 3, ls, r, (hz, az_put hS q (b, ln, az_sub rs k (some (some v))), hM, hw)) | _ => none) (az_kd (G := fun kd ln rs => match az_nth rs k with | some (some _) => some (pc + 3, ls, r, (hz, az_put hS q (kd, ln, az_sub rs k (some (some v))), hM, hw)) | _ => none) hs)
      obtain ⟨⟨o, hn⟩, e1⟩ := az_inv_f hs2
      simp only [Prod.mk.injEq] at e1
      obtain ⟨rfl, rfl, rfl, rfl⟩ := e1
      exact az_snd_putF X (of_decide_eq_true hx2.1) (az_fld hx2.2) hq hn hdg kk
    · cases hs
  · obtain ⟨hdg, hnx, hx2⟩ := az_okd hok (show az_exp pc (26, a, b, k, im, nx, sw) = some (.arraylength, 1) from rfl)
    have hnx : nx = pc + 1 := hnx (show 26 ≠ 55 by decide) (show 26 ≠ 56 by decide)
    subst hnx
    have hs : (match (generalizing := false) stk with | .ref q :: r => (match (generalizing := false) hS q with | (kd, ln, _) => bif Nat.ble 9 kd && Nat.ble kd 11 then some (pc + 1, ls, Value.int (Int32.ofNat ln) :: r, (hz, hS, hM, hw)) else none) | _ => none) = some (p', ls', stk', h') := hs
    split at hs
    · next q r _ =>
      cases hq : hS q with
      | mk kd rest1 =>
        obtain ⟨ln, rs⟩ := rest1
        rw [hq] at hs
        have hs : (bif Nat.ble 9 kd && Nat.ble kd 11 then some (pc + 1, ls, Value.int (Int32.ofNat ln) :: r, (hz, hS, hM, hw)) else none) = some (p', ls', stk', h') := hs
        cases hkd : (Nat.ble 9 kd && Nat.ble kd 11) with
        | false => rw [hkd] at hs; cases hs
        | true =>
          rw [hkd] at hs
          cases hs
          obtain ⟨q1, q2⟩ := az_bb hkd
          intro H locs cells slots la hH hS0 hL h1 h2
          have k1 := kk H locs cells slots la hH hS0 hL h1 h2
          rcases (show kd = 9 ∨ kd = 10 ∨ kd = 11 by omega) with rfl | rfl | rfl
          · obtain ⟨-, cA, hat, hAR⟩ := hH.ari hq
            exact va_alen X.1 X.2.1 (az_K1 X.2.2.2.2.2.1 hAR) (az_P1 hat) 0 0 rfl rfl rfl hdg k1
          · obtain ⟨-, cA, hat, hAR⟩ := hH.arz hq
            exact va_alen X.1 X.2.1 (az_K1 X.2.2.2.2.2.1 hAR) (az_P1 hat) 0 0 rfl rfl rfl hdg k1
          · obtain ⟨-, cA, hat, hAR⟩ := hH.arr hq
            exact va_alen X.1 X.2.1 (az_K1 X.2.2.2.2.2.1 hAR) (az_P1 hat) 0 0 rfl rfl rfl hdg k1
    · cases hs
  · obtain ⟨hdg, hnx, hx2⟩ := az_okd hok (show az_exp pc (27, a, b, k, im, nx, sw) = some (.new a, 3) from rfl)
    have hnx : nx = pc + 3 := hnx (show 27 ≠ 55 by decide) (show 27 ≠ 56 by decide)
    subst hnx
    cases hs
    exact az_snd_new X (az_nt_ok _ (List.contains_iff_mem.mp hx2)) hdg r1 r2 kk
  · obtain ⟨hdg, hnx, hx2⟩ := az_okd hok (show az_exp pc (28, a, b, k, im, nx, sw) = some (.invokespecial a, 3) from rfl)
    have hnx : nx = pc + 3 := hnx (show 28 ≠ 55 by decide) (show 28 ≠ 56 by decide)
    subst hnx
    have hs : (match (generalizing := false) stk with | .ref _ :: r => bif Nat.ble (az_cat r) 8 then some (pc + 3, ls, r, (hz, hS, hM, hw)) else none | _ => none) = some (p', ls', stk', h') := hs
    split at hs
    · next q r _ =>
      cases hkd : Nat.ble (az_cat r) 8 with
      | false => rw [hkd] at hs; cases hs
      | true =>
        rw [hkd] at hs
        have hs : some (pc + 3, ls, r, (hz, hS, hM, hw)) = some (p', ls', stk', h') := hs
        simp only [Option.some.injEq, Prod.mk.injEq] at hs
        obtain ⟨rfl, rfl, rfl, rfl⟩ := hs
        intro H locs cells slots la hH hS0 hL h1 h2
        have k1 := kk H locs cells slots la hH hS0 hL h1 h2
        have hcat : (((r.map (az_sv z0)).map fun v => v.category).sum) ≤ 8 := by rw [az_cat_sum]; exact Nat.le_of_ble_eq_true hkd
        have hroom := lv_room (m := m) (pc := pc) (ls := la) (rest := []) hcat
        refine W.objInit X.1 X.2.1 X.2.2.2.1 (az_wd X (az_ot_ok _ (List.contains_iff_mem.mp hx2)) rfl) (az_wd X az_obj1 rfl) (az_wd X az_obj2 rfl) rfl (by rw [X.2.2.1]; exact hL.1) rfl hdg R1 (Nat.le_trans (Nat.add_le_add_right hroom 12) (Nat.le_trans (by decide) R2)) ?_
        exact k1
    · cases hs
  · obtain ⟨hdg, hnx, hx2⟩ := az_okd hok (show az_exp pc (29, a, b, k, im, nx, sw) = some (.ifnull (az_off pc a), 3) from rfl)
    have hnx : nx = pc + 3 := hnx (show 29 ≠ 55 by decide) (show 29 ≠ 56 by decide)
    subst hnx
    have hs : (match (generalizing := false) stk with | .ref _ :: r => some (pc + 3, ls, r, (hz, hS, hM, hw)) | .null :: r => some (a, ls, r, (hz, hS, hM, hw)) | _ => none) = some (p', ls', stk', h') := hs
    split at hs
    · next q r _ =>
      cases hs
      intro H locs cells slots la hH hS0 hL h1 h2
      have k1 := kk H locs cells slots la hH hS0 hL h1 h2
      exact lv_ifnull X.1 X.2.1 hdg k1
    · next r _ =>
      cases hs
      intro H locs cells slots la hH hS0 hL h1 h2
      have k1 := kk H locs cells slots la hH hS0 hL h1 h2
      exact lv_ifnullN X.1 X.2.1 hdg (by unfold az_off; omega) k1
    · cases hs
  · obtain ⟨hdg, hnx, hx2⟩ := az_okd hok (show az_exp pc (30, a, b, k, im, nx, sw) = some (.ifnonnull (az_off pc a), 3) from rfl)
    have hnx : nx = pc + 3 := hnx (show 30 ≠ 55 by decide) (show 30 ≠ 56 by decide)
    subst hnx
    have hs : (match (generalizing := false) stk with | .ref _ :: r => some (a, ls, r, (hz, hS, hM, hw)) | .null :: r => some (pc + 3, ls, r, (hz, hS, hM, hw)) | _ => none) = some (p', ls', stk', h') := hs
    split at hs
    · next q r _ =>
      cases hs
      intro H locs cells slots la hH hS0 hL h1 h2
      have k1 := kk H locs cells slots la hH hS0 hL h1 h2
      exact lv_ifnonnull X.1 X.2.1 hdg (by unfold az_off; omega) k1
    · next r _ =>
      cases hs
      intro H locs cells slots la hH hS0 hL h1 h2
      have k1 := kk H locs cells slots la hH hS0 hL h1 h2
      exact lv_ifnonnullN X.1 X.2.1 hdg k1
    · cases hs
  · obtain ⟨hdg, hnx, hx2⟩ := az_okd hok (show az_exp pc (66, a, b, k, im, nx, sw) = some (.dup2, 1) from rfl)
    have hnx : nx = pc + 1 := hnx (show 66 ≠ 55 by decide) (show 66 ≠ 56 by decide)
    subst hnx
    have hs : (match (generalizing := false) stk with | .int x :: .ref q :: r => some (pc + 1, ls, Value.int x :: Value.ref q :: Value.int x :: Value.ref q :: r, (hz, hS, hM, hw)) | _ => none) = some (p', ls', stk', h') := hs
    split at hs
    · next x q r _ =>
      cases hs
      intro H locs cells slots la hH hS0 hL h1 h2
      have k1 := kk H locs cells slots la hH hS0 hL h1 h2
      exact lv_dup2_11 X.1 X.2.1 hdg rfl rfl k1
    · cases hs
  · obtain ⟨hdg, hnx, hx2⟩ := az_okd hok (show az_exp pc (67, a, b, k, im, nx, sw) = some (.invokestatic a, 3) from rfl)
    have hnx : nx = pc + 3 := hnx (show 67 ≠ 55 by decide) (show 67 ≠ 56 by decide)
    subst hnx
    have hs : (match (generalizing := false) stk with | .int y :: .int x :: r => bif Nat.ble (az_cat r) 8 then some (pc + 3, ls, Value.int (if x < y then y else x) :: r, (hz, hS, hM, hw)) else none | _ => none) = some (p', ls', stk', h') := hs
    split at hs
    · next y x r _ =>
      cases hkd : Nat.ble (az_cat r) 8 with
      | false => rw [hkd] at hs; cases hs
      | true =>
        rw [hkd] at hs
        have hs : some (pc + 3, ls, Value.int (if x < y then y else x) :: r, (hz, hS, hM, hw)) = some (p', ls', stk', h') := hs
        simp only [Option.some.injEq, Prod.mk.injEq] at hs
        obtain ⟨rfl, rfl, rfl, rfl⟩ := hs
        intro H locs cells slots la hH hS0 hL h1 h2
        have k1 := kk H locs cells slots la hH hS0 hL h1 h2
        have h1 : hz = h0.1 + cells := h1
        have h2 : hw = h0.2.2.2 + slots := h2
        have r1 : hz ≤ h0.1 + R.cells := r1
        have r2 : hw ≤ h0.2.2.2 + R.slots := r2
        have hcat : (((r.map (az_sv z0)).map fun v => v.category).sum) ≤ 8 := by rw [az_cat_sum]; exact Nat.le_of_ble_eq_true hkd
        have hxp := az_xt_ok _ (List.contains_iff_mem.mp hx2)
        exact va_mmax X.1 X.2.1 (by rw [X.2.2.1]; exact hL.1.symm) X.2.2.2.1 (az_wd X ((if_pos rfl).mp hxp) rfl) (az_wd X az_x1_max rfl) (az_wd X az_x3 rfl) (az_wd X az_x2_max rfl) R1 (by omega) (by omega) (by omega) hdg k1
    · cases hs
  · obtain ⟨hdg, hnx, hx2⟩ := az_okd hok (show az_exp pc (68, a, b, k, im, nx, sw) = some (.invokestatic a, 3) from rfl)
    have hnx : nx = pc + 3 := hnx (show 68 ≠ 55 by decide) (show 68 ≠ 56 by decide)
    subst hnx
    have hs : (match (generalizing := false) stk with | .int y :: .int x :: r => bif Nat.ble (az_cat r) 8 then some (pc + 3, ls, Value.int (if y < x then y else x) :: r, (hz, hS, hM, hw)) else none | _ => none) = some (p', ls', stk', h') := hs
    split at hs
    · next y x r _ =>
      cases hkd : Nat.ble (az_cat r) 8 with
      | false => rw [hkd] at hs; cases hs
      | true =>
        rw [hkd] at hs
        have hs : some (pc + 3, ls, Value.int (if y < x then y else x) :: r, (hz, hS, hM, hw)) = some (p', ls', stk', h') := hs
        simp only [Option.some.injEq, Prod.mk.injEq] at hs
        obtain ⟨rfl, rfl, rfl, rfl⟩ := hs
        intro H locs cells slots la hH hS0 hL h1 h2
        have k1 := kk H locs cells slots la hH hS0 hL h1 h2
        have h1 : hz = h0.1 + cells := h1
        have h2 : hw = h0.2.2.2 + slots := h2
        have r1 : hz ≤ h0.1 + R.cells := r1
        have r2 : hw ≤ h0.2.2.2 + R.slots := r2
        have hcat : (((r.map (az_sv z0)).map fun v => v.category).sum) ≤ 8 := by rw [az_cat_sum]; exact Nat.le_of_ble_eq_true hkd
        have hxp := az_xt_ok _ (List.contains_iff_mem.mp hx2)
        exact va_mmin X.1 X.2.1 (by rw [X.2.2.1]; exact hL.1.symm) X.2.2.2.1 (az_wd X ((if_neg (show ¬ 68 = 67 by decide)).mp hxp) rfl) (az_wd X az_x1_min rfl) (az_wd X az_x3 rfl) (az_wd X az_x2_min rfl) R1 (by omega) (by omega) (by omega) hdg k1
    · cases hs
  · obtain ⟨hdg, hnx, hx2⟩ := az_okd hok (show az_exp pc (69, a, b, k, im, nx, sw) = some (.ldc a, 2) from rfl)
    have hnx : nx = pc + 2 := hnx (show 69 ≠ 55 by decide) (show 69 ≠ 56 by decide)
    subst hnx
    have hx2 : az_kt.contains (oi, a, im) = true := hx2
    cases hs
    intro H locs cells slots la hH hS0 hL h1 h2
    have k1 := kk H locs cells slots la hH hS0 hL h1 h2
    have hxp := az_kt_ok _ (List.contains_iff_mem.mp hx2)
    exact lv_ldc X.1 X.2.1 X.2.2.2.1 (az_wd X hxp rfl) hdg k1
  · obtain ⟨hdg, hnx, hx2⟩ := az_okd hok (show az_exp pc (70, a, b, k, im, nx, sw) = some (.ishr, 1) from rfl)
    have hnx : nx = pc + 1 := hnx (show 70 ≠ 55 by decide) (show 70 ≠ 56 by decide)
    subst hnx
    have hs : (match (generalizing := false) stk with | .int y :: .int x :: r => some (pc + 1, ls, Value.int (x >>> (y &&& 31)) :: r, (hz, hS, hM, hw)) | _ => none) = some (p', ls', stk', h') := hs
    split at hs
    · next y x r _ =>
      cases hs
      intro H locs cells slots la hH hS0 hL h1 h2
      have k1 := kk H locs cells slots la hH hS0 hL h1 h2
      exact lv_ishr X.1 X.2.1 hdg k1
    · cases hs
  · exact (big hbig).elim
end ST1
