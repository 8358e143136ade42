theorem az_mono1 {i : az_I} {ls : List az_V} {stk : List Value} {h h' : az_H} {p' : Nat} {ls' : List az_V} {stk' : List Value} (hs : az_st1 i ls stk h = some (p', ls', stk', h')) : h.1 ≤ h'.1 ∧ h.2.2.2 ≤ h'.2.2.2 := by
  obtain ⟨t, a, b, k, im, nx, sw⟩ := i
  obtain ⟨hz, hS, hM, hw⟩ := h
  have big : (31 ≤ t ∧ t ≤ 65) ∨ 71 ≤ t → False := by
    intro h
    rcases h with ⟨h1, h2⟩ | h1
    · rw [az_st1_hi h1 h2] at hs
      cases hs
    · simp only [az_st1, az_bF (show 10 < t by omega), az_bF (show 15 < t by omega), az_bF (show 20 < t by omega), az_bF (show 25 < t by omega), az_bF (show 30 < t by omega), az_eF (show t ≠ 66 by omega), az_eF (show t ≠ 67 by omega), az_eF (show t ≠ 68 by omega), az_eF (show t ≠ 69 by omega), az_eF (show t ≠ 70 by omega), cond_false] at hs
      cases hs
  rcases (show t = 0 ∨ t = 1 ∨ t = 2 ∨ t = 3 ∨ t = 4 ∨ t = 5 ∨ t = 6 ∨ t = 7 ∨ t = 8 ∨ t = 9 ∨ t = 10 ∨ t = 11 ∨ t = 12 ∨ t = 13 ∨ t = 14 ∨ t = 15 ∨ t = 16 ∨ t = 17 ∨ t = 18 ∨ t = 19 ∨ t = 20 ∨ t = 21 ∨ t = 22 ∨ t = 23 ∨ t = 24 ∨ t = 25 ∨ t = 26 ∨ t = 27 ∨ t = 28 ∨ t = 29 ∨ t = 30 ∨ t = 66 ∨ t = 67 ∨ t = 68 ∨ t = 69 ∨ t = 70 ∨ ((31 ≤ t ∧ t ≤ 65) ∨ 71 ≤ t) by omega) with rfl | rfl | rfl | rfl | rfl | rfl | rfl | rfl | rfl | rfl | rfl | rfl | rfl | rfl | rfl | rfl | rfl | rfl | rfl | rfl | rfl | rfl | rfl | rfl | rfl | rfl | rfl | rfl | rfl | rfl | rfl | rfl | rfl | rfl | rfl | rfl | hbig
  · cases hs
    exact ⟨Nat.le_refl _, Nat.le_refl _⟩
  · cases hs
    exact ⟨Nat.le_refl _, Nat.le_refl _⟩
  · cases hs
    exact ⟨Nat.le_refl _, Nat.le_refl _⟩
  · have hs : (match (generalizing := false) az_get ls a with | some (.int x) => some (nx, ls, Value.int x :: stk, (hz, hS, hM, hw)) | _ => none) = some (p', ls', stk', h') := hs
    split at hs
    · next x hg =>
      cases hs
      exact ⟨Nat.le_refl _, Nat.le_refl _⟩
    · cases hs
  · have hs : (match (generalizing := false) az_get ls a with | some (.int x) => some (nx, ls, Value.int x :: stk, (hz, hS, hM, hw)) | _ => none) = some (p', ls', stk', h') := hs
    split at hs
    · next x hg =>
      cases hs
      exact ⟨Nat.le_refl _, Nat.le_refl _⟩
    · cases hs
  · have hs : (match (generalizing := false) az_get ls a with | some (.ref q) => some (nx, ls, Value.ref q :: stk, (hz, hS, hM, hw)) | some .null => some (nx, ls, Value.null :: stk, (hz, hS, hM, hw)) | _ => none) = some (p', ls', stk', h') := hs
    split at hs
    · next q hg =>
      cases hs
      exact ⟨Nat.le_refl _, Nat.le_refl _⟩
    · next hg =>
      cases hs
      exact ⟨Nat.le_refl _, Nat.le_refl _⟩
    · cases hs
  · have hs : (match (generalizing := false) az_get ls a with | some (.ref q) => some (nx, ls, Value.ref q :: stk, (hz, hS, hM, hw)) | some .null => some (nx, ls, Value.null :: stk, (hz, hS, hM, hw)) | _ => none) = some (p', ls', stk', h') := hs
    split at hs
    · next q hg =>
      cases hs
      exact ⟨Nat.le_refl _, Nat.le_refl _⟩
    · next hg =>
      cases hs
      exact ⟨Nat.le_refl _, Nat.le_refl _⟩
    · cases hs
  · have hs : (match (generalizing := false) stk with | .int x :: r => az_set ls a (.int x) (fun ls1 => some (nx, ls1, r, (hz, hS, hM, hw))) | _ => none) = some (p', ls', stk', h') := hs
    split at hs
    · next x r _ =>
      rw [az_set_eq] at hs
      split at hs
      · next ha =>
        cases hs
        exact ⟨Nat.le_refl _, Nat.le_refl _⟩
      · cases hs
    · cases hs
  · have hs : (match (generalizing := false) stk with | .int x :: r => az_set ls a (.int x) (fun ls1 => some (nx, ls1, r, (hz, hS, hM, hw))) | _ => none) = some (p', ls', stk', h') := hs
    split at hs
    · next x r _ =>
      rw [az_set_eq] at hs
      split at hs
      · next ha =>
        cases hs
        exact ⟨Nat.le_refl _, Nat.le_refl _⟩
      · cases hs
    · cases hs
  · have hs : (match (generalizing := false) stk with | .ref q :: r => az_set ls a (.ref q) (fun ls1 => some (nx, ls1, r, (hz, hS, hM, hw))) | .null :: r => az_set ls a .null (fun ls1 => some (nx, ls1, r, (hz, hS, hM, hw))) | _ => none) = some (p', ls', stk', h') := hs
    split at hs
    · next q r _ =>
      rw [az_set_eq] at hs
      split at hs
      · next ha =>
        cases hs
        exact ⟨Nat.le_refl _, Nat.le_refl _⟩
      · cases hs
    · next r _ =>
      rw [az_set_eq] at hs
      split at hs
      · next ha =>
        cases hs
        exact ⟨Nat.le_refl _, Nat.le_refl _⟩
      · cases hs
    · cases hs
  · have hs : (match (generalizing := false) stk with | .ref q :: r => az_set ls a (.ref q) (fun ls1 => some (nx, ls1, r, (hz, hS, hM, hw))) | .null :: r => az_set ls a .null (fun ls1 => some (nx, ls1, r, (hz, hS, hM, hw))) | _ => none) = some (p', ls', stk', h') := hs
    split at hs
    · next q r _ =>
      rw [az_set_eq] at hs
      split at hs
      · next ha =>
        cases hs
        exact ⟨Nat.le_refl _, Nat.le_refl _⟩
      · cases hs
    · next r _ =>
      rw [az_set_eq] at hs
      split at hs
      · next ha =>
        cases hs
        exact ⟨Nat.le_refl _, Nat.le_refl _⟩
      · cases hs
    · cases hs
  · have hs : (match (generalizing := false) az_get ls a with | some (.int x) => az_set ls a (.int (x + im)) (fun ls1 => some (nx, ls1, stk, (hz, hS, hM, hw))) | _ => none) = some (p', ls', stk', h') := hs
    split at hs
    · next x hg =>
      rw [az_set_eq] at hs
      split at hs
      · next ha =>
        cases hs
        exact ⟨Nat.le_refl _, Nat.le_refl _⟩
      · cases hs
    · cases hs
  · have hs : (match (generalizing := false) stk with | .int y :: .int x :: r => some (nx, ls, Value.int (x + y) :: r, (hz, hS, hM, hw)) | _ => none) = some (p', ls', stk', h') := hs
    split at hs
    · next y x r _ =>
      cases hs
      exact ⟨Nat.le_refl _, Nat.le_refl _⟩
    · cases hs
  · have hs : (match (generalizing := false) stk with | .int y :: .int x :: r => some (nx, ls, Value.int (x - y) :: r, (hz, hS, hM, hw)) | _ => none) = some (p', ls', stk', h') := hs
    split at hs
    · next y x r _ =>
      cases hs
      exact ⟨Nat.le_refl _, Nat.le_refl _⟩
    · cases hs
  · have hs : (match (generalizing := false) stk with | .int y :: .int x :: r => some (nx, ls, Value.int (x * y) :: r, (hz, hS, hM, hw)) | _ => none) = some (p', ls', stk', h') := hs
    split at hs
    · next y x r _ =>
      cases hs
      exact ⟨Nat.le_refl _, Nat.le_refl _⟩
    · cases hs
  · have hs : (match (generalizing := false) stk with | .int y :: .int x :: r => some (nx, ls, Value.int (x &&& y) :: r, (hz, hS, hM, hw)) | _ => none) = some (p', ls', stk', h') := hs
    split at hs
    · next y x r _ =>
      cases hs
      exact ⟨Nat.le_refl _, Nat.le_refl _⟩
    · cases hs
  · have hs : (match (generalizing := false) stk with | .ref q :: r => some (nx, ls, Value.ref q :: Value.ref q :: r, (hz, hS, hM, hw)) | _ => none) = some (p', ls', stk', h') := hs
    split at hs
    · next q r _ =>
      cases hs
      exact ⟨Nat.le_refl _, Nat.le_refl _⟩
    · cases hs
  · have hs : (match (generalizing := false) stk with | .int _ :: r => some (nx, ls, r, (hz, hS, hM, hw)) | _ => none) = some (p', ls', stk', h') := hs
    split at hs
    · next x r _ =>
      cases hs
      exact ⟨Nat.le_refl _, Nat.le_refl _⟩
    · cases hs
  · have hs : (match (generalizing := false) stk with | .int x :: r => some (nx, ls, Value.int ((x.toUInt32 % 65536).toInt32) :: r, (hz, hS, hM, hw)) | _ => none) = some (p', ls', stk', h') := hs
    split at hs
    · next x r _ =>
      cases hs
      exact ⟨Nat.le_refl _, Nat.le_refl _⟩
    · cases hs
  · cases hs
    exact ⟨Nat.le_refl _, Nat.le_refl _⟩
  · cases hs
    exact ⟨Nat.le_refl _, Nat.le_refl _⟩
  · have hs : (match (generalizing := false) stk with | .ref q :: r => (match (generalizing := false) hS q with | (kd, _, rs) => bif Nat.beq kd b then (match (generalizing := false) az_nth rs k with | some none => some (nx, ls, Value.int (hM q k) :: r, (hz, hS, hM, hw)) | some (some none) => some (nx, ls, Value.null :: r, (hz, hS, hM, hw)) | some (some (some q2)) => some (nx, ls, Value.ref q2 :: r, (hz, hS, hM, hw)) | none => none) else none) | _ => none) = some (p', ls', stk', h') := hs
    split at hs
    · next q r _ =>
      obtain ⟨ln, rs, hq, hs2⟩ := az_inv (fun ln rs => match az_nth rs k with | some none => some (nx, ls, Value.int (hM q k) :: r, (hz, hS, hM, hw)) | some (some none) => some (nx, ls, Value.null :: r, (hz, hS, hM, hw)) | some (some (some q2)) => some (nx, ls, Value.ref q2 :: r, (hz, hS, hM, hw)) | none => none) hs
      obtain ⟨o, v, hn, hv, e1⟩ := az_inv_g hs2
      simp only [Prod.mk.injEq] at e1
      obtain ⟨rfl, rfl, rfl, rfl⟩ := e1
      exact ⟨Nat.le_refl _, Nat.le_refl _⟩
    · cases hs
  · have hs : (match (generalizing := false) stk with | .ref q :: r => (match (generalizing := false) hS q with | (kd, _, rs) => bif Nat.beq kd b then (match (generalizing := false) az_nth rs k with | some none => some (nx, ls, Value.int (hM q k) :: r, (hz, hS, hM, hw)) | some (some none) => some (nx, ls, Value.null :: r, (hz, hS, hM, hw)) | some (some (some q2)) => some (nx, ls, Value.ref q2 :: r, (hz, hS, hM, hw)) | none => none) else none) | _ => none) = some (p', ls', stk', h') := hs
    split at hs
    · next q r _ =>
      obtain ⟨ln, rs, hq, hs2⟩ := az_inv (fun ln rs => match az_nth rs k with | some none => some (nx, ls, Value.int (hM q k) :: r, (hz, hS, hM, hw)) | some (some none) => some (nx, ls, Value.null :: r, (hz, hS, hM, hw)) | some (some (some q2)) => some (nx, ls, Value.ref q2 :: r, (hz, hS, hM, hw)) | none => none) hs
      obtain ⟨o, v, hn, hv, e1⟩ := az_inv_g hs2
      simp only [Prod.mk.injEq] at e1
      obtain ⟨rfl, rfl, rfl, rfl⟩ := e1
      exact ⟨Nat.le_refl _, Nat.le_refl _⟩
    · cases hs
  · have hs : (match (generalizing := false) stk with | .int x :: .ref q :: r => (match (generalizing := false) hS q with | (kd, _, rs) => bif Nat.beq kd b then (match (generalizing := false) az_nth rs k with | some none => some (nx, ls, r, (hz, hS, az_up hM q k x, hw)) | _ => none) else none) | _ => none) = some (p', ls', stk', h') := hs
    split at hs
    · next x q r _ =>
      obtain ⟨ln, rs, hq, hs2⟩ := az_inv (fun ln rs => match az_nth rs k with | some none => some (nx, ls, r, (hz, hS, az_up hM q k x, hw)) | _ => none) hs
      obtain ⟨hn, e1⟩ := az_inv_p hs2
      simp only [Prod.mk.injEq] at e1
      obtain ⟨rfl, rfl, rfl, rfl⟩ := e1
      exact ⟨Nat.le_refl _, Nat.le_refl _⟩
    · cases hs
  · have hs : (match (generalizing := false) stk with | .int x :: .ref q :: r => (match (generalizing := false) hS q with | (kd, _, rs) => bif Nat.beq kd b then (match (generalizing := false) az_nth rs k with | some none => some (nx, ls, r, (hz, hS, az_up hM q k x, hw)) | _ => none) else none) | _ => none) = some (p', ls', stk', h') := hs
    split at hs
    · next x q r _ =>
      obtain ⟨ln, rs, hq, hs2⟩ := az_inv (fun ln rs => match az_nth rs k with | some none => some (nx, ls, r, (hz, hS, az_up hM q k x, hw)) | _ => none) hs
      obtain ⟨hn, e1⟩ := az_inv_p hs2
      simp only [Prod.mk.injEq] at e1
      obtain ⟨rfl, rfl, rfl, rfl⟩ := e1
      exact ⟨Nat.le_refl _, Nat.le_refl _⟩
    · cases hs
  · have hs : (match (generalizing := false) stk with | .ref v :: .ref q :: r => (match (generalizing := false) hS q with | (kd, ln, rs) => bif Nat.beq kd b then (match (generalizing := false) az_nth rs k with | some (some _) => some (nx, ls, r, (hz, az_put hS q (kd, ln, az_sub rs k (some (some v))), hM, hw)) | _ => none) else none) | _ => none) = some (p', ls', stk', h') := hs
    split at hs
    · next v q r _ =>
      obtain ⟨ln, rs, hq, hs2⟩ := az_inv (fun ln rs => match az_nth rs k with | some (some _) => some (nx, ls, r, (hz, az_put hS q (b, ln, az_sub rs k (some (some v))), hM, hw)) | _ => none) (az_kd (G := fun kd ln rs => match az_nth rs k with | some (some _) => some (nx, ls, r, (hz, az_put hS q (kd, ln, az_sub rs k (some (some v))), hM, hw)) | _ => none) hs)
      obtain ⟨⟨o, hn⟩, e1⟩ := az_inv_f hs2
      simp only [Prod.mk.injEq] at e1
      obtain ⟨rfl, rfl, rfl, rfl⟩ := e1
      exact ⟨Nat.le_refl _, Nat.le_refl _⟩
    · cases hs
  · have hs : (match (generalizing := false) stk with | .ref q :: r => (match (generalizing := false) hS q with | (kd, ln, _) => bif Nat.ble 9 kd && Nat.ble kd 11 then some (nx, ls, Value.int (Int32.ofNat ln) :: r, (hz, hS, hM, hw)) else none) | _ => none) = some (p', ls', stk', h') := hs
    split at hs
    · next q r _ =>
      cases hq : hS q with
      | mk kd rest1 =>
        obtain ⟨ln, rs⟩ := rest1
        rw [hq] at hs
        have hs : (bif Nat.ble 9 kd && Nat.ble kd 11 then some (nx, ls, Value.int (Int32.ofNat ln) :: r, (hz, hS, hM, hw)) else none) = some (p', ls', stk', h') := hs
        cases hkd : (Nat.ble 9 kd && Nat.ble kd 11) with
        | false => rw [hkd] at hs; cases hs
        | true =>
          rw [hkd] at hs
          cases hs
          obtain ⟨q1, q2⟩ := az_bb hkd
          exact ⟨Nat.le_refl _, Nat.le_refl _⟩
    · cases hs
  · cases hs
    exact ⟨Nat.le_succ _, Nat.le_add_right _ _⟩
  · have hs : (match (generalizing := false) stk with | .ref _ :: r => bif Nat.ble (az_cat r) 8 then some (nx, ls, r, (hz, hS, hM, hw)) else none | _ => none) = some (p', ls', stk', h') := hs
    split at hs
    · next q r _ =>
      cases hkd : Nat.ble (az_cat r) 8 with
      | false => rw [hkd] at hs; cases hs
      | true =>
        rw [hkd] at hs
        have hs : some (nx, ls, r, (hz, hS, hM, hw)) = some (p', ls', stk', h') := hs
        simp only [Option.some.injEq, Prod.mk.injEq] at hs
        obtain ⟨rfl, rfl, rfl, rfl⟩ := hs
        exact ⟨Nat.le_refl _, Nat.le_refl _⟩
    · cases hs
  · have hs : (match (generalizing := false) stk with | .ref _ :: r => some (nx, ls, r, (hz, hS, hM, hw)) | .null :: r => some (a, ls, r, (hz, hS, hM, hw)) | _ => none) = some (p', ls', stk', h') := hs
    split at hs
    · next q r _ =>
      cases hs
      exact ⟨Nat.le_refl _, Nat.le_refl _⟩
    · next r _ =>
      cases hs
      exact ⟨Nat.le_refl _, Nat.le_refl _⟩
    · cases hs
  · have hs : (match (generalizing := false) stk with | .ref _ :: r => some (a, ls, r, (hz, hS, hM, hw)) | .null :: r => some (nx, ls, r, (hz, hS, hM, hw)) | _ => none) = some (p', ls', stk', h') := hs
    split at hs
    · next q r _ =>
      cases hs
      exact ⟨Nat.le_refl _, Nat.le_refl _⟩
    · next r _ =>
      cases hs
      exact ⟨Nat.le_refl _, Nat.le_refl _⟩
    · cases hs
  · have hs : (match (generalizing := false) stk with | .int x :: .ref q :: r => some (nx, ls, Value.int x :: Value.ref q :: Value.int x :: Value.ref q :: r, (hz, hS, hM, hw)) | _ => none) = some (p', ls', stk', h') := hs
    split at hs
    · next x q r _ =>
      cases hs
      exact ⟨Nat.le_refl _, Nat.le_refl _⟩
    · cases hs
  · have hs : (match (generalizing := false) stk with | .int y :: .int x :: r => bif Nat.ble (az_cat r) 8 then some (nx, ls, Value.int (if x < y then y else x) :: r, (hz, hS, hM, hw)) else none | _ => none) = some (p', ls', stk', h') := hs
    split at hs
    · next y x r _ =>
      cases hkd : Nat.ble (az_cat r) 8 with
      | false => rw [hkd] at hs; cases hs
      | true =>
        rw [hkd] at hs
        have hs : some (nx, ls, Value.int (if x < y then y else x) :: r, (hz, hS, hM, hw)) = some (p', ls', stk', h') := hs
        simp only [Option.some.injEq, Prod.mk.injEq] at hs
        obtain ⟨rfl, rfl, rfl, rfl⟩ := hs
        exact ⟨Nat.le_refl _, Nat.le_refl _⟩
    · cases hs
  · have hs : (match (generalizing := false) stk with | .int y :: .int x :: r => bif Nat.ble (az_cat r) 8 then some (nx, ls, Value.int (if y < x then y else x) :: r, (hz, hS, hM, hw)) else none | _ => none) = some (p', ls', stk', h') := hs
    split at hs
    · next y x r _ =>
      cases hkd : Nat.ble (az_cat r) 8 with
      | false => rw [hkd] at hs; cases hs
      | true =>
        rw [hkd] at hs
        have hs : some (nx, ls, Value.int (if y < x then y else x) :: r, (hz, hS, hM, hw)) = some (p', ls', stk', h') := hs
        simp only [Option.some.injEq, Prod.mk.injEq] at hs
        obtain ⟨rfl, rfl, rfl, rfl⟩ := hs
        exact ⟨Nat.le_refl _, Nat.le_refl _⟩
    · cases hs
  · cases hs
    exact ⟨Nat.le_refl _, Nat.le_refl _⟩
  · have hs : (match (generalizing := false) stk with | .int y :: .int x :: r => some (nx, ls, Value.int (x >>> (y &&& 31)) :: r, (hz, hS, hM, hw)) | _ => none) = some (p', ls', stk', h') := hs
    split at hs
    · next y x r _ =>
      cases hs
      exact ⟨Nat.le_refl _, Nat.le_refl _⟩
    · cases hs
  · exact (big hbig).elim
theorem az_mono2 {i : az_I} {stk : List Value} {h h' : az_H} {g : Bool} {p' : Nat} {stk' : List Value} (hs : az_gd i stk h = some (g, p', stk', h')) : h.1 ≤ h'.1 ∧ h.2.2.2 ≤ h'.2.2.2 := by
  obtain ⟨t, a, b, k, im, nx, sw⟩ := i
  obtain ⟨hz, hS, hM, hw⟩ := h
  by_cases h43 : 43 ≤ t
  · rw [az_gd_hi h43] at hs
    cases hs
  by_cases h30 : t ≤ 30
  · rw [az_gd_lo h30] at hs
    cases hs
  rcases (show t = 31 ∨ t = 32 ∨ t = 33 ∨ t = 34 ∨ t = 35 ∨ t = 36 ∨ t = 37 ∨ t = 38 ∨ t = 39 ∨ t = 40 ∨ t = 41 ∨ t = 42 by omega) with rfl | rfl | rfl | rfl | rfl | rfl | rfl | rfl | rfl | rfl | rfl | rfl
  · have hs : (match (generalizing := false) stk with | .int y :: .int x :: r => some (!decide (y = 0), nx, Value.int (x / y) :: r, (hz, hS, hM, hw)) | _ => none) = some (g, p', stk', h') := hs
    split at hs
    · next y x r _ =>
      simp only [Option.some.injEq, Prod.mk.injEq] at hs
      obtain ⟨rfl, rfl, rfl, rfl⟩ := hs
      exact ⟨Nat.le_refl _, Nat.le_refl _⟩
    · cases hs
  · have hs : (match (generalizing := false) stk with | .int y :: .int x :: r => some (!decide (y = 0), nx, Value.int (x - x / y * y) :: r, (hz, hS, hM, hw)) | _ => none) = some (g, p', stk', h') := hs
    split at hs
    · next y x r _ =>
      simp only [Option.some.injEq, Prod.mk.injEq] at hs
      obtain ⟨rfl, rfl, rfl, rfl⟩ := hs
      exact ⟨Nat.le_refl _, Nat.le_refl _⟩
    · cases hs
  · have hs : (match (generalizing := false) stk with | .int j :: .ref q :: r => (match (generalizing := false) hS q with | (kd, ln, _) => bif Nat.beq kd 9 then some (az_in j ln, nx, Value.int (hM q j.toNatClampNeg) :: r, (hz, hS, hM, hw)) else none) | _ => none) = some (g, p', stk', h') := hs
    split at hs
    · next j q r _ =>
      obtain ⟨ln, rs, hq, hs2⟩ := az_inv (fun ln rs => some (az_in j ln, nx, Value.int (hM q j.toNatClampNeg) :: r, ((hz, hS, hM, hw) : az_H))) hs
      simp only [Option.some.injEq, Prod.mk.injEq] at hs2
      obtain ⟨rfl, rfl, rfl, rfl⟩ := hs2
      exact ⟨Nat.le_refl _, Nat.le_refl _⟩
    · cases hs
  · have hs : (match (generalizing := false) stk with | .int x :: .int j :: .ref q :: r => (match (generalizing := false) hS q with | (kd, ln, _) => bif Nat.beq kd 9 then some (az_in j ln, nx, r, (hz, hS, az_up hM q j.toNatClampNeg x, hw)) else none) | _ => none) = some (g, p', stk', h') := hs
    split at hs
    · next x j q r _ =>
      obtain ⟨ln, rs, hq, hs2⟩ := az_inv (fun ln rs => some (az_in j ln, nx, r, ((hz, hS, az_up hM q j.toNatClampNeg x, hw) : az_H))) hs
      simp only [Option.some.injEq, Prod.mk.injEq] at hs2
      obtain ⟨rfl, rfl, rfl, rfl⟩ := hs2
      exact ⟨Nat.le_refl _, Nat.le_refl _⟩
    · cases hs
  · have hs : (match (generalizing := false) stk with | .int j :: .ref q :: r => (match (generalizing := false) hS q with | (kd, ln, _) => bif Nat.beq kd 10 then some (az_in j ln, nx, Value.int (hM q j.toNatClampNeg) :: r, (hz, hS, hM, hw)) else none) | _ => none) = some (g, p', stk', h') := hs
    split at hs
    · next j q r _ =>
      obtain ⟨ln, rs, hq, hs2⟩ := az_inv (fun ln rs => some (az_in j ln, nx, Value.int (hM q j.toNatClampNeg) :: r, ((hz, hS, hM, hw) : az_H))) hs
      simp only [Option.some.injEq, Prod.mk.injEq] at hs2
      obtain ⟨rfl, rfl, rfl, rfl⟩ := hs2
      exact ⟨Nat.le_refl _, Nat.le_refl _⟩
    · cases hs
  · have hs : (match (generalizing := false) stk with | .int x :: .int j :: .ref q :: r => (match (generalizing := false) hS q with | (kd, ln, _) => bif Nat.beq kd 10 then some (az_in j ln && az_bit x, nx, r, (hz, hS, az_up hM q j.toNatClampNeg x, hw)) else none) | _ => none) = some (g, p', stk', h') := hs
    split at hs
    · next x j q r _ =>
      obtain ⟨ln, rs, hq, hs2⟩ := az_inv (fun ln rs => some (az_in j ln && az_bit x, nx, r, ((hz, hS, az_up hM q j.toNatClampNeg x, hw) : az_H))) hs
      simp only [Option.some.injEq, Prod.mk.injEq] at hs2
      obtain ⟨rfl, rfl, rfl, rfl⟩ := hs2
      exact ⟨Nat.le_refl _, Nat.le_refl _⟩
    · cases hs
  · have hs : (match (generalizing := false) stk with | .int j :: .ref q :: r => (match (generalizing := false) hS q with | (kd, ln, rs) => bif Nat.beq kd 11 then some (az_in j ln, nx, az_rv (az_nth rs j.toNatClampNeg) :: r, (hz, hS, hM, hw)) else none) | _ => none) = some (g, p', stk', h') := hs
    split at hs
    · next j q r _ =>
      obtain ⟨ln, rs, hq, hs2⟩ := az_inv (fun ln rs => some (az_in j ln, nx, az_rv (az_nth rs j.toNatClampNeg) :: r, ((hz, hS, hM, hw) : az_H))) hs
      simp only [Option.some.injEq, Prod.mk.injEq] at hs2
      obtain ⟨rfl, rfl, rfl, rfl⟩ := hs2
      exact ⟨Nat.le_refl _, Nat.le_refl _⟩
    · cases hs
  · have hs : (match (generalizing := false) stk with | .ref v :: .int j :: .ref q :: r => (match (generalizing := false) hS q with | (kd, ln, rs) => bif Nat.beq kd 11 then some (az_in j ln && Nat.beq (hS v).1 6 && Nat.beq rs.length ln, nx, r, (hz, az_put hS q (kd, ln, az_sub rs j.toNatClampNeg (some (some v))), hM, hw)) else none) | _ => none) = some (g, p', stk', h') := hs
    split at hs
    · next v j q r _ =>
      obtain ⟨ln, rs, hq, hs2⟩ := az_inv (fun ln rs => some (az_in j ln && Nat.beq (hS v).1 6 && Nat.beq rs.length ln, nx, r, ((hz, az_put hS q (11, ln, az_sub rs j.toNatClampNeg (some (some v))), hM, hw) : az_H))) (az_kd (G := fun kd ln rs => some (az_in j ln && Nat.beq (hS v).1 6 && Nat.beq rs.length ln, nx, r, ((hz, az_put hS q (kd, ln, az_sub rs j.toNatClampNeg (some (some v))), hM, hw) : az_H))) hs)
      simp only [Option.some.injEq, Prod.mk.injEq] at hs2
      obtain ⟨rfl, rfl, rfl, rfl⟩ := hs2
      exact ⟨Nat.le_refl _, Nat.le_refl _⟩
    · cases hs
  · have hs : (match (generalizing := false) stk with | .int x :: .ref q :: r => (match (generalizing := false) hS q with | (kd, _, rs) => bif Nat.beq kd b then (match (generalizing := false) az_nth rs k with | some none => some (az_bit x, nx, r, (hz, hS, az_up hM q k x, hw)) | _ => none) else none) | _ => none) = some (g, p', stk', h') := hs
    split at hs
    · next x q r _ =>
      obtain ⟨ln, rs, hq, hs2⟩ := az_inv (fun ln rs => match az_nth rs k with | some none => some (az_bit x, nx, r, ((hz, hS, az_up hM q k x, hw) : az_H)) | _ => none) hs
      obtain ⟨hn, e1⟩ := az_inv_p hs2
      simp only [Prod.mk.injEq] at e1
      obtain ⟨rfl, rfl, rfl, rfl⟩ := e1
      exact ⟨Nat.le_refl _, Nat.le_refl _⟩
    · cases hs
  · have hs : (match (generalizing := false) stk with | .int n :: r => some (az_in n 65536, nx, Value.ref hz :: r, (hz + 1, az_put hS hz (9, n.toNatClampNeg, []), az_put hM hz (fun _ => 0), hw + n.toNatClampNeg)) | _ => none) = some (g, p', stk', h') := hs
    split at hs
    · next n r _ =>
      simp only [Option.some.injEq, Prod.mk.injEq] at hs
      obtain ⟨rfl, rfl, rfl, rfl⟩ := hs
      exact ⟨Nat.le_succ _, Nat.le_add_right _ _⟩
    · cases hs
  · have hs : (match (generalizing := false) stk with | .int n :: r => some (az_in n 65536, nx, Value.ref hz :: r, (hz + 1, az_put hS hz (10, n.toNatClampNeg, []), az_put hM hz (fun _ => 0), hw + n.toNatClampNeg)) | _ => none) = some (g, p', stk', h') := hs
    split at hs
    · next n r _ =>
      simp only [Option.some.injEq, Prod.mk.injEq] at hs
      obtain ⟨rfl, rfl, rfl, rfl⟩ := hs
      exact ⟨Nat.le_succ _, Nat.le_add_right _ _⟩
    · cases hs
  · have hs : (match (generalizing := false) stk with | .int n :: r => some (az_in n 65536, nx, Value.ref hz :: r, (hz + 1, az_put hS hz (11, n.toNatClampNeg, List.replicate n.toNatClampNeg (some none)), az_put hM hz (fun _ => 0), hw + n.toNatClampNeg)) | _ => none) = some (g, p', stk', h') := hs
    split at hs
    · next n r _ =>
      simp only [Option.some.injEq, Prod.mk.injEq] at hs
      obtain ⟨rfl, rfl, rfl, rfl⟩ := hs
      exact ⟨Nat.le_succ _, Nat.le_add_right _ _⟩
    · cases hs
