section GRD
variable {p : Program} {l : Launch} {e : Env} {R : Room} {s : State} {m : MethodId} {args : Array Value} {below : List Frame} {meth : Method} {c : Code} {Q : State → Prop}
variable {D : va_G} {nL oi rc z0 : Nat} {cc : ByteArray} {h0 : az_H} {pc : Nat} {ls : List az_V} {stk : List Value}
theorem az_gd_lo {i : az_I} {h : az_H} (h1 : i.1 ≤ 30) : az_gd i stk h = none := by
  obtain ⟨t, a, b, c, im, nx, sw⟩ := i
  have h1 : t ≤ 30 := h1
  simp only [az_gd, show Nat.ble t 30 = true from Nat.ble_eq.mpr h1, cond_true]
theorem az_snd_gd {hz hw : Nat} {hS : Nat → az_Sh} {hM : Nat → Nat → Int32} {i : az_I} {g : Bool} {p' : Nat} {stk' : List Value} {h' : az_H} (X : az_CX p s m args meth c D nL oi rc cc) (hok : az_ok oi rc cc pc i = true) (hs : az_gd i stk (hz, hS, hM, hw) = some (g, p', stk', h')) (hg : g = true) (r1 : h'.1 ≤ h0.1 + R.cells) (r2 : h'.2.2.2 ≤ h0.2.2.2 + R.slots) (kk : az_MS p l e R s m args below meth c D nL z0 h0 Q p' ls stk' h') : az_MS p l e R s m args below meth c D nL z0 h0 Q pc ls stk (hz, hS, hM, hw) := by
  obtain ⟨t, a, b, k, im, nx, sw⟩ := i
  by_cases h43 : 43 ≤ t
  · rw [az_gd_hi h43] at hs
    cases hs
  by_cases h30 : t ≤ 30
  · rw [az_gd_lo h30] at hs
    cases hs
  rcases (show t = 31 ∨ t = 32 ∨ t = 33 ∨ t = 34 ∨ t = 35 ∨ t = 36 ∨ t = 37 ∨ t = 38 ∨ t = 39 ∨ t = 40 ∨ t = 41 ∨ t = 42 by omega) with rfl | rfl | rfl | rfl | rfl | rfl | rfl | rfl | rfl | rfl | rfl | rfl
  · obtain ⟨hdg, hnx, hx2⟩ := az_okd hok (show az_exp pc (31, a, b, k, im, nx, sw) = some (.idiv, 1) from rfl)
    have hnx : nx = pc + 1 := hnx (show 31 ≠ 55 by decide) (show 31 ≠ 56 by decide)
    subst hnx
    have hs : (match (generalizing := false) stk with | .int y :: .int x :: r => some (!decide (y = 0), pc + 1, Value.int (x / y) :: r, (hz, hS, hM, hw)) | _ => none) = some (g, p', stk', h') := hs
    split at hs
    · next y x r _ =>
      simp only [Option.some.injEq, Prod.mk.injEq] at hs
      obtain ⟨rfl, rfl, rfl, rfl⟩ := hs
      have hy : ¬ y = 0 := by simpa using hg
      intro H locs cells slots la hH hS0 hL h1 h2
      have k1 := kk H locs cells slots la hH hS0 hL h1 h2
      exact lv_idiv X.1 X.2.1 hdg hy k1
    · cases hs
  · obtain ⟨hdg, hnx, hx2⟩ := az_okd hok (show az_exp pc (32, a, b, k, im, nx, sw) = some (.irem, 1) from rfl)
    have hnx : nx = pc + 1 := hnx (show 32 ≠ 55 by decide) (show 32 ≠ 56 by decide)
    subst hnx
    have hs : (match (generalizing := false) stk with | .int y :: .int x :: r => some (!decide (y = 0), pc + 1, Value.int (x - x / y * y) :: r, (hz, hS, hM, hw)) | _ => none) = some (g, p', stk', h') := hs
    split at hs
    · next y x r _ =>
      simp only [Option.some.injEq, Prod.mk.injEq] at hs
      obtain ⟨rfl, rfl, rfl, rfl⟩ := hs
      have hy : ¬ y = 0 := by simpa using hg
      intro H locs cells slots la hH hS0 hL h1 h2
      have k1 := kk H locs cells slots la hH hS0 hL h1 h2
      exact lv_irem X.1 X.2.1 hdg hy k1
    · cases hs
  · obtain ⟨hdg, hnx, hx2⟩ := az_okd hok (show az_exp pc (33, a, b, k, im, nx, sw) = some (.iaload, 1) from rfl)
    have hnx : nx = pc + 1 := hnx (show 33 ≠ 55 by decide) (show 33 ≠ 56 by decide)
    subst hnx
    have hs : (match (generalizing := false) stk with | .int j :: .ref q :: r => (match (generalizing := false) hS q with | (kd, ln, _) => bif Nat.beq kd 9 then some (az_in j ln, pc + 1, Value.int (hM q j.toNatClampNeg) :: r, (hz, hS, hM, hw)) else none) | _ => none) = some (g, p', stk', h') := hs
    split at hs
    · next j q r _ =>
      obtain ⟨ln, rs, hq, hs2⟩ := az_inv (fun ln rs => some (az_in j ln, pc + 1, Value.int (hM q j.toNatClampNeg) :: r, ((hz, hS, hM, hw) : az_H))) hs
      simp only [Option.some.injEq, Prod.mk.injEq] at hs2
      obtain ⟨rfl, rfl, rfl, rfl⟩ := hs2
      exact az_snd_ild X hq hg (Or.inl ⟨rfl, hdg⟩) kk
    · cases hs
  · obtain ⟨hdg, hnx, hx2⟩ := az_okd hok (show az_exp pc (34, a, b, k, im, nx, sw) = some (.iastore, 1) from rfl)
    have hnx : nx = pc + 1 := hnx (show 34 ≠ 55 by decide) (show 34 ≠ 56 by decide)
    subst hnx
    have hs : (match (generalizing := false) stk with | .int x :: .int j :: .ref q :: r => (match (generalizing := false) hS q with | (kd, ln, _) => bif Nat.beq kd 9 then some (az_in j ln, pc + 1, r, (hz, hS, az_up hM q j.toNatClampNeg x, hw)) else none) | _ => none) = some (g, p', stk', h') := hs
    split at hs
    · next x j q r _ =>
      obtain ⟨ln, rs, hq, hs2⟩ := az_inv (fun ln rs => some (az_in j ln, pc + 1, r, ((hz, hS, az_up hM q j.toNatClampNeg x, hw) : az_H))) hs
      simp only [Option.some.injEq, Prod.mk.injEq] at hs2
      obtain ⟨rfl, rfl, rfl, rfl⟩ := hs2
      exact az_snd_ist X hq hg (Or.inl ⟨rfl, hdg⟩) kk
    · cases hs
  · obtain ⟨hdg, hnx, hx2⟩ := az_okd hok (show az_exp pc (35, a, b, k, im, nx, sw) = some (.baload, 1) from rfl)
    have hnx : nx = pc + 1 := hnx (show 35 ≠ 55 by decide) (show 35 ≠ 56 by decide)
    subst hnx
    have hs : (match (generalizing := false) stk with | .int j :: .ref q :: r => (match (generalizing := false) hS q with | (kd, ln, _) => bif Nat.beq kd 10 then some (az_in j ln, pc + 1, Value.int (hM q j.toNatClampNeg) :: r, (hz, hS, hM, hw)) else none) | _ => none) = some (g, p', stk', h') := hs
    split at hs
    · next j q r _ =>
      obtain ⟨ln, rs, hq, hs2⟩ := az_inv (fun ln rs => some (az_in j ln, pc + 1, Value.int (hM q j.toNatClampNeg) :: r, ((hz, hS, hM, hw) : az_H))) hs
      simp only [Option.some.injEq, Prod.mk.injEq] at hs2
      obtain ⟨rfl, rfl, rfl, rfl⟩ := hs2
      exact az_snd_ild X hq hg (Or.inr ⟨rfl, hdg⟩) kk
    · cases hs
  · obtain ⟨hdg, hnx, hx2⟩ := az_okd hok (show az_exp pc (36, a, b, k, im, nx, sw) = some (.bastore, 1) from rfl)
    have hnx : nx = pc + 1 := hnx (show 36 ≠ 55 by decide) (show 36 ≠ 56 by decide)
    subst hnx
    have hs : (match (generalizing := false) stk with | .int x :: .int j :: .ref q :: r => (match (generalizing := false) hS q with | (kd, ln, _) => bif Nat.beq kd 10 then some (az_in j ln && az_bit x, pc + 1, r, (hz, hS, az_up hM q j.toNatClampNeg x, hw)) else none) | _ => none) = some (g, p', stk', h') := hs
    split at hs
    · next x j q r _ =>
      obtain ⟨ln, rs, hq, hs2⟩ := az_inv (fun ln rs => some (az_in j ln && az_bit x, pc + 1, r, ((hz, hS, az_up hM q j.toNatClampNeg x, hw) : az_H))) hs
      simp only [Option.some.injEq, Prod.mk.injEq] at hs2
      obtain ⟨rfl, rfl, rfl, rfl⟩ := hs2
      rw [Bool.and_eq_true] at hg
      exact az_snd_ist X hq hg.1 (Or.inr ⟨rfl, hg.2, hdg⟩) kk
    · cases hs
  · obtain ⟨hdg, hnx, hx2⟩ := az_okd hok (show az_exp pc (37, a, b, k, im, nx, sw) = some (.aaload, 1) from rfl)
    have hnx : nx = pc + 1 := hnx (show 37 ≠ 55 by decide) (show 37 ≠ 56 by decide)
    subst hnx
    have hs : (match (generalizing := false) stk with | .int j :: .ref q :: r => (match (generalizing := false) hS q with | (kd, ln, rs) => bif Nat.beq kd 11 then some (az_in j ln, pc + 1, az_rv (az_nth rs j.toNatClampNeg) :: r, (hz, hS, hM, hw)) else none) | _ => none) = some (g, p', stk', h') := hs
    split at hs
    · next j q r _ =>
      obtain ⟨ln, rs, hq, hs2⟩ := az_inv (fun ln rs => some (az_in j ln, pc + 1, az_rv (az_nth rs j.toNatClampNeg) :: r, ((hz, hS, hM, hw) : az_H))) hs
      simp only [Option.some.injEq, Prod.mk.injEq] at hs2
      obtain ⟨rfl, rfl, rfl, rfl⟩ := hs2
      exact az_snd_ald X hq hg hdg kk
    · cases hs
  · obtain ⟨hdg, hnx, hx2⟩ := az_okd hok (show az_exp pc (38, a, b, k, im, nx, sw) = some (.aastore, 1) from rfl)
    have hnx : nx = pc + 1 := hnx (show 38 ≠ 55 by decide) (show 38 ≠ 56 by decide)
    subst hnx
    have hs : (match (generalizing := false) stk with | .ref v :: .int j :: .ref q :: r => (match (generalizing := false) hS q with | (kd, ln, rs) => bif Nat.beq kd 11 then some (az_in j ln && Nat.beq (hS v).1 6 && Nat.beq rs.length ln, pc + 1, r, (hz, az_put hS q (kd, ln, az_sub rs j.toNatClampNeg (some (some v))), hM, hw)) else none) | _ => none) = some (g, p', stk', h') := hs
    split at hs
    · next v j q r _ =>
      obtain ⟨ln, rs, hq, hs2⟩ := az_inv (fun ln rs => some (az_in j ln && Nat.beq (hS v).1 6 && Nat.beq rs.length ln, pc + 1, r, ((hz, az_put hS q (11, ln, az_sub rs j.toNatClampNeg (some (some v))), hM, hw) : az_H))) (az_kd (G := fun kd ln rs => some (az_in j ln && Nat.beq (hS v).1 6 && Nat.beq rs.length ln, pc + 1, r, ((hz, az_put hS q (kd, ln, az_sub rs j.toNatClampNeg (some (some v))), hM, hw) : az_H))) hs)
      simp only [Option.some.injEq, Prod.mk.injEq] at hs2
      obtain ⟨rfl, rfl, rfl, rfl⟩ := hs2
      rw [Bool.and_eq_true, Bool.and_eq_true] at hg
      exact az_snd_ast X hq hg.1.1 (Nat.eq_of_beq_eq_true hg.1.2) (Nat.eq_of_beq_eq_true hg.2) hdg kk
    · cases hs
  · obtain ⟨hdg, hnx, hx2⟩ := az_okd hok (show az_exp pc (39, a, b, k, im, nx, sw) = some (.putfield a, 3) from rfl)
    have hnx : nx = pc + 3 := hnx (show 39 ≠ 55 by decide) (show 39 ≠ 56 by decide)
    subst hnx
    have hs : (match (generalizing := false) stk with | .int x :: .ref q :: r => (match (generalizing := false) hS q with | (kd, _, rs) => bif Nat.beq kd b then (match (generalizing := false) az_nth rs k with | some none => some (az_bit x, pc + 3, r, (hz, hS, az_up hM q k x, hw)) | _ => none) else none) | _ => none) = some (g, p', stk', h') := hs
    split at hs
    · next x q r _ =>
      obtain ⟨ln, rs, hq, hs2⟩ := az_inv (fun ln rs => match az_nth rs k with | some none => some (az_bit x, pc + 3, r, ((hz, hS, az_up hM q k x, hw) : az_H)) | _ => none) hs
      obtain ⟨hn, e1⟩ := az_inv_p hs2
      simp only [Prod.mk.injEq] at e1
      obtain ⟨rfl, rfl, rfl, rfl⟩ := e1
      exact az_snd_putZ X (az_fld hx2) hg hq hn hdg kk
    · cases hs
  · obtain ⟨hdg, hnx, hx2⟩ := az_okd hok (show az_exp pc (40, a, b, k, im, nx, sw) = some (.newarray .int, 2) from rfl)
    have hnx : nx = pc + 2 := hnx (show 40 ≠ 55 by decide) (show 40 ≠ 56 by decide)
    subst hnx
    have hs : (match (generalizing := false) stk with | .int n :: r => some (az_in n 65536, pc + 2, Value.ref hz :: r, (hz + 1, az_put hS hz (9, n.toNatClampNeg, []), az_put hM hz (fun _ => 0), hw + n.toNatClampNeg)) | _ => none) = some (g, p', stk', h') := hs
    split at hs
    · next n r _ =>
      simp only [Option.some.injEq, Prod.mk.injEq] at hs
      obtain ⟨rfl, rfl, rfl, rfl⟩ := hs
      exact az_snd_newa X ⟨rfl, rfl⟩ hg hdg r1 r2 kk
    · cases hs
  · obtain ⟨hdg, hnx, hx2⟩ := az_okd hok (show az_exp pc (41, a, b, k, im, nx, sw) = some (.newarray .boolean, 2) from rfl)
    have hx2 : false = true := hx2
    cases hx2
  · obtain ⟨hdg, hnx, hx2⟩ := az_okd hok (show az_exp pc (42, a, b, k, im, nx, sw) = some (.anewarray a, 3) from rfl)
    have hnx : nx = pc + 3 := hnx (show 42 ≠ 55 by decide) (show 42 ≠ 56 by decide)
    subst hnx
    have hs : (match (generalizing := false) stk with | .int n :: r => some (az_in n 65536, pc + 3, Value.ref hz :: r, (hz + 1, az_put hS hz (11, n.toNatClampNeg, List.replicate n.toNatClampNeg (some none)), az_put hM hz (fun _ => 0), hw + n.toNatClampNeg)) | _ => none) = some (g, p', stk', h') := hs
    split at hs
    · next n r _ =>
      simp only [Option.some.injEq, Prod.mk.injEq] at hs
      obtain ⟨rfl, rfl, rfl, rfl⟩ := hs
      exact az_snd_newq X (az_at_ok _ (List.contains_iff_mem.mp hx2)) hg hdg r1 r2 kk
    · cases hs
end GRD
