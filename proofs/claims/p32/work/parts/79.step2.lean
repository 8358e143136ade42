section STEP2
variable {p : Program} {l : Launch} {e : Env} {R : Room} {s : State} {m : MethodId} {args : Array Value} {below : List Frame} {meth : Method} {c : Code} {Q : State → Prop}
variable {D : va_G} {nL oi rc z0 : Nat} {cc : ByteArray} {h0 : az_H} {pc : Nat} {ls : List az_V} {stk : List Value} {h : az_H}
theorem az_snd_new {a b k hz hw : Nat} {hS : Nat → az_Sh} {hM : Nat → Nat → Int32} (X : az_CX p s m args meth c D nL oi rc cc) (hg : az_nP (oi, a, b, k)) (hd : decode cc pc = .ok (.new a, 3)) (r1 : hz + 1 ≤ h0.1 + R.cells) (r2 : hw + k ≤ h0.2.2.2 + R.slots) (kk : az_MS p l e R s m args below meth c D nL z0 h0 Q (pc + 3) ls (.ref hz :: stk) (hz + 1, az_put hS hz (b, 0, az_dflt b), az_put hM hz (fun _ => 0), hw + k)) : az_MS p l e R s m args below meth c D nL z0 h0 Q pc ls stk (hz, hS, hM, hw) := by
  intro H locs cells slots la hH hS0 hL h1 h2
  have h1 : hz = h0.1 + cells := h1
  have h2 : hw = h0.2.2.2 + slots := h2
  obtain ⟨hx, hb, hml, hown, hts, hK, hTB, -⟩ := X
  obtain ⟨qc, g1, g2, g3⟩ := hg
  have g1 : vwCl[b]? = some qc := g1
  have g2 : qc.2.2 = k := g2
  subst g2
  obtain ⟨ty, c1, c2, c3, c4, c5⟩ := az_cls g1
  have hb9 : b < 9 := Nat.lt_succ_of_lt (List.getElem?_eq_some_iff.mp g1).1
  have hfs : ∀ j, j < qc.2.2 → defaultValue (ty j) = vp_V (az_vals z0 (az_dflt b) (fun _ => 0) 0) j := by
    intro j hj
    have e1 := c2 j hj
    match b, g1 with
    | 0, g1 => cases g1; have hj : j < 9 := hj; rcases (show j = 0 ∨ j = 1 ∨ j = 2 ∨ j = 3 ∨ j = 4 ∨ j = 5 ∨ j = 6 ∨ j = 7 ∨ j = 8 by omega) with rfl | rfl | rfl | rfl | rfl | rfl | rfl | rfl | rfl <;> (have e2 := tyX0_ok _ hj; rw [e1] at e2; rw [Option.some.inj e2]; rfl)
    | 1, g1 => cases g1; have hj : j < 3 := hj; rcases (show j = 0 ∨ j = 1 ∨ j = 2 by omega) with rfl | rfl | rfl <;> (have e2 := tyX1_ok _ hj; rw [e1] at e2; rw [Option.some.inj e2]; rfl)
    | 2, g1 => cases g1; have hj : j < 4 := hj; rcases (show j = 0 ∨ j = 1 ∨ j = 2 ∨ j = 3 by omega) with rfl | rfl | rfl | rfl <;> (have e2 := tyX2_ok _ hj; rw [e1] at e2; rw [Option.some.inj e2]; rfl)
    | 3, g1 => cases g1; have hj : j < 5 := hj; rcases (show j = 0 ∨ j = 1 ∨ j = 2 ∨ j = 3 ∨ j = 4 by omega) with rfl | rfl | rfl | rfl | rfl <;> (have e2 := tyX3_ok _ hj; rw [e1] at e2; rw [Option.some.inj e2]; rfl)
    | 4, g1 => cases g1; have hj : j < 11 := hj; rcases (show j = 0 ∨ j = 1 ∨ j = 2 ∨ j = 3 ∨ j = 4 ∨ j = 5 ∨ j = 6 ∨ j = 7 ∨ j = 8 ∨ j = 9 ∨ j = 10 by omega) with rfl | rfl | rfl | rfl | rfl | rfl | rfl | rfl | rfl | rfl | rfl <;> (have e2 := tyX4_ok _ hj; rw [e1] at e2; rw [Option.some.inj e2]; rfl)
    | 5, g1 => cases g1; have hj : j < 1 := hj; rcases (show j = 0 by omega) with rfl; (have e2 := tyX5_ok _ hj; rw [e1] at e2; rw [Option.some.inj e2]; rfl)
    | 6, g1 => cases g1; have hj : j < 3 := hj; rcases (show j = 0 ∨ j = 1 ∨ j = 2 by omega) with rfl | rfl | rfl <;> (have e2 := tyX7_ok _ hj; rw [e1] at e2; rw [Option.some.inj e2]; rfl)
    | 7, g1 => cases g1; have hj : j < 6 := hj; rcases (show j = 0 ∨ j = 1 ∨ j = 2 ∨ j = 3 ∨ j = 4 ∨ j = 5 by omega) with rfl | rfl | rfl | rfl | rfl | rfl <;> (have e2 := tyX8_ok _ hj; rw [e1] at e2; rw [Option.some.inj e2]; rfl)
    | _ + 8, g1 => simp [vwCl] at g1
  have hsz : H.size = z0 + hz := hH.1
  refine az_wnew hx hb hts c1 ty c2 hown (hts _ (az_Wt g3 rfl)) (hts _ (az_Wt c4 rfl)) (hts _ (az_Wt c5 rfl)) hK g1 hfs (by omega) (by omega) hd fun H1 e1 e2 e3 => ?_
  rw [hsz] at e1 ⊢
  refine kk H1 locs (cells + 1) (slots + qc.2.2) la (hH.push (fun y hy => ?_) (fun y hy => ?_) (Or.inl ?_) e1 e2 e3) ⟨by rw [e2]; exact Nat.le_succ_of_le hS0.1, fun q q1 q2 => ?_, hS0.2.2⟩ hL (by show hz + 1 = _; omega) (by show hw + qc.2.2 = _; omega)
  · simp [az_put, hy]
  · simp [az_put, hy]
  · simp [az_put]
    exact hb9
  · rw [e3 q (Nat.lt_of_lt_of_le q1 hS0.1)]
    exact hS0.2.1 q q1 q2
theorem az_snd_newa {hz hw : Nat} {hS : Nat → az_Sh} {hM : Nat → Nat → Int32} {n : Int32} {rest : List Value} {kd : Nat} {at0 : ArrayType} (X : az_CX p s m args meth c D nL oi rc cc) (hkd : kd = 9 ∧ at0 = .int) (hn : az_in n 65536 = true) (hd : decode cc pc = .ok (.newarray at0, 2)) (r1 : hz + 1 ≤ h0.1 + R.cells) (r2 : hw + n.toNatClampNeg ≤ h0.2.2.2 + R.slots) (kk : az_MS p l e R s m args below meth c D nL z0 h0 Q (pc + 2) ls (.ref hz :: rest) (hz + 1, az_put hS hz (kd, n.toNatClampNeg, []), az_put hM hz (fun _ => 0), hw + n.toNatClampNeg)) : az_MS p l e R s m args below meth c D nL z0 h0 Q pc ls (.int n :: rest) (hz, hS, hM, hw) := by
  intro H locs cells slots la hH hS0 hL h1 h2
  have h1 : hz = h0.1 + cells := h1
  have h2 : hw = h0.2.2.2 + slots := h2
  obtain ⟨hx, hb, hml, hown, hts, hK, hTB, -⟩ := X
  obtain ⟨n1, n2⟩ := az_in_nn hn
  have hsz : H.size = z0 + hz := hH.1
  have fin : ∀ (cA : ClassId) (H1 : Heap) (ty : FieldType), az_AR s cA ty → (kd = 9 ∧ ty = .int ∨ kd = 10 ∧ ty = .boolean) → va_at D vwCl (H.size, .inl (cA, n.toNatClampNeg, .inl (fun _ => 0))) H1 → H1.size = H.size + 1 → (∀ q : Nat, q < H.size → H1[q]? = H[q]?) → W p l e R s m args below meth c H1 locs (cells + 1) (slots + n.toNatClampNeg) Q (F0 m (pc + 2) la (.ref H.size :: rest.map (az_sv z0))) := by
    intro cA H1 ty hAR hk e1 e2 e3
    rw [hsz] at e1 ⊢
    refine kk H1 locs (cells + 1) (slots + n.toNatClampNeg) la (hH.push (fun y hy => ?_) (fun y hy => ?_) ?_ e1 e2 e3) ⟨by rw [e2]; exact Nat.le_succ_of_le hS0.1, fun q q1 q2 => ?_, hS0.2.2⟩ hL (by show hz + 1 = _; omega) (by show hw + n.toNatClampNeg = _; omega)
    · simp [az_put, hy]
    · simp [az_put, hy]
    · rcases hk with ⟨rfl, rfl⟩ | ⟨rfl, rfl⟩
      · exact Or.inr (Or.inl ⟨by simp [az_put], cA, by simp [az_put], hAR⟩)
      · exact Or.inr (Or.inr (Or.inl ⟨by simp [az_put], cA, by simp [az_put], hAR⟩))
    · rw [e3 q (Nat.lt_of_lt_of_le q1 hS0.1)]
      exact hS0.2.1 q q1 q2
  obtain ⟨rfl, rfl⟩ := hkd
  · exact az_wnewa (D := D) (cl := vwCl) hx hb (atype := .int) (hts _ (az_Wt az_ai rfl)) (ty := .int) rfl (a0 := (n.toNatClampNeg, .inl (fun _ => 0))) (fun cA => rfl) n1 rfl (by show n.toNatClampNeg * 4 ≤ _; omega) (by omega) (by omega) hd (fun cA H1 hAR e1 e2 e3 => fin cA H1 .int hAR (Or.inl ⟨rfl, rfl⟩) e1 e2 e3)
theorem az_snd_newq {a hz hw : Nat} {hS : Nat → az_Sh} {hM : Nat → Nat → Int32} {n : Int32} {rest : List Value} (X : az_CX p s m args meth c D nL oi rc cc) (hg : Cond.classLink (az_cn oi) a "CaravanZones$World" ∈ tables_1) (hn : az_in n 65536 = true) (hd : decode cc pc = .ok (.anewarray a, 3)) (r1 : hz + 1 ≤ h0.1 + R.cells) (r2 : hw + n.toNatClampNeg ≤ h0.2.2.2 + R.slots) (kk : az_MS p l e R s m args below meth c D nL z0 h0 Q (pc + 3) ls (.ref hz :: rest) (hz + 1, az_put hS hz (11, n.toNatClampNeg, List.replicate n.toNatClampNeg (some none)), az_put hM hz (fun _ => 0), hw + n.toNatClampNeg)) : az_MS p l e R s m args below meth c D nL z0 h0 Q pc ls (.int n :: rest) (hz, hS, hM, hw) := by
  intro H locs cells slots la hH hS0 hL h1 h2
  have h1 : hz = h0.1 + cells := h1
  have h2 : hw = h0.2.2.2 + slots := h2
  obtain ⟨hx, hb, hml, hown, hts, hK, hTB, -⟩ := X
  obtain ⟨n1, n2⟩ := az_in_nn hn
  have hsz : H.size = z0 + hz := hH.1
  refine az_wnewq (D := D) (cl := vwCl) hx hb hown (hts _ (az_Wt hg rfl)) hTB.2 n1 rfl (by omega) (by omega) (by omega) hd fun cA H1 hAR e1 e2 e3 => ?_
  rw [hsz] at e1 ⊢
  refine kk H1 locs (cells + 1) (slots + n.toNatClampNeg) la (hH.push (fun y hy => ?_) (fun y hy => ?_) ?_ e1 e2 e3) ⟨by rw [e2]; exact Nat.le_succ_of_le hS0.1, fun q q1 q2 => ?_, hS0.2.2⟩ hL (by show hz + 1 = _; omega) (by show hw + n.toNatClampNeg = _; omega)
  · simp [az_put, hy]
  · simp [az_put, hy]
  · refine Or.inr (Or.inr (Or.inr ⟨by simp [az_put], cA, ?_, hAR⟩))
    simp only [az_put, if_pos]
    have e : (fun (_ : Nat) => (none : Option Nat)) = az_rf z0 (List.replicate n.toNatClampNeg (some none)) := by
      funext j
      unfold az_rf
      rw [az_nth_eq, List.getElem?_replicate]
      by_cases hj : j < n.toNatClampNeg <;> simp [hj]
    rw [e]
  · rw [e3 q (Nat.lt_of_lt_of_le q1 hS0.1)]
    exact hS0.2.1 q q1 q2
theorem az_snd_ild {q ln hz hw : Nat} {hS : Nat → az_Sh} {hM : Nat → Nat → Int32} {rs : List (Option (Option Nat))} {i : Int32} {rest : List Value} {kd : Nat} (X : az_CX p s m args meth c D nL oi rc cc) (hs : hS q = (kd, ln, rs)) (hi : az_in i ln = true) (hd : (kd = 9 ∧ decode cc pc = .ok (.iaload, 1)) ∨ (kd = 10 ∧ decode cc pc = .ok (.baload, 1))) (kk : az_MS p l e R s m args below meth c D nL z0 h0 Q (pc + 1) ls (.int (hM q i.toNatClampNeg) :: rest) (hz, hS, hM, hw)) : az_MS p l e R s m args below meth c D nL z0 h0 Q pc ls (.int i :: .ref q :: rest) (hz, hS, hM, hw) := by
  intro H locs cells slots la hH hS0 hL h1 h2
  have k := kk H locs cells slots la hH hS0 hL h1 h2
  obtain ⟨hx, hb, hml, hown, hts, hK, hTB, -⟩ := X
  rcases hd with ⟨rfl, hd⟩ | ⟨rfl, hd⟩
  · obtain ⟨-, cA, hat, hAR⟩ := hH.ari hs
    exact va_iald hx hb (az_K1 hK hAR) (az_P1 hat) 0 0 rfl rfl (az_in_vp hi) hd k
  · obtain ⟨-, cA, hat, hAR⟩ := hH.arz hs
    exact va_zald hx hb (az_K1 hK hAR) (az_P1 hat) 0 0 rfl rfl (az_in_vp hi) hd k
theorem az_upd_up (hM : Nat → Nat → Int32) (q k : Nat) (x : Int32) : upd (hM q) k x = az_up hM q k x q := by
  funext j
  simp [upd, az_up]
theorem az_snd_ist {q ln hz hw : Nat} {hS : Nat → az_Sh} {hM : Nat → Nat → Int32} {rs : List (Option (Option Nat))} {i x : Int32} {rest : List Value} {kd : Nat} (X : az_CX p s m args meth c D nL oi rc cc) (hs : hS q = (kd, ln, rs)) (hi : az_in i ln = true) (hd : (kd = 9 ∧ decode cc pc = .ok (.iastore, 1)) ∨ (kd = 10 ∧ az_bit x = true ∧ decode cc pc = .ok (.bastore, 1))) (kk : az_MS p l e R s m args below meth c D nL z0 h0 Q (pc + 1) ls rest (hz, hS, az_up hM q i.toNatClampNeg x, hw)) : az_MS p l e R s m args below meth c D nL z0 h0 Q pc ls (.int x :: .int i :: .ref q :: rest) (hz, hS, hM, hw) := by
  intro H locs cells slots la hH hS0 hL h1 h2
  obtain ⟨hx, hb, hml, hown, hts, hK, hTB, -⟩ := X
  have fin : ∀ (hq : q < hz) (e' : va_E) (he : az_e s z0 (hS q) (az_up hM q i.toNatClampNeg x q) e') (H1 : Heap) (locs1 : List Loc), va_at D vwCl (z0 + q, e') H1 → H1.size = H.size → (∀ y : Nat, y ≠ z0 + q → H1[y]? = H[y]?) → az_LL locs locs1 (z0 + q) → W p l e R s m args below meth c H1 locs1 cells slots Q (F0 m (pc + 1) la (rest.map (az_sv z0))) := by
    intro hq e' he H1 locs1 e1 e2 e3 e4
    refine kk H1 locs1 cells slots la (hH.put hq (fun _ _ => rfl) (fun y hy => ?_) he e1 e2 e3) (e4.S hS0 e2 e3 (Nat.le_add_right _ _)) hL h1 h2
    funext j
    simp [az_up, hy]
  rcases hd with ⟨rfl, hd⟩ | ⟨rfl, hbx, hd⟩
  · obtain ⟨hq, cA, hat, hAR⟩ := hH.ari hs
    refine az_wiast hx hb hat hAR (az_in_vp hi) hd (fun H1 locs1 e1 e2 e3 e4 => fin hq _ ?_ H1 locs1 e1 e2 e3 e4)
    rw [hs, az_upd_up]
    exact Or.inr (Or.inl ⟨rfl, cA, rfl, hAR⟩)
  · obtain ⟨hq, cA, hat, hAR⟩ := hH.arz hs
    refine az_wzast hx hb hat hAR (az_bit_nar hbx) (az_in_vp hi) hd (fun H1 locs1 e1 e2 e3 e4 => fin hq _ ?_ H1 locs1 e1 e2 e3 e4)
    rw [hs, az_upd_up]
    exact Or.inr (Or.inr (Or.inl ⟨rfl, cA, rfl, hAR⟩))
theorem az_snd_ald {q ln hz hw : Nat} {hS : Nat → az_Sh} {hM : Nat → Nat → Int32} {rs : List (Option (Option Nat))} {i : Int32} {rest : List Value} (X : az_CX p s m args meth c D nL oi rc cc) (hs : hS q = (11, ln, rs)) (hi : az_in i ln = true) (hd : decode cc pc = .ok (.aaload, 1)) (kk : az_MS p l e R s m args below meth c D nL z0 h0 Q (pc + 1) ls (az_rv (az_nth rs i.toNatClampNeg) :: rest) (hz, hS, hM, hw)) : az_MS p l e R s m args below meth c D nL z0 h0 Q pc ls (.int i :: .ref q :: rest) (hz, hS, hM, hw) := by
  intro H locs cells slots la hH hS0 hL h1 h2
  have k := kk H locs cells slots la hH hS0 hL h1 h2
  obtain ⟨hx, hb, hml, hown, hts, hK, hTB, -⟩ := X
  obtain ⟨-, cA, hat, hAR⟩ := hH.arr hs
  refine va_aldq hx hb (az_K1 hK hAR) (az_P1 hat) 0 0 rfl rfl (az_in_vp hi) hd ?_
  rw [az_rf_rv]
  exact k
theorem az_snd_ast {q v ln hz hw : Nat} {hS : Nat → az_Sh} {hM : Nat → Nat → Int32} {rs : List (Option (Option Nat))} {i : Int32} {rest : List Value} (X : az_CX p s m args meth c D nL oi rc cc) (hs : hS q = (11, ln, rs)) (hi : az_in i ln = true) (hv : (hS v).1 = 6) (hll : rs.length = ln) (hd : decode cc pc = .ok (.aastore, 1)) (kk : az_MS p l e R s m args below meth c D nL z0 h0 Q (pc + 1) ls rest (hz, az_put hS q (11, ln, az_sub rs i.toNatClampNeg (some (some v))), hM, hw)) : az_MS p l e R s m args below meth c D nL z0 h0 Q pc ls (.ref v :: .int i :: .ref q :: rest) (hz, hS, hM, hw) := by
  intro H locs cells slots la hH hS0 hL h1 h2
  obtain ⟨hx, hb, hml, hown, hts, hK, hTB, -⟩ := X
  obtain ⟨hq, cA, hat, hAR⟩ := hH.arr hs
  obtain ⟨-, hatv⟩ := hH.obj (q := v) (b := 6) (ln := (hS v).2.1) (rs := (hS v).2.2) (by rw [← hv]) (by omega)
  obtain ⟨n1, n2⟩ := az_in_nn hi
  refine az_wastq hx hb hK 6 (r := (RX7, TX7, 3)) hat hAR hatv rfl (az_in_vp hi) hd (fun H1 locs1 e1 e2 e3 e4 => ?_)
  refine kk H1 locs1 cells slots la (hH.put hq (fun y hy => ?_) (fun _ _ => rfl) ?_ e1 e2 e3) (e4.S hS0 e2 e3 (Nat.le_add_right _ _)) hL h1 h2
  · simp [az_put, hy]
  · refine Or.inr (Or.inr (Or.inr ⟨by simp [az_put], cA, ?_, hAR⟩))
    simp only [az_put, if_pos]
    have e : va_up (az_rf z0 rs) i.toNatClampNeg (some (z0 + v)) = az_rf z0 (az_sub rs i.toNatClampNeg (some (some v))) := by
      funext j
      unfold va_up az_rf
      rw [az_nth_eq, az_nth_eq, az_sub_eq, List.getElem?_set]
      by_cases hj : j = i.toNatClampNeg
      · subst hj
        simp [hll, n2]
      · rw [if_neg hj, if_neg (fun z => hj z.symm)]
    rw [e]
end STEP2
