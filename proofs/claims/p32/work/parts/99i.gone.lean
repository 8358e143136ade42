/-! THE LAW: isGone -/
section GONE
variable {M W X : az_Mem}
theorem step_vals (hI : IW X) {Z a : Nat} (hZ : X 2 0 = nI Z) (ha : X 24 0 = nI a) (h8 : Z ≤ 8) (haZ : a < Z) : cg_step X 24 0 = nI ((a + 1) % Z) ∧ (X 10 ((a + 1) % Z) = 1 → cg_step X 24 1 = X 24 2) ∧ (X 10 ((a + 1) % Z) = 0 → cg_step X 24 1 = X 24 1 - 1) ∧ cg_step X 24 2 = X 24 2 := by
  have hb : (a + 1) % Z < Z := Nat.mod_lt _ (by omega)
  have en := cg_nextN hZ ha h8 haZ
  have ew : az_rd (X 10) 8 (nI ((a + 1) % Z)) = X 10 ((a + 1) % Z) := az_rdN (by omega) (by decide)
  unfold cg_step cg_step0 cg_pay
  rw [en, ew]
  refine ⟨?_, fun q => ?_, fun q => ?_, ?_⟩
  · split <;> simp [az_up]
  · rw [if_neg (by rw [q]; decide)]
    simp [az_up]
  · rw [if_pos q]
    simp [az_up]
  · split <;> simp [az_up]
theorem LX.step (h : LX X) : LX (cg_step X) := h.tr (by rw [cg_step_row (by decide)]) (by rw [cg_step_row (by decide)]) (by rw [cg_step_row (by decide)]) (cg_step_row (by decide)) (cg_step_row (by decide)) (cg_step_row (by decide)) (cg_step_row (by decide)) (cg_step_row (by decide))
theorem A_goN (W : az_Mem) {n : Nat} (h1 : 1 ≤ n) (h24 : n ≤ 24) : ACT W m_X8_go [.int (nI n)] (if (cg_trav n W).1 = true then (cg_trav n W).2 24 0 else -6) (cg_trav n W).2 := by
  have q := A_go W (nI n)
  have e : cg_go W (nI n) = (if (cg_trav n W).1 = true then (cg_trav n W).2 24 0 else -6, (cg_trav n W).2) := by
    unfold cg_go
    rw [if_neg, nI_clamp (by omega)]
    rintro (c | c)
    · exact absurd c (show ¬ nI n < nI 1 from nI_nlt h1 (by omega))
    · exact c (show nI n ≤ nI 24 from nI_le h24 (by decide))
  rw [e] at q
  exact q
theorem A_goX (W : az_Mem) {n : Int32} (h : n < 1 ∨ ¬ n ≤ 24) : ACT W m_X8_go [.int n] (-2) W := by
  have q := A_go W n
  rw [show cg_go W n = (-2, W) from if_pos h] at q
  exact q
theorem la_isGone (d : Nat) (hM : INVL M) (x : Int32) : LA (d + 8) m_L_isGone [.ref 0, .ref 192, .ref 193, .int x] M := by
  obtain ⟨hR, hI, hX⟩ := inv_w hM
  generalize hWW : cg_cpW M 27 1 = W at hR hI hX
  obtain ⟨Z, a, hZ, ha, h2, h8, haZ⟩ := hI.zn
  obtain ⟨Z', hZ', h4⟩ := hX.zn
  have eZ : Z = Z' := (nI_eq (by omega) (by omega)).mp (hZ.symm.trans hZ')
  subst eZ
  refine LA.of ?_
  have bot : ∀ n : Nat, 1 ≤ n → n ≤ 24 → az_RUN (d + 7) k_L_isGone 23 [some (.ref 0), some (.ref 192), some (.ref 193), some (.int x), none, none, none, none, none] [.int (nI n)] (az_hp M) (fun r1 h1 => r1 = some (.int 1) ∧ ∃ M', INVL M' ∧ h1 = az_hp M') := by
    intro n h1 h24
    have K0 : ∀ (m k : Nat) (w : Int32) (b : Nat), b < Z → k + m = n → (∀ (w b : Int32), az_RUN (d + 7) k_L_isGone 105 [some (.ref 0), some (.ref 192), some (.ref 193), some (.int x), some (.int (nI n)), some (.int w), some (.int b), some (.int 1), some (.int (nI n))] [] (az_hp M) (fun r1 h1 => r1 = some (.int 1) ∧ ∃ M', INVL M' ∧ h1 = az_hp M')) → az_RUN (d + 7) k_L_isGone 41 [some (.ref 0), some (.ref 192), some (.ref 193), some (.int x), some (.int (nI n)), some (.int w), some (.int (nI b)), some (.int 1), some (.int (nI k))] [] (az_hp M) (fun r1 h1 => r1 = some (.int 1) ∧ ∃ M', INVL M' ∧ h1 = az_hp M') := by
      intro m
      induction m with
      | zero =>
        intro k w b hb hk kk
        have e : k = n := by omega
        subst e
        refine az_sgp rfl rfl rfl rfl ?_
        refine az_bra rfl rfl rfl (fun q => ?_) (fun q => ?_)
        · exact kk w (nI b)
        · exact absurd (nI_le (Nat.le_refl _) (by omega)) q
      | succ m ih =>
        intro k w b hb hk kk
        have hb2 : (b + 1) % Z < Z := Nat.mod_lt _ (by omega)
        refine az_sgp rfl rfl rfl rfl ?_
        refine az_bra rfl rfl rfl (fun q0 => ?_) (fun q0 => ?_)
        · exact absurd q0 (nI_ge (by omega) (by omega))
        refine az_sgp rfl rfl rfl rfl ?_
        refine az_ifneT rfl ?_
        refine az_sgp rfl rfl rfl rfl ?_
        refine az_ald rfl rfl (k := 0) (rfl) (by omega) (by decide) (hR.zones.trans hZ) ?_
        refine az_grd rfl rfl rfl ?_ ?_
        · rw [decide_eq_false (nI_ne0 (by omega) (by omega))]
          rfl
        rw [show (bif Nat.beq 32 31 then (nI b + 1) / nI Z else (nI b + 1) - (nI b + 1) / nI Z * nI Z) = nI ((b + 1) % Z) by show (nI b + 1) - (nI b + 1) / nI Z * nI Z = _; rw [nI_1, nI_mod (by omega) (by omega)]]
        refine az_sgp rfl rfl rfl rfl ?_
        refine az_ald rfl rfl (k := 5 * ((b + 1) % Z) + 3) (ix5c ((b + 1) % Z) 3) (by omega) (by decide) (hR.zw (by omega)) ?_
        refine az_sgp rfl rfl rfl rfl ?_
        refine az_bra rfl rfl rfl (fun q => ?_) (fun q => ?_)
        · refine az_sgp rfl rfl rfl rfl ?_
          refine az_ald rfl rfl (k := 4) (rfl) (by omega) (by decide) (hR.skin) ?_
          refine az_sgp rfl rfl rfl rfl ?_
          refine az_sg 1 rfl ?_
          have i1 := ih (k + 1) (W 24 2) _ hb2 (by omega) kk
          rw [← nI_1 k] at i1
          exact i1
        · refine az_sgp rfl rfl rfl rfl ?_
          refine az_sg 1 rfl ?_
          have i1 := ih (k + 1) (w - 1) _ hb2 (by omega) kk
          rw [← nI_1 k] at i1
          exact i1
    have K1 : ∀ (m k : Nat) (X : az_Mem), k + m = n → IW X → X 10 = W 10 → X 2 = W 2 → X 24 2 = W 24 2 → (∀ (w b : Int32), az_RUN (d + 7) k_L_isGone 105 [some (.ref 0), some (.ref 192), some (.ref 193), some (.int x), some (.int (nI n)), some (.int w), some (.int b), some (.int (if (cg_trav m X).1 = true then 0 else 1)), some (.int (nI n))] [] (az_hp M) (fun r1 h1 => r1 = some (.int 1) ∧ ∃ M', INVL M' ∧ h1 = az_hp M')) → az_RUN (d + 7) k_L_isGone 41 [some (.ref 0), some (.ref 192), some (.ref 193), some (.int x), some (.int (nI n)), some (.int (X 24 1)), some (.int (X 24 0)), some (.int 0), some (.int (nI k))] [] (az_hp M) (fun r1 h1 => r1 = some (.int 1) ∧ ∃ M', INVL M' ∧ h1 = az_hp M') := by
      intro m
      induction m with
      | zero =>
        intro k X hk iX e10 e2 e24 kk
        have e : k = n := by omega
        subst e
        refine az_sgp rfl rfl rfl rfl ?_
        refine az_bra rfl rfl rfl (fun q => ?_) (fun q => ?_)
        · exact kk _ _
        · exact absurd (nI_le (Nat.le_refl _) (by omega)) q
      | succ m ih =>
        intro k X hk iX e10 e2 e24 kk
        obtain ⟨Y, b, hY, hb, y2, y8, hbY⟩ := iX.zn
        have eY : Y = Z := (nI_eq (by omega) (by omega)).mp (by rw [← hY, e2]; exact hZ)
        subst eY
        obtain ⟨s1, s2, s3, s4⟩ := step_vals iX hY hb y8 hbY
        have hb2 : (b + 1) % Y < Y := Nat.mod_lt _ (by omega)
        generalize hcc : (b + 1) % Y = cc at s1 s2 s3 hb2
        refine az_sgp rfl rfl rfl rfl ?_
        refine az_bra rfl rfl rfl (fun q0 => ?_) (fun q0 => ?_)
        · exact absurd q0 (nI_ge (by omega) (by omega))
        refine az_sgp rfl rfl rfl rfl ?_
        refine az_ifneF rfl ?_
        refine az_sgp rfl rfl rfl rfl ?_
        rw [hb]
        have tr : cg_trav (m + 1) X = if 1 ≤ X 24 1 then cg_trav m (cg_step X) else (false, X) := rfl
        rw [tr] at kk
        obtain ⟨w, sk, hw, hsk, hwk, hk2⟩ := iX.water
        refine az_bra rfl rfl rfl (fun qd => ?_) (fun qd => ?_)
        · -- the caravan is dry
          have nd : ¬ 1 ≤ X 24 1 := by rw [qd]; decide
          rw [if_neg nd] at kk
          refine az_sgp rfl rfl rfl rfl ?_
          refine az_ald rfl rfl (k := 0) (rfl) (by omega) (by decide) (hR.zones.trans hZ) ?_
          refine az_grd rfl rfl rfl ?_ ?_
          · rw [decide_eq_false (nI_ne0 (by omega) (by omega))]
            rfl
          rw [show (bif Nat.beq 32 31 then (nI b + 1) / nI Y else (nI b + 1) - (nI b + 1) / nI Y * nI Y) = nI cc by show (nI b + 1) - (nI b + 1) / nI Y * nI Y = _; rw [nI_1, nI_mod (by omega) (by omega), hcc]]
          refine az_sgp rfl rfl rfl rfl ?_
          refine az_ald rfl rfl (k := 5 * cc + 3) (ix5c cc 3) (by omega) (by decide) (hR.zw (by omega)) ?_
          refine az_sgp rfl rfl rfl rfl ?_
          refine az_bra rfl rfl rfl (fun q => ?_) (fun q => ?_)
          · refine az_sgp rfl rfl rfl rfl ?_
            refine az_ald rfl rfl (k := 4) (rfl) (by omega) (by decide) (hR.skin) ?_
            refine az_sgp rfl rfl rfl rfl ?_
            refine az_sg 1 rfl ?_
            have i1 := K0 m (k + 1) (W 24 2) _ hb2 (by omega) kk
            rw [← nI_1 k] at i1
            exact i1
          · refine az_sgp rfl rfl rfl rfl ?_
            refine az_sg 1 rfl ?_
            have i1 := K0 m (k + 1) (X 24 1 - 1) _ hb2 (by omega) kk
            rw [← nI_1 k] at i1
            exact i1
        · have yd : 1 ≤ X 24 1 := by
            rw [hw] at qd ⊢
            have : w ≠ 0 := fun z => qd (by rw [z]; rfl)
            exact nI_le (a := 1) (by omega) (by omega)
          rw [if_pos yd] at kk
          have i0 := ih (k + 1) (cg_step X) (by omega) (iX.u_step yd) (by rw [cg_step_row (by decide), e10]) (by rw [cg_step_row (by decide), e2]) (by rw [s4, e24]) kk
          refine az_sgp rfl rfl rfl rfl ?_
          refine az_ald rfl rfl (k := 0) (rfl) (by omega) (by decide) (hR.zones.trans hZ) ?_
          refine az_grd rfl rfl rfl ?_ ?_
          · rw [decide_eq_false (nI_ne0 (by omega) (by omega))]
            rfl
          rw [show (bif Nat.beq 32 31 then (nI b + 1) / nI Y else (nI b + 1) - (nI b + 1) / nI Y * nI Y) = nI cc by show (nI b + 1) - (nI b + 1) / nI Y * nI Y = _; rw [nI_1, nI_mod (by omega) (by omega), hcc]]
          refine az_sgp rfl rfl rfl rfl ?_
          refine az_ald rfl rfl (k := 5 * cc + 3) (ix5c cc 3) (by omega) (by decide) (hR.zw (by omega)) ?_
          refine az_sgp rfl rfl rfl rfl ?_
          rw [s1, ← nI_1 k] at i0
          refine az_bra rfl rfl rfl (fun q => ?_) (fun q => ?_)
          · rw [s2 (by rw [e10]; exact q), e24] at i0
            refine az_sgp rfl rfl rfl rfl ?_
            refine az_ald rfl rfl (k := 4) (rfl) (by omega) (by decide) (hR.skin) ?_
            refine az_sgp rfl rfl rfl rfl ?_
            refine az_sg 1 rfl ?_
            exact i0
          · have q10 : X 10 cc = 0 := by
              rcases iX.well cc (by omega) with z | z
              · exact z
              · exact absurd (by rw [← e10]; exact z) q
            rw [s3 q10] at i0
            refine az_sgp rfl rfl rfl rfl ?_
            refine az_sg 1 rfl ?_
            exact i0
    have K2 : ∀ (w b : Int32) (m k : Nat) (X Mx : az_Mem), k + m = n → frL M Mx → LR X Mx → IW X → LX X → (cg_trav m X).1 = true → (∀ M1, frL M M1 → LR (cg_trav m X).2 M1 → IW (cg_trav m X).2 → LX (cg_trav m X).2 → az_RUN (d + 7) k_L_isGone 159 [some (.ref 0), some (.ref 192), some (.ref 193), some (.int x), some (.int (nI n)), some (.int w), some (.int b), some (.int 0), some (.int (nI n))] [] (az_hp M1) (fun r1 h1 => r1 = some (.int 1) ∧ ∃ M', INVL M' ∧ h1 = az_hp M')) → az_RUN (d + 7) k_L_isGone 141 [some (.ref 0), some (.ref 192), some (.ref 193), some (.int x), some (.int (nI n)), some (.int w), some (.int b), some (.int 0), some (.int (nI k))] [] (az_hp Mx) (fun r1 h1 => r1 = some (.int 1) ∧ ∃ M', INVL M' ∧ h1 = az_hp M') := by
      intro w b m
      induction m with
      | zero =>
        intro k X Mx hk fx rx ix lx ht kk
        have e : k = n := by omega
        subst e
        refine az_sgp rfl rfl rfl rfl ?_
        refine az_bra rfl rfl rfl (fun q => ?_) (fun q => ?_)
        · exact kk Mx fx rx ix lx
        · exact absurd (nI_le (Nat.le_refl _) (by omega)) q
      | succ m ih =>
        intro k X Mx hk fx rx ix lx ht kk
        have tr : cg_trav (m + 1) X = if 1 ≤ X 24 1 then cg_trav m (cg_step X) else (false, X) := rfl
        have yd : 1 ≤ X 24 1 := by
          by_cases c : 1 ≤ X 24 1
          · exact c
          · rw [tr, if_neg c] at ht
            cases ht
        rw [tr, if_pos yd] at ht kk
        obtain ⟨M', f', r', x'⟩ := el_step (d + 6) rx ix lx
        refine az_sgp rfl rfl rfl rfl ?_
        refine az_bra rfl rfl rfl (fun q0 => ?_) (fun q0 => ?_)
        · exact absurd q0 (nI_ge (by omega) (by omega))
        refine az_sgp rfl rfl rfl rfl ?_
        refine az_can rfl rfl rfl rfl (x') ?_
        refine az_sgp rfl rfl rfl rfl ?_
        refine az_sg 1 rfl ?_
        have i0 := ih (k + 1) (cg_step X) M' (by omega) (fx.tr f') r' (ix.u_step yd) lx.step ht kk
        rw [← nI_1 k] at i0
        exact i0
    have hA := A_goN W h1 h24
    rw [← hWW] at hA
    refine az_sgp rfl rfl rfl rfl ?_
    refine az_ald rfl rfl (k := 3) (rfl) (by omega) (by decide) (hR.water) ?_
    refine az_sgp rfl rfl rfl rfl ?_
    refine az_ald rfl rfl (k := 2) (rfl) (by omega) (by decide) (hR.at_) ?_
    refine az_sg 5 rfl ?_
    refine K1 n 0 W (by omega) hI rfl rfl rfl (fun w b => ?_)
    by_cases ht : (cg_trav n W).1 = true
    · rw [if_pos ht]
      rw [hWW, if_pos ht] at hA
      refine az_sgp rfl rfl rfl rfl ?_
      refine az_ifeqT rfl ?_
      refine az_sg 2 rfl ?_
      refine K2 w b n 0 W M (by omega) (frL.rf M) hR hI hX ht (fun M1 f1 r1 i1 l1 => ?_)
      obtain ⟨Y, c, hY, hc, y2, y8, hcY⟩ := i1.zn
      rw [← hWW] at hA
      obtain ⟨M2, x2, g2, c2, w2⟩ := act_yes d hM.2.2.2 hA (by rw [hWW, hc]; exact nI_pos (by omega)) f1 (by rw [hWW]; exact i1) (by rw [hWW]; exact l1)
      rw [hWW] at x2 w2
      have iv2 : INVL M2 := inv_close c2 w2 (fun _ _ => rfl) (r1.cr g2)
      obtain ⟨M3, x3, i3⟩ := act_err d iv2 (A_goX (cg_cpW M2 27 1) (n := 0) (Or.inl (by decide))) (by decide)
      refine az_sgp rfl rfl rfl rfl ?_
      refine az_cav rfl rfl rfl rfl (x2) ?_
      refine az_sgp rfl rfl rfl rfl ?_
      refine az_ald rfl rfl (k := 2) (rfl) (by omega) (by decide) ((show _ = (cg_trav n W).2 24 0 by rw [g2 192 (by decide)]; exact r1.at_)) ?_
      refine az_bra rfl rfl rfl (fun q => ?_) (fun q => ?_)
      · refine az_sgp rfl rfl rfl rfl ?_
        refine az_cav rfl rfl rfl rfl (x3) ?_
        refine az_sgp rfl rfl rfl rfl ?_
        refine az_bra rfl rfl rfl (fun q => ?_) (fun q => ?_)
        · refine az_sgp rfl rfl rfl rfl ?_
          refine az_ret rfl rfl rfl rfl ?_
          exact ⟨rfl, M3, i3, rfl⟩
        · exact absurd rfl q
      · exact absurd rfl q
    · rw [if_neg ht]
      rw [hWW, if_neg ht] at hA
      rw [← hWW] at hA
      obtain ⟨M2, x2, i2⟩ := act_err d hM hA (by decide)
      obtain ⟨M3, x3, i3⟩ := act_err d i2 (A_goX (cg_cpW M2 27 1) (n := 25) (Or.inr (by decide))) (by decide)
      refine az_sgp rfl rfl rfl rfl ?_
      refine az_ifeqF rfl ?_
      refine az_sgp rfl rfl rfl rfl ?_
      refine az_cav rfl rfl rfl rfl (x2) ?_
      refine az_sgp rfl rfl rfl rfl ?_
      refine az_bra rfl rfl rfl (fun q => ?_) (fun q => ?_)
      · refine az_sgp rfl rfl rfl rfl ?_
        refine az_cav rfl rfl rfl rfl (x3) ?_
        refine az_sgp rfl rfl rfl rfl ?_
        refine az_bra rfl rfl rfl (fun q => ?_) (fun q => ?_)
        · refine az_sgp rfl rfl rfl rfl ?_
          refine az_ret rfl rfl rfl rfl ?_
          exact ⟨rfl, M3, i3, rfl⟩
        · exact absurd rfl q
      · exact absurd rfl q
  refine az_in0 (code := k_L_isGone) (ls := [some (.ref 0), some (.ref 192), some (.ref 193), some (.int x), none, none, none, none, none]) rfl rfl rfl ?_
  refine az_sgp rfl rfl rfl rfl ?_
  refine az_cav rfl rfl rfl rfl (el_low (d + 6) (x >>> (8 &&& 31)) (n := 3) (by decide) (by decide)) ?_
  refine az_bra rfl rfl rfl (fun q => ?_) (fun q => ?_)
  · refine az_sgp rfl rfl rfl rfl ?_
    refine az_cav rfl rfl rfl rfl (el_low (d + 6) x (n := 24) (by decide) (by decide)) ?_
    have hl := lw_lt x (n := 24) (by decide)
    rw [show (Value.int (nI (lw x 24)) :: Value.int 1 :: ([] : List Value)) = [Value.int (nI (lw x 24)), Value.int (nI 1)] from rfl]
    refine az_sg 1 rfl ?_
    rw [nI_add]
    exact bot (1 + lw x 24) (by omega) (by omega)
  · refine az_sgp rfl rfl rfl rfl ?_
    refine az_cav rfl rfl rfl rfl (el_low (d + 6) x (n := 3) (by decide) (by decide)) ?_
    have hl := lw_lt x (n := 3) (by decide)
    rw [show (Value.int (nI (lw x 3)) :: Value.int 1 :: ([] : List Value)) = [Value.int (nI (lw x 3)), Value.int (nI 1)] from rfl]
    refine az_sg 1 rfl ?_
    rw [nI_add]
    exact bot (1 + lw x 3) (by omega) (by omega)
end GONE
