/-! THE LAW: isSet -/
section SET2
variable {M M1 W X N : az_Mem} {a : Int32} {m8 : Nat} {args : List Value}
theorem A_kindX (W : az_Mem) {z k r : Int32} (h : cg_kind W z k = (r, W)) : ACT W m_X8_setKind [.int z, .int k] r W := by
  have q := A_kind W z k
  rw [h] at q
  exact q
theorem cg_kindN {z : Nat} {k : Int32} {Z : Nat} (hZ : W 2 0 = nI Z) (hz : z < Z) (h8 : Z ≤ 8) : cg_kind W (nI z) k = if k < 0 ∨ ¬ k ≤ 2 then (-2, W) else if W 6 z = k then (-5, W) else (W 6 z, az_up W 6 z k) := by
  unfold cg_kind
  rw [if_neg (not_not_intro (show cg_zone W (nI z) from ⟨nI_pos (by omega), by rw [hZ]; exact nI_ge hz (by omega)⟩)), az_rdN (by omega) (by decide), az_wrN (by omega) (by decide)]
theorem cg_swlN {z : Nat} {w : Int32} {Z : Nat} (hZ : W 2 0 = nI Z) (hz : z < Z) (h8 : Z ≤ 8) : cg_swl W (nI z) w Z = if (if W 10 z = 0 then (0 : Int32) else 1) = w then (-5, W) else (nI (cg_nz (cg_well1 W (nI z) w) 10 Z), cg_well1 W (nI z) w) := by
  unfold cg_swl
  rw [if_neg (not_not_intro (show cg_zone W (nI z) from ⟨nI_pos (by omega), by rw [hZ]; exact nI_ge hz (by omega)⟩)), az_rdN (by omega) (by decide)]
theorem A_wellX (W : az_Mem) {w : Int32} (hw : w = 0 ∨ w = 1) {Z : Nat} (hZ : W 2 0 = nI Z) (h8 : Z ≤ 8) : ACT W m_X8_setWell [.int (-1), .int w] (-1) W := by
  have q := A_well W (-1) w hw hZ h8
  have e : cg_swl W (-1) w Z = (-1, W) := by
    unfold cg_swl
    rw [if_pos (fun c => c.1 (by decide))]
  rw [e] at q
  exact q
theorem LX.well1 (h : LX W) (z w : Int32) : LX (cg_well1 W z w) := by
  have e : ∀ (i x : Int32), LX (az_wr W 10 8 i x) := fun i x => by
    unfold az_wr
    split
    · exact h.oth 10 _ _ (by decide)
    · exact h
  unfold cg_well1
  split
  · exact e _ _
  · split
    · exact (e _ _).oth 24 _ _ (by decide)
    · exact e _ _
theorem act_n2 (d : Nat) (hW : cg_cpW M 27 1 = W) (hC : CI M) (hA : ACT W m8 args a N) (ha : a < 0) (h1 : ∀ c, c < 192 → M1 c = M c) (hR : LR W M1) : ∃ M', az_EX (d + 7) m8 (.ref 0 :: args) (az_hp M1) (some (.int a)) (az_hp M') ∧ INVL M' ∧ sW W M' := by
  subst hW
  obtain ⟨M2, x2, g2, c2, w2⟩ := act_no d hC hA ha h1
  exact ⟨M2, x2, inv_close c2 ((sW_cp M).sy.tr w2) (fun _ _ => rfl) (hR.cr g2), (sW_cp M).sy.tr w2⟩
theorem act_e2 (d : Nat) (hM : INVL M) (hA : ACT (cg_cpW M 27 1) m8 args a N) (ha : a < 0) : ∃ M', az_EX (d + 7) m8 (.ref 0 :: args) (az_hp M) (some (.int a)) (az_hp M') ∧ INVL M' ∧ sW M M' := by
  obtain ⟨M2, x2, g2, w2⟩ := act_n2 (M1 := M) d rfl hM.2 hA ha (fun _ _ => rfl) (inv_w hM).1
  exact ⟨M2, x2, g2, (sW_cp M).tr w2⟩
theorem la_isSet (d : Nat) (hM : INVL M) (x : Int32) : LA (d + 9) m_L_isSet [.ref 0, .ref 192, .ref 193, .int x] M := by
  obtain ⟨hR, hI, hX⟩ := inv_w hM
  generalize hWW : cg_cpW M 27 1 = W at hR hI hX
  obtain ⟨Z, a, S, p, hZ, ha, h2, h4Z, haZ, h4, hS, h2S, h6, hp, hpS, hps⟩ := pts hI hX
  refine LA.of (az_in0 (code := k_L_isSet) (ls := [some (.ref 0), some (.ref 192), some (.ref 193), some (.int x), none, none, none, none, none, none]) rfl rfl rfl ?_)
  have hz : lw x Z < Z := lw_lt x (by omega)
  refine az_sgp rfl rfl rfl rfl ?_
  refine az_ald rfl rfl (k := 0) (rfl) (by omega) (by decide) (hR.zones.trans hZ) ?_
  refine az_cav rfl rfl rfl rfl (el_low (d + 7) x (n := Z) (by omega) (by omega)) ?_
  generalize lw x Z = z at hz ⊢
  have hz4 : z < 4 := by omega
  refine az_sgp rfl rfl rfl rfl ?_
  have ht : lw (x >>> (3 &&& 31)) 4 < 4 := lw_lt _ (by decide)
  refine az_cav rfl rfl rfl rfl (el_low (d + 7) (x >>> (3 &&& 31)) (n := 4) (by decide) (by decide)) ?_
  generalize lw (x >>> (3 &&& 31)) 4 = t at ht ⊢
  have dfl : az_RUN (d + 8) k_L_isSet 292 [some (.ref 0), some (.ref 192), some (.ref 193), some (.int x), some (.int (nI z)), none, none, none, none, none] [] (az_hp M) (fun r1 h1 => r1 = some (.int 1) ∧ ∃ M', INVL M' ∧ h1 = az_hp M') := by
    obtain ⟨M2, i2, x2⟩ := la_isBounded d hM (x >>> (5 &&& 31))
    refine az_sgp rfl rfl rfl rfl ?_
    refine az_cav rfl rfl rfl rfl (x2) ?_
    refine az_ret rfl rfl rfl rfl ?_
    exact ⟨rfl, M2, i2, rfl⟩
  refine az_swi rfl rfl rfl ?_
  rcases (show t = 0 ∨ t = 1 ∨ t = 2 ∨ t = 3 by omega) with rfl | rfl | rfl | rfl
  rotate_left 2
  · exact dfl
  · exact dfl
  · -- the kind
    show az_RUN (d + 8) k_L_isSet 44 _ _ _ _
    have hk : lw (x >>> (5 &&& 31)) 3 < 3 := lw_lt _ (by decide)
    refine az_sgp rfl rfl rfl rfl ?_
    refine az_cav rfl rfl rfl rfl (el_low (d + 7) (x >>> (5 &&& 31)) (n := 3) (by decide) (by decide)) ?_
    generalize lw (x >>> (5 &&& 31)) 3 = k at hk ⊢
    have hA := A_kind W (nI z) (nI k)
    have hiw := iw_kind hI (nI z) (nI k)
    have bnd : ¬ (nI k < 0 ∨ ¬ nI k ≤ 2) := by
      rintro (c | c)
      · exact nI_pos (by omega) c
      · exact c (nI_le (b := 2) (by omega) (by decide))
    rw [cg_kindN hZ hz (by omega), if_neg bnd] at hA hiw
    have r1 := hR.m_zk hz4 (nI k)
    have kk : nI k = 0 ∨ nI k = 1 ∨ nI k = 2 := by
      rcases (show k = 0 ∨ k = 1 ∨ k = 2 by omega) with rfl | rfl | rfl
      · exact Or.inl rfl
      · exact Or.inr (Or.inl rfl)
      · exact Or.inr (Or.inr rfl)
    have hh : ¬ W 6 z < 0 := by
      rcases hX.kd z (by omega) with c | c | c <;> rw [c] <;> decide
    have hx : ∃ M2, az_EX (d + 8) m_X8_setKind [.ref 0, .int (nI z), .int (nI k)] (az_hp (az_up M 193 (5 * z + 2) (nI k))) (some (.int (if W 6 z = nI k then -5 else W 6 z))) (az_hp M2) ∧ INVL M2 ∧ M2 2 0 = nI Z := by
      by_cases q : W 6 z = nI k
      · rw [if_pos q] at hA ⊢
        rw [az_up_id q] at r1
        obtain ⟨M2, x2, i2, w2⟩ := act_n2 (M1 := az_up M 193 (5 * z + 2) (nI k)) (d + 1) hWW hM.2 hA (show (-5 : Int32) < 0 by decide) (fun c hc => az_up_row (by omega)) r1
        exact ⟨M2, x2, i2, by rw [← w2 2 0 (by decide)]; exact hZ⟩
      · rw [if_neg q] at hA hiw ⊢
        obtain ⟨M2, x2, g2, c2, w2⟩ := act_y (M1 := az_up M 193 (5 * z + 2) (nI k)) (d + 1) hWW hM.2.2.2 hA hh (fun c hc => az_up_row (by omega)) hiw (hX.kind _ kk)
        exact ⟨M2, x2, inv_close c2 w2 (fun _ _ => rfl) (r1.cr g2), by rw [← w2 2 0 (by decide)]; exact hZ⟩
    obtain ⟨M2, x2, i2, z2⟩ := hx
    obtain ⟨M3, x3, i3, w3⟩ := act_e2 (d + 1) i2 (A_kindX (cg_cpW M2 27 1) (z := nI z) (k := 3) (r := -2) (by rw [cg_kindN (Z := Z) (by rw [← sW_cp M2 2 0 (by decide)]; exact z2) hz (by omega), if_pos (Or.inr (by decide))])) (by decide)
    have z3 : M3 2 0 = nI Z := by rw [← w3 2 0 (by decide)]; exact z2
    obtain ⟨M4, x4, i4, w4⟩ := act_e2 (d + 1) i3 (A_kindX (cg_cpW M3 27 1) (z := nI Z) (k := 3) (r := -1) (by
      unfold cg_kind
      rw [if_pos (fun c => c.2 (by rw [← sW_cp M3 2 0 (by decide), z3]; exact nI_le (Nat.le_refl _) (by omega)))])) (by decide)
    have e98 : az_RUN (d + 8) k_L_isSet 98 [some (.ref 0), some (.ref 192), some (.ref 193), some (.int x), some (.int (nI z)), some (.int (nI k)), some (.int (W 6 z)), none, none, none] [] (az_hp M2) (fun r1 h1 => r1 = some (.int 1) ∧ ∃ M', INVL M' ∧ h1 = az_hp M') := by
      refine az_sgp rfl rfl rfl rfl ?_
      refine az_cav rfl rfl rfl rfl (x3) ?_
      refine az_sgp rfl rfl rfl rfl ?_
      refine az_bra rfl rfl rfl (fun q => ?_) (fun q => ?_)
      · refine az_sgp rfl rfl rfl rfl ?_
        refine az_ald rfl rfl (k := 0) (rfl) (by omega) (by decide) (i3.1.zones.trans z3) ?_
        refine az_sgp rfl rfl rfl rfl ?_
        refine az_cav rfl rfl rfl rfl (x4) ?_
        refine az_sgp rfl rfl rfl rfl ?_
        refine az_bra rfl rfl rfl (fun q => ?_) (fun q => ?_)
        · refine az_sgp rfl rfl rfl rfl ?_
          refine az_ret rfl rfl rfl rfl ?_
          exact ⟨rfl, M4, i4, rfl⟩
        · exact absurd rfl q
      · exact absurd rfl q
    refine az_sgp rfl rfl rfl rfl ?_
    refine az_ald rfl rfl (k := 5 * z + 2) (ix5c z 2) (by omega) (by decide) (hR.zk hz4) ?_
    refine az_sgp rfl rfl rfl rfl ?_
    refine az_ast rfl rfl (k := 5 * z + 2) (ix5c z 2) (by omega) (by decide) ?_
    refine az_sgp rfl rfl rfl rfl ?_
    refine az_cav rfl rfl rfl rfl (x2) ?_
    refine az_sgp rfl rfl rfl rfl ?_
    refine az_bra rfl rfl rfl (fun q => ?_) (fun q => ?_)
    · rw [if_pos q]
      refine az_sgp rfl rfl rfl rfl ?_
      refine az_bra rfl rfl rfl (fun q => ?_) (fun q => ?_)
      · exact e98
      · exact absurd rfl q
    · rw [if_neg q]
      refine az_sgp rfl rfl rfl rfl ?_
      refine az_bra rfl rfl rfl (fun q => ?_) (fun q => ?_)
      · exact e98
      · exact absurd rfl q
  · -- the well
    show az_RUN (d + 8) k_L_isSet 128 _ _ _ _
    have body : ∀ w : Int32, w = 0 ∨ w = 1 → az_RUN (d + 8) k_L_isSet 145 [some (.ref 0), some (.ref 192), some (.ref 193), some (.int x), some (.int (nI z)), none, none, some (.int w), none, none] [] (az_hp M) (fun r1 h1 => r1 = some (.int 1) ∧ ∃ M', INVL M' ∧ h1 = az_hp M') := by
      intro w hw
      have hA := A_well W (nI z) w hw hZ (by omega)
      have hiw := iw_swl hI (nI z) w hw Z
      rw [cg_swlN hZ hz (by omega)] at hA hiw
      have b197 : ¬ (if W 10 z = 0 then (0 : Int32) else 1) = w → az_RUN (d + 8) k_L_isSet 197 [some (.ref 0), some (.ref 192), some (.ref 193), some (.int x), some (.int (nI z)), none, none, some (.int w), none, none] [] (az_hp M) (fun r1 h1 => r1 = some (.int 1) ∧ ∃ M', INVL M' ∧ h1 = az_hp M') := by
        intro qn
        rw [if_neg qn] at hA hiw
        have b240 : ∀ Mx, frL M Mx → LR (cg_well1 W (nI z) w) Mx → az_RUN (d + 8) k_L_isSet 240 [some (.ref 0), some (.ref 192), some (.ref 193), some (.int x), some (.int (nI z)), none, none, some (.int w), none, none] [] (az_hp Mx) (fun r1 h1 => r1 = some (.int 1) ∧ ∃ M', INVL M' ∧ h1 = az_hp M') := by
          intro Mx fx rx
          obtain ⟨M2, x2, g2, c2, w2⟩ := act_y (M1 := Mx) (d + 1) hWW hM.2.2.2 hA (nI_pos (by have := az_cnt_le (fun z_1 => decide (cg_well1 W (nI z) w 10 z_1 ≠ 0)) Z; unfold cg_nz; omega)) fx hiw (hX.well1 _ _)
          have i2 : INVL M2 := inv_close c2 w2 (fun _ _ => rfl) (rx.cr g2)
          have e2 : cg_well1 W (nI z) w 2 = W 2 := by
            unfold cg_well1
            split
            · rw [az_wr_row (by decide)]
            · split
              · rw [az_up_row (by decide), az_wr_row (by decide)]
              · rw [az_wr_row (by decide)]
          generalize cg_well1 W (nI z) w = N at rx hiw x2 e2
          have hZN : Mx 192 0 = nI Z := by
            rw [rx.zones, e2]
            exact hZ
          have KW : ∀ (m k : Nat), k + m = Z → az_RUN (d + 8) k_L_isSet 246 [some (.ref 0), some (.ref 192), some (.ref 193), some (.int x), some (.int (nI z)), none, none, some (.int w), some (.int (nI (az_cnt (fun z => decide (N 10 z ≠ 0)) k))), some (.int (nI k))] [] (az_hp Mx) (fun r1 h1 => r1 = some (.int 1) ∧ ∃ M', INVL M' ∧ h1 = az_hp M') := by
            intro m
            induction m with
            | zero =>
              intro k hk
              have e : k = Z := by omega
              subst e
              refine az_sgp rfl rfl rfl rfl ?_
              refine az_ald rfl rfl (k := 0) (rfl) (by omega) (by decide) (hZN) ?_
              refine az_bra rfl rfl rfl (fun q => ?_) (fun q => ?_)
              rotate_left
              · exact absurd (nI_le (Nat.le_refl _) (by omega)) q
              refine az_sgp rfl rfl rfl rfl ?_
              refine az_cav rfl rfl rfl rfl (x2) ?_
              refine az_sgp rfl rfl rfl rfl ?_
              refine az_bra rfl rfl rfl (fun q => ?_) (fun q => ?_)
              · refine az_sgp rfl rfl rfl rfl ?_
                refine az_ret rfl rfl rfl rfl ?_
                exact ⟨rfl, M2, i2, rfl⟩
              · exact absurd rfl q
            | succ m ih =>
              intro k hk
              refine az_sgp rfl rfl rfl rfl ?_
              refine az_ald rfl rfl (k := 0) (rfl) (by omega) (by decide) (hZN) ?_
              refine az_bra rfl rfl rfl (fun q0 => ?_) (fun q0 => ?_)
              · exact absurd q0 (nI_ge (by omega) (by omega))
              refine az_sgp rfl rfl rfl rfl ?_
              refine az_ald rfl rfl (k := 5 * k + 3) (ix5c k 3) (by omega) (by decide) (rx.zw (by omega)) ?_
              have i1 := ih (k + 1) (by omega)
              rw [← nI_1 k] at i1
              rcases (show N 10 k = 0 ∨ N 10 k = 1 from hiw.well k (by omega)) with q | q
              · rw [q]
                have e : az_cnt (fun z => decide (N 10 z ≠ 0)) (k + 1) = az_cnt (fun z => decide (N 10 z ≠ 0)) k + 0 := by
                  show az_cnt _ k + (if decide (N 10 k ≠ 0) = true then 1 else 0) = _
                  rw [if_neg (by simp [q])]
                rw [e, ← nI_add] at i1
                refine az_sgp rfl rfl rfl rfl ?_
                refine az_sg 1 rfl ?_
                exact i1
              · rw [q]
                have e : az_cnt (fun z => decide (N 10 z ≠ 0)) (k + 1) = az_cnt (fun z => decide (N 10 z ≠ 0)) k + 1 := by
                  show az_cnt _ k + (if decide (N 10 k ≠ 0) = true then 1 else 0) = _
                  rw [if_pos (by simp [q])]
                rw [e, ← nI_1] at i1
                refine az_sgp rfl rfl rfl rfl ?_
                refine az_sg 1 rfl ?_
                exact i1
          refine az_sg 4 rfl ?_
          exact KW Z 0 (by omega)
        have r1 := hR.m_zw hz4 w
        rcases hw with rfl | rfl
        · have ew : cg_well1 W (nI z) 0 = az_up W 10 z 0 := by
            unfold cg_well1
            rw [if_pos rfl, az_wrN (by omega) (by decide)]
          rw [ew] at b240
          have r2 := r1.m_water (W 24 1)
          rw [az_up_id (show az_up W 10 z 0 24 1 = W 24 1 from rfl)] at r2
          refine az_sgp rfl rfl rfl rfl ?_
          refine az_ifeqT rfl ?_
          refine az_sgp rfl rfl rfl rfl ?_
          refine az_ast rfl rfl (k := 5 * z + 3) (ix5c z 3) (by omega) (by decide) ?_
          refine az_sgp rfl rfl rfl rfl ?_
          refine az_ifeqT rfl ?_
          refine az_sgp rfl rfl rfl rfl ?_
          refine az_ald rfl rfl (k := 3) (rfl) (by omega) (by decide) ((show _ = W 24 1 from r1.water)) ?_
          refine az_ast rfl rfl (k := 3) (rfl) (by omega) (by decide) ?_
          exact b240 _ (fun c hc => by rw [az_up_row (by omega), az_up_row (by omega)]) r2
        · refine az_sgp rfl rfl rfl rfl ?_
          refine az_ifeqF rfl ?_
          refine az_sgp rfl rfl rfl rfl ?_
          refine az_ast rfl rfl (k := 5 * z + 3) (ix5c z 3) (by omega) (by decide) ?_
          refine az_sgp rfl rfl rfl rfl ?_
          refine az_ifeqF rfl ?_
          refine az_sgp rfl rfl rfl rfl ?_
          refine az_ald rfl rfl (k := 2) (rfl) (by omega) (by decide) ((show _ = nI a from r1.at_.trans ha)) ?_
          refine az_bra rfl rfl rfl (fun qa => ?_) (fun qa => ?_)
          · have ew : cg_well1 W (nI z) 1 = az_up (az_up W 10 z 1) 24 1 (W 24 2) := by
              unfold cg_well1
              rw [if_neg (by decide), ha, if_pos qa, az_wrN (by omega) (by decide)]
            rw [ew] at b240
            have r2 := r1.m_water (W 24 2)
            refine az_sgp rfl rfl rfl rfl ?_
            refine az_ald rfl rfl (k := 4) (rfl) (by omega) (by decide) ((show _ = W 24 2 from r1.skin)) ?_
            refine az_sgp rfl rfl rfl rfl ?_
            refine az_ast rfl rfl (k := 3) (rfl) (by omega) (by decide) ?_
            exact b240 _ (fun c hc => by rw [az_up_row (by omega), az_up_row (by omega)]) r2
          · have ew : cg_well1 W (nI z) 1 = az_up W 10 z 1 := by
              unfold cg_well1
              rw [if_neg (by decide), ha, if_neg qa, az_wrN (by omega) (by decide)]
            rw [ew] at b240
            have r2 := r1.m_water (W 24 1)
            rw [az_up_id (show az_up W 10 z 1 24 1 = W 24 1 from rfl)] at r2
            refine az_sgp rfl rfl rfl rfl ?_
            refine az_ald rfl rfl (k := 3) (rfl) (by omega) (by decide) ((show _ = W 24 1 from r1.water)) ?_
            refine az_ast rfl rfl (k := 3) (rfl) (by omega) (by decide) ?_
            exact b240 _ (fun c hc => by rw [az_up_row (by omega), az_up_row (by omega)]) r2
      have b162 : az_RUN (d + 8) k_L_isSet 162 [some (.ref 0), some (.ref 192), some (.ref 193), some (.int x), some (.int (nI z)), none, none, some (.int w), none, none] [.int (if W 10 z = 0 then 0 else 1)] (az_hp M) (fun r1 h1 => r1 = some (.int 1) ∧ ∃ M', INVL M' ∧ h1 = az_hp M') := by
        refine az_sgp rfl rfl rfl rfl ?_
        refine az_bra rfl rfl rfl (fun q => ?_) (fun q => ?_)
        rotate_left
        · exact b197 q
        rw [if_pos q] at hA
        obtain ⟨M2, x2, i2, w2⟩ := act_n2 (M1 := M) (d + 1) hWW hM.2 hA (show (-5 : Int32) < 0 by decide) (fun _ _ => rfl) hR
        obtain ⟨M3, x3, i3, w3⟩ := act_e2 (d + 1) i2 (A_wellX (cg_cpW M2 27 1) hw (Z := Z) (by rw [← sW_cp M2 2 0 (by decide), ← w2 2 0 (by decide)]; exact hZ) (by omega)) (by decide)
        refine az_sgp rfl rfl rfl rfl ?_
        refine az_cav rfl rfl rfl rfl (x2) ?_
        refine az_sgp rfl rfl rfl rfl ?_
        refine az_bra rfl rfl rfl (fun q => ?_) (fun q => ?_)
        · refine az_sgp rfl rfl rfl rfl ?_
          refine az_cav rfl rfl rfl rfl (x3) ?_
          refine az_sgp rfl rfl rfl rfl ?_
          refine az_bra rfl rfl rfl (fun q => ?_) (fun q => ?_)
          · refine az_sgp rfl rfl rfl rfl ?_
            refine az_ret rfl rfl rfl rfl ?_
            exact ⟨rfl, M3, i3, rfl⟩
          · exact absurd rfl q
        · exact absurd rfl q
      refine az_sgp rfl rfl rfl rfl ?_
      refine az_ald rfl rfl (k := 5 * z + 3) (ix5c z 3) (by omega) (by decide) (hR.zw hz4) ?_
      refine az_sgp rfl rfl rfl rfl ?_
      rcases hI.well z (by omega) with q | q
      · rw [if_pos q] at b162
        refine az_bra rfl rfl rfl (fun q1 => ?_) (fun q1 => ?_)
        · exact absurd (q.symm.trans q1) (by decide)
        · refine az_sg 1 rfl ?_
          exact b162
      · rw [if_neg (by rw [q]; decide)] at b162
        refine az_bra rfl rfl rfl (fun q1 => ?_) (fun q1 => ?_)
        · refine az_sg 2 rfl ?_
          exact b162
        · exact absurd q q1
    have hk : lw (x >>> (5 &&& 31)) 2 < 2 := lw_lt _ (by decide)
    refine az_sgp rfl rfl rfl rfl ?_
    refine az_cav rfl rfl rfl rfl (el_low (d + 7) (x >>> (5 &&& 31)) (n := 2) (by decide) (by decide)) ?_
    refine az_bra rfl rfl rfl (fun q => ?_) (fun q => ?_)
    · refine az_sg 3 rfl ?_
      exact body 1 (Or.inr rfl)
    · refine az_sg 2 rfl ?_
      exact body 0 (Or.inl rfl)
end SET2
