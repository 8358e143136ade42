/-! THE LAW: areZones -/
section ZNS
variable {M : az_Mem}
theorem ofZ_in {Z k : Nat} {w : Int32} {p : Nat} (hZ : M 2 0 = nI Z) (hk : k < Z) (h8 : Z ≤ 8) : cg_ofZ M (nI k) w p = if w = 0 then M 4 k else if w = 1 then nI (cg_cl M (nI k) p) else if w = 2 then nI p - nI (cg_cl M (nI k) p) else if w = 3 then M 6 k else if w = 4 then M 8 k else if w = 5 then M 10 k else if w = 6 then M 12 k else if w = 7 then (if nI k < M 24 0 then nI k - M 24 0 + M 2 0 else nI k - M 24 0) else -2 := by
  unfold cg_ofZ
  rw [if_neg (not_not_intro ⟨nI_pos (by omega), by rw [hZ]; exact nI_ge hk (by omega)⟩), az_rdN (by omega) (by decide), az_rdN (by omega) (by decide), az_rdN (by omega) (by decide), az_rdN (by omega) (by decide), az_rdN (by omega) (by decide)]
theorem q_zone (d : Nat) {k p : Nat} (hp : (k < 8) → M 4 k = nI p) (h12 : p ≤ 12) (h8 : k < 8) (w : Int32) {v : Int32} (e : cg_ofZ M (nI k) w p = v) : az_EX (d + 7) m_X8_zone [.ref 0, .int (nI k), .int w] (az_hp M) (some (.int v)) (az_hp M) := by
  rw [← e]
  exact ec8_zone d (ec_ofZone (M := M) d (fun _ => by rw [az_rdN h8 (by decide)]; exact hp h8) h12)
theorem q_slot (d : Nat) (k i w : Int32) {v : Int32} (e : cg_ofS M k i w = v) : az_EX (d + 7) m_X8_slot [.ref 0, .int k, .int i, .int w] (az_hp M) (some (.int v)) (az_hp M) := by
  rw [← e]
  exact ec8_slot d (ec_ofSlot (M := M) (d + 2) k i w)
theorem ofS_in {Z S k i p : Nat} {w : Int32} (hZ : M 2 0 = nI Z) (hk : k < Z) (h8 : Z ≤ 8) (hS : M 2 1 = nI S) (hi : i < S) (h12 : S ≤ 12) (hp : M 4 k = nI p) (hp12 : p ≤ 12) (hw : ¬ w < 0) (hw2 : w ≤ 2) : cg_ofS M (nI k) (nI i) w = if ¬ i < p then -5 else if w = 0 then M 14 (12 * k + i) else if w = 1 then M 16 (12 * k + i) else if cg_liveB M (nI k) (nI i) = true then 1 else 0 := by
  unfold cg_ofS
  rw [if_neg (not_not_intro ⟨nI_pos (by omega), by rw [hZ]; exact nI_ge hk (by omega)⟩), if_neg (not_not_intro ⟨nI_pos (by omega), by rw [hS]; exact nI_ge hi (by omega)⟩), if_neg hw, if_neg (not_not_intro hw2), az_rdN (by omega) (by decide), hp]
  have a14 : az_rd (M 14) 96 (nI k * 12 + nI i) = M 14 (12 * k + i) := by rw [nI_cell, az_rdN (by omega) (by decide)]
  have a16 : az_rd (M 16) 96 (nI k * 12 + nI i) = M 16 (12 * k + i) := by rw [nI_cell, az_rdN (by omega) (by decide)]
  have e1 : (nI i < nI p) = (i < p) := propext (nI_ltI (by omega) (by omega))
  have e2 : cg_live M (nI k) (nI i) = (cg_liveB M (nI k) (nI i) = true) := propext cg_live_iff.symm
  simp only [e1, e2, a14, a16]
theorem q_count (d : Nat) {Z : Nat} {P : Nat → Nat} (hZ : M 2 0 = nI Z) (h8 : Z ≤ 8) (hP : ∀ z, z < 8 → M 4 z = nI (P z) ∧ P z ≤ 12) (w : Int32) (h12 : ¬ w = 12) (h13 : ¬ w = 13) {v : Int32} (e : cg_all M P Z w = v) : az_EX (d + 7) m_X8_count [.ref 0, .int w] (az_hp M) (some (.int v)) (az_hp M) := by
  have q := ec8_count (M := M) d (w := w) (a := cg_all M P Z w) (fun _ _ => ec_ofAll (M := M) d w hZ h8 (fun i hi => by rw [az_rdN (by omega) (by decide)]; exact hP i (by omega)))
  rw [if_neg h12, if_neg h13, e] at q
  exact q
theorem la_areZones (d : Nat) (hM : INVL M) : az_EX (d + 8) m_L_areZones [.ref 0, .ref 192, .ref 193, .ref 194, .ref 195] (az_hp M) (some (.int 1)) (az_hp M) := by
  obtain ⟨hR, hI, hX, -⟩ := hM
  obtain ⟨Z, a, S, p0, hZ, ha, h2, h4Z, haZ, h4, hS, h2S, h6, -, -, -⟩ := pts hI hX
  obtain ⟨P, hP⟩ : ∃ P : Nat → Nat, ∀ z, z < 8 → M 4 z = nI (P z) ∧ P z ≤ S := by
    refine ⟨fun z => (M 4 z).toNatClampNeg, fun z hz => ?_⟩
    obtain ⟨S', e1, e2, e3, e4⟩ := hI.sl
    obtain ⟨p, e5, e6, -⟩ := e4 z hz
    have eS : S = S' := (nI_eq (by omega) (by omega)).mp (hS.symm.trans e1)
    show M 4 z = nI ((M 4 z).toNatClampNeg) ∧ (M 4 z).toNatClampNeg ≤ S
    rw [e5, nI_clamp (by omega)]
    exact ⟨rfl, by omega⟩
  have hP12 : ∀ z, z < 8 → M 4 z = nI (P z) ∧ P z ≤ 12 := fun z hz => ⟨(hP z hz).1, by have := (hP z hz).2; omega⟩
  have hcl : ∀ z, cg_cl M (nI z) (P z) ≤ P z := fun z => az_cnt_le _ _

  have sW0 : cg_smW M Z 0 0 = nI (sumN P Z) := cg_smW_sum (by omega) hP12 Z 0 (by omega)
  have sL0 : cg_smL M P Z 0 0 = nI (sumN (fun z => cg_cl M (nI z) (P z)) Z) := cg_smL_sum Z 0 (by omega)
  have fin : ∀ v10 v11 v12 v13 : az_V, az_RUN (d + 7) k_L_areZones 377 [some (.ref 0), some (.ref 192), some (.ref 193), some (.ref 194), some (.ref 195), some (.int (nI (cg_nz M 10 Z))), some (.int (nI (cg_nz M 8 Z))), some (.int (nI (sumN P Z))), some (.int (nI (sumN (fun z => cg_cl M (nI z) (P z)) Z))), some (.int (nI Z)), v10, v11, v12, v13] [] (az_hp M) (fun r1 h1 => r1 = some (.int 1) ∧ h1 = az_hp M) := by
    intro v10 v11 v12 v13
    have c0 := q_count d hZ (by omega) hP12 0 (by decide) (by decide) (v := M 2 0) (by unfold cg_all; rw [if_pos rfl])
    have c1 := q_count d hZ (by omega) hP12 1 (by decide) (by decide) (v := M 2 1) (by unfold cg_all; rw [if_neg (by decide), if_pos rfl])
    have c2 := q_count d hZ (by omega) hP12 2 (by decide) (by decide) (v := nI (sumN (fun z => cg_cl M (nI z) (P z)) Z)) (by unfold cg_all; rw [if_neg (by decide), if_neg (by decide), if_pos rfl, sL0])
    have c3 := q_count d hZ (by omega) hP12 3 (by decide) (by decide) (v := nI (sumN P Z) - nI (sumN (fun z => cg_cl M (nI z) (P z)) Z)) (by unfold cg_all; rw [if_neg (by decide), if_neg (by decide), if_neg (by decide), if_pos rfl, sL0, sW0])
    have c4 := q_count d hZ (by omega) hP12 4 (by decide) (by decide) (v := M 2 0 * M 2 1 - nI (sumN P Z)) (by unfold cg_all; rw [if_neg (by decide), if_neg (by decide), if_neg (by decide), if_neg (by decide), if_pos rfl, sW0])
    have c5 := q_count d hZ (by omega) hP12 5 (by decide) (by decide) (v := nI (cg_nz M 8 Z)) (by unfold cg_all; rw [if_neg (by decide), if_neg (by decide), if_neg (by decide), if_neg (by decide), if_neg (by decide), if_pos rfl])
    have c7 := q_count d hZ (by omega) hP12 7 (by decide) (by decide) (v := M 17 0) (by unfold cg_all; rw [if_neg (by decide), if_neg (by decide), if_neg (by decide), if_neg (by decide), if_neg (by decide), if_neg (by decide), if_neg (by decide), if_pos rfl])
    have c8 := q_count d hZ (by omega) hP12 8 (by decide) (by decide) (v := M 2 2) (by unfold cg_all; rw [if_neg (by decide), if_neg (by decide), if_neg (by decide), if_neg (by decide), if_neg (by decide), if_neg (by decide), if_neg (by decide), if_neg (by decide), if_pos rfl])
    have c9 := q_count d hZ (by omega) hP12 9 (by decide) (by decide) (v := M 2 3) (by unfold cg_all; rw [if_neg (by decide), if_neg (by decide), if_neg (by decide), if_neg (by decide), if_neg (by decide), if_neg (by decide), if_neg (by decide), if_neg (by decide), if_neg (by decide), if_pos rfl])
    have c10 := q_count d hZ (by omega) hP12 10 (by decide) (by decide) (v := nI (cg_nz M 10 Z)) (by unfold cg_all; rw [if_neg (by decide), if_neg (by decide), if_neg (by decide), if_neg (by decide), if_neg (by decide), if_neg (by decide), if_neg (by decide), if_neg (by decide), if_neg (by decide), if_neg (by decide), if_pos rfl])
    have c11 := q_count d hZ (by omega) hP12 11 (by decide) (by decide) (v := M 24 7) (by unfold cg_all; rw [if_neg (by decide), if_neg (by decide), if_neg (by decide), if_neg (by decide), if_neg (by decide), if_neg (by decide), if_neg (by decide), if_neg (by decide), if_neg (by decide), if_neg (by decide), if_neg (by decide), if_pos rfl])
    have z1 : az_EX (d + 7) m_X8_zone [.ref 0, .int (M 2 0), .int 0] (az_hp M) (some (.int (-1))) (az_hp M) := by
      have q := q_zone (M := M) d (k := Z) (p := P Z) (fun h => (hP12 Z h).1) (hP12 Z (by omega)).2 (by omega) 0 (v := -1) (by unfold cg_ofZ; rw [if_pos (fun c => c.2 (by rw [hZ]; exact nI_le (Nat.le_refl _) (by omega)))])
      rw [← hZ] at q
      exact q
    have s1 := q_slot (M := M) d 0 (M 2 1) 3 (v := -1) (by
      unfold cg_ofS
      rw [if_neg (not_not_intro ⟨by decide, by rw [hZ]; exact nI_nle (by omega) (by omega)⟩), if_pos (fun c => c.2 (by rw [hS]; exact nI_le (Nat.le_refl _) (by omega)))])
    have s2 := q_slot (M := M) d 0 0 3 (v := -2) (by
      unfold cg_ofS
      rw [if_neg (not_not_intro ⟨by decide, by rw [hZ]; exact nI_nle (by omega) (by omega)⟩), if_neg (not_not_intro ⟨by decide, by rw [hS]; exact nI_nle (by omega) (by omega)⟩), if_neg (by decide), if_pos (by decide)])
    have z2 := q_zone (M := M) d (k := 0) (p := P 0) (fun h => (hP12 0 h).1) (hP12 0 (by omega)).2 (by omega) 8 (v := -2) (by rw [ofZ_in hZ (by omega) (by omega), if_neg (by decide), if_neg (by decide), if_neg (by decide), if_neg (by decide), if_neg (by decide), if_neg (by decide), if_neg (by decide), if_neg (by decide)])
    refine az_sgp rfl rfl rfl rfl ?_
    refine az_cav rfl rfl rfl rfl (c0) ?_
    refine az_sgp rfl rfl rfl rfl ?_
    refine az_ald rfl rfl (k := 0) (rfl) (by omega) (by decide) (hR.zones) ?_
    refine az_bra rfl rfl rfl (fun q => ?_) (fun q => ?_)
    rotate_left
    · exact absurd rfl q
    refine az_sgp rfl rfl rfl rfl ?_
    refine az_cav rfl rfl rfl rfl (c1) ?_
    refine az_sgp rfl rfl rfl rfl ?_
    refine az_ald rfl rfl (k := 1) (rfl) (by omega) (by decide) (hR.slots) ?_
    refine az_bra rfl rfl rfl (fun q => ?_) (fun q => ?_)
    rotate_left
    · exact absurd rfl q
    refine az_sgp rfl rfl rfl rfl ?_
    refine az_cav rfl rfl rfl rfl (c2) ?_
    refine az_sgp rfl rfl rfl rfl ?_
    refine az_bra rfl rfl rfl (fun q => ?_) (fun q => ?_)
    rotate_left
    · exact absurd rfl q
    refine az_sgp rfl rfl rfl rfl ?_
    refine az_cav rfl rfl rfl rfl (c3) ?_
    refine az_sgp rfl rfl rfl rfl ?_
    refine az_bra rfl rfl rfl (fun q => ?_) (fun q => ?_)
    rotate_left
    · exact absurd rfl q
    refine az_sgp rfl rfl rfl rfl ?_
    refine az_cav rfl rfl rfl rfl (c4) ?_
    refine az_sgp rfl rfl rfl rfl ?_
    refine az_ald rfl rfl (k := 0) (rfl) (by omega) (by decide) (hR.zones) ?_
    refine az_sgp rfl rfl rfl rfl ?_
    refine az_ald rfl rfl (k := 1) (rfl) (by omega) (by decide) (hR.slots) ?_
    refine az_sgp rfl rfl rfl rfl ?_
    refine az_bra rfl rfl rfl (fun q => ?_) (fun q => ?_)
    rotate_left
    · exact absurd rfl q
    refine az_sgp rfl rfl rfl rfl ?_
    refine az_cav rfl rfl rfl rfl (c5) ?_
    refine az_sgp rfl rfl rfl rfl ?_
    refine az_bra rfl rfl rfl (fun q => ?_) (fun q => ?_)
    rotate_left
    · exact absurd rfl q
    refine az_sgp rfl rfl rfl rfl ?_
    refine az_cav rfl rfl rfl rfl (c7) ?_
    refine az_sgp rfl rfl rfl rfl ?_
    refine az_ald rfl rfl (k := 6) (rfl) (by omega) (by decide) (hR.bound) ?_
    refine az_bra rfl rfl rfl (fun q => ?_) (fun q => ?_)
    rotate_left
    · exact absurd rfl q
    refine az_sgp rfl rfl rfl rfl ?_
    refine az_cav rfl rfl rfl rfl (c8) ?_
    refine az_sgp rfl rfl rfl rfl ?_
    refine az_ald rfl rfl (k := 7) (rfl) (by omega) (by decide) (hR.mark) ?_
    refine az_bra rfl rfl rfl (fun q => ?_) (fun q => ?_)
    rotate_left
    · exact absurd rfl q
    refine az_sgp rfl rfl rfl rfl ?_
    refine az_ifeqF rfl ?_
    refine az_sgp rfl rfl rfl rfl ?_
    refine az_cav rfl rfl rfl rfl (c9) ?_
    refine az_sgp rfl rfl rfl rfl ?_
    refine az_ald rfl rfl (k := 10) (rfl) (by omega) (by decide) (hR.resets) ?_
    refine az_bra rfl rfl rfl (fun q => ?_) (fun q => ?_)
    rotate_left
    · exact absurd rfl q
    refine az_sgp rfl rfl rfl rfl ?_
    refine az_cav rfl rfl rfl rfl (c10) ?_
    refine az_sgp rfl rfl rfl rfl ?_
    refine az_bra rfl rfl rfl (fun q => ?_) (fun q => ?_)
    rotate_left
    · exact absurd rfl q
    refine az_sgp rfl rfl rfl rfl ?_
    refine az_cav rfl rfl rfl rfl (c11) ?_
    refine az_sgp rfl rfl rfl rfl ?_
    refine az_ald rfl rfl (k := 11) (rfl) (by omega) (by decide) (hR.moved) ?_
    refine az_bra rfl rfl rfl (fun q => ?_) (fun q => ?_)
    rotate_left
    · exact absurd rfl q
    refine az_sgp rfl rfl rfl rfl ?_
    refine az_ald rfl rfl (k := 0) (rfl) (by omega) (by decide) (hR.zones) ?_
    refine az_sgp rfl rfl rfl rfl ?_
    refine az_cav rfl rfl rfl rfl (z1) ?_
    refine az_sgp rfl rfl rfl rfl ?_
    refine az_bra rfl rfl rfl (fun q => ?_) (fun q => ?_)
    rotate_left
    · exact absurd rfl q
    refine az_sgp rfl rfl rfl rfl ?_
    refine az_ald rfl rfl (k := 1) (rfl) (by omega) (by decide) (hR.slots) ?_
    refine az_sgp rfl rfl rfl rfl ?_
    refine az_cav rfl rfl rfl rfl (s1) ?_
    refine az_sgp rfl rfl rfl rfl ?_
    refine az_bra rfl rfl rfl (fun q => ?_) (fun q => ?_)
    rotate_left
    · exact absurd rfl q
    refine az_sgp rfl rfl rfl rfl ?_
    refine az_cav rfl rfl rfl rfl (s2) ?_
    refine az_sgp rfl rfl rfl rfl ?_
    refine az_bra rfl rfl rfl (fun q => ?_) (fun q => ?_)
    rotate_left
    · exact absurd rfl q
    refine az_sgp rfl rfl rfl rfl ?_
    refine az_cav rfl rfl rfl rfl (z2) ?_
    refine az_sgp rfl rfl rfl rfl ?_
    refine az_bra rfl rfl rfl (fun q => ?_) (fun q => ?_)
    rotate_left
    · exact absurd rfl q
    refine az_sgp rfl rfl rfl rfl ?_
    refine az_ret rfl rfl rfl rfl ?_
    exact ⟨rfl, rfl⟩
  have K : ∀ (m k : Nat) (v10 v11 v12 v13 : az_V), k + m = Z → az_RUN (d + 7) k_L_areZones 15 [some (.ref 0), some (.ref 192), some (.ref 193), some (.ref 194), some (.ref 195), some (.int (nI (cg_nz M 10 k))), some (.int (nI (cg_nz M 8 k))), some (.int (nI (sumN P k))), some (.int (nI (sumN (fun z => cg_cl M (nI z) (P z)) k))), some (.int (nI k)), v10, v11, v12, v13] [] (az_hp M) (fun r1 h1 => r1 = some (.int 1) ∧ h1 = az_hp M) := by
    intro m
    induction m with
    | zero =>
      intro k v10 v11 v12 v13 hk
      have e : k = Z := by omega
      subst e
      refine az_sgp rfl rfl rfl rfl ?_
      refine az_ald rfl rfl (k := 0) (rfl) (by omega) (by decide) (hR.zones.trans hZ) ?_
      refine az_bra rfl rfl rfl (fun q => ?_) (fun q => ?_)
      · exact fin v10 v11 v12 v13
      · exact absurd (nI_le (Nat.le_refl _) (by omega)) q
    | succ m ih =>
      intro k v10 v11 v12 v13 hk
      have hkZ : k < Z := by omega
      have hk4 : k < 4 := by omega
      obtain ⟨hp, hpS⟩ := hP k (by omega)
      have hz : ∀ (w : Int32) {v : Int32}, cg_ofZ M (nI k) w (P k) = v → az_EX (d + 7) m_X8_zone [.ref 0, .int (nI k), .int w] (az_hp M) (some (.int v)) (az_hp M) := fun w v e => q_zone d (fun _ => hp) (by omega) (by omega) w e
      have y0 := hz 0 (v := nI (P k)) (by rw [ofZ_in hZ hkZ (by omega), if_pos rfl, hp])
      have y1 := hz 1 (v := nI (cg_cl M (nI k) (P k))) (by rw [ofZ_in hZ hkZ (by omega), if_neg (by decide), if_pos rfl])
      have y2 := hz 2 (v := nI (P k) - nI (cg_cl M (nI k) (P k))) (by rw [ofZ_in hZ hkZ (by omega), if_neg (by decide), if_neg (by decide), if_pos rfl])
      have y3 := hz 3 (v := M 6 k) (by rw [ofZ_in hZ hkZ (by omega), if_neg (by decide), if_neg (by decide), if_neg (by decide), if_pos rfl])
      have y4 := hz 4 (v := M 8 k) (by rw [ofZ_in hZ hkZ (by omega), if_neg (by decide), if_neg (by decide), if_neg (by decide), if_neg (by decide), if_pos rfl])
      have y5 := hz 5 (v := M 10 k) (by rw [ofZ_in hZ hkZ (by omega), if_neg (by decide), if_neg (by decide), if_neg (by decide), if_neg (by decide), if_neg (by decide), if_pos rfl])
      have y6 := hz 6 (v := M 12 k) (by rw [ofZ_in hZ hkZ (by omega), if_neg (by decide), if_neg (by decide), if_neg (by decide), if_neg (by decide), if_neg (by decide), if_neg (by decide), if_pos rfl])
      have y7 := hz 7 (v := nI ((k + Z - a) % Z)) (by rw [ofZ_in hZ hkZ (by omega), if_neg (by decide), if_neg (by decide), if_neg (by decide), if_neg (by decide), if_neg (by decide), if_neg (by decide), if_neg (by decide), if_pos rfl, ha, hZ, nI_steps hkZ haZ (by omega)])
      have b327 : ∀ v11 v12 v13 : az_V, az_RUN (d + 7) k_L_areZones 327 [some (.ref 0), some (.ref 192), some (.ref 193), some (.ref 194), some (.ref 195), some (.int (nI (cg_nz M 10 k))), some (.int (nI (cg_nz M 8 k))), some (.int (nI (sumN P k))), some (.int (nI (sumN (fun z => cg_cl M (nI z) (P z)) k))), some (.int (nI k)), some (.int (nI (cg_cl M (nI k) (P k)))), v11, v12, v13] [] (az_hp M) (fun r1 h1 => r1 = some (.int 1) ∧ h1 = az_hp M) := by
        intro v11 v12 v13
        have i1 := ih (k + 1) (some (.int (nI (cg_cl M (nI k) (P k))))) v11 v12 v13 (by omega)
        have n10 : nI (cg_nz M 10 (k + 1)) = nI (cg_nz M 10 k) + M 10 k := by
          show nI (cg_nz M 10 k + (if decide (M 10 k ≠ 0) = true then 1 else 0)) = _
          rcases hI.well k (by omega) with c | c
          · rw [if_neg (by simp [c]), c]
            exact (nI_add _ 0).symm
          · rw [if_pos (by simp [c]), c]
            exact (nI_add _ 1).symm
        have n8 : nI (cg_nz M 8 (k + 1)) = nI (cg_nz M 8 k) + M 8 k := by
          show nI (cg_nz M 8 k + (if decide (M 8 k ≠ 0) = true then 1 else 0)) = _
          rcases hI.sld k (by omega) with c | c
          · rw [if_neg (by simp [c]), c]
            exact (nI_add _ 0).symm
          · rw [if_pos (by simp [c]), c]
            exact (nI_add _ 1).symm
        have nW : nI (sumN P (k + 1)) = nI (sumN P k) + nI (P k) := (nI_add _ _).symm
        have nL : nI (sumN (fun z => cg_cl M (nI z) (P z)) (k + 1)) = nI (sumN (fun z => cg_cl M (nI z) (P z)) k) + nI (cg_cl M (nI k) (P k)) := (nI_add _ _).symm
        rw [n10, n8, nW, nL, ← nI_1 k] at i1
        refine az_sgp rfl rfl rfl rfl ?_
        refine az_ald rfl rfl (k := 5 * k + 3) (ix5c k 3) (by omega) (by decide) (hR.zw hk4) ?_
        refine az_sgp rfl rfl rfl rfl ?_
        refine az_ald rfl rfl (k := 5 * k + 1) (ix5c k 1) (by omega) (by decide) (hR.zs hk4) ?_
        refine az_sgp rfl rfl rfl rfl ?_
        refine az_ald rfl rfl (k := 5 * k) (ix5 k) (by omega) (by decide) ((hR.zp hk4).trans hp) ?_
        refine az_sgp rfl rfl rfl rfl ?_
        refine az_sg 1 rfl ?_
        exact i1
      have J : ∀ (n i : Nat) (v12 v13 : az_V), i + n = S → az_RUN (d + 7) k_L_areZones 186 [some (.ref 0), some (.ref 192), some (.ref 193), some (.ref 194), some (.ref 195), some (.int (nI (cg_nz M 10 k))), some (.int (nI (cg_nz M 8 k))), some (.int (nI (sumN P k))), some (.int (nI (sumN (fun z => cg_cl M (nI z) (P z)) k))), some (.int (nI k)), some (.int (nI (cg_cl M (nI k) (P k)))), some (.int (nI i)), v12, v13] [] (az_hp M) (fun r1 h1 => r1 = some (.int 1) ∧ h1 = az_hp M) := by
        intro n
        induction n with
        | zero =>
          intro i v12 v13 hi
          have e : i = S := by omega
          subst e
          refine az_sgp rfl rfl rfl rfl ?_
          refine az_ald rfl rfl (k := 1) (rfl) (by omega) (by decide) (hR.slots.trans hS) ?_
          refine az_bra rfl rfl rfl (fun q => ?_) (fun q => ?_)
          · exact b327 _ _ _
          · exact absurd (nI_le (Nat.le_refl _) (by omega)) q
        | succ n ih2 =>
          intro i v12 v13 hi
          have hiS : i < S := by omega
          have hi6 : i < 6 := by omega
          have nx : ∀ x12 x13 : az_V, az_RUN (d + 7) k_L_areZones 321 [some (.ref 0), some (.ref 192), some (.ref 193), some (.ref 194), some (.ref 195), some (.int (nI (cg_nz M 10 k))), some (.int (nI (cg_nz M 8 k))), some (.int (nI (sumN P k))), some (.int (nI (sumN (fun z => cg_cl M (nI z) (P z)) k))), some (.int (nI k)), some (.int (nI (cg_cl M (nI k) (P k)))), some (.int (nI i)), x12, x13] [] (az_hp M) (fun r1 h1 => r1 = some (.int 1) ∧ h1 = az_hp M) := by
            intro x12 x13
            have i1 := ih2 (i + 1) x12 x13 (by omega)
            rw [← nI_1 i] at i1
            refine az_sg 2 rfl ?_
            exact i1
          refine az_sgp rfl rfl rfl rfl ?_
          refine az_ald rfl rfl (k := 1) (rfl) (by omega) (by decide) (hR.slots.trans hS) ?_
          refine az_bra rfl rfl rfl (fun q0 => ?_) (fun q0 => ?_)
          · exact absurd q0 (nI_ge hiS (by omega))
          refine az_sgp rfl rfl rfl rfl ?_
          refine az_ald rfl rfl (k := 5 * k) (ix5 k) (by omega) (by decide) ((hR.zp hk4).trans hp) ?_
          have t0 := ofS_in (M := M) (w := 0) hZ hkZ (by omega) hS hiS (by omega) hp (by omega) (by decide) (by decide)
          have t1 := ofS_in (M := M) (w := 1) hZ hkZ (by omega) hS hiS (by omega) hp (by omega) (by decide) (by decide)
          have t2 := ofS_in (M := M) (w := 2) hZ hkZ (by omega) hS hiS (by omega) hp (by omega) (by decide) (by decide)
          refine az_bra rfl rfl rfl (fun qi => ?_) (fun qi => ?_)
          · -- a free slot
            have hip : ¬ i < P k := by
              rw [nI_leI (by omega) (by omega)] at qi
              omega
            rw [if_pos hip] at t0 t1 t2
            refine az_sgp rfl rfl rfl rfl ?_
            refine az_cav rfl rfl rfl rfl (q_slot d _ _ _ t0) ?_
            refine az_sgp rfl rfl rfl rfl ?_
            refine az_ifeqT rfl ?_
            refine az_sgp rfl rfl rfl rfl ?_
            refine az_bra rfl rfl rfl (fun q => ?_) (fun q => ?_)
            rotate_left
            · exact absurd rfl q
            refine az_sgp rfl rfl rfl rfl ?_
            refine az_cav rfl rfl rfl rfl (q_slot d _ _ _ t1) ?_
            refine az_sgp rfl rfl rfl rfl ?_
            refine az_ifeqT rfl ?_
            refine az_sgp rfl rfl rfl rfl ?_
            refine az_bra rfl rfl rfl (fun q => ?_) (fun q => ?_)
            rotate_left
            · exact absurd rfl q
            refine az_sgp rfl rfl rfl rfl ?_
            refine az_cav rfl rfl rfl rfl (q_slot d _ _ _ t2) ?_
            refine az_sgp rfl rfl rfl rfl ?_
            refine az_ifeqT rfl ?_
            refine az_sgp rfl rfl rfl rfl ?_
            refine az_bra rfl rfl rfl (fun q => ?_) (fun q => ?_)
            · exact nx _ _
            · exact absurd rfl q
          · -- a slot that is written
            have hip : i < P k := by
              rw [nI_leI (by omega) (by omega)] at qi
              omega
            rw [if_neg (not_not_intro hip), if_pos rfl] at t0
            rw [if_neg (not_not_intro hip), if_neg (by decide), if_pos rfl] at t1
            rw [if_neg (not_not_intro hip), if_neg (by decide), if_neg (by decide)] at t2
            refine az_sgp rfl rfl rfl rfl ?_
            refine az_cav rfl rfl rfl rfl (q_slot d _ _ _ t0) ?_
            refine az_sgp rfl rfl rfl rfl ?_
            refine az_ifeqF rfl ?_
            refine az_sgp rfl rfl rfl rfl ?_
            refine az_ald rfl rfl (k := 12 * k + 2 * i) (ix12 k i) (by omega) (by decide) (hR.cl hk4 hi6) ?_
            refine az_sgp rfl rfl rfl rfl ?_
            refine az_bra rfl rfl rfl (fun q => ?_) (fun q => ?_)
            rotate_left
            · exact absurd rfl q
            refine az_sgp rfl rfl rfl rfl ?_
            refine az_cav rfl rfl rfl rfl (q_slot d _ _ _ t1) ?_
            refine az_sgp rfl rfl rfl rfl ?_
            refine az_ifeqF rfl ?_
            refine az_sgp rfl rfl rfl rfl ?_
            refine az_ald rfl rfl (k := 12 * k + 2 * i + 1) (ix12c k i 1) (by omega) (by decide) (hR.cm hk4 hi6) ?_
            refine az_sgp rfl rfl rfl rfl ?_
            refine az_bra rfl rfl rfl (fun q => ?_) (fun q => ?_)
            rotate_left
            · exact absurd rfl q
            refine az_sgp rfl rfl rfl rfl ?_
            refine az_cav rfl rfl rfl rfl (q_slot d _ _ _ t2) ?_
            refine az_sgp rfl rfl rfl rfl ?_
            refine az_ifeqF rfl ?_
            refine az_sgp rfl rfl rfl rfl ?_
            refine az_ca2 rfl rfl rfl rfl (el_isLive (d + 6) hR hX hk4 hi6 hp (by omega)) (fun ql => ?_) (fun ql => ?_)
            · rw [if_pos ql.2]
              refine az_ifeqF rfl ?_
              refine az_sgp rfl rfl rfl rfl ?_
              refine az_bra rfl rfl rfl (fun q => ?_) (fun q => ?_)
              · exact nx _ _
              · exact absurd rfl q
            · rw [if_neg (fun c => ql ⟨hip, c⟩)]
              refine az_ifeqT rfl ?_
              refine az_sgp rfl rfl rfl rfl ?_
              refine az_bra rfl rfl rfl (fun q => ?_) (fun q => ?_)
              · exact nx _ _
              · exact absurd rfl q
      refine az_sgp rfl rfl rfl rfl ?_
      refine az_ald rfl rfl (k := 0) (rfl) (by omega) (by decide) (hR.zones.trans hZ) ?_
      refine az_bra rfl rfl rfl (fun q0 => ?_) (fun q0 => ?_)
      · exact absurd q0 (nI_ge (by omega) (by omega))
      refine az_sgp rfl rfl rfl rfl ?_
      refine az_cav rfl rfl rfl rfl (el_live (d + 5) hR hX hk4 hp (by omega)) ?_
      refine az_sgp rfl rfl rfl rfl ?_
      refine az_cav rfl rfl rfl rfl (y0) ?_
      refine az_sgp rfl rfl rfl rfl ?_
      refine az_ald rfl rfl (k := 5 * k) (ix5 k) (by omega) (by decide) ((hR.zp hk4).trans hp) ?_
      refine az_bra rfl rfl rfl (fun q => ?_) (fun q => ?_)
      rotate_left
      · exact absurd rfl q
      refine az_sgp rfl rfl rfl rfl ?_
      refine az_cav rfl rfl rfl rfl (y1) ?_
      refine az_sgp rfl rfl rfl rfl ?_
      refine az_bra rfl rfl rfl (fun q => ?_) (fun q => ?_)
      rotate_left
      · exact absurd rfl q
      refine az_sgp rfl rfl rfl rfl ?_
      refine az_cav rfl rfl rfl rfl (y2) ?_
      refine az_sgp rfl rfl rfl rfl ?_
      refine az_ald rfl rfl (k := 5 * k) (ix5 k) (by omega) (by decide) ((hR.zp hk4).trans hp) ?_
      refine az_sgp rfl rfl rfl rfl ?_
      refine az_bra rfl rfl rfl (fun q => ?_) (fun q => ?_)
      rotate_left
      · exact absurd rfl q
      refine az_sgp rfl rfl rfl rfl ?_
      refine az_cav rfl rfl rfl rfl (y7) ?_
      refine az_sgp rfl rfl rfl rfl ?_
      refine az_ald rfl rfl (k := 2) (rfl) (by omega) (by decide) (hR.at_.trans ha) ?_
      refine az_sgp rfl rfl rfl rfl ?_
      refine az_ald rfl rfl (k := 0) (rfl) (by omega) (by decide) (hR.zones.trans hZ) ?_
      refine az_sgp rfl rfl rfl rfl ?_
      refine az_ald rfl rfl (k := 0) (rfl) (by omega) (by decide) (hR.zones.trans hZ) ?_
      refine az_grd rfl rfl rfl ?_ ?_
      · rw [decide_eq_false (nI_ne0 (by omega) (by omega))]
        rfl
      have e7 : nI k - nI a + nI Z = nI (k + Z - a) := by
        rw [show nI k - nI a + nI Z = nI k + nI Z - nI a by rw [Int32.sub_eq_add_neg, Int32.sub_eq_add_neg, Int32.add_assoc, Int32.add_comm (-nI a), Int32.add_assoc], nI_add, nI_sub (by omega)]
      rw [show (bif Nat.beq 32 31 then (nI k - nI a + nI Z) / nI Z else (nI k - nI a + nI Z) - (nI k - nI a + nI Z) / nI Z * nI Z) = nI ((k + Z - a) % Z) by show (nI k - nI a + nI Z) - (nI k - nI a + nI Z) / nI Z * nI Z = _; rw [e7, nI_mod (by omega) (by omega)]]
      refine az_bra rfl rfl rfl (fun q => ?_) (fun q => ?_)
      rotate_left
      · exact absurd rfl q
      refine az_sgp rfl rfl rfl rfl ?_
      refine az_cav rfl rfl rfl rfl (y3) ?_
      refine az_sgp rfl rfl rfl rfl ?_
      refine az_ald rfl rfl (k := 5 * k + 2) (ix5c k 2) (by omega) (by decide) (hR.zk hk4) ?_
      refine az_bra rfl rfl rfl (fun q => ?_) (fun q => ?_)
      rotate_left
      · exact absurd rfl q
      refine az_sgp rfl rfl rfl rfl ?_
      refine az_cav rfl rfl rfl rfl (y4) ?_
      refine az_sgp rfl rfl rfl rfl ?_
      refine az_ald rfl rfl (k := 5 * k + 1) (ix5c k 1) (by omega) (by decide) (hR.zs hk4) ?_
      refine az_bra rfl rfl rfl (fun q => ?_) (fun q => ?_)
      rotate_left
      · exact absurd rfl q
      refine az_sgp rfl rfl rfl rfl ?_
      refine az_cav rfl rfl rfl rfl (y5) ?_
      refine az_sgp rfl rfl rfl rfl ?_
      refine az_ald rfl rfl (k := 5 * k + 3) (ix5c k 3) (by omega) (by decide) (hR.zw hk4) ?_
      refine az_bra rfl rfl rfl (fun q => ?_) (fun q => ?_)
      rotate_left
      · exact absurd rfl q
      refine az_sgp rfl rfl rfl rfl ?_
      refine az_cav rfl rfl rfl rfl (y6) ?_
      refine az_sgp rfl rfl rfl rfl ?_
      refine az_ald rfl rfl (k := 5 * k + 4) (ix5c k 4) (by omega) (by decide) (hR.zr hk4) ?_
      refine az_bra rfl rfl rfl (fun q => ?_) (fun q => ?_)
      rotate_left
      · exact absurd rfl q
      refine az_sg 2 rfl ?_
      exact J S 0 _ _ (by omega)
  refine az_EX.of (az_in0 (code := k_L_areZones) (ls := [some (.ref 0), some (.ref 192), some (.ref 193), some (.ref 194), some (.ref 195), none, none, none, none, none, none, none, none, none]) rfl rfl rfl ?_)
  refine az_sg 10 rfl ?_
  exact K Z 0 none none none none (by omega)
end ZNS
