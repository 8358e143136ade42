/-! REFERENCE: setWell, set, dusk -/
section REFR
variable {M M1 N W : az_Mem} {a : Int32} {n : Nat}
theorem ex_wells (d : Nat) (hR : RR W (M 193)) (hw : ∀ z, z < 8 → W 10 z = 0 ∨ W 10 z = 1) {Z : Nat} (hZ : W 2 0 = nI Z) (h8 : Z ≤ 8) : az_EX (d + 2) m_X9_wells [.ref 192] (az_hp M) (some (.int (nI (cg_nz W 10 Z)))) (az_hp M) := by
  have K : ∀ (m i : Nat), i + m = Z → az_RUN (d + 1) k_X9_wells 4 [some (.ref 192), some (.int (nI (cg_nz W 10 i))), some (.int (nI i))] [] (az_hp M) (fun r1 h1 => r1 = some (.int (nI (cg_nz W 10 Z))) ∧ h1 = az_hp M) := by
    intro m
    induction m with
    | zero =>
      intro i hs
      have ei : i = Z := (by omega)
      subst ei
      refine az_sgp rfl rfl rfl rfl ?_
      refine az_ald rfl rfl (k := 0) rfl (by decide) (by decide) (hR.zones.trans hZ) ?_
      refine az_bra rfl rfl rfl (fun q => ?_) (fun q => ?_)
      · refine az_sgp rfl rfl rfl rfl ?_
        refine az_ret rfl rfl rfl rfl ?_
        exact ⟨rfl, rfl⟩
      · exact absurd (nI_le (by omega) (by omega)) q
    | succ m ih =>
      intro i hs
      refine az_sgp rfl rfl rfl rfl ?_
      refine az_ald rfl rfl (k := 0) rfl (by decide) (by decide) (hR.zones.trans hZ) ?_
      refine az_bra rfl rfl rfl (fun q => ?_) (fun q => ?_)
      · exact absurd q (nI_ge (by omega) (by omega))
      refine az_sgp rfl rfl rfl rfl ?_
      refine az_cav rfl rfl rfl rfl (ex_ofZone d (z := i) (w := 3) rfl rfl (by omega) (hR.zw i (by omega))) ?_
      refine az_sg 4 rfl ?_
      have e : nI (cg_nz W 10 i) + W 10 i = nI (cg_nz W 10 (i + 1)) := by
        show _ = nI (cg_nz W 10 i + (if decide (W 10 i ≠ 0) = true then 1 else 0))
        rcases hw i (by omega) with h | h
        · rw [h]
          exact nI_add _ 0
        · rw [h]
          exact nI_add _ 1
      rw [e, nI_1]
      exact ih (i + 1) (by omega)
  refine az_EX.of (az_in0 (code := k_X9_wells) (ls := [some (.ref 192), none, none]) rfl rfl rfl ?_)
  refine az_sg 4 rfl ?_
  exact K Z 0 (by omega)
def cg_swl (W : az_Mem) (z w : Int32) (Z : Nat) : Int32 × az_Mem := if ¬ cg_zone W z then (-1, W) else if (if az_rd (W 10) 8 z = 0 then (0 : Int32) else 1) = w then (-5, W) else (nI (cg_nz (cg_well1 W z w) 10 Z), cg_well1 W z w)
theorem ec_swl (d : Nat) (z w : Int32) (hw : w = 0 ∨ w = 1) {Z : Nat} (hZ : W 2 0 = nI Z) (hZ8 : Z ≤ 8) : az_EX (d + 5) m_X7_changeWell [.ref 1, .int z, .int w] (az_hp W) (some (.int (cg_swl W z w Z).1)) (az_hp (cg_swl W z w Z).2) := by
  have h := ec_changeWell (M := W) d z w hw hZ hZ8
  have e1 : (cg_swl W z w Z).1 = (if ¬ cg_zone W z then -1 else if (if az_rd (W 10) 8 z = 0 then (0 : Int32) else 1) = w then -5 else nI (cg_nz (cg_well1 W z w) 10 Z)) := by
    unfold cg_swl
    by_cases c1 : cg_zone W z
    · have n1 : ¬ ¬ cg_zone W z := fun c => c c1
      rw [if_neg n1, if_neg n1]
      by_cases c2 : (if az_rd (W 10) 8 z = 0 then (0 : Int32) else 1) = w
      · rw [if_pos c2, if_pos c2]
      · rw [if_neg c2, if_neg c2]
    · rw [if_pos c1, if_pos c1]
  have e2 : (cg_swl W z w Z).2 = (if ¬ cg_zone W z then W else if (if az_rd (W 10) 8 z = 0 then (0 : Int32) else 1) = w then W else cg_well1 W z w) := by
    unfold cg_swl
    by_cases c1 : cg_zone W z
    · have n1 : ¬ ¬ cg_zone W z := fun c => c c1
      rw [if_neg n1, if_neg n1]
      by_cases c2 : (if az_rd (W 10) 8 z = 0 then (0 : Int32) else 1) = w
      · rw [if_pos c2, if_pos c2]
      · rw [if_neg c2, if_neg c2]
    · rw [if_pos c1, if_pos c1]
  rw [e1, e2]
  exact h
theorem iw_swl (hI : IW W) (z w : Int32) (hw : w = 0 ∨ w = 1) (Z : Nat) : IW (cg_swl W z w Z).2 := by
  have i1 : ∀ x : Int32, (x = 0 ∨ x = 1) → IW (az_wr W 10 8 z x) := by
    intro x hx
    unfold az_wr
    split
    · exact hI.u_well hx
    · exact hI
  have e : az_wr W 10 8 z 1 24 2 = W 24 2 := by rw [az_wr_row (by decide)]
  have i2 : IW (cg_well1 W z w) := by
    unfold cg_well1
    split
    · exact i1 0 (Or.inl rfl)
    · split
      · have := (i1 1 (Or.inr rfl)).u_full
        rw [e] at this
        exact this
      · exact i1 1 (Or.inr rfl)
  unfold cg_swl
  by_cases c1 : cg_zone W z
  · have n1 : ¬ ¬ cg_zone W z := fun c => c c1
    rw [if_neg n1]
    by_cases c2 : (if az_rd (W 10) 8 z = 0 then (0 : Int32) else 1) = w
    · rw [if_pos c2]
      exact hI
    · rw [if_neg c2]
      exact i2
  · rw [if_pos c1]
    exact hI
theorem ex9_setWell (d : Nat) (hR : RR W (M1 193)) (hI : IW W) (hn : M1 192 6 = nI n) (h4 : n ≤ 4) (z w : Int32) (hw : w = 0 ∨ w = 1) {Z : Nat} (hZ : W 2 0 = nI Z) (hZ8 : Z ≤ 8) : ∃ M4, az_EX (d + 6) m_X9_setWell [.ref 192, .int z, .int w] (az_hp M1) (some (.int (cg_swl W z w Z).1)) (az_hp M4) ∧ PF M1 (cg_swl W z w Z).2 (cg_swl W z w Z).1 n M4 := by
  obtain ⟨Z', a, hZ', ha, h2, h8, haZ⟩ := hI.zn
  have eZ : Z' = Z := by
    rw [hZ', nI_eq (by omega) (by omega)] at hZ
    exact hZ
  subst eZ
  have r2 := ex_start hR
  have hz : cg_zone W z ↔ ∃ j, j < Z' ∧ z = nI j := ix_iff hZ (by omega)
  by_cases c1 : ∃ j, j < Z' ∧ z = nI j
  case neg =>
    have e : cg_swl W z w Z' = (-1, W) := if_pos (fun c => c1 (hz.mp c))
    rw [e]
    refine ⟨rg_as M1, ?_, pf_early (show (-1 : Int32) < 0 by decide)⟩
    refine az_EX.of (az_in0 (code := k_X9_setWell) (ls := [some (.ref 192), some (.int z), some (.int w)]) rfl rfl rfl ?_)
    refine az_sgp rfl rfl rfl rfl ?_
    refine az_can rfl rfl rfl rfl (ex_aside (d + 4)) ?_
    refine az_sgp rfl rfl rfl rfl ?_
    refine az_cav rfl rfl rfl rfl ((ex_isZone (d + 3) z (r2.zones.trans hZ) (by omega) h8).2 c1) ?_
    (with_reducible apply az_ifneF); rfl
    refine az_sgp rfl rfl rfl rfl ?_
    refine az_ret rfl rfl rfl rfl ?_
    exact ⟨rfl, rfl⟩
  obtain ⟨j, hj, rfl⟩ := c1
  have j8 : j < 8 := by omega
  have e : cg_swl W (nI j) w Z' = if W 10 j = w then (-5, W) else (nI (cg_nz (cg_well1 W (nI j) w) 10 Z'), cg_well1 W (nI j) w) := by
    unfold cg_swl
    rw [if_neg (fun c => c (hz.mpr ⟨j, hj, rfl⟩)), az_rdN j8 (by decide)]
    have : (if W 10 j = 0 then (0 : Int32) else 1) = W 10 j := by
      rcases hI.well j j8 with h | h <;> rw [h] <;> rfl
    rw [this]
  rw [e]
  -- up to the comparison
  have main : ∀ Q, (W 10 j = w → Q (some (.int (-5))) (az_hp (rg_as M1))) → (¬ W 10 j = w → az_RUN (d + 5) k_X9_setWell 36 [some (.ref 192), some (.int (nI j)), some (.int w)] [] (az_hp (rg_as M1)) Q) → az_EV (d + 6) m_X9_setWell [.ref 192, .int (nI j), .int w] (az_hp M1) Q := by
    intro Q k1 k2
    refine az_in0 (code := k_X9_setWell) (ls := [some (.ref 192), some (.int (nI j)), some (.int w)]) rfl rfl rfl ?_
    refine az_sgp rfl rfl rfl rfl ?_
    refine az_can rfl rfl rfl rfl (ex_aside (d + 4)) ?_
    refine az_sgp rfl rfl rfl rfl ?_
    refine az_cav rfl rfl rfl rfl ((ex_isZone (d + 3) (nI j) (r2.zones.trans hZ) (by omega) h8).1 ⟨j, hj, rfl⟩) ?_
    (with_reducible apply az_ifneT); rfl
    refine az_sgp rfl rfl rfl rfl ?_
    refine az_cav rfl rfl rfl rfl (ex_ofZone (d + 4) (z := j) (w := 3) rfl rfl (by omega) (r2.zw j j8)) ?_
    refine az_sgp rfl rfl rfl rfl ?_
    refine az_bra rfl rfl rfl (fun q => ?_) (fun q => ?_)
    · refine az_sgp rfl rfl rfl rfl ?_
      refine az_bra rfl rfl rfl (fun q2 => ?_) (fun q2 => ?_)
      · refine az_sgp rfl rfl rfl rfl ?_
        refine az_ret rfl rfl rfl rfl ?_
        exact k1 (q.trans q2)
      · exact k2 (fun c => q2 (q.symm.trans c))
    · refine az_sgp rfl rfl rfl rfl ?_
      have q0 := (hI.well j j8).resolve_right q
      refine az_bra rfl rfl rfl (fun q2 => ?_) (fun q2 => ?_)
      · refine az_sgp rfl rfl rfl rfl ?_
        refine az_ret rfl rfl rfl rfl ?_
        exact k1 (q0.trans q2)
      · exact k2 (fun c => q2 (q0.symm.trans c))
  by_cases c2 : W 10 j = w
  · rw [if_pos c2]
    exact ⟨rg_as M1, az_EX.of (main _ (fun _ => ⟨rfl, rfl⟩) (fun c => absurd c2 c)), pf_early (show (-5 : Int32) < 0 by decide)⟩
  rw [if_neg c2]
  have i1 := (iw_swl hI (nI j) w hw Z')
  rw [e, if_neg c2] at i1
  have i1 : IW (cg_well1 W (nI j) w) := i1
  have z1 : cg_well1 W (nI j) w 2 0 = nI Z' := by
    unfold cg_well1
    rw [az_wrN j8 (by decide), az_wrN j8 (by decide)]
    split
    · exact hZ
    · split
      · exact hZ
      · exact hZ
  -- the end
  have fin : ∀ M3, fr1 (rg_as M1) M3 → RR (cg_well1 W (nI j) w) (M3 193) → ∃ M4, PF M1 (cg_well1 W (nI j) w) (nI (cg_nz (cg_well1 W (nI j) w) 10 Z')) n M4 ∧ az_RUN (d + 5) k_X9_setWell 69 [some (.ref 192), some (.int (nI j)), some (.int w)] [] (az_hp M3) (fun r1 h1 => r1 = some (.int (nI (cg_nz (cg_well1 W (nI j) w) 10 Z'))) ∧ h1 = az_hp M4) := by
    intro M3 f3 r3
    obtain ⟨M4, e4, p4⟩ := ex_end (M1 := M1) (a := nI (cg_nz (cg_well1 W (nI j) w) 10 Z')) (N := cg_well1 W (nI j) w) (d + 4) hn h4 (fr2.w f3.w) (fun _ => r3)
    refine ⟨M4, p4, ?_⟩
    refine az_sgp rfl rfl rfl rfl ?_
    refine az_cav rfl rfl rfl rfl (ex_wells (d + 3) r3 i1.well z1 h8) ?_
    refine az_cav rfl rfl rfl rfl e4 ?_
    refine az_ret rfl rfl rfl rfl ?_
    exact ⟨rfl, rfl⟩
  rcases hw with rfl | rfl
  · have ew : cg_well1 W (nI j) 0 = az_up W 10 j 0 := by
      unfold cg_well1
      rw [if_pos rfl, az_wrN j8 (by decide)]
    obtain ⟨M4, p4, k4⟩ := fin (az_up (rg_as M1) 193 (19 + 5 * j + 3) 0) ((fr1.rf _).up _ _) (by rw [ew]; exact r2.m_zw j8 0)
    refine ⟨M4, az_EX.of (main _ (fun c => absurd c c2) (fun _ => ?_)), p4⟩
    refine az_sgp rfl rfl rfl rfl ?_
    refine az_ifeqT rfl ?_
    refine az_sgp rfl rfl rfl rfl ?_
    refine az_can rfl rfl rfl rfl (ex_zoneIs (d + 4) (z := j) (w := 3) rfl rfl (by omega)) ?_
    refine az_sgp rfl rfl rfl rfl ?_
    refine az_ifeqT rfl ?_
    exact k4
  · have r3 := r2.m_zw j8 1
    by_cases c3 : j = a
    · subst c3
      have ew : cg_well1 W (nI j) 1 = az_up (az_up W 10 j 1) 24 1 (W 24 2) := by
        unfold cg_well1
        rw [if_neg (by decide), if_pos ha.symm, az_wrN j8 (by decide)]
      obtain ⟨M4, p4, k4⟩ := fin (az_up (az_up (rg_as M1) 193 (19 + 5 * j + 3) 1) 193 3 (W 24 2)) (((fr1.rf _).up _ _).up _ _) (by rw [ew]; exact r3.m_water _)
      refine ⟨M4, az_EX.of (main _ (fun c => absurd c c2) (fun _ => ?_)), p4⟩
      refine az_sgp rfl rfl rfl rfl ?_
      refine az_ifeqF rfl ?_
      refine az_sgp rfl rfl rfl rfl ?_
      refine az_can rfl rfl rfl rfl (ex_zoneIs (d + 4) (z := j) (w := 3) rfl rfl (by omega)) ?_
      refine az_sgp rfl rfl rfl rfl ?_
      refine az_ifeqF rfl ?_
      refine az_sgp rfl rfl rfl rfl ?_
      refine az_ald rfl rfl (k := 2) rfl (by decide) (by decide) (r3.at_.trans ha) ?_
      refine az_bra rfl rfl rfl (fun _ => ?_) (fun q => absurd rfl q)
      refine az_sgp rfl rfl rfl rfl ?_
      refine az_can rfl rfl rfl rfl ((ex_drinkHere (d + 3) r3 (a := j) ha j8).1 (by simp [az_up])) ?_
      exact k4
    · have ew : cg_well1 W (nI j) 1 = az_up W 10 j 1 := by
        unfold cg_well1
        rw [if_neg (by decide), if_neg (by rw [ha, nI_eq (by omega) (by omega)]; exact c3), az_wrN j8 (by decide)]
      obtain ⟨M4, p4, k4⟩ := fin (az_up (rg_as M1) 193 (19 + 5 * j + 3) 1) ((fr1.rf _).up _ _) (by rw [ew]; exact r3)
      refine ⟨M4, az_EX.of (main _ (fun c => absurd c c2) (fun _ => ?_)), p4⟩
      refine az_sgp rfl rfl rfl rfl ?_
      refine az_ifeqF rfl ?_
      refine az_sgp rfl rfl rfl rfl ?_
      refine az_can rfl rfl rfl rfl (ex_zoneIs (d + 4) (z := j) (w := 3) rfl rfl (by omega)) ?_
      refine az_sgp rfl rfl rfl rfl ?_
      refine az_ifeqF rfl ?_
      refine az_sgp rfl rfl rfl rfl ?_
      refine az_ald rfl rfl (k := 2) rfl (by decide) (by decide) (r3.at_.trans ha) ?_
      refine az_bra rfl rfl rfl (fun q => ?_) (fun _ => ?_)
      · rw [nI_eq (by omega) (by omega)] at q
        exact absurd q c3
      exact k4
theorem cg_coolS (W : az_Mem) (i : Nat) (h : i < 40) : az_up (cg_cool W i) 23 i (W 23 i / 2) = cg_cool W (i + 1) := by
  funext c j
  simp only [az_up, cg_cool]
  by_cases h1 : c = 23
  · subst h1
    by_cases h2 : j = i
    · subst h2
      rw [if_pos ⟨rfl, rfl⟩, if_pos ⟨rfl, by omega⟩]
    · rw [if_neg (by omega)]
      by_cases h3 : j < i
      · rw [if_pos ⟨rfl, h3⟩, if_pos ⟨rfl, by omega⟩]
      · rw [if_neg (by omega), if_neg (by omega)]
  · rw [if_neg (by omega), if_neg (by omega), if_neg (by omega)]
theorem iw_cool (hI : IW W) : IW (cg_cool W 40) := by
  refine IW.mk ?_ ?_ (fun z hz => ?_) (fun z hz => ?_) (fun z hz => ?_) (fun z hz => ?_) (fun z hz => ?_) ?_ ?_
  all_goals simp only [cg_cool]
  · exact hI.zn
  · exact hI.sl
  · exact hI.sld z hz
  · exact hI.well z hz
  · exact hI.load z hz
  · exact hI.cell z hz
  · obtain ⟨h, h1, h2⟩ := hI.heat z hz
    refine ⟨h / 2, by omega, ?_⟩
    rw [if_pos (by simp [hz]), h2]
    exact nI_div (b := 2) (by omega) (by decide)
  · exact hI.water
  · exact hI.bag
def cg_dk (W : az_Mem) (i : Nat) : Nat := az_cnt (fun l => decide (W 17 0 ≤ W 23 l) && !decide (W 17 0 ≤ W 23 l / 2)) i
theorem cg_dkS (W : az_Mem) (i : Nat) : cg_dk W (i + 1) = cg_dk W i + (if (decide (W 17 0 ≤ W 23 i) && !decide (W 17 0 ≤ W 23 i / 2)) = true then 1 else 0) := rfl
theorem cg_dkL (hI : IW W) {l : Nat} (hl : l < 40) (h : W 17 0 ≤ W 23 l / 2) : W 17 0 ≤ W 23 l := by
  obtain ⟨x, h1, h2⟩ := hI.heat l hl
  have e : W 23 l / 2 = nI (x / 2) := by
    rw [h2]
    exact nI_div (b := 2) (by omega) (by decide)
  rw [e] at h
  rw [h2]
  exact Int32.le_trans h (nI_le (by omega) (by omega))
def cg_hc (W : az_Mem) (i : Nat) : Nat := az_cnt (fun l => decide (W 17 0 ≤ W 23 l)) i
def cg_hd (W : az_Mem) (i : Nat) : Nat := az_cnt (fun l => decide (W 17 0 ≤ W 23 l / 2)) i
theorem cg_hcS (W : az_Mem) (i : Nat) : cg_hc W (i + 1) = cg_hc W i + (if decide (W 17 0 ≤ W 23 i) = true then 1 else 0) := rfl
theorem cg_hdS (W : az_Mem) (i : Nat) : cg_hd W (i + 1) = cg_hd W i + (if decide (W 17 0 ≤ W 23 i / 2) = true then 1 else 0) := rfl
theorem cg_dkB (hI : IW W) : ∀ i, i ≤ 40 → cg_hc W i = cg_hd W i + cg_dk W i := by
  intro i
  induction i with
  | zero => intro _; rfl
  | succ i ih =>
    intro hi
    rw [cg_hcS, cg_hdS, cg_dkS, ih (by omega)]
    have := cg_dkL hI (l := i) (by omega)
    by_cases c1 : W 17 0 ≤ W 23 i <;> by_cases c2 : W 17 0 ≤ W 23 i / 2 <;> simp [c1, c2] at this ⊢ <;> omega
theorem cg_cool23 (W : az_Mem) {k i : Nat} (h : i < k) : cg_cool W k 23 i = W 23 i / 2 := by
  simp only [cg_cool]
  rw [if_pos (by simp; omega)]
theorem cg_cool17 (W : az_Mem) (k : Nat) : cg_cool W k 17 0 = W 17 0 := by
  simp only [cg_cool]
  rw [if_neg (by omega)]
theorem cg_dkC (W : az_Mem) (k : Nat) : ∀ i, i ≤ k → cg_hc (cg_cool W k) i = cg_hd W i := by
  intro i
  induction i with
  | zero => intro _; exact (show cg_hc (cg_cool W k) 0 = 0 from rfl).trans (show 0 = cg_hd W 0 from rfl)
  | succ i ih =>
    intro hi
    rw [cg_hcS, cg_hdS, ih (by omega)]
    have e1 := cg_cool17 W k
    have e2 := cg_cool23 W (k := k) (i := i) (by omega)
    generalize cg_cool W k 17 0 = x at e1 ⊢
    generalize cg_cool W k 23 i = y at e2 ⊢
    subst e1 e2
    rfl
theorem cg_hotC (W : az_Mem) : cg_hot W = cg_hc W 40 := by
  unfold cg_hot cg_hc
  rfl
theorem cg_dkA (hI : IW W) : nI (cg_hot W) - nI (cg_hot (cg_cool W 40)) = nI (cg_dk W 40) := by
  have k := cg_dkB hI 40 (Nat.le_refl 40)
  have k2 := cg_dkC W 40 40 (Nat.le_refl 40)
  rw [cg_hotC, cg_hotC, k2, k]
  generalize cg_hd W 40 = y
  generalize cg_dk W 40 = z
  rw [nI_sub (by omega), Nat.add_sub_cancel_left]
theorem ex9_dusk (d : Nat) (hR : RR W (M1 193)) (hI : IW W) (hn : M1 192 6 = nI n) (h4 : n ≤ 4) : ∃ M4, az_EX (d + 6) m_X9_dusk [.ref 192] (az_hp M1) (some (.int (nI (cg_hot W) - nI (cg_hot (cg_cool W 40))))) (az_hp M4) ∧ PF M1 (cg_cool W 40) (nI (cg_hot W) - nI (cg_hot (cg_cool W 40))) n M4 := by
  have r2 := ex_start hR
  rw [cg_dkA hI]
  have K : ∀ (m i : Nat) (M3 : az_Mem) (v : az_V), i + m = 40 → fr1 (rg_as M1) M3 → RR (cg_cool W i) (M3 193) → ∃ M4, PF M1 (cg_cool W 40) (nI (cg_dk W 40)) n M4 ∧ az_RUN (d + 5) k_X9_dusk 8 [some (.ref 192), some (.int (nI (cg_dk W i))), some (.int (nI i)), v] [] (az_hp M3) (fun r1 h1 => r1 = some (.int (nI (cg_dk W 40))) ∧ h1 = az_hp M4) := by
    intro m
    induction m with
    | zero =>
      intro i M3 v hs f3 r3
      have ei : i = 40 := (by omega)
      subst ei
      obtain ⟨M4, e4, p4⟩ := ex_end (M1 := M1) (a := nI (cg_dk W 40)) (N := cg_cool W 40) (d + 4) hn h4 (fr2.w f3.w) (fun _ => r3)
      refine ⟨M4, p4, ?_⟩
      refine az_sgp rfl rfl rfl rfl ?_
      refine az_bra rfl rfl rfl (fun q => ?_) (fun q => ?_)
      · refine az_sgp rfl rfl rfl rfl ?_
        refine az_cav rfl rfl rfl rfl e4 ?_
        refine az_ret rfl rfl rfl rfl ?_
        exact ⟨rfl, rfl⟩
      · exact absurd (nI_le (a := 40) (b := 40) (by omega) (by omega)) q
    | succ m ih =>
      intro i M3 v hs f3 r3
      have e23 : cg_cool W i 23 i = W 23 i := by
        simp only [cg_cool]
        rw [if_neg (by omega)]
      have e17 : cg_cool W i 17 0 = W 17 0 := rfl
      have r4 := r3.m_lh (q := i) (by omega) (W 23 i / 2)
      rw [cg_coolS W i (by omega)] at r4
      obtain ⟨M4, p4, k4⟩ := ih (i + 1) (az_up M3 193 (251 + 4 * i + 3) (W 23 i / 2)) (some (.int (W 23 i))) (by omega) (f3.up _ _) r4
      refine ⟨M4, p4, ?_⟩
      refine az_sgp rfl rfl rfl rfl ?_
      refine az_bra rfl rfl rfl (fun q => ?_) (fun q => ?_)
      · exact absurd q (nI_ge (a := i) (b := 40) (by omega) (by omega))
      refine az_sgp rfl rfl rfl rfl ?_
      refine az_cav rfl rfl rfl rfl (ex_ofLoad (d + 4) (z := i) (w := 3) rfl rfl (by omega) ((r3.lh i (by omega)).trans e23)) ?_
      refine az_sgp rfl rfl rfl rfl ?_
      refine az_ald rfl rfl (k := 6) rfl (by decide) (by decide) (r3.bound.trans e17) ?_
      have ec := cg_dkS W i
      have last : ∀ x : Int32, nI (cg_dk W i) + x = nI (cg_dk W (i + 1)) → az_RUN (d + 5) k_X9_dusk 51 [some (.ref 192), some (.int (nI (cg_dk W i))), some (.int (nI i)), some (.int (W 23 i))] [.int x, .int (nI (cg_dk W i))] (az_hp M3) (fun r1 h1 => r1 = some (.int (nI (cg_dk W 40))) ∧ h1 = az_hp M4) := by
        intro x hx
        refine az_sgp rfl rfl rfl rfl ?_
        refine az_grd rfl rfl rfl (by decide) ?_
        refine az_can rfl rfl rfl rfl (ex_loadIs (d + 4) (z := i) (w := 3) rfl rfl (by omega)) ?_
        refine az_sg 2 rfl ?_
        rw [hx, nI_1]
        exact k4
      refine az_bra rfl rfl rfl (fun q1 => ?_) (fun q1 => ?_)
      · refine az_sg 1 rfl ?_
        refine last 0 ?_
        rw [ec, if_neg (by simp [Int32.not_le.mpr q1])]
        exact nI_add _ 0
      · refine az_sgp rfl rfl rfl rfl ?_
        refine az_grd rfl rfl rfl (by decide) ?_
        refine az_sgp rfl rfl rfl rfl ?_
        refine az_ald rfl rfl (k := 6) rfl (by decide) (by decide) (r3.bound.trans e17) ?_
        refine az_bra rfl rfl rfl (fun q2 => ?_) (fun q2 => ?_)
        · have q2 : W 17 0 ≤ W 23 i / 2 := q2
          refine az_sg 1 rfl ?_
          refine last 0 ?_
          rw [ec, if_neg (by simp [q2])]
          exact nI_add _ 0
        · have q2 : ¬ W 17 0 ≤ W 23 i / 2 := q2
          refine az_sg 2 rfl ?_
          refine last 1 ?_
          rw [ec, if_pos (by simp [Int32.not_lt.mp q1]; exact Int32.not_le.mp q2)]
          exact nI_add _ 1
  obtain ⟨M4, p4, k4⟩ := K 40 0 (rg_as M1) none (by omega) (fr1.rf _) (by
    have e0 : cg_cool W 0 = W := by
      funext c j
      simp only [cg_cool]
      rw [if_neg (by omega)]
    rw [e0]
    exact r2)
  refine ⟨M4, ?_, p4⟩
  refine az_EX.of (az_in0 (code := k_X9_dusk) (ls := [some (.ref 192), none, none, none]) rfl rfl rfl ?_)
  refine az_sgp rfl rfl rfl rfl ?_
  refine az_can rfl rfl rfl rfl (ex_aside (d + 4)) ?_
  refine az_sg 4 rfl ?_
  exact k4
end REFR
