/-! REFERENCE: lay, setKind, dusk -/
section REFQ
variable {M M1 N W : az_Mem} {a : Int32} {n : Nat}
def rg_fz (M : az_Mem) (k : Nat) : az_Mem := fun c j => if c = 193 ∧ 19 ≤ j ∧ j < 19 + k then 0 else M c j
theorem rg_fzS (M : az_Mem) (k : Nat) : az_up (rg_fz M k) 193 (19 + k) 0 = rg_fz M (k + 1) := by
  funext c j
  simp only [az_up, rg_fz]
  by_cases h1 : c = 193
  · subst h1
    by_cases h2 : j = 19 + k
    · subst h2
      rw [if_pos ⟨rfl, rfl⟩, if_pos ⟨rfl, by omega, by omega⟩]
    · rw [if_neg (by omega)]
      by_cases h3 : 19 ≤ j ∧ j < 19 + k
      · rw [if_pos ⟨rfl, h3⟩, if_pos ⟨rfl, by omega, by omega⟩]
      · rw [if_neg (by omega), if_neg (by omega)]
  · rw [if_neg (by omega), if_neg (by omega), if_neg (by omega)]
theorem ex_layAnew (d : Nat) (z q : Int32) : az_EX (d + 1) m_X9_layAnew [.ref 192, .int z, .int q] (az_hp M) none (az_hp (az_up (rg_fz (az_up (az_up (az_up M 193 0 z) 193 1 q) 193 2 0) 40) 193 22 1)) := by
  have K : ∀ (m i : Nat), i + m = 40 → az_RUN d k_X9_layAnew 24 [some (.ref 192), some (.int z), some (.int q), some (.int (nI (19 + i)))] [] (az_hp (rg_fz (az_up (az_up (az_up M 193 0 z) 193 1 q) 193 2 0) i)) (fun r1 h1 => r1 = none ∧ h1 = az_hp (az_up (rg_fz (az_up (az_up (az_up M 193 0 z) 193 1 q) 193 2 0) 40) 193 22 1)) := by
    intro m
    induction m with
    | zero =>
      intro i hs
      have ei : i = 40 := (by omega)
      subst ei
      refine az_sgp rfl rfl rfl rfl ?_
      refine az_bra rfl rfl rfl (fun q => ?_) (fun q => ?_)
      · refine az_sgp rfl rfl rfl rfl ?_
        refine az_ast rfl rfl (k := 22) rfl (by decide) (by decide) ?_
        refine az_ret rfl rfl rfl rfl ?_
        exact ⟨rfl, rfl⟩
      · exact absurd (nI_le (a := 59) (b := 59) (by omega) (by omega)) q
    | succ m ih =>
      intro i hs
      refine az_sgp rfl rfl rfl rfl ?_
      refine az_bra rfl rfl rfl (fun q => ?_) (fun q => ?_)
      · exact absurd q (nI_ge (a := 19 + i) (b := 59) (by omega) (by omega))
      refine az_sgp rfl rfl rfl rfl ?_
      refine az_ast rfl rfl (k := 19 + i) rfl (by omega) (by decide) ?_
      refine az_sg 2 rfl ?_
      rw [nI_1, rg_fzS]
      exact ih (i + 1) (by omega)
  have e0 : ∀ X : az_Mem, rg_fz X 0 = X := by
    intro X
    funext c j
    simp only [rg_fz]
    rw [if_neg (by omega)]
  refine az_EX.of (az_in0 (code := k_X9_layAnew) (ls := [some (.ref 192), some (.int z), some (.int q), none]) rfl rfl rfl ?_)
  refine az_sgp rfl rfl rfl rfl ?_
  refine az_ast rfl rfl (k := 0) rfl (by decide) (by decide) ?_
  refine az_sgp rfl rfl rfl rfl ?_
  refine az_ast rfl rfl (k := 1) rfl (by decide) (by decide) ?_
  refine az_sgp rfl rfl rfl rfl ?_
  refine az_ast rfl rfl (k := 2) rfl (by decide) (by decide) ?_
  refine az_sg 2 rfl ?_
  have k := K 40 0 (by omega)
  rw [e0] at k
  exact k
theorem cg_layV (z q : Int32) (c j : Nat) : cg_lay W z q c j = if c = 24 ∧ j = 0 then 0 else if c = 12 ∧ j < 8 then 0 else if c = 10 ∧ j = 0 then 1 else if c = 10 ∧ j < 8 then 0 else if c = 8 ∧ j < 8 then 0 else if c = 6 ∧ j < 8 then 0 else if c = 4 ∧ j < 8 then 0 else if c = 2 ∧ j = 1 then q else if c = 2 ∧ j = 0 then z else W c j := by
  unfold cg_lay cg_build
  rw [show (0 : Int32) = nI 0 from rfl, az_wrN (by decide) (by decide)]
  rfl
theorem RR.lay (hR : RR W (M 193)) (z q : Int32) : RR (cg_lay W z q) (az_up (rg_fz (az_up (az_up (az_up M 193 0 z) 193 1 q) 193 2 0) 40) 193 22 1 193) := by
  have hv : ∀ j, az_up (rg_fz (az_up (az_up (az_up M 193 0 z) 193 1 q) 193 2 0) 40) 193 22 1 193 j = if j = 22 then 1 else if 19 ≤ j ∧ j < 59 then 0 else if j = 2 then 0 else if j = 1 then q else if j = 0 then z else M 193 j := by
    intro j
    simp [az_up, rg_fz]
  refine RR.mk ?_ ?_ ?_ ?_ ?_ ?_ ?_ ?_ ?_ ?_ ?_ ?_ ?_ (fun i hi => ?_) (fun i hi => ?_) (fun i hi => ?_) (fun i hi => ?_) (fun i hi => ?_) (fun i hi => ?_) (fun i hi => ?_) (fun i hi => ?_) (fun i hi => ?_) (fun i hi => ?_) (fun i hi => ?_) (fun i hi => ?_)
  all_goals simp only [hv, cg_layV]
  · rfl
  · rfl
  · rfl
  · exact hR.water
  · exact hR.skin
  · exact hR.room
  · exact hR.bound
  · exact hR.mark
  · exact hR.steps
  · exact hR.used
  · exact hR.resets
  · exact hR.moved
  · exact hR.many
  · rw [if_neg (by omega), if_neg (by omega), if_neg (by omega), if_neg (by omega), if_neg (by omega)]
    simp
    exact hR.bag i hi
  · rw [if_neg (by omega), if_pos (by omega)]
    simp [hi]
  · rw [if_neg (by omega), if_pos (by omega)]
    simp [hi]
  · rw [if_neg (by omega), if_pos (by omega)]
    simp [hi]
  · by_cases h : i = 0
    · subst h
      simp
    · rw [if_neg (by omega), if_pos (by omega)]
      simp [hi, h]
  · rw [if_neg (by omega), if_pos (by omega)]
    simp [hi]
  · rw [if_neg (by omega), if_neg (by omega), if_neg (by omega), if_neg (by omega), if_neg (by omega)]
    simp
    exact hR.cl i hi
  · rw [if_neg (by omega), if_neg (by omega), if_neg (by omega), if_neg (by omega), if_neg (by omega)]
    simp
    exact hR.cm i hi
  · rw [if_neg (by omega), if_neg (by omega), if_neg (by omega), if_neg (by omega), if_neg (by omega)]
    simp
    exact hR.lw i hi
  · rw [if_neg (by omega), if_neg (by omega), if_neg (by omega), if_neg (by omega), if_neg (by omega)]
    simp
    exact hR.lh i hi
  · rw [if_neg (by omega), if_neg (by omega), if_neg (by omega), if_neg (by omega), if_neg (by omega)]
    simp
    exact hR.li i hi
  · rw [if_neg (by omega), if_neg (by omega), if_neg (by omega), if_neg (by omega), if_neg (by omega)]
    simp
    exact hR.lp i hi
theorem iw_lay (hI : IW W) {z q : Nat} (h2 : 2 ≤ z) (h8 : z ≤ 8) (g2 : 2 ≤ q) (g12 : q ≤ 12) : IW (cg_lay W (nI z) (nI q)) := by
  refine IW.mk ?_ ?_ (fun z hz => ?_) (fun z hz => ?_) (fun z hz => ?_) (fun z hz => ?_) (fun z hz => ?_) ?_ ?_
  all_goals simp only [cg_layV]
  · exact ⟨z, 0, rfl, rfl, h2, h8, by omega⟩
  · refine ⟨q, rfl, g2, g12, fun k hk => ⟨0, ?_, by omega, fun _ => by omega⟩⟩
    simp [hk]
    rfl
  · exact Or.inl (by simp [hz])
  · by_cases h : z = 0
    · exact Or.inr (by simp [h])
    · exact Or.inl (by simp [h, hz])
  · simp
    exact hI.load z hz
  · simp
    exact hI.cell z hz
  · simp
    exact hI.heat z hz
  · exact hI.water
  · obtain ⟨B, R, e1, e2, e3, e4, e5, e6, e7⟩ := hI.bag
    refine ⟨B, R, e1, e2, e3, e4, ?_, ?_, ?_⟩
    · simp
      exact e5
    · simp
      exact e6
    · simp
      exact e7
theorem ex_start (hR : RR W (M1 193)) : RR W (rg_as M1 193) := by
  rw [rg_as_row (by decide) (by decide)]
  exact hR
theorem ex9_layBad (d : Nat) {z q : Int32} (hb : z < 2 ∨ 8 < z ∨ q < 2 ∨ ¬ q ≤ 12) : ∃ M4, az_EX (d + 6) m_X9_lay [.ref 192, .int z, .int q] (az_hp M1) (some (.int (-2))) (az_hp M4) ∧ PF M1 N (-2) n M4 := by
  refine ⟨rg_as M1, ?_, pf_early (by decide)⟩
  refine az_EX.of (az_in0 (code := k_X9_lay) (ls := [some (.ref 192), some (.int z), some (.int q), none]) rfl rfl rfl ?_)
  refine az_sgp rfl rfl rfl rfl ?_
  refine az_can rfl rfl rfl rfl (ex_aside (d + 4)) ?_
  refine az_sgp rfl rfl rfl rfl ?_
  refine az_ca2 rfl rfl rfl rfl (ex_in (d + 4) z 2 8) (fun c => ?_) (fun c => ?_)
  · (with_reducible apply az_ifeqF); rfl
    refine az_sgp rfl rfl rfl rfl ?_
    refine az_ca2 rfl rfl rfl rfl (ex_in (d + 4) q 2 12) (fun c2 => ?_) (fun c2 => ?_)
    · exfalso
      rcases hb with h | h | h | h
      · exact c.1 h
      · exact c.2 h
      · exact c2.1 h
      · exact h (Int32.not_lt.mp c2.2)
    · (with_reducible apply az_ifneF); rfl
      refine az_sgp rfl rfl rfl rfl ?_
      refine az_ret rfl rfl rfl rfl ?_
      exact ⟨rfl, rfl⟩
  · (with_reducible apply az_ifeqT); rfl
    refine az_sgp rfl rfl rfl rfl ?_
    refine az_ret rfl rfl rfl rfl ?_
    exact ⟨rfl, rfl⟩
theorem ex9_layIn (d : Nat) {z q : Int32} (hb : ¬ (z < 2 ∨ 8 < z ∨ q < 2 ∨ ¬ q ≤ 12)) (hR : RR W (M1 193)) (Q : Option Value → az_H → Prop) (k1 : (∃ j, j < 40 ∧ W 19 j = 1) → Q (some (.int (-4))) (az_hp (rg_as M1))) (k2 : (¬ ∃ j, j < 40 ∧ W 19 j = 1) → az_RUN (d + 5) k_X9_lay 54 [some (.ref 192), some (.int z), some (.int q), some (.int (nI 40))] [] (az_hp (rg_as M1)) Q) : az_EV (d + 6) m_X9_lay [.ref 192, .int z, .int q] (az_hp M1) Q := by
  have r2 := ex_start hR
  have K : ∀ (m i : Nat), i + m = 40 → (¬ ∃ j, j < i ∧ W 19 j = 1) → az_RUN (d + 5) k_X9_lay 29 [some (.ref 192), some (.int z), some (.int q), some (.int (nI i))] [] (az_hp (rg_as M1)) Q := by
    intro m
    induction m with
    | zero =>
      intro i hs hno
      have ei : i = 40 := (by omega)
      subst ei
      refine az_sgp rfl rfl rfl rfl ?_
      refine az_bra rfl rfl rfl (fun q => ?_) (fun q => ?_)
      · exact k2 hno
      · exact absurd (nI_le (a := 40) (b := 40) (by omega) (by omega)) q
    | succ m ih =>
      intro i hs hno
      refine az_sgp rfl rfl rfl rfl ?_
      refine az_bra rfl rfl rfl (fun q => ?_) (fun q => ?_)
      · exact absurd q (nI_ge (a := i) (b := 40) (by omega) (by omega))
      refine az_sgp rfl rfl rfl rfl ?_
      refine az_cav rfl rfl rfl rfl (ex_ofLoad (d + 4) (z := i) (w := 0) rfl rfl (by omega) (r2.lw i (by omega))) ?_
      refine az_sgp rfl rfl rfl rfl ?_
      refine az_bra rfl rfl rfl (fun q => ?_) (fun q => ?_)
      · refine az_sgp rfl rfl rfl rfl ?_
        refine az_ret rfl rfl rfl rfl ?_
        exact k1 ⟨i, by omega, q⟩
      · refine az_sg 2 rfl ?_
        rw [nI_1]
        refine ih (i + 1) (by omega) ?_
        rintro ⟨j, hj, hj2⟩
        by_cases h : j = i
        · exact q (h ▸ hj2)
        · exact hno ⟨j, by omega, hj2⟩
  refine az_in0 (code := k_X9_lay) (ls := [some (.ref 192), some (.int z), some (.int q), none]) rfl rfl rfl ?_
  refine az_sgp rfl rfl rfl rfl ?_
  refine az_can rfl rfl rfl rfl (ex_aside (d + 4)) ?_
  refine az_sgp rfl rfl rfl rfl ?_
  refine az_cav rfl rfl rfl rfl ((ex_in (d + 4) z 2 8).1 ⟨fun c => hb (Or.inl c), fun c => hb (Or.inr (Or.inl c))⟩) ?_
  (with_reducible apply az_ifeqF); rfl
  refine az_sgp rfl rfl rfl rfl ?_
  refine az_cav rfl rfl rfl rfl ((ex_in (d + 4) q 2 12).1 ⟨fun c => hb (Or.inr (Or.inr (Or.inl c))), fun c => hb (Or.inr (Or.inr (Or.inr (Int32.not_le.mpr c))))⟩) ?_
  (with_reducible apply az_ifneT); rfl
  refine az_sg 2 rfl ?_
  exact K 40 0 (by omega) (fun c => by obtain ⟨j, hj, _⟩ := c; omega)
theorem ex9_layNot (d : Nat) {z q : Int32} (hb : ¬ (z < 2 ∨ 8 < z ∨ q < 2 ∨ ¬ q ≤ 12)) (hR : RR W (M1 193)) (h : ∃ j, j < 40 ∧ W 19 j = 1) : ∃ M4, az_EX (d + 6) m_X9_lay [.ref 192, .int z, .int q] (az_hp M1) (some (.int (-4))) (az_hp M4) ∧ PF M1 N (-4) n M4 :=
  ⟨rg_as M1, az_EX.of (ex9_layIn d hb hR _ (fun _ => ⟨rfl, rfl⟩) (fun c => absurd h c)), pf_early (by decide)⟩
theorem ex9_layOK (d : Nat) {z q : Int32} (hb : ¬ (z < 2 ∨ 8 < z ∨ q < 2 ∨ ¬ q ≤ 12)) (hR : RR W (M1 193)) (hn : M1 192 6 = nI n) (h4 : n ≤ 4) (h : ¬ ∃ j, j < 40 ∧ W 19 j = 1) : ∃ M4, az_EX (d + 6) m_X9_lay [.ref 192, .int z, .int q] (az_hp M1) (some (.int (z * q))) (az_hp M4) ∧ PF M1 (cg_lay W z q) (z * q) n M4 := by
  have r2 := (ex_start hR).lay z q
  have f2 : fr3 (rg_as M1) (az_up (rg_fz (az_up (az_up (az_up (rg_as M1) 193 0 z) 193 1 q) 193 2 0) 40) 193 22 1) := by
    have e : ∀ c, c ≠ 193 → az_up (rg_fz (az_up (az_up (az_up (rg_as M1) 193 0 z) 193 1 q) 193 2 0) 40) 193 22 1 c = rg_as M1 c := by
      intro c hc
      funext j
      simp [az_up, rg_fz, hc]
    exact fr2.w (fun c h1 h2 => e c h1)
  obtain ⟨M4, e4, p4⟩ := ex_end (M1 := M1) (a := z * q) (d + 4) hn h4 f2 (fun _ => r2)
  refine ⟨M4, az_EX.of (ex9_layIn d hb hR _ (fun c => absurd c h) (fun _ => ?_)), p4⟩
  refine az_sgp rfl rfl rfl rfl ?_
  refine az_can rfl rfl rfl rfl (ex_layAnew (d + 4) z q) ?_
  refine az_sgp rfl rfl rfl rfl ?_
  refine az_cav rfl rfl rfl rfl e4 ?_
  refine az_ret rfl rfl rfl rfl ?_
  exact ⟨rfl, rfl⟩
theorem ex9_setKind (d : Nat) (hR : RR W (M1 193)) (hI : IW W) (hn : M1 192 6 = nI n) (h4 : n ≤ 4) (z k : Int32) : ∃ M4, az_EX (d + 6) m_X9_setKind [.ref 192, .int z, .int k] (az_hp M1) (some (.int (cg_kind W z k).1)) (az_hp M4) ∧ PF M1 (cg_kind W z k).2 (cg_kind W z k).1 n M4 := by
  obtain ⟨Z, a, hZ, ha, h2, h8, haZ⟩ := hI.zn
  have r2 := ex_start hR
  have hz : cg_zone W z ↔ ∃ j, j < Z ∧ z = nI j := ix_iff hZ (by omega)
  by_cases c1 : ∃ j, j < Z ∧ z = nI j
  case neg =>
    have e : cg_kind W z k = (-1, W) := if_pos (fun c => c1 (hz.mp c))
    rw [e]
    refine ⟨rg_as M1, ?_, pf_early (show (-1 : Int32) < 0 by decide)⟩
    refine az_EX.of (az_in0 (code := k_X9_setKind) (ls := [some (.ref 192), some (.int z), some (.int k), none]) rfl rfl rfl ?_)
    refine az_sgp rfl rfl rfl rfl ?_
    refine az_can rfl rfl rfl rfl (ex_aside (d + 4)) ?_
    refine az_sgp rfl rfl rfl rfl ?_
    refine az_cav rfl rfl rfl rfl ((ex_isZone (d + 3) z (r2.zones.trans hZ) (by omega) h8).2 c1) ?_
    (with_reducible apply az_ifneF); rfl
    refine az_sgp rfl rfl rfl rfl ?_
    refine az_ret rfl rfl rfl rfl ?_
    exact ⟨rfl, rfl⟩
  obtain ⟨j, hj, rfl⟩ := c1
  have j8 : j < 8 := by omega
  have e : cg_kind W (nI j) k = if k < 0 ∨ ¬ k ≤ 2 then (-2, W) else if W 6 j = k then (-5, W) else (W 6 j, az_up W 6 j k) := by
    unfold cg_kind
    rw [if_neg (fun c => c (hz.mpr ⟨j, hj, rfl⟩)), az_rdN j8 (by decide), az_wrN j8 (by decide)]
  rw [e]
  by_cases c2 : k < 0 ∨ ¬ k ≤ 2
  · rw [if_pos c2]
    refine ⟨rg_as M1, ?_, pf_early (show (-2 : Int32) < 0 by decide)⟩
    refine az_EX.of (az_in0 (code := k_X9_setKind) (ls := [some (.ref 192), some (.int (nI j)), some (.int k), none]) rfl rfl rfl ?_)
    refine az_sgp rfl rfl rfl rfl ?_
    refine az_can rfl rfl rfl rfl (ex_aside (d + 4)) ?_
    refine az_sgp rfl rfl rfl rfl ?_
    refine az_cav rfl rfl rfl rfl ((ex_isZone (d + 3) (nI j) (r2.zones.trans hZ) (by omega) h8).1 ⟨j, hj, rfl⟩) ?_
    (with_reducible apply az_ifneT); rfl
    refine az_sgp rfl rfl rfl rfl ?_
    refine az_cav rfl rfl rfl rfl ((ex_in (d + 4) k 0 2).2 (fun q => ?_)) ?_
    · rcases c2 with h | h
      · exact q.1 h
      · exact h (Int32.not_lt.mp q.2)
    (with_reducible apply az_ifneF); rfl
    refine az_sgp rfl rfl rfl rfl ?_
    refine az_ret rfl rfl rfl rfl ?_
    exact ⟨rfl, rfl⟩
  rw [if_neg c2]
  have r3 := r2.m_zk j8 k
  have main : ∀ (aa : Int32) (NN : az_Mem), (W 6 j = k → aa = -5) → (¬ W 6 j = k → aa = W 6 j) → (¬ aa < 0 → RR NN (az_up (rg_as M1) 193 (19 + 5 * j + 2) k 193)) → ∃ M4, az_EX (d + 6) m_X9_setKind [.ref 192, .int (nI j), .int k] (az_hp M1) (some (.int aa)) (az_hp M4) ∧ PF M1 NN aa n M4 := by
    intro aa NN h1 h3 hr
    obtain ⟨M4, e4, p4⟩ := ex_end (M1 := M1) (a := aa) (N := NN) (d + 4) hn h4 (fr2.w (((fr1.rf (rg_as M1)).up (19 + 5 * j + 2) k).w)) hr
    refine ⟨M4, ?_, p4⟩
    refine az_EX.of (az_in0 (code := k_X9_setKind) (ls := [some (.ref 192), some (.int (nI j)), some (.int k), none]) rfl rfl rfl ?_)
    refine az_sgp rfl rfl rfl rfl ?_
    refine az_can rfl rfl rfl rfl (ex_aside (d + 4)) ?_
    refine az_sgp rfl rfl rfl rfl ?_
    refine az_cav rfl rfl rfl rfl ((ex_isZone (d + 3) (nI j) (r2.zones.trans hZ) (by omega) h8).1 ⟨j, hj, rfl⟩) ?_
    (with_reducible apply az_ifneT); rfl
    refine az_sgp rfl rfl rfl rfl ?_
    refine az_cav rfl rfl rfl rfl ((ex_in (d + 4) k 0 2).1 ⟨fun c => c2 (Or.inl c), fun c => c2 (Or.inr (Int32.not_le.mpr c))⟩) ?_
    (with_reducible apply az_ifneT); rfl
    refine az_sgp rfl rfl rfl rfl ?_
    refine az_cav rfl rfl rfl rfl (ex_ofZone (d + 4) (z := j) (w := 2) rfl rfl (by omega) (r2.zk j j8)) ?_
    refine az_sgp rfl rfl rfl rfl ?_
    refine az_can rfl rfl rfl rfl (ex_zoneIs (d + 4) (z := j) (w := 2) rfl rfl (by omega)) ?_
    refine az_sgp rfl rfl rfl rfl ?_
    refine az_bra rfl rfl rfl (fun q => ?_) (fun q => ?_)
    · rw [h1 q] at e4 ⊢
      refine az_sgp rfl rfl rfl rfl ?_
      refine az_cav rfl rfl rfl rfl e4 ?_
      refine az_ret rfl rfl rfl rfl ?_
      exact ⟨rfl, rfl⟩
    · rw [h3 q] at e4 ⊢
      refine az_sgp rfl rfl rfl rfl ?_
      refine az_cav rfl rfl rfl rfl e4 ?_
      refine az_ret rfl rfl rfl rfl ?_
      exact ⟨rfl, rfl⟩
  by_cases c3 : W 6 j = k
  · rw [if_pos c3]
    exact main (-5) W (fun _ => rfl) (fun c => absurd c3 c) (fun c => absurd (by decide) c)
  · rw [if_neg c3]
    exact main (W 6 j) _ (fun c => absurd c c3) (fun _ => rfl) (fun _ => r3)
theorem iw_kind (hI : IW W) (z k : Int32) : IW (cg_kind W z k).2 := by
  obtain ⟨Z, a, hZ, ha, h2, h8, haZ⟩ := hI.zn
  unfold cg_kind
  split
  · exact hI
  split
  · exact hI
  split
  · exact hI
  · unfold az_wr
    split
    · exact hI.u_6 _ _
    · exact hI
theorem az_cnt_split (P Q : Nat → Bool) (h : ∀ l, Q l = true → P l = true) : ∀ n, (∀ l, l < n → True) → az_cnt P n = az_cnt Q n + az_cnt (fun l => P l && !Q l) n := by
  intro n
  induction n with
  | zero => intro _; rfl
  | succ n ih =>
    intro _
    show az_cnt P n + _ = (az_cnt Q n + _) + (az_cnt (fun l => P l && !Q l) n + _)
    rw [ih (fun _ _ => trivial)]
    have := h n
    cases hp : P n <;> cases hq : Q n <;> simp [hp, hq] at this ⊢ <;> omega
end REFQ
