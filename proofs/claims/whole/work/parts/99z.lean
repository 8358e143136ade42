/-! CLASS AND REFERENCE: questions: load, nearestFor, waterTo -/
section QRZ
variable {M N W : az_Mem} {a : Int32}
theorem pair_load (hM : INV M) (li w : Int32) : PAIR M m_X8_load m_X9_load [.int li, .int w] := by
  have hR : RR M (az_up M 192 0 0 193) := hM.1
  have hI := hM.2.1
  obtain ⟨B, R, e1, e2, e3, e4, e5, e6, e7⟩ := hI.bag
  refine pair_qry hM (ec8_load 1 (ec_ofLoad (M := M) 3 li w e1 (by omega))) ?_
  have hz : (¬ li < 0 ∧ ¬ 40 ≤ li) ↔ ∃ j, j < 40 ∧ li = nI j := ix_iff (m := 40) (n := 40) rfl (by decide)
  unfold cg_ofL
  by_cases c1 : ∃ j, j < 40 ∧ li = nI j
  case neg =>
    have n1 : ¬ (¬ li < 0 ∧ ¬ 40 ≤ li) := fun c => c1 (hz.mp c)
    rw [if_pos n1]
    refine az_EX.of (az_in0 (code := k_X9_load) (ls := [some (.ref 192), some (.int li), some (.int w), none]) rfl rfl rfl ?_)
    refine az_sgp rfl rfl rfl rfl ?_
    refine az_cav rfl rfl rfl rfl ((ex_isLoad 5 li).2 c1) ?_
    (with_reducible apply az_ifneF); rfl
    refine az_sgp rfl rfl rfl rfl ?_
    refine az_ret rfl rfl rfl rfl ?_
    exact ⟨rfl, rfl⟩
  have n1 : ¬ ¬ (¬ li < 0 ∧ ¬ 40 ≤ li) := fun c => c (hz.mpr c1)
  rw [if_neg n1]
  clear n1
  obtain ⟨l, hl, rfl⟩ := c1
  obtain ⟨c, hc, ec⟩ := hI.cell l hl
  have ec1 : M 21 l / 12 = nI (c / 12) := by
    rw [ec]
    exact nI_div (b := 12) (by omega) (by decide)
  have ec2 : M 21 l - M 21 l / 12 * 12 = nI (c % 12) := by
    rw [ec]
    exact nI_mod (b := 12) (by omega) (by decide)
  have sof : ∀ v : Int32, cg_sof M (nI l) v = if ¬ M 19 l = 1 then -5 else if v = 1 then nI (c / 12) else if v = 2 then nI (c % 12) else M 16 c := by
    intro v
    unfold cg_sof
    rw [az_rdN hl (by decide), az_rdN hl (by decide), ec2, ec1, ec, az_rdN hc (by decide)]
  have s1 : cg_sof M (nI l) 1 = if ¬ M 19 l = 1 then -5 else nI (c / 12) := by rw [sof, if_pos rfl]
  have s2 : cg_sof M (nI l) 2 = if ¬ M 19 l = 1 then -5 else nI (c % 12) := by rw [sof, if_neg (by decide : ¬ (2 : Int32) = 1), if_pos rfl]
  have s3 : cg_sof M (nI l) 3 = if ¬ M 19 l = 1 then -5 else M 16 c := by rw [sof, if_neg (by decide : ¬ (3 : Int32) = 1), if_neg (by decide : ¬ (3 : Int32) = 2)]
  rw [az_rdN hl (by decide), az_rdN hl (by decide), s1, s2, s3]
  clear s1 s2 s3 sof
  have enter : ∀ Q, az_RUN 7 k_X9_load 30 [some (.ref 192), some (.int (nI l)), some (.int w), some (.int (if M 19 l = 1 then 1 else 0))] [] (az_hp (az_up M 192 0 0)) Q → az_EV 8 m_X9_load [.ref 192, .int (nI l), .int w] (az_hp M) Q := by
    intro Q k
    refine az_in0 (code := k_X9_load) (ls := [some (.ref 192), some (.int (nI l)), some (.int w), none]) rfl rfl rfl ?_
    refine az_sgp rfl rfl rfl rfl ?_
    refine az_cav rfl rfl rfl rfl ((ex_isLoad 5 (nI l)).1 ⟨l, hl, rfl⟩) ?_
    (with_reducible apply az_ifneT); rfl
    refine az_sgp rfl rfl rfl rfl ?_
    refine az_cav rfl rfl rfl rfl (ex_ofLoad 6 (z := l) (w := 0) rfl rfl (by omega) (hR.lw l hl)) ?_
    refine az_sgp rfl rfl rfl rfl ?_
    refine az_bra rfl rfl rfl (fun q => ?_) (fun q => ?_)
    · rw [if_pos q] at k
      refine az_sg 3 rfl ?_
      exact k
    · rw [if_neg q] at k
      refine az_sg 2 rfl ?_
      exact k
  refine az_EX.of (enter _ ?_)
  clear enter
  have rd0 := ex_ofLoad 6 (M := az_up M 192 0 0) (z := l) (w := 0) rfl rfl (by omega) (hR.lw l hl)
  have rd1 := ex_ofLoad 6 (M := az_up M 192 0 0) (z := l) (w := 1) rfl rfl (by omega) ((hR.li l hl).trans ec1)
  have rd2 := ex_ofLoad 6 (M := az_up M 192 0 0) (z := l) (w := 2) rfl rfl (by omega) ((hR.lp l hl).trans ec2)
  have rd3 := ex_ofLoad 6 (M := az_up M 192 0 0) (z := l) (w := 3) rfl rfl (by omega) (hR.lh l hl)
  refine az_sg 1 rfl ?_
  refine az_swi rfl rfl rfl ?_
  by_cases h0 : w = 0
  · subst h0
    refine az_sgp rfl rfl rfl rfl ?_
    refine az_cav rfl rfl rfl rfl (rd0) ?_
    refine az_ret rfl rfl rfl rfl ?_
    exact ⟨rfl, rfl⟩
  by_cases h1 : w = 1
  · subst h1
    rw [if_neg (by decide : ¬ (1 : Int32) = 0), if_pos (rfl : (1 : Int32) = 1)]
    by_cases q : M 19 l = 1
    · have n2 : ¬ ¬ M 19 l = 1 := fun x => x q
      rw [if_neg n2, if_pos q]
      refine az_sgp rfl rfl rfl rfl ?_
      refine az_ifeqF rfl ?_
      refine az_sgp rfl rfl rfl rfl ?_
      refine az_cav rfl rfl rfl rfl rd1 ?_
      refine az_sgp rfl rfl rfl rfl ?_
      refine az_ret rfl rfl rfl rfl ?_
      exact ⟨rfl, rfl⟩
    · rw [if_pos q, if_neg q]
      refine az_sgp rfl rfl rfl rfl ?_
      refine az_ifeqT rfl ?_
      refine az_sgp rfl rfl rfl rfl ?_
      refine az_ret rfl rfl rfl rfl ?_
      exact ⟨rfl, rfl⟩
  by_cases h2 : w = 2
  · subst h2
    rw [if_neg (by decide : ¬ (2 : Int32) = 0), if_neg (by decide : ¬ (2 : Int32) = 1), if_pos (rfl : (2 : Int32) = 2)]
    by_cases q : M 19 l = 1
    · have n2 : ¬ ¬ M 19 l = 1 := fun x => x q
      rw [if_neg n2, if_pos q]
      refine az_sgp rfl rfl rfl rfl ?_
      refine az_ifeqF rfl ?_
      refine az_sgp rfl rfl rfl rfl ?_
      refine az_cav rfl rfl rfl rfl rd2 ?_
      refine az_sgp rfl rfl rfl rfl ?_
      refine az_ret rfl rfl rfl rfl ?_
      exact ⟨rfl, rfl⟩
    · rw [if_pos q, if_neg q]
      refine az_sgp rfl rfl rfl rfl ?_
      refine az_ifeqT rfl ?_
      refine az_sgp rfl rfl rfl rfl ?_
      refine az_ret rfl rfl rfl rfl ?_
      exact ⟨rfl, rfl⟩
  by_cases h3 : w = 3
  · subst h3
    rw [if_neg (by decide : ¬ (3 : Int32) = 0), if_neg (by decide : ¬ (3 : Int32) = 1), if_neg (by decide : ¬ (3 : Int32) = 2), if_pos (rfl : (3 : Int32) = 3)]
    by_cases q : M 19 l = 1
    · have n2 : ¬ ¬ M 19 l = 1 := fun x => x q
      rw [if_neg n2, if_pos q]
      refine az_sgp rfl rfl rfl rfl ?_
      refine az_ifeqF rfl ?_
      refine az_sgp rfl rfl rfl rfl ?_
      refine az_cav rfl rfl rfl rfl rd1 ?_
      refine az_sgp rfl rfl rfl rfl ?_
      refine az_cav rfl rfl rfl rfl rd2 ?_
      refine az_cav rfl rfl rfl rfl (ex_slotAt 6 rfl rfl) ?_
      refine az_sgp rfl rfl rfl rfl ?_
      refine az_ald rfl rfl (k := 59 + 2 * c + 1) ?_ (by omega) (by decide) (hR.cm c hc) ?_
      · rw [nI_1, show 12 * (c / 12) + c % 12 = c by omega]
      refine az_sgp rfl rfl rfl rfl ?_
      refine az_ret rfl rfl rfl rfl ?_
      exact ⟨rfl, rfl⟩
    · rw [if_pos q, if_neg q]
      refine az_sgp rfl rfl rfl rfl ?_
      refine az_ifeqT rfl ?_
      refine az_sgp rfl rfl rfl rfl ?_
      refine az_ret rfl rfl rfl rfl ?_
      exact ⟨rfl, rfl⟩
  by_cases h4 : w = 4
  · subst h4
    refine az_sgp rfl rfl rfl rfl ?_
    refine az_cav rfl rfl rfl rfl (rd3) ?_
    refine az_ret rfl rfl rfl rfl ?_
    exact ⟨rfl, rfl⟩
  by_cases h5 : w = 5
  · subst h5
    rw [if_neg (by decide : ¬ (5 : Int32) = 0), if_neg (by decide : ¬ (5 : Int32) = 1), if_neg (by decide : ¬ (5 : Int32) = 2), if_neg (by decide : ¬ (5 : Int32) = 3), if_neg (by decide : ¬ (5 : Int32) = 4), if_pos (rfl : (5 : Int32) = 5)]
    refine az_sgp rfl rfl rfl rfl ?_
    refine az_cav rfl rfl rfl rfl rd3 ?_
    refine az_sgp rfl rfl rfl rfl ?_
    refine az_ald rfl rfl (k := 6) rfl (by decide) (by decide) hR.bound ?_
    refine az_bra rfl rfl rfl (fun q => ?_) (fun q => ?_)
    · rw [if_neg (Int32.not_le.mpr q)]
      refine az_sgp rfl rfl rfl rfl ?_
      refine az_ret rfl rfl rfl rfl ?_
      exact ⟨rfl, rfl⟩
    · rw [if_pos (Int32.not_lt.mp q)]
      refine az_sgp rfl rfl rfl rfl ?_
      refine az_ret rfl rfl rfl rfl ?_
      exact ⟨rfl, rfl⟩
  by_cases h6 : w = 6
  · subst h6
    refine az_sgp rfl rfl rfl rfl ?_
    refine az_cav rfl rfl rfl rfl (ex_placeInBag 6 hR (nI l) e1 (by omega)) ?_
    refine az_ret rfl rfl rfl rfl ?_
    exact ⟨rfl, rfl⟩
  simp only [az_swt, h0, h1, h2, h3, h4, h5, h6, decide_false, cond_false]
  refine az_sgp rfl rfl rfl rfl ?_
  refine az_ret rfl rfl rfl rfl ?_
  simp only [h0, h1, h2, h3, h4, h5, h6, if_false, and_self]
theorem nx_mod {a k Z : Nat} (hZ : M 2 0 = nI Z) (h1 : 1 ≤ Z) (h8 : Z ≤ 8) : (if M 2 0 ≤ nI ((a + k) % Z) + 1 then 0 else nI ((a + k) % Z) + 1) = nI ((a + (k + 1)) % Z) := by
  have hb : (a + k) % Z < Z := Nat.mod_lt _ (by omega)
  have e : (a + (k + 1)) % Z = ((a + k) % Z + 1) % Z := by
    rw [Nat.mod_add_mod]
    rfl
  rw [e]
  generalize (a + k) % Z = b at hb
  rw [hZ, nI_1]
  by_cases h : Z ≤ b + 1
  · rw [if_pos (nI_le h (by omega)), show b + 1 = Z by omega, Nat.mod_self]
    rfl
  · rw [if_neg (nI_ge (by omega) (by omega)), Nat.mod_eq_of_lt (by omega)]
theorem pair_nearestFor (hM : INV M) (li : Int32) : PAIR M m_X8_nearestFor m_X9_nearestFor [.int li] := by
  have hR : RR M (az_up M 192 0 0 193) := hM.1
  have hI := hM.2.1
  obtain ⟨Z, a, hZ, ha, h2, h8, haZ⟩ := hI.zn
  refine pair_qry hM (ec8_nearestFor 1 (ec_nearestZoneFor (M := M) 3 li hZ h8)) ?_
  have hz : (¬ li < 0 ∧ ¬ 40 ≤ li) ↔ ∃ j, j < 40 ∧ li = nI j := ix_iff (m := 40) (n := 40) rfl (by decide)
  by_cases c1 : ∃ j, j < 40 ∧ li = nI j
  case neg =>
    have n1 : ¬ (¬ li < 0 ∧ ¬ 40 ≤ li) := fun c => c1 (hz.mp c)
    rw [if_pos n1]
    refine az_EX.of (az_in0 (code := k_X9_nearestFor) (ls := [some (.ref 192), some (.int li), none, none]) rfl rfl rfl ?_)
    refine az_sgp rfl rfl rfl rfl ?_
    refine az_cav rfl rfl rfl rfl ((ex_isLoad 5 li).2 c1) ?_
    (with_reducible apply az_ifneF); rfl
    refine az_sgp rfl rfl rfl rfl ?_
    refine az_ret rfl rfl rfl rfl ?_
    exact ⟨rfl, rfl⟩
  have n1 : ¬ ¬ (¬ li < 0 ∧ ¬ 40 ≤ li) := fun c => c (hz.mpr c1)
  rw [if_neg n1]
  clear n1
  obtain ⟨l, hl, rfl⟩ := c1
  have K : ∀ (m k : Nat) (v : az_V), k + m = Z → az_RUN 7 k_X9_nearestFor 16 [some (.ref 192), some (.int (nI l)), some (.int (nI k)), v] [] (az_hp (az_up M 192 0 0)) (fun r1 h1 => r1 = some (.int (cg_near M (nI l) m (nI ((a + k) % Z)))) ∧ h1 = az_hp (az_up M 192 0 0)) := by
    intro m
    induction m with
    | zero =>
      intro k v hs
      refine az_sgp rfl rfl rfl rfl ?_
      refine az_ald rfl rfl (k := 0) rfl (by decide) (by decide) (hR.zones.trans hZ) ?_
      refine az_bra rfl rfl rfl (fun q => ?_) (fun q => ?_)
      · refine az_sgp rfl rfl rfl rfl ?_
        refine az_ret rfl rfl rfl rfl ?_
        exact ⟨rfl, rfl⟩
      · exact absurd (nI_le (by omega) (by omega)) q
    | succ m ih =>
      intro k v hs
      refine az_sgp rfl rfl rfl rfl ?_
      refine az_ald rfl rfl (k := 0) rfl (by decide) (by decide) (hR.zones.trans hZ) ?_
      refine az_bra rfl rfl rfl (fun q => ?_) (fun q => ?_)
      · exact absurd q (nI_ge (by omega) (by omega))
      refine az_sgp rfl rfl rfl rfl ?_
      refine az_ald rfl rfl (k := 2) rfl (by decide) (by decide) (hR.at_.trans ha) ?_
      refine az_sgp rfl rfl rfl rfl ?_
      refine az_ald rfl rfl (k := 0) rfl (by decide) (by decide) (hR.zones.trans hZ) ?_
      refine az_grd rfl rfl rfl ?_ ?_
      · rw [decide_eq_false (nI_ne0 (by omega) (by omega))]
        rfl
      rw [show nI a + nI k - (nI a + nI k) / nI Z * nI Z = nI ((a + k) % Z) by rw [nI_add, nI_mod (by omega) (by omega)]]
      have hb : (a + k) % Z < Z := Nat.mod_lt _ (by omega)
      refine az_sgp rfl rfl rfl rfl ?_
      refine az_cav rfl rfl rfl rfl (ex_ofLoad 6 (z := l) (w := 3) rfl rfl (by omega) (hR.lh l hl)) ?_
      have em : (cg_may M (nI l) (nI ((a + k) % Z))) = cg_adm M (nI ((a + k) % Z)) (if M 17 0 ≤ M 23 l then 1 else 0) := by
        unfold cg_may
        rw [az_rdN hl (by decide)]
      have en : cg_near M (nI l) (m + 1) (nI ((a + k) % Z)) = if cg_may M (nI l) (nI ((a + k) % Z)) then nI ((a + k) % Z) else cg_near M (nI l) m (nI ((a + (k + 1)) % Z)) := by
        rw [← nx_mod hZ (by omega) h8]
        rfl
      rw [en]
      refine az_ca2 rfl rfl rfl rfl (ex_mayBe 5 hR rfl (show (a + k) % Z < 8 by omega) _) (fun c => ?_) (fun c => ?_)
      · (with_reducible apply az_ifeqF); rfl
        rw [if_pos (cast em.symm c)]
        refine az_sgp rfl rfl rfl rfl ?_
        refine az_ret rfl rfl rfl rfl ?_
        exact ⟨rfl, rfl⟩
      · (with_reducible apply az_ifeqT); rfl
        rw [if_neg (fun x => c (cast em x))]
        refine az_sg 2 rfl ?_
        rw [nI_1]
        exact ih (k + 1) _ (by omega)
  refine az_EX.of (az_in0 (code := k_X9_nearestFor) (ls := [some (.ref 192), some (.int (nI l)), none, none]) rfl rfl rfl ?_)
  refine az_sgp rfl rfl rfl rfl ?_
  refine az_cav rfl rfl rfl rfl ((ex_isLoad 5 (nI l)).1 ⟨l, hl, rfl⟩) ?_
  (with_reducible apply az_ifneT); rfl
  refine az_sg 2 rfl ?_
  have k := K Z 0 none (by omega)
  rw [Nat.add_zero, Nat.mod_eq_of_lt haZ] at k
  rw [ha]
  exact k
theorem pair_waterTo (hM : INV M) (zi : Int32) : PAIR M m_X8_waterTo m_X9_waterTo [.int zi] := by
  have hR : RR M (az_up M 192 0 0 193) := hM.1
  have hI := hM.2.1
  obtain ⟨Z, a, hZ, ha, h2, h8, haZ⟩ := hI.zn
  have hz : (¬ zi < 0 ∧ ¬ M 2 0 ≤ zi) ↔ ∃ j, j < Z ∧ zi = nI j := ix_iff hZ (by omega)
  by_cases c1 : ∃ j, j < Z ∧ zi = nI j
  case neg =>
    have n1 : ¬ (¬ zi < 0 ∧ ¬ M 2 0 ≤ zi) := fun c => c1 (hz.mp c)
    have e8 := ec8_waterTo 1 (ec_waterNeededTo (M := M) 4 zi (T := 0) (fun c => absurd c n1) (by omega))
    rw [if_pos n1] at e8
    refine pair_qry hM e8 ?_
    refine az_EX.of (az_in0 (code := k_X9_waterTo) (ls := [some (.ref 192), some (.int zi), none, none, none]) rfl rfl rfl ?_)
    refine az_sgp rfl rfl rfl rfl ?_
    refine az_cav rfl rfl rfl rfl ((ex_isZone 5 zi (hR.zones.trans hZ) (by omega) h8).2 c1) ?_
    (with_reducible apply az_ifneF); rfl
    refine az_sgp rfl rfl rfl rfl ?_
    refine az_ret rfl rfl rfl rfl ?_
    exact ⟨rfl, rfl⟩
  have n1 : ¬ ¬ (¬ zi < 0 ∧ ¬ M 2 0 ≤ zi) := fun c => c (hz.mpr c1)
  obtain ⟨z, hzZ, rfl⟩ := c1
  have eT : cg_stB M (nI z) = nI ((z + Z - a) % Z) := by
    unfold cg_stB
    rw [ha, hZ, nI_steps hzZ haZ h8]
  have hT : (z + Z - a) % Z < Z := Nat.mod_lt _ (by omega)
  have est := ex_steps 6 hR (zi := nI z) rfl hZ ha hzZ haZ h8
  generalize (z + Z - a) % Z = T at eT hT est
  have e8 := ec8_waterTo 1 (ec_waterNeededTo (M := M) 4 (nI z) (T := T) (fun _ => eT) (by omega))
  rw [if_neg n1] at e8
  refine pair_qry hM e8 ?_
  clear e8 n1
  -- full: to the end
  have K2 : ∀ (m k n : Nat), k + m = T + 1 → az_RUN 7 k_X9_waterTo 22 [some (.ref 192), some (.int (nI z)), some (.int (nI n)), some (.int 1), some (.int (nI k))] [] (az_hp (az_up M 192 0 0)) (fun r1 h1 => r1 = some (.int (nI n)) ∧ h1 = az_hp (az_up M 192 0 0)) := by
    intro m
    induction m with
    | zero =>
      intro k n hs
      refine az_sgp rfl rfl rfl rfl ?_
      refine az_cav rfl rfl rfl rfl est ?_
      refine az_bra rfl rfl rfl (fun q => ?_) (fun q => ?_)
      · refine az_sgp rfl rfl rfl rfl ?_
        refine az_ret rfl rfl rfl rfl ?_
        exact ⟨rfl, rfl⟩
      · exact absurd (nI_lt (by omega) (by omega)) q
    | succ m ih =>
      intro k n hs
      refine az_sgp rfl rfl rfl rfl ?_
      refine az_cav rfl rfl rfl rfl est ?_
      refine az_bra rfl rfl rfl (fun q => ?_) (fun q => ?_)
      · exact absurd q (nI_nlt (by omega) (by omega))
      refine az_sgp rfl rfl rfl rfl ?_
      refine az_ifeqF rfl ?_
      refine az_sgp rfl rfl rfl rfl ?_
      refine az_ifneT rfl ?_
      refine az_sg 5 rfl ?_
      rw [nI_1, show nI n + 0 = nI n from nI_add n 0]
      exact ih (k + 1) n (by omega)
  have K1 : ∀ (m k : Nat), k + 1 + m = T + 1 → az_RUN 7 k_X9_waterTo 22 [some (.ref 192), some (.int (nI z)), some (.int (nI k)), some (.int 0), some (.int (nI (k + 1)))] [] (az_hp (az_up M 192 0 0)) (fun r1 h1 => r1 = some (.int (if m = 0 then nI T else cg_wt M T (m - 1) (k + 1) (nI ((a + k) % Z)))) ∧ h1 = az_hp (az_up M 192 0 0)) := by
    intro m
    induction m with
    | zero =>
      intro k hs
      refine az_sgp rfl rfl rfl rfl ?_
      refine az_cav rfl rfl rfl rfl est ?_
      refine az_bra rfl rfl rfl (fun q => ?_) (fun q => ?_)
      · refine az_sgp rfl rfl rfl rfl ?_
        refine az_ret rfl rfl rfl rfl ?_
        rw [if_pos rfl, show k = T by omega]
        exact ⟨rfl, rfl⟩
      · exact absurd (nI_lt (by omega) (by omega)) q
    | succ m ih =>
      intro k hs
      rw [if_neg (by omega), Nat.add_sub_cancel]
      have hb : (a + (k + 1)) % Z < Z := Nat.mod_lt _ (by omega)
      have ebh : cg_bh M (nI ((a + k) % Z)) = nI ((a + (k + 1)) % Z) := nx_mod hZ (by omega) h8
      have ew : ∀ m', cg_wt M T (m' + 1) (k + 1) (nI ((a + k) % Z)) = if M 10 ((a + (k + 1)) % Z) = 0 then cg_wt M T m' (k + 1 + 1) (nI ((a + (k + 1)) % Z)) else nI (k + 1) * 1 := by
        intro m'
        show (if az_rd (M 10) 8 (cg_bh M (nI ((a + k) % Z))) = 0 then cg_wt M T m' (k + 1 + 1) (cg_bh M (nI ((a + k) % Z))) else nI (k + 1) * 1) = _
        rw [ebh, az_rdN (by omega) (by decide)]
      refine az_sgp rfl rfl rfl rfl ?_
      refine az_cav rfl rfl rfl rfl est ?_
      refine az_bra rfl rfl rfl (fun q => ?_) (fun q => ?_)
      · exact absurd q (nI_nlt (by omega) (by omega))
      refine az_sgp rfl rfl rfl rfl ?_
      refine az_ifeqT rfl ?_
      refine az_sgp rfl rfl rfl rfl ?_
      refine az_ifneF rfl ?_
      refine az_sgp rfl rfl rfl rfl ?_
      refine az_ald rfl rfl (k := 2) rfl (by decide) (by decide) (hR.at_.trans ha) ?_
      refine az_sgp rfl rfl rfl rfl ?_
      refine az_ald rfl rfl (k := 0) rfl (by decide) (by decide) (hR.zones.trans hZ) ?_
      refine az_grd rfl rfl rfl ?_ ?_
      · rw [decide_eq_false (nI_ne0 (by omega) (by omega))]
        rfl
      rw [show nI a + nI (k + 1) - (nI a + nI (k + 1)) / nI Z * nI Z = nI ((a + (k + 1)) % Z) by rw [nI_add, nI_mod (by omega) (by omega)]]
      refine az_sgp rfl rfl rfl rfl ?_
      refine az_cav rfl rfl rfl rfl (ex_ofZone 6 (z := (a + (k + 1)) % Z) (w := 3) rfl rfl (by omega) (hR.zw _ (by omega))) ?_
      refine az_sgp rfl rfl rfl rfl ?_
      refine az_bra rfl rfl rfl (fun q2 => ?_) (fun q2 => ?_)
      · refine az_sg 5 rfl ?_
        rw [nI_1, nI_1]
        refine (K2 m (k + 1 + 1) (k + 1) (by omega)).mono (fun r h x => ?_)
        rw [x.1]
        refine ⟨?_, x.2⟩
        cases m with
        | zero =>
          show _ = some (Value.int (nI T * 1))
          rw [Int32.mul_one, show T = k + 1 by omega]
        | succ m =>
          rw [ew m, if_neg (by rw [q2]; decide), Int32.mul_one]
      · refine az_sg 4 rfl ?_
        rw [nI_1, nI_1]
        refine (ih (k + 1) (by omega)).mono (fun r h x => ?_)
        rw [x.1]
        refine ⟨?_, x.2⟩
        cases m with
        | zero =>
          rw [if_pos rfl]
          show _ = some (Value.int (nI T * 1))
          rw [Int32.mul_one]
        | succ m =>
          rw [if_neg (by omega), ew m, if_pos ((hI.well _ (by omega)).resolve_right q2)]
          rfl
  refine az_EX.of (az_in0 (code := k_X9_waterTo) (ls := [some (.ref 192), some (.int (nI z)), none, none, none]) rfl rfl rfl ?_)
  refine az_sgp rfl rfl rfl rfl ?_
  refine az_cav rfl rfl rfl rfl ((ex_isZone 5 (nI z) (hR.zones.trans hZ) (by omega) h8).1 ⟨z, hzZ, rfl⟩) ?_
  (with_reducible apply az_ifneT); rfl
  refine az_sg 6 rfl ?_
  refine (K1 T 0 (by omega)).mono (fun r h x => ?_)
  rw [x.1]
  refine ⟨?_, x.2⟩
  rw [show (a + 0) % Z = a from Nat.mod_eq_of_lt haZ, ha]
  by_cases hT0 : T = 0
  · subst hT0
    rw [if_pos rfl]
    show _ = some (Value.int (nI 0 * 1))
    rw [Int32.mul_one]
  · rw [if_neg hT0]
end QRZ
