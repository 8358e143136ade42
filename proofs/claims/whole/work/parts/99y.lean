/-! CLASS AND REFERENCE: questions -/
section QRY
variable {M N W : az_Mem} {a : Int32}
theorem pair_qry {m8 m9 : Nat} {args : List Value} (hM : INV M) (h8 : az_EX 8 m8 (.ref 0 :: args) (az_hp M) (some (.int a)) (az_hp M)) (h9 : az_EX 8 m9 (.ref 192 :: args) (az_hp M) (some (.int a)) (az_hp (az_up M 192 0 0))) : PAIR M m8 m9 args :=
  ⟨a, M, az_up M 192 0 0, h8, h9, hM.tr (fun c hc => by rw [az_up_row (by omega)]) rfl rfl rfl rfl rfl rfl rfl⟩
theorem nI_steps {z a Z : Nat} (hz : z < Z) (ha : a < Z) (h8 : Z ≤ 8) : (if nI z < nI a then nI z - nI a + nI Z else nI z - nI a) = nI ((z + Z - a) % Z) := by
  by_cases h : z < a
  · rw [if_pos (nI_lt h (by omega)), Nat.mod_eq_of_lt (by omega), show nI z - nI a + nI Z = nI z + nI Z - nI a by rw [Int32.sub_eq_add_neg, Int32.sub_eq_add_neg, Int32.add_assoc, Int32.add_comm (-nI a), Int32.add_assoc], nI_add, nI_sub (by omega)]
  · rw [if_neg (nI_nlt (by omega) (by omega)), nI_sub (by omega), show z + Z - a = (z - a) + Z by omega, Nat.add_mod_right, Nat.mod_eq_of_lt (by omega)]
theorem ex_steps (d : Nat) (hR : RR W (M 193)) {z a Z : Nat} {zi : Int32} (hzi : zi = nI z) (hZ : W 2 0 = nI Z) (ha : W 24 0 = nI a) (hz : z < Z) (haZ : a < Z) (h8 : Z ≤ 8) : az_EX (d + 1) m_X9_steps [.ref 192, .int zi] (az_hp M) (some (.int (nI ((z + Z - a) % Z)))) (az_hp M) := by
  subst hzi
  refine az_EX.of (az_in0 (code := k_X9_steps) (ls := [some (.ref 192), some (.int (nI z))]) rfl rfl rfl ?_)
  refine az_sgp rfl rfl rfl rfl ?_
  refine az_ald rfl rfl (k := 2) rfl (by decide) (by decide) (hR.at_.trans ha) ?_
  refine az_sgp rfl rfl rfl rfl ?_
  refine az_ald rfl rfl (k := 0) rfl (by decide) (by decide) (hR.zones.trans hZ) ?_
  refine az_sgp rfl rfl rfl rfl ?_
  refine az_ald rfl rfl (k := 0) rfl (by decide) (by decide) (hR.zones.trans hZ) ?_
  refine az_grd rfl rfl rfl ?_ ?_
  · rw [decide_eq_false (nI_ne0 (by omega) (by omega))]
    rfl
  refine az_ret rfl rfl rfl rfl ?_
  have e : nI z - nI a + nI Z = nI (z + Z - a) := by
    rw [show nI z - nI a + nI Z = nI z + nI Z - nI a by rw [Int32.sub_eq_add_neg, Int32.sub_eq_add_neg, Int32.add_assoc, Int32.add_comm (-nI a), Int32.add_assoc], nI_add, nI_sub (by omega)]
  refine ⟨?_, rfl⟩
  show some (Value.int (nI z - nI a + nI Z - (nI z - nI a + nI Z) / nI Z * nI Z)) = _
  rw [e, nI_mod (by omega) (by omega)]
theorem pair_caravan (hM : INV M) (w : Int32) : PAIR M m_X8_caravan m_X9_caravan [.int w] := by
  have hR : RR M (az_up M 192 0 0 193) := hM.1
  refine pair_qry hM (ec8_caravan 1 (ec_ofCaravan 6 w)) ?_
  refine az_EX.of (az_in0 (code := k_X9_caravan) (ls := [some (.ref 192), some (.int w)]) rfl rfl rfl ?_)
  refine az_sgp rfl rfl rfl rfl ?_
  refine az_swi rfl rfl rfl ?_
  by_cases h0 : w = 0
  · subst h0
    refine az_sgp rfl rfl rfl rfl ?_
    refine az_ald rfl rfl (k := 2) rfl (by decide) (by decide) hR.at_ ?_
    refine az_ret rfl rfl rfl rfl ?_
    exact ⟨rfl, rfl⟩
  by_cases h1 : w = 1
  · subst h1
    refine az_sgp rfl rfl rfl rfl ?_
    refine az_ald rfl rfl (k := 3) rfl (by decide) (by decide) hR.water ?_
    refine az_ret rfl rfl rfl rfl ?_
    exact ⟨rfl, rfl⟩
  by_cases h2 : w = 2
  · subst h2
    refine az_sgp rfl rfl rfl rfl ?_
    refine az_ald rfl rfl (k := 4) rfl (by decide) (by decide) hR.skin ?_
    refine az_ret rfl rfl rfl rfl ?_
    exact ⟨rfl, rfl⟩
  by_cases h3 : w = 3
  · subst h3
    refine az_sgp rfl rfl rfl rfl ?_
    refine az_ald rfl rfl (k := 12) rfl (by decide) (by decide) hR.many ?_
    refine az_ret rfl rfl rfl rfl ?_
    exact ⟨rfl, rfl⟩
  by_cases h4 : w = 4
  · subst h4
    refine az_sgp rfl rfl rfl rfl ?_
    refine az_ald rfl rfl (k := 5) rfl (by decide) (by decide) hR.room ?_
    refine az_ret rfl rfl rfl rfl ?_
    exact ⟨rfl, rfl⟩
  by_cases h5 : w = 5
  · subst h5
    refine az_sgp rfl rfl rfl rfl ?_
    refine az_ald rfl rfl (k := 8) rfl (by decide) (by decide) hR.steps ?_
    refine az_ret rfl rfl rfl rfl ?_
    exact ⟨rfl, rfl⟩
  by_cases h6 : w = 6
  · subst h6
    refine az_sgp rfl rfl rfl rfl ?_
    refine az_ald rfl rfl (k := 9) rfl (by decide) (by decide) hR.used ?_
    refine az_ret rfl rfl rfl rfl ?_
    exact ⟨rfl, rfl⟩
  simp only [az_swt, h0, h1, h2, h3, h4, h5, h6, decide_false, cond_false]
  refine az_sgp rfl rfl rfl rfl ?_
  refine az_ret rfl rfl rfl rfl ?_
  simp only [cg_car, h0, h1, h2, h3, h4, h5, h6, if_false, and_self]
theorem pair_bagAt (hM : INV M) (i : Int32) : PAIR M m_X8_bagAt m_X9_bagAt [.int i] := by
  have hR : RR M (az_up M 192 0 0 193) := hM.1
  obtain ⟨B, R, e1, e2, e3, e4, e5, e6, e7⟩ := hM.2.1.bag
  refine pair_qry hM (ec8_bagAt 1 (ec_ofBag 5 i)) ?_
  refine az_EX.of (az_in0 (code := k_X9_bagAt) (ls := [some (.ref 192), some (.int i)]) rfl rfl rfl ?_)
  unfold cg_bagAt
  refine az_sgp rfl rfl rfl rfl ?_
  refine az_bra rfl rfl rfl (fun q => ?_) (fun q => ?_)
  · rw [if_neg (Int32.not_lt.mpr q)]
    refine az_sgp rfl rfl rfl rfl ?_
    refine az_ald rfl rfl (k := 12) rfl (by decide) (by decide) hR.many ?_
    refine az_bra rfl rfl rfl (fun q2 => ?_) (fun q2 => ?_)
    · rw [if_pos q2]
      refine az_sgp rfl rfl rfl rfl ?_
      refine az_ret rfl rfl rfl rfl ?_
      exact ⟨rfl, rfl⟩
    · rw [if_neg q2]
      obtain ⟨k, hk, rfl⟩ := (ix_iff e1 (show B < 2 ^ 31 by omega)).mp ⟨Int32.not_lt.mpr q, q2⟩
      refine az_sgp rfl rfl rfl rfl ?_
      refine az_ald rfl rfl (k := 13 + k) (nI_add 13 k) (by omega) (by decide) (hR.bag k (by omega)) ?_
      refine az_sgp rfl rfl rfl rfl ?_
      refine az_ret rfl rfl rfl rfl ?_
      rw [az_rdN (by omega) (by decide)]
      exact ⟨rfl, rfl⟩
  · rw [if_pos (Int32.not_le.mp q)]
    refine az_sgp rfl rfl rfl rfl ?_
    refine az_ret rfl rfl rfl rfl ?_
    exact ⟨rfl, rfl⟩
theorem IW.ptz (h : IW W) {z : Nat} (hz : z < 8) : ∃ S p : Nat, W 2 1 = nI S ∧ 2 ≤ S ∧ S ≤ 12 ∧ W 4 z = nI p ∧ p ≤ S := by
  obtain ⟨S, h6, h7, h8, h9⟩ := h.sl
  obtain ⟨p, h10, h11, h12⟩ := h9 z hz
  exact ⟨S, p, h6, h7, h8, h10, h11⟩
theorem pair_zone (hM : INV M) (zi w : Int32) : PAIR M m_X8_zone m_X9_zone [.int zi, .int w] := by
  have hR : RR M (az_up M 192 0 0 193) := hM.1
  have hI := hM.2.1
  obtain ⟨Z, a, hZ, ha, h2, h8, haZ⟩ := hI.zn
  have hz : (¬ zi < 0 ∧ ¬ M 2 0 ≤ zi) ↔ ∃ j, j < Z ∧ zi = nI j := ix_iff hZ (by omega)
  by_cases c1 : ∃ j, j < Z ∧ zi = nI j
  case neg =>
    have n1 : ¬ (¬ zi < 0 ∧ ¬ M 2 0 ≤ zi) := fun c => c1 (hz.mp c)
    have e8 := ec8_zone 1 (ec_ofZone (M := M) 1 (z := zi) (w := w) (P := 0) (fun c => absurd c n1) (by omega))
    have e : cg_ofZ M zi w 0 = -1 := if_pos n1
    rw [e] at e8
    refine pair_qry hM e8 ?_
    refine az_EX.of (az_in0 (code := k_X9_zone) (ls := [some (.ref 192), some (.int zi), some (.int w)]) rfl rfl rfl ?_)
    refine az_sgp rfl rfl rfl rfl ?_
    refine az_cav rfl rfl rfl rfl ((ex_isZone 5 zi (hR.zones.trans hZ) (by omega) h8).2 c1) ?_
    (with_reducible apply az_ifneF); rfl
    refine az_sgp rfl rfl rfl rfl ?_
    refine az_ret rfl rfl rfl rfl ?_
    exact ⟨rfl, rfl⟩
  obtain ⟨z, hzZ, rfl⟩ := c1
  have z8 : z < 8 := by omega
  obtain ⟨S, p, hS, hS2, hS12, hp, hpS⟩ := hI.ptz z8
  have hp4 : az_rd (M 4) 8 (nI z) = nI p := by rw [az_rdN z8 (by decide)]; exact hp
  have e8 := ec8_zone 1 (ec_ofZone (M := M) 1 (z := nI z) (w := w) (P := p) (fun _ => hp4) (by omega))
  have e : cg_ofZ M (nI z) w p = if w = 0 then nI p else if w = 1 then nI (cg_cl M (nI z) p) else if w = 2 then nI p - nI (cg_cl M (nI z) p) else if w = 3 then M 6 z else if w = 4 then M 8 z else if w = 5 then M 10 z else if w = 6 then M 12 z else if w = 7 then nI ((z + Z - a) % Z) else -2 := by
    unfold cg_ofZ
    rw [if_neg (fun c => c (hz.mpr ⟨z, hzZ, rfl⟩)), hp4, az_rdN z8 (by decide), az_rdN z8 (by decide), az_rdN z8 (by decide), az_rdN z8 (by decide), ha, hZ, nI_steps hzZ haZ h8]
  rw [e] at e8
  refine pair_qry hM e8 ?_
  clear e8 e
  refine az_EX.of (az_in0 (code := k_X9_zone) (ls := [some (.ref 192), some (.int (nI z)), some (.int w)]) rfl rfl rfl ?_)
  refine az_sgp rfl rfl rfl rfl ?_
  refine az_cav rfl rfl rfl rfl ((ex_isZone 5 (nI z) (hR.zones.trans hZ) (by omega) h8).1 ⟨z, hzZ, rfl⟩) ?_
  (with_reducible apply az_ifneT); rfl
  refine az_sgp rfl rfl rfl rfl ?_
  refine az_swi rfl rfl rfl ?_
  by_cases h0 : w = 0
  · subst h0
    refine az_sgp rfl rfl rfl rfl ?_
    refine az_cav rfl rfl rfl rfl (ex_ofZone 6 (z := z) (w := 0) rfl rfl (by omega) ((hR.zp z z8).trans hp)) ?_
    refine az_ret rfl rfl rfl rfl ?_
    exact ⟨rfl, rfl⟩
  by_cases h1 : w = 1
  · subst h1
    refine az_sgp rfl rfl rfl rfl ?_
    refine az_cav rfl rfl rfl rfl (ex_live 4 hR hI rfl z8 hS hS12 hp hpS) ?_
    refine az_ret rfl rfl rfl rfl ?_
    exact ⟨rfl, rfl⟩
  by_cases h2_ : w = 2
  · subst h2_
    refine az_sgp rfl rfl rfl rfl ?_
    refine az_cav rfl rfl rfl rfl (ex_ofZone 6 (z := z) (w := 0) rfl rfl (by omega) ((hR.zp z z8).trans hp)) ?_
    refine az_sgp rfl rfl rfl rfl ?_
    refine az_cav rfl rfl rfl rfl (ex_live 4 hR hI rfl z8 hS hS12 hp hpS) ?_
    refine az_sgp rfl rfl rfl rfl ?_
    refine az_ret rfl rfl rfl rfl ?_
    exact ⟨rfl, rfl⟩
  by_cases h3 : w = 3
  · subst h3
    refine az_sgp rfl rfl rfl rfl ?_
    refine az_cav rfl rfl rfl rfl (ex_ofZone 6 (z := z) (w := 2) rfl rfl (by omega) (hR.zk z z8)) ?_
    refine az_ret rfl rfl rfl rfl ?_
    exact ⟨rfl, rfl⟩
  by_cases h4 : w = 4
  · subst h4
    refine az_sgp rfl rfl rfl rfl ?_
    refine az_cav rfl rfl rfl rfl (ex_ofZone 6 (z := z) (w := 1) rfl rfl (by omega) (hR.zs z z8)) ?_
    refine az_ret rfl rfl rfl rfl ?_
    exact ⟨rfl, rfl⟩
  by_cases h5 : w = 5
  · subst h5
    refine az_sgp rfl rfl rfl rfl ?_
    refine az_cav rfl rfl rfl rfl (ex_ofZone 6 (z := z) (w := 3) rfl rfl (by omega) (hR.zw z z8)) ?_
    refine az_ret rfl rfl rfl rfl ?_
    exact ⟨rfl, rfl⟩
  by_cases h6 : w = 6
  · subst h6
    refine az_sgp rfl rfl rfl rfl ?_
    refine az_cav rfl rfl rfl rfl (ex_ofZone 6 (z := z) (w := 4) rfl rfl (by omega) (hR.zr z z8)) ?_
    refine az_ret rfl rfl rfl rfl ?_
    exact ⟨rfl, rfl⟩
  by_cases h7 : w = 7
  · subst h7
    refine az_sgp rfl rfl rfl rfl ?_
    refine az_cav rfl rfl rfl rfl (ex_steps 6 hR rfl hZ ha hzZ haZ h8) ?_
    refine az_ret rfl rfl rfl rfl ?_
    exact ⟨rfl, rfl⟩
  simp only [az_swt, h0, h1, h2_, h3, h4, h5, h6, h7, decide_false, cond_false]
  refine az_sgp rfl rfl rfl rfl ?_
  refine az_ret rfl rfl rfl rfl ?_
  simp only [h0, h1, h2_, h3, h4, h5, h6, h7, if_false, and_self]
theorem pair_slot (hM : INV M) (zi si w : Int32) : PAIR M m_X8_slot m_X9_slot [.int zi, .int si, .int w] := by
  have hR : RR M (az_up M 192 0 0 193) := hM.1
  have hI := hM.2.1
  obtain ⟨Z, a, hZ, ha, h2, h8, haZ⟩ := hI.zn
  have hz : (¬ zi < 0 ∧ ¬ M 2 0 ≤ zi) ↔ ∃ j, j < Z ∧ zi = nI j := ix_iff hZ (by omega)
  refine pair_qry hM (ec8_slot 1 (ec_ofSlot 3 zi si w)) ?_
  unfold cg_ofS
  by_cases c1 : ∃ j, j < Z ∧ zi = nI j
  case neg =>
    have n1 : ¬ (¬ zi < 0 ∧ ¬ M 2 0 ≤ zi) := fun c => c1 (hz.mp c)
    rw [if_pos n1]
    refine az_EX.of (az_in0 (code := k_X9_slot) (ls := [some (.ref 192), some (.int zi), some (.int si), some (.int w)]) rfl rfl rfl ?_)
    refine az_sgp rfl rfl rfl rfl ?_
    refine az_cav rfl rfl rfl rfl ((ex_isZone 5 zi (hR.zones.trans hZ) (by omega) h8).2 c1) ?_
    (with_reducible apply az_ifeqT); rfl
    refine az_sgp rfl rfl rfl rfl ?_
    refine az_ret rfl rfl rfl rfl ?_
    exact ⟨rfl, rfl⟩
  have n1 : ¬ ¬ (¬ zi < 0 ∧ ¬ M 2 0 ≤ zi) := fun c => c (hz.mpr c1)
  rw [if_neg n1]
  clear n1
  obtain ⟨z, hzZ, rfl⟩ := c1
  have z8 : z < 8 := by omega
  obtain ⟨S, p, hS, hS2, hS12, hp, hpS⟩ := hI.ptz z8
  rw [az_rdN z8 (by decide), hp, hS]
  have hs : (¬ si < 0 ∧ ¬ nI S ≤ si) ↔ ∃ j, j < S ∧ si = nI j := ix_iff rfl (by omega)
  obtain ⟨S1, rfl⟩ : ∃ S1, S = S1 + 1 := ⟨S - 1, by omega⟩
  have hs2 : (¬ si < 0 ∧ ¬ (nI (S1 + 1) - 1) < si) ↔ ∃ j, j < S1 + 1 ∧ si = nI j := by
    refine (in_iff (n := S1) (nI_pred S1) (by omega)).trans ?_
    constructor <;> rintro ⟨k, hk, e⟩ <;> exact ⟨k, by omega, e⟩
  have enter : ∀ Q, az_RUN 7 k_X9_slot 26 [some (.ref 192), some (.int (nI z)), some (.int si), some (.int w)] [.int (if ∃ j, j < S1 + 1 ∧ si = nI j then 1 else 0)] (az_hp (az_up M 192 0 0)) Q → az_EV 8 m_X9_slot [.ref 192, .int (nI z), .int si, .int w] (az_hp M) Q := by
    intro Q k
    refine az_in0 (code := k_X9_slot) (ls := [some (.ref 192), some (.int (nI z)), some (.int si), some (.int w)]) rfl rfl rfl ?_
    refine az_sgp rfl rfl rfl rfl ?_
    refine az_cav rfl rfl rfl rfl ((ex_isZone 5 (nI z) (hR.zones.trans hZ) (by omega) h8).1 ⟨z, hzZ, rfl⟩) ?_
    (with_reducible apply az_ifeqF); rfl
    refine az_sgp rfl rfl rfl rfl ?_
    refine az_ald rfl rfl (k := 1) rfl (by decide) (by decide) (hR.slots.trans hS) ?_
    refine az_sgp rfl rfl rfl rfl ?_
    by_cases c : ∃ j, j < S1 + 1 ∧ si = nI j
    · rw [if_pos c] at k
      refine az_cav rfl rfl rfl rfl ((ex_in 6 si 0 (nI (S1 + 1) - 1)).1 (hs2.mpr c)) ?_
      exact k
    · rw [if_neg c] at k
      refine az_cav rfl rfl rfl rfl ((ex_in 6 si 0 (nI (S1 + 1) - 1)).2 (fun q => c (hs2.mp q))) ?_
      exact k
  refine az_EX.of (enter _ ?_)
  by_cases c2 : ∃ j, j < S1 + 1 ∧ si = nI j
  case neg =>
    rw [if_neg c2, if_pos (fun c => c2 (hs.mp c))]
    (with_reducible apply az_ifneF); rfl
    refine az_sgp rfl rfl rfl rfl ?_
    refine az_ret rfl rfl rfl rfl ?_
    exact ⟨rfl, rfl⟩
  have n2 : ¬ ¬ (¬ si < 0 ∧ ¬ nI (S1 + 1) ≤ si) := fun c => c (hs.mpr c2)
  rw [if_pos c2, if_neg n2]
  (with_reducible apply az_ifneT); rfl
  clear n2 enter
  obtain ⟨s, hsS, rfl⟩ := c2
  refine az_sgp rfl rfl rfl rfl ?_
  refine az_ca2 rfl rfl rfl rfl (ex_in 6 w 0 2) (fun c3 => ?_) (fun c3 => ?_)
  case refine_2 =>
    (with_reducible apply az_ifneF); rfl
    refine az_sgp rfl rfl rfl rfl ?_
    refine az_ret rfl rfl rfl rfl ?_
    by_cases q1 : w < 0
    · rw [if_pos q1]
      exact ⟨rfl, rfl⟩
    · rw [if_neg q1]
      have q2 : ¬ w ≤ 2 := fun c => c3 ⟨q1, Int32.not_lt.mpr c⟩
      rw [if_pos q2]
      exact ⟨rfl, rfl⟩
  rw [if_neg c3.1, if_neg (fun c => c (Int32.not_lt.mp c3.2))]
  (with_reducible apply az_ifneT); rfl
  refine az_sgp rfl rfl rfl rfl ?_
  refine az_cav rfl rfl rfl rfl (ex_ofZone 6 (z := z) (w := 0) rfl rfl (by omega) ((hR.zp z z8).trans hp)) ?_
  refine az_bra rfl rfl rfl (fun q => ?_) (fun q => ?_)
  case refine_2 =>
    rw [if_pos q]
    refine az_sgp rfl rfl rfl rfl ?_
    refine az_ret rfl rfl rfl rfl ?_
    exact ⟨rfl, rfl⟩
  have n3 : ¬ ¬ nI s < nI p := fun c => c q
  rw [if_neg n3]
  have hc96 : 12 * z + s < 96 := by omega
  have e14 : az_rd (M 14) 96 (nI z * 12 + nI s) = M 14 (12 * z + s) := by
    rw [nI_cell, az_rdN hc96 (by decide)]
  have e16 : az_rd (M 16) 96 (nI z * 12 + nI s) = M 16 (12 * z + s) := by
    rw [nI_cell, az_rdN hc96 (by decide)]
  rw [nI_ltI (by omega) (by omega)] at q
  obtain ⟨k, hk, rfl⟩ := (in_iff (m := 2) (n := 2) rfl (by decide)).mp c3
  rcases (show k = 0 ∨ k = 1 ∨ k = 2 by omega) with rfl | rfl | rfl
  · rw [if_pos (by decide : nI 0 = 0), e14]
    refine az_sgp rfl rfl rfl rfl ?_
    refine az_bra rfl rfl rfl (fun q => absurd q (by decide)) (fun _ => ?_)
    refine az_sgp rfl rfl rfl rfl ?_
    refine az_cav rfl rfl rfl rfl (ex_slotAt 6 rfl rfl) ?_
    refine az_sgp rfl rfl rfl rfl ?_
    refine az_ald rfl rfl (k := 59 + 2 * (12 * z + s)) (nI_add _ 0) (by omega) (by decide) (hR.cl _ hc96) ?_
    refine az_sgp rfl rfl rfl rfl ?_
    refine az_ret rfl rfl rfl rfl ?_
    exact ⟨rfl, rfl⟩
  · rw [if_neg (by decide : ¬ nI 1 = 0), if_pos (by decide : nI 1 = 1), e16]
    refine az_sgp rfl rfl rfl rfl ?_
    refine az_bra rfl rfl rfl (fun q => absurd q (by decide)) (fun _ => ?_)
    refine az_sgp rfl rfl rfl rfl ?_
    refine az_cav rfl rfl rfl rfl (ex_slotAt 6 rfl rfl) ?_
    refine az_sgp rfl rfl rfl rfl ?_
    refine az_ald rfl rfl (k := 59 + 2 * (12 * z + s) + 1) (nI_add _ 1) (by omega) (by decide) (hR.cm _ hc96) ?_
    refine az_sgp rfl rfl rfl rfl ?_
    refine az_ret rfl rfl rfl rfl ?_
    exact ⟨rfl, rfl⟩
  · rw [if_neg (by decide : ¬ nI 2 = 0), if_neg (by decide : ¬ nI 2 = 1)]
    refine az_sgp rfl rfl rfl rfl ?_
    refine az_bra rfl rfl rfl (fun _ => ?_) (fun q => absurd (by decide) q)
    refine az_sgp rfl rfl rfl rfl ?_
    have hl : cg_live M (nI z) (nI s) ↔ cg_liveB M (nI z) (nI s) = true := by
      unfold cg_live cg_liveB
      rw [Bool.and_eq_true, decide_eq_true_eq, decide_eq_true_eq]
    refine az_ca2 rfl rfl rfl rfl (ex_isLive 5 hR hI rfl rfl z8 (show s < 12 by omega) hp (by omega)) (fun c => ?_) (fun c => ?_)
    · (with_reducible apply az_ifeqF); rfl
      rw [if_pos (hl.mpr c.2)]
      refine az_sgp rfl rfl rfl rfl ?_
      refine az_ret rfl rfl rfl rfl ?_
      exact ⟨rfl, rfl⟩
    · (with_reducible apply az_ifeqT); rfl
      rw [if_neg (fun x => c ⟨q, hl.mp x⟩)]
      refine az_sgp rfl rfl rfl rfl ?_
      refine az_ret rfl rfl rfl rfl ?_
      exact ⟨rfl, rfl⟩
end QRY
