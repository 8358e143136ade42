/-! CLASS AND REFERENCE: questions: scan -/
section QSC
variable {M N W : az_Mem} {a : Int32}
def cg_sc (M : az_Mem) (l : Int32) (z s : Nat) (st : Int32 × Int32) : Int32 × Int32 := if M 14 (12 * z + s) = l ∧ ¬ M 16 (12 * z + s) ≤ st.1 then (M 16 (12 * z + s), nI (100 * z + s)) else st
def cg_scI (M : az_Mem) (l : Int32) (z : Nat) : Nat → Nat → Int32 × Int32 → Int32 × Int32
  | 0, _, st => st
  | m + 1, s, st => cg_scI M l z m (s + 1) (cg_sc M l z s st)
def cg_scO (M : az_Mem) (l : Int32) (P : Nat → Nat) : Nat → Nat → Int32 × Int32 → Int32 × Int32
  | 0, _, st => st
  | m + 1, z, st => cg_scO M l P m (z + 1) (cg_scI M l z (P z) 0 st)
theorem ix_hun (z s : Nat) : 100 * nI z + nI s = nI (100 * z + s) := by
  show nI 100 * nI z + nI s = _
  rw [nI_mul, nI_add]
theorem ec_latestSlotOf (d : Nat) (li : Int32) {Z : Nat} {P : Nat → Nat} (hZ : M 2 0 = nI Z) (hZ8 : Z ≤ 8) (hP : ∀ z, z < Z → M 4 z = nI (P z) ∧ P z ≤ 12) : az_EX (d + 3) m_X6_latestSlotOf [.ref 1, .int li] (az_hp M) (some (.int (if ¬ cg_known li then -1 else (cg_scO M li P Z 0 (-1, -5)).2))) (az_hp M) := by
  have inner : ∀ (Q : Option Value → az_H → Prop) (z : Nat) (fin : Int32 × Int32), z < Z → (∀ v7 : az_V, az_RUN (d + 2) k_X6_latestSlotOf 130 [some (.ref 1), some (.int li), some (.int fin.1), some (.int fin.2), some (.int (nI z)), some (.int (nI (P z))), some (.int (nI (P z))), v7] [] (az_hp M) Q) → ∀ (m s : Nat) (st : Int32 × Int32) (v7 : az_V), s + m = P z → cg_scI M li z m s st = fin → az_RUN (d + 2) k_X6_latestSlotOf 50 [some (.ref 1), some (.int li), some (.int st.1), some (.int st.2), some (.int (nI z)), some (.int (nI (P z))), some (.int (nI s)), v7] [] (az_hp M) Q := by
    intro Q z fin hz kf m
    have hp := hP z hz
    induction m with
    | zero =>
      intro s st v7 hs hst
      have es : s = P z := by omega
      subst es
      have hst' : st = fin := hst
      subst hst'
      refine az_sgp rfl rfl rfl rfl ?_
      refine az_bra rfl rfl rfl (fun q => ?_) (fun q => ?_)
      · exact kf v7
      · exact absurd (nI_le (by omega) (by omega)) q
    | succ m ih =>
      intro s st v7 hs hst
      have hc : 12 * z + s < 96 := by omega
      have hst' : cg_scI M li z m (s + 1) (cg_sc M li z s st) = fin := hst
      have e14 : az_rd (M 14) 96 (nI z * 12 + nI s) = M 14 (12 * z + s) := by rw [nI_cell, az_rdN hc (by decide)]
      have e16 : az_rd (M 16) 96 (nI z * 12 + nI s) = M 16 (12 * z + s) := by rw [nI_cell, az_rdN hc (by decide)]
      refine az_sgp rfl rfl rfl rfl ?_
      refine az_bra rfl rfl rfl (fun q => ?_) (fun q => ?_)
      · exact absurd q (nI_ge (by omega) (by omega))
      refine az_sgp rfl rfl rfl rfl ?_
      refine az_cav rfl rfl rfl rfl (ec_cellAt (d + 1) (nI z) (nI s)) ?_
      refine az_sgp rfl rfl rfl rfl ?_
      refine az_cav rfl rfl rfl rfl (ev_X5_at (d + 1) rfl rfl (by decide) (nI z * 12 + nI s)) ?_
      rw [e14]
      refine az_sgp rfl rfl rfl rfl ?_
      refine az_bra rfl rfl rfl (fun q1 => ?_) (fun q1 => ?_)
      · refine az_sgp rfl rfl rfl rfl ?_
        refine az_cav rfl rfl rfl rfl (ev_X5_at (d + 1) rfl rfl (by decide) (nI z * 12 + nI s)) ?_
        rw [e16]
        refine az_sgp rfl rfl rfl rfl ?_
        refine az_bra rfl rfl rfl (fun q2 => ?_) (fun q2 => ?_)
        · refine az_sg 2 rfl ?_
          rw [nI_1]
          have e : cg_sc M li z s st = st := if_neg (fun c => c.2 q2)
          rw [e] at hst'
          exact ih (s + 1) st _ (by omega) hst'
        · refine az_sgp rfl rfl rfl rfl ?_
          refine az_cav rfl rfl rfl rfl (ev_X5_at (d + 1) rfl rfl (by decide) (nI z * 12 + nI s)) ?_
          rw [e16]
          have e : cg_sc M li z s st = (M 16 (12 * z + s), nI (100 * z + s)) := if_pos ⟨q1, q2⟩
          rw [e] at hst'
          refine az_sg 7 rfl ?_
          rw [ix_hun]
          refine az_sg 2 rfl ?_
          rw [nI_1]
          exact ih (s + 1) _ _ (by omega) hst'
      · refine az_sg 2 rfl ?_
        rw [nI_1]
        have e : cg_sc M li z s st = st := if_neg (fun c => q1 c.1)
        rw [e] at hst'
        exact ih (s + 1) st _ (by omega) hst'
  have outer : ∀ (m z : Nat) (st : Int32 × Int32) (v5 v6 v7 : az_V), z + m = Z → az_RUN (d + 2) k_X6_latestSlotOf 21 [some (.ref 1), some (.int li), some (.int st.1), some (.int st.2), some (.int (nI z)), v5, v6, v7] [] (az_hp M) (fun r1 h1 => r1 = some (.int (cg_scO M li P m z st).2) ∧ h1 = az_hp M) := by
    intro m
    induction m with
    | zero =>
      intro z st v5 v6 v7 hs
      refine az_sgp rfl rfl rfl rfl ?_
      rw [hZ]
      refine az_bra rfl rfl rfl (fun q => ?_) (fun q => ?_)
      · refine az_sgp rfl rfl rfl rfl ?_
        refine az_ret rfl rfl rfl rfl ?_
        exact ⟨rfl, rfl⟩
      · exact absurd (nI_le (by omega) (by omega)) q
    | succ m ih =>
      intro z st v5 v6 v7 hs
      refine az_sgp rfl rfl rfl rfl ?_
      rw [hZ]
      refine az_bra rfl rfl rfl (fun q => ?_) (fun q => ?_)
      · exact absurd q (nI_ge (by omega) (by omega))
      have ep : az_rd (M 4) 8 (nI z) = nI (P z) := by rw [az_rdN (by omega) (by decide)]; exact (hP z (by omega)).1
      refine az_sgp rfl rfl rfl rfl ?_
      refine az_cav rfl rfl rfl rfl (ev_X5_at (d + 1) rfl rfl (by decide) (nI z)) ?_
      rw [ep]
      refine az_sg 3 rfl ?_
      refine inner _ z _ (by omega) (fun v7 => ?_) (P z) 0 st v7 (by omega) rfl
      refine az_sg 2 rfl ?_
      rw [nI_1]
      exact ih (z + 1) _ _ _ _ (by omega)
  refine az_EX.of (az_in0 (code := k_X6_latestSlotOf) (ls := [some (.ref 1), some (.int li), none, none, none, none, none, none]) rfl rfl rfl ?_)
  refine az_sgp rfl rfl rfl rfl ?_
  refine az_ca2 rfl rfl rfl rfl (ec_isKnown (d + 1) li) (fun c => ?_) (fun c => ?_)
  · have n1 : ¬ ¬ cg_known li := fun x => x c
    rw [if_neg n1]
    (with_reducible apply az_ifneT); rfl
    refine az_sg 6 rfl ?_
    exact outer Z 0 (-1, -5) _ _ _ (by omega)
  · rw [if_pos c]
    (with_reducible apply az_ifneF); rfl
    refine az_sgp rfl rfl rfl rfl ?_
    refine az_ret rfl rfl rfl rfl ?_
    exact ⟨rfl, rfl⟩
theorem IW.pts (h : IW W) : ∃ P : Nat → Nat, ∀ z, z < 8 → W 4 z = nI (P z) ∧ P z ≤ 12 := by
  refine ⟨fun z => (W 4 z).toNatClampNeg, fun z hz => ?_⟩
  obtain ⟨S, p, hS, hS2, hS12, hp, hpS⟩ := h.ptz hz
  show W 4 z = nI (W 4 z).toNatClampNeg ∧ (W 4 z).toNatClampNeg ≤ 12
  rw [hp, nI_clamp (by omega)]
  exact ⟨rfl, by omega⟩
theorem pair_scan (hM : INV M) (li : Int32) : PAIR M m_X8_scan m_X9_scan [.int li] := by
  have hR : RR M (az_up M 192 0 0 193) := hM.1
  have hI := hM.2.1
  obtain ⟨Z, za, hZ, ha, h2, h8, haZ⟩ := hI.zn
  obtain ⟨P, hP⟩ := hI.pts
  refine pair_qry hM (ec8_scan 1 (ec_latestSlotOf (M := M) 4 li hZ h8 (fun z hz => hP z (by omega)))) ?_
  by_cases c1 : ∃ j, j < 40 ∧ li = nI j
  case neg =>
    rw [if_pos (fun c => c1 (kn_iff.mp c))]
    refine az_EX.of (az_in0 (code := k_X9_scan) (ls := [some (.ref 192), some (.int li), none, none, none, none]) rfl rfl rfl ?_)
    refine az_sgp rfl rfl rfl rfl ?_
    refine az_cav rfl rfl rfl rfl ((ex_isLoad 5 li).2 c1) ?_
    (with_reducible apply az_ifneF); rfl
    refine az_sgp rfl rfl rfl rfl ?_
    refine az_ret rfl rfl rfl rfl ?_
    exact ⟨rfl, rfl⟩
  have n1 : ¬ ¬ cg_known li := fun c => c (kn_iff.mpr c1)
  rw [if_neg n1]
  clear n1
  have inner : ∀ (Q : Option Value → az_H → Prop) (z : Nat) (fin : Int32 × Int32), z < Z → (az_RUN 7 k_X9_scan 112 [some (.ref 192), some (.int li), some (.int fin.2), some (.int fin.1), some (.int (nI z)), some (.int (nI (P z)))] [] (az_hp (az_up M 192 0 0)) Q) → ∀ (m s : Nat) (st : Int32 × Int32), s + m = P z → cg_scI M li z m s st = fin → az_RUN 7 k_X9_scan 36 [some (.ref 192), some (.int li), some (.int st.2), some (.int st.1), some (.int (nI z)), some (.int (nI s))] [] (az_hp (az_up M 192 0 0)) Q := by
    intro Q z fin hz kf m
    have hp := hP z (by omega)
    have k0 := ex_ofZone 6 (M := az_up M 192 0 0) (z := z) (w := 0) rfl rfl (by omega) ((hR.zp z (by omega)).trans hp.1)
    induction m with
    | zero =>
      intro s st hs hst
      have es : s = P z := by omega
      subst es
      have hst' : st = fin := hst
      subst hst'
      refine az_sgp rfl rfl rfl rfl ?_
      refine az_cav rfl rfl rfl rfl k0 ?_
      refine az_bra rfl rfl rfl (fun q => ?_) (fun q => ?_)
      · exact kf
      · exact absurd (nI_le (by omega) (by omega)) q
    | succ m ih =>
      intro s st hs hst
      have hc : 12 * z + s < 96 := by omega
      have hst' : cg_scI M li z m (s + 1) (cg_sc M li z s st) = fin := hst
      refine az_sgp rfl rfl rfl rfl ?_
      refine az_cav rfl rfl rfl rfl k0 ?_
      refine az_bra rfl rfl rfl (fun q => ?_) (fun q => ?_)
      · exact absurd q (nI_ge (by omega) (by omega))
      refine az_sgp rfl rfl rfl rfl ?_
      refine az_cav rfl rfl rfl rfl (ex_slotAt 6 rfl rfl) ?_
      refine az_ald rfl rfl (k := 59 + 2 * (12 * z + s)) rfl (by omega) (by decide) (hR.cl _ hc) ?_
      refine az_sgp rfl rfl rfl rfl ?_
      refine az_bra rfl rfl rfl (fun q1 => ?_) (fun q1 => ?_)
      · refine az_sgp rfl rfl rfl rfl ?_
        refine az_cav rfl rfl rfl rfl (ex_slotAt 6 rfl rfl) ?_
        refine az_sgp rfl rfl rfl rfl ?_
        refine az_ald rfl rfl (k := 59 + 2 * (12 * z + s) + 1) (nI_1 _) (by omega) (by decide) (hR.cm _ hc) ?_
        refine az_sgp rfl rfl rfl rfl ?_
        refine az_bra rfl rfl rfl (fun q2 => ?_) (fun q2 => ?_)
        · refine az_sg 2 rfl ?_
          rw [nI_1]
          have e : cg_sc M li z s st = st := if_neg (fun c => c.2 q2)
          rw [e] at hst'
          exact ih (s + 1) st (by omega) hst'
        · refine az_sgp rfl rfl rfl rfl ?_
          rw [ix_hun]
          refine az_cav rfl rfl rfl rfl (ex_slotAt 6 rfl rfl) ?_
          refine az_sgp rfl rfl rfl rfl ?_
          refine az_ald rfl rfl (k := 59 + 2 * (12 * z + s) + 1) (nI_1 _) (by omega) (by decide) (hR.cm _ hc) ?_
          have e : cg_sc M li z s st = (M 16 (12 * z + s), nI (100 * z + s)) := if_pos ⟨q1, q2⟩
          rw [e] at hst'
          refine az_sg 3 rfl ?_
          rw [nI_1]
          exact ih (s + 1) _ (by omega) hst'
      · refine az_sg 2 rfl ?_
        rw [nI_1]
        have e : cg_sc M li z s st = st := if_neg (fun c => q1 c.1)
        rw [e] at hst'
        exact ih (s + 1) st (by omega) hst'
  have outer : ∀ (m z : Nat) (st : Int32 × Int32) (v5 : az_V), z + m = Z → az_RUN 7 k_X9_scan 22 [some (.ref 192), some (.int li), some (.int st.2), some (.int st.1), some (.int (nI z)), v5] [] (az_hp (az_up M 192 0 0)) (fun r1 h1 => r1 = some (.int (cg_scO M li P m z st).2) ∧ h1 = az_hp (az_up M 192 0 0)) := by
    intro m
    induction m with
    | zero =>
      intro z st v5 hs
      refine az_sgp rfl rfl rfl rfl ?_
      refine az_ald rfl rfl (k := 0) rfl (by decide) (by decide) (hR.zones.trans hZ) ?_
      refine az_bra rfl rfl rfl (fun q => ?_) (fun q => ?_)
      · refine az_sgp rfl rfl rfl rfl ?_
        refine az_ret rfl rfl rfl rfl ?_
        exact ⟨rfl, rfl⟩
      · exact absurd (nI_le (by omega) (by omega)) q
    | succ m ih =>
      intro z st v5 hs
      refine az_sgp rfl rfl rfl rfl ?_
      refine az_ald rfl rfl (k := 0) rfl (by decide) (by decide) (hR.zones.trans hZ) ?_
      refine az_bra rfl rfl rfl (fun q => ?_) (fun q => ?_)
      · exact absurd q (nI_ge (by omega) (by omega))
      refine az_sg 2 rfl ?_
      refine inner _ z _ (by omega) ?_ (P z) 0 st (by omega) rfl
      refine az_sg 2 rfl ?_
      rw [nI_1]
      exact ih (z + 1) _ _ (by omega)
  refine az_EX.of (az_in0 (code := k_X9_scan) (ls := [some (.ref 192), some (.int li), none, none, none, none]) rfl rfl rfl ?_)
  refine az_sgp rfl rfl rfl rfl ?_
  refine az_cav rfl rfl rfl rfl ((ex_isLoad 5 li).1 c1) ?_
  (with_reducible apply az_ifneT); rfl
  refine az_sg 6 rfl ?_
  exact outer Z 0 (-1, -5) _ (by omega)
end QSC
