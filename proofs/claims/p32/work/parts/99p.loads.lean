/-! THE LAW: areLoads -/
section LDS
variable {M : az_Mem}
theorem q_load (d : Nat) {B : Nat} (hB : M 24 4 = nI B) (h6 : B ≤ 6) (l w : Int32) {v : Int32} (e : cg_ofL M l w B = v) : az_EX (d + 7) m_X8_load [.ref 0, .int l, .int w] (az_hp M) (some (.int v)) (az_hp M) := by
  rw [← e]
  exact ec8_load d (ec_ofLoad (M := M) (d + 2) l w hB h6)
theorem ofL_in {k B : Nat} {w : Int32} (hk : k < 40) : cg_ofL M (nI k) w B = if w = 0 then M 19 k else if w = 1 then cg_sof M (nI k) 1 else if w = 2 then cg_sof M (nI k) 2 else if w = 3 then cg_sof M (nI k) 3 else if w = 4 then M 23 k else if w = 5 then (if M 17 0 ≤ M 23 k then 1 else 0) else if w = 6 then az_find (M 26) (nI k) B 0 else -2 := by
  unfold cg_ofL
  rw [if_neg (not_not_intro ⟨nI_pos (by omega), nI_ge (b := 40) hk (by decide)⟩), az_rdN hk (by decide), az_rdN hk (by decide)]
theorem sof_in {k : Nat} {w : Int32} (hk : k < 40) : cg_sof M (nI k) w = if ¬ M 19 k = 1 then -5 else if w = 1 then M 21 k / 12 else if w = 2 then M 21 k - M 21 k / 12 * 12 else az_rd (M 16) 96 (M 21 k) := by
  unfold cg_sof
  rw [az_rdN hk (by decide), az_rdN hk (by decide)]
theorem q_car (d : Nat) (w : Int32) {v : Int32} (e : cg_car M w = v) : az_EX (d + 7) m_X8_caravan [.ref 0, .int w] (az_hp M) (some (.int v)) (az_hp M) := by
  rw [← e]
  exact ec8_caravan d (ec_ofCaravan (M := M) (d + 5) w)
theorem q_bag (d : Nat) (i : Int32) {v : Int32} (e : cg_bagAt M i = v) : az_EX (d + 7) m_X8_bagAt [.ref 0, .int i] (az_hp M) (some (.int v)) (az_hp M) := by
  rw [← e]
  exact ec8_bagAt d (ec_ofBag (M := M) (d + 4) i)
theorem la_areLoads (d : Nat) (hM : INVL M) : az_EX (d + 8) m_L_areLoads [.ref 0, .ref 192, .ref 194, .ref 195] (az_hp M) (some (.int 1)) (az_hp M) := by
  obtain ⟨hR, hI, hX, -⟩ := hM
  obtain ⟨Z, a, hZ, ha, h2, h8, haZ⟩ := hI.zn
  obtain ⟨B, R, hB, hRo, hBR, hR6, -, -, -⟩ := hI.bag
  obtain ⟨S, hS, s2, s12, hs⟩ := hI.sl
  obtain ⟨P, hP⟩ : ∃ P : Nat → Nat, ∀ z, z < 8 → M 4 z = nI (P z) ∧ P z ≤ 12 := by
    refine ⟨fun z => (M 4 z).toNatClampNeg, fun z hz => ?_⟩
    obtain ⟨p, e5, e6, -⟩ := hs z hz
    show M 4 z = nI ((M 4 z).toNatClampNeg) ∧ (M 4 z).toNatClampNeg ≤ 12
    rw [e5, nI_clamp (by omega)]
    exact ⟨rfl, by omega⟩
  have h12 : cg_hot M = az_cnt (fun l => decide (M 17 0 ≤ M 23 l)) 12 := by
    unfold cg_hot
    refine az_cnt_tail _ (n := 12) 28 (fun l h1 h2 => ?_)
    obtain ⟨b, hb, b1, b9⟩ := hX.bd
    rw [(hX.no l h1 (by omega)).2, hb, decide_eq_false (show ¬ nI b ≤ 0 from nI_nle (by omega) (by omega))]
  have fin : ∀ (k : Int32) (v6 v7 : az_V), az_RUN (d + 7) k_L_areLoads 306 [some (.ref 0), some (.ref 192), some (.ref 194), some (.ref 195), some (.int (nI (az_cnt (fun l => decide (M 17 0 ≤ M 23 l)) 12))), some (.int (k)), v6, v7] [] (az_hp M) (fun r1 h1 => r1 = some (.int 1) ∧ h1 = az_hp M) := by
    intro k v6 v7
    have c0 := q_car (M := M) d 0 (v := M 24 0) (by unfold cg_car; rw [if_pos rfl])
    have c1 := q_car (M := M) d 1 (v := M 24 1) (by unfold cg_car; rw [if_neg (by decide), if_pos rfl])
    have c2 := q_car (M := M) d 2 (v := M 24 2) (by unfold cg_car; rw [if_neg (by decide), if_neg (by decide), if_pos rfl])
    have c3 := q_car (M := M) d 3 (v := M 24 4) (by unfold cg_car; rw [if_neg (by decide), if_neg (by decide), if_neg (by decide), if_pos rfl])
    have c4 := q_car (M := M) d 4 (v := M 24 3) (by unfold cg_car; rw [if_neg (by decide), if_neg (by decide), if_neg (by decide), if_neg (by decide), if_pos rfl])
    have c5 := q_car (M := M) d 5 (v := M 24 5) (by unfold cg_car; rw [if_neg (by decide), if_neg (by decide), if_neg (by decide), if_neg (by decide), if_neg (by decide), if_pos rfl])
    have c6 := q_car (M := M) d 6 (v := M 24 6) (by unfold cg_car; rw [if_neg (by decide), if_neg (by decide), if_neg (by decide), if_neg (by decide), if_neg (by decide), if_neg (by decide), if_pos rfl])
    have c7 := q_car (M := M) d 7 (v := -2) (by unfold cg_car; rw [if_neg (by decide), if_neg (by decide), if_neg (by decide), if_neg (by decide), if_neg (by decide), if_neg (by decide), if_neg (by decide)])
    have hc := q_count (M := M) d hZ h8 hP 6 (by decide) (by decide) (v := nI (az_cnt (fun l => decide (M 17 0 ≤ M 23 l)) 12)) (by unfold cg_all; rw [if_neg (by decide), if_neg (by decide), if_neg (by decide), if_neg (by decide), if_neg (by decide), if_neg (by decide), if_pos rfl, h12])
    have l1 := q_load (M := M) d hB (by omega) 40 0 (v := -1) (by unfold cg_ofL; rw [if_pos (by decide)])
    have l2 := q_load (M := M) d hB (by omega) 0 7 (v := -2) (by rw [show (0 : Int32) = nI 0 from rfl, ofL_in (by decide), if_neg (by decide), if_neg (by decide), if_neg (by decide), if_neg (by decide), if_neg (by decide), if_neg (by decide), if_neg (by decide)])
    have b1 := q_bag (M := M) d (-1) (v := -2) (by unfold cg_bagAt; rw [if_pos (by decide)])
    refine az_sgp rfl rfl rfl rfl ?_
    refine az_cav rfl rfl rfl rfl (c0) ?_
    refine az_sgp rfl rfl rfl rfl ?_
    refine az_ald rfl rfl (k := 2) (rfl) (by omega) (by decide) (hR.at_) ?_
    refine az_bra rfl rfl rfl (fun q => ?_) (fun q => ?_)
    rotate_left
    · exact absurd rfl q
    refine az_sgp rfl rfl rfl rfl ?_
    refine az_cav rfl rfl rfl rfl (c1) ?_
    refine az_sgp rfl rfl rfl rfl ?_
    refine az_ald rfl rfl (k := 3) (rfl) (by omega) (by decide) (hR.water) ?_
    refine az_bra rfl rfl rfl (fun q => ?_) (fun q => ?_)
    rotate_left
    · exact absurd rfl q
    refine az_sgp rfl rfl rfl rfl ?_
    refine az_cav rfl rfl rfl rfl (c2) ?_
    refine az_sgp rfl rfl rfl rfl ?_
    refine az_ald rfl rfl (k := 4) (rfl) (by omega) (by decide) (hR.skin) ?_
    refine az_bra rfl rfl rfl (fun q => ?_) (fun q => ?_)
    rotate_left
    · exact absurd rfl q
    refine az_sgp rfl rfl rfl rfl ?_
    refine az_cav rfl rfl rfl rfl (c3) ?_
    refine az_sgp rfl rfl rfl rfl ?_
    refine az_ald rfl rfl (k := 12) (rfl) (by omega) (by decide) (hR.many) ?_
    refine az_bra rfl rfl rfl (fun q => ?_) (fun q => ?_)
    rotate_left
    · exact absurd rfl q
    refine az_sgp rfl rfl rfl rfl ?_
    refine az_cav rfl rfl rfl rfl (c4) ?_
    refine az_sgp rfl rfl rfl rfl ?_
    refine az_ald rfl rfl (k := 5) (rfl) (by omega) (by decide) (hR.room) ?_
    refine az_bra rfl rfl rfl (fun q => ?_) (fun q => ?_)
    rotate_left
    · exact absurd rfl q
    refine az_sgp rfl rfl rfl rfl ?_
    refine az_cav rfl rfl rfl rfl (c5) ?_
    refine az_sgp rfl rfl rfl rfl ?_
    refine az_ald rfl rfl (k := 8) (rfl) (by omega) (by decide) (hR.steps) ?_
    refine az_bra rfl rfl rfl (fun q => ?_) (fun q => ?_)
    rotate_left
    · exact absurd rfl q
    refine az_sgp rfl rfl rfl rfl ?_
    refine az_cav rfl rfl rfl rfl (c6) ?_
    refine az_sgp rfl rfl rfl rfl ?_
    refine az_ald rfl rfl (k := 9) (rfl) (by omega) (by decide) (hR.used) ?_
    refine az_bra rfl rfl rfl (fun q => ?_) (fun q => ?_)
    rotate_left
    · exact absurd rfl q
    refine az_sgp rfl rfl rfl rfl ?_
    refine az_ifeqF rfl ?_
    refine az_sgp rfl rfl rfl rfl ?_
    refine az_cav rfl rfl rfl rfl (hc) ?_
    refine az_sgp rfl rfl rfl rfl ?_
    refine az_bra rfl rfl rfl (fun q => ?_) (fun q => ?_)
    rotate_left
    · exact absurd rfl q
    refine az_sgp rfl rfl rfl rfl ?_
    refine az_cav rfl rfl rfl rfl (l1) ?_
    refine az_sgp rfl rfl rfl rfl ?_
    refine az_bra rfl rfl rfl (fun q => ?_) (fun q => ?_)
    rotate_left
    · exact absurd rfl q
    refine az_sgp rfl rfl rfl rfl ?_
    refine az_cav rfl rfl rfl rfl (l2) ?_
    refine az_sgp rfl rfl rfl rfl ?_
    refine az_bra rfl rfl rfl (fun q => ?_) (fun q => ?_)
    rotate_left
    · exact absurd rfl q
    refine az_sgp rfl rfl rfl rfl ?_
    refine az_cav rfl rfl rfl rfl (c7) ?_
    refine az_sgp rfl rfl rfl rfl ?_
    refine az_bra rfl rfl rfl (fun q => ?_) (fun q => ?_)
    rotate_left
    · exact absurd rfl q
    refine az_sgp rfl rfl rfl rfl ?_
    refine az_cav rfl rfl rfl rfl (b1) ?_
    refine az_sgp rfl rfl rfl rfl ?_
    refine az_bra rfl rfl rfl (fun q => ?_) (fun q => ?_)
    rotate_left
    · exact absurd rfl q
    refine az_sgp rfl rfl rfl rfl ?_
    refine az_ret rfl rfl rfl rfl ?_
    exact ⟨rfl, rfl⟩
  have KB : ∀ (m k : Nat) (v6 v7 : az_V), k + m = 7 → az_RUN (d + 7) k_L_areLoads 261 [some (.ref 0), some (.ref 192), some (.ref 194), some (.ref 195), some (.int (nI (az_cnt (fun l => decide (M 17 0 ≤ M 23 l)) 12))), some (.int (nI k)), v6, v7] [] (az_hp M) (fun r1 h1 => r1 = some (.int 1) ∧ h1 = az_hp M) := by
    intro m
    induction m with
    | zero =>
      intro k v6 v7 hk
      have e : k = 7 := by omega
      subst e
      refine az_sgp rfl rfl rfl rfl ?_
      refine az_bra rfl rfl rfl (fun q => ?_) (fun q => ?_)
      · exact fin _ v6 v7
      · exact absurd (nI_le (a := 7) (b := 7) (Nat.le_refl _) (by decide)) q
    | succ m ih =>
      intro k v6 v7 hk
      have nx : az_RUN (d + 7) k_L_areLoads 300 [some (.ref 0), some (.ref 192), some (.ref 194), some (.ref 195), some (.int (nI (az_cnt (fun l => decide (M 17 0 ≤ M 23 l)) 12))), some (.int (nI k)), v6, v7] [] (az_hp M) (fun r1 h1 => r1 = some (.int 1) ∧ h1 = az_hp M) := by
        have i1 := ih (k + 1) v6 v7 (by omega)
        rw [← nI_1 k] at i1
        refine az_sg 2 rfl ?_
        exact i1
      refine az_sgp rfl rfl rfl rfl ?_
      refine az_bra rfl rfl rfl (fun q0 => ?_) (fun q0 => ?_)
      · exact absurd q0 (nI_ge (a := k) (b := 7) (by omega) (by decide))
      refine az_sgp rfl rfl rfl rfl ?_
      by_cases hk2 : B ≤ k
      · have qb := q_bag (M := M) d (nI k) (v := -5) (by
          unfold cg_bagAt
          rw [if_neg (nI_pos (by omega)), if_pos (by rw [hB]; exact nI_le hk2 (by omega))])
        refine az_cav rfl rfl rfl rfl (qb) ?_
        refine az_sgp rfl rfl rfl rfl ?_
        refine az_ald rfl rfl (k := 12) (rfl) (by omega) (by decide) (hR.many.trans hB) ?_
        refine az_bra rfl rfl rfl (fun q => ?_) (fun q => ?_)
        rotate_left
        · exact absurd (nI_le hk2 (by omega)) q
        refine az_sgp rfl rfl rfl rfl ?_
        refine az_bra rfl rfl rfl (fun q => ?_) (fun q => ?_)
        · exact nx
        · exact absurd rfl q
      · have qb := q_bag (M := M) d (nI k) (v := M 26 k) (by
          unfold cg_bagAt
          rw [if_neg (nI_pos (by omega)), if_neg (by rw [hB]; exact nI_ge (by omega) (by omega)), az_rdN (by omega) (by decide)])
        refine az_cav rfl rfl rfl rfl (qb) ?_
        refine az_sgp rfl rfl rfl rfl ?_
        refine az_ald rfl rfl (k := 12) (rfl) (by omega) (by decide) (hR.many.trans hB) ?_
        refine az_bra rfl rfl rfl (fun q => ?_) (fun q => ?_)
        · exact absurd q (nI_ge (by omega) (by omega))
        refine az_sgp rfl rfl rfl rfl ?_
        refine az_ald rfl rfl (k := 13 + k) (nI_add 13 k) (by omega) (by decide) (hR.bag (by omega)) ?_
        refine az_sgp rfl rfl rfl rfl ?_
        refine az_bra rfl rfl rfl (fun q => ?_) (fun q => ?_)
        · exact nx
        · exact absurd rfl q
  have KL : ∀ (m k : Nat) (v6 v7 : az_V), k + m = 12 → az_RUN (d + 7) k_L_areLoads 6 [some (.ref 0), some (.ref 192), some (.ref 194), some (.ref 195), some (.int (nI (az_cnt (fun l => decide (M 17 0 ≤ M 23 l)) k))), some (.int (nI k)), v6, v7] [] (az_hp M) (fun r1 h1 => r1 = some (.int 1) ∧ h1 = az_hp M) := by
    intro m
    induction m with
    | zero =>
      intro k v6 v7 hk
      have e : k = 12 := by omega
      subst e
      refine az_sgp rfl rfl rfl rfl ?_
      refine az_bra rfl rfl rfl (fun q => ?_) (fun q => ?_)
      · refine az_sg 2 rfl ?_
        exact KB 7 0 v6 v7 (by omega)
      · exact absurd (nI_le (a := 12) (b := 12) (Nat.le_refl _) (by decide)) q
    | succ m ih =>
      intro k v6 v7 hk
      have hk12 : k < 12 := by omega
      obtain ⟨y, x, hy, hx, ec⟩ := hX.ce k (by omega)
      obtain ⟨e1, e2⟩ := nI_d12 hy hx
      have ql : ∀ (w : Int32) {v : Int32}, cg_ofL M (nI k) w B = v → az_EX (d + 7) m_X8_load [.ref 0, .int (nI k), .int w] (az_hp M) (some (.int v)) (az_hp M) := fun w v e => q_load d hB (by omega) (nI k) w e
      have w0 := ql 0 (v := M 19 k) (by rw [ofL_in (by omega), if_pos rfl])
      have w4 := ql 4 (v := M 23 k) (by rw [ofL_in (by omega), if_neg (by decide), if_neg (by decide), if_neg (by decide), if_neg (by decide), if_pos rfl])
      have w5 := ql 5 (v := if M 17 0 ≤ M 23 k then 1 else 0) (by rw [ofL_in (by omega), if_neg (by decide), if_neg (by decide), if_neg (by decide), if_neg (by decide), if_neg (by decide), if_pos rfl])
      have w6 := ql 6 (v := az_find (M 26) (nI k) B 0) (by rw [ofL_in (by omega), if_neg (by decide), if_neg (by decide), if_neg (by decide), if_neg (by decide), if_neg (by decide), if_neg (by decide), if_pos rfl])
      have nx : ∀ x6 x7 : az_V, az_RUN (d + 7) k_L_areLoads 227 [some (.ref 0), some (.ref 192), some (.ref 194), some (.ref 195), some (.int (nI (az_cnt (fun l => decide (M 17 0 ≤ M 23 l)) k))), some (.int (nI k)), x6, x7] [] (az_hp M) (fun r1 h1 => r1 = some (.int 1) ∧ h1 = az_hp M) := by
        intro x6 x7
        have i1 := ih (k + 1) x6 x7 (by omega)
        rw [← nI_1 k] at i1
        refine az_sgp rfl rfl rfl rfl ?_
        refine az_ald rfl rfl (k := 4 * k + 3) (ix4c k 3) (by omega) (by decide) (hR.lh hk12) ?_
        refine az_sgp rfl rfl rfl rfl ?_
        refine az_ald rfl rfl (k := 6) (rfl) (by omega) (by decide) (hR.bound) ?_
        refine az_bra rfl rfl rfl (fun q => ?_) (fun q => ?_)
        · have e : az_cnt (fun l => decide (M 17 0 ≤ M 23 l)) (k + 1) = az_cnt (fun l => decide (M 17 0 ≤ M 23 l)) k + 0 := by
            show az_cnt _ k + (if decide (M 17 0 ≤ M 23 k) = true then 1 else 0) = _
            rw [if_neg (by rw [decide_eq_false (Int32.not_le.mpr q)]; decide)]
          rw [e, ← nI_add] at i1
          refine az_sgp rfl rfl rfl rfl ?_
          refine az_sg 1 rfl ?_
          exact i1
        · have e : az_cnt (fun l => decide (M 17 0 ≤ M 23 l)) (k + 1) = az_cnt (fun l => decide (M 17 0 ≤ M 23 l)) k + 1 := by
            show az_cnt _ k + (if decide (M 17 0 ≤ M 23 k) = true then 1 else 0) = _
            rw [if_pos (decide_eq_true (Int32.not_lt.mp q))]
          rw [e, ← nI_1] at i1
          refine az_sgp rfl rfl rfl rfl ?_
          refine az_sg 1 rfl ?_
          exact i1
      have b155 : ∀ x6 : az_V, az_RUN (d + 7) k_L_areLoads 148 [some (.ref 0), some (.ref 192), some (.ref 194), some (.ref 195), some (.int (nI (az_cnt (fun l => decide (M 17 0 ≤ M 23 l)) k))), some (.int (nI k)), x6, v7] [] (az_hp M) (fun r1 h1 => r1 = some (.int 1) ∧ h1 = az_hp M) := by
        intro x6
        refine az_sgp rfl rfl rfl rfl ?_
        refine az_ifeqF rfl ?_
        refine az_sgp rfl rfl rfl rfl ?_
        refine az_cav rfl rfl rfl rfl (w4) ?_
        refine az_sgp rfl rfl rfl rfl ?_
        refine az_ald rfl rfl (k := 4 * k + 3) (ix4c k 3) (by omega) (by decide) (hR.lh hk12) ?_
        refine az_bra rfl rfl rfl (fun q => ?_) (fun q => ?_)
        rotate_left
        · exact absurd rfl q
        refine az_sgp rfl rfl rfl rfl ?_
        refine az_cav rfl rfl rfl rfl (w5) ?_
        refine az_sgp rfl rfl rfl rfl ?_
        refine az_ald rfl rfl (k := 4 * k + 3) (ix4c k 3) (by omega) (by decide) (hR.lh hk12) ?_
        refine az_sgp rfl rfl rfl rfl ?_
        refine az_ald rfl rfl (k := 6) (rfl) (by omega) (by decide) (hR.bound) ?_
        have t6 : az_RUN (d + 7) k_L_areLoads 208 [some (.ref 0), some (.ref 192), some (.ref 194), some (.ref 195), some (.int (nI (az_cnt (fun l => decide (M 17 0 ≤ M 23 l)) k))), some (.int (nI k)), x6, some (.int 1)] [] (az_hp M) (fun r1 h1 => r1 = some (.int 1) ∧ h1 = az_hp M) := by
          refine az_sgp rfl rfl rfl rfl ?_
          refine az_cav rfl rfl rfl rfl (w6) ?_
          refine az_sgp rfl rfl rfl rfl ?_
          refine az_cav rfl rfl rfl rfl (el_place (d + 6) hR (nI k) hB (by omega)) ?_
          refine az_bra rfl rfl rfl (fun q => ?_) (fun q => ?_)
          · exact nx _ _
          · exact absurd rfl q
        refine az_bra rfl rfl rfl (fun q => ?_) (fun q => ?_)
        · rw [if_neg (Int32.not_le.mpr q)]
          refine az_sgp rfl rfl rfl rfl ?_
          refine az_bra rfl rfl rfl (fun q => ?_) (fun q => ?_)
          · exact t6
          · exact absurd rfl q
        · rw [if_pos (Int32.not_lt.mp q)]
          refine az_sgp rfl rfl rfl rfl ?_
          refine az_bra rfl rfl rfl (fun q => ?_) (fun q => ?_)
          · exact t6
          · exact absurd rfl q
      refine az_sgp rfl rfl rfl rfl ?_
      refine az_bra rfl rfl rfl (fun q0 => ?_) (fun q0 => ?_)
      · exact absurd q0 (nI_ge (a := k) (b := 12) (by omega) (by decide))
      refine az_sgp rfl rfl rfl rfl ?_
      refine az_ald rfl rfl (k := 4 * k) (ix4 k) (by omega) (by decide) (hR.lw hk12) ?_
      refine az_sgp rfl rfl rfl rfl ?_
      refine az_bra rfl rfl rfl (fun qs => ?_) (fun qs => ?_)
      · -- it lies in a slot
        have w1 := ql 1 (v := nI y) (by rw [ofL_in (by omega), if_neg (by decide), if_pos rfl, sof_in (by omega), if_neg (not_not_intro qs), if_pos rfl, ec, e1])
        have w2 := ql 2 (v := nI x) (by rw [ofL_in (by omega), if_neg (by decide), if_neg (by decide), if_pos rfl, sof_in (by omega), if_neg (not_not_intro qs), if_neg (by decide), if_pos rfl, ec, e2])
        have w3 := ql 3 (v := M 16 (12 * y + x)) (by rw [ofL_in (by omega), if_neg (by decide), if_neg (by decide), if_neg (by decide), if_pos rfl, sof_in (by omega), if_neg (not_not_intro qs), if_neg (by decide), if_neg (by decide), ec, az_rdN (by omega) (by decide)])
        have k1 := (hR.li hk12).trans ((by rw [ec] : M 21 k / 12 = nI (12 * y + x) / 12).trans e1)
        have k2 := (hR.lp hk12).trans ((by rw [ec] : M 21 k - M 21 k / 12 * 12 = nI (12 * y + x) - nI (12 * y + x) / 12 * 12).trans e2)
        refine az_sgp rfl rfl rfl rfl ?_
        refine az_cav rfl rfl rfl rfl (w0) ?_
        refine az_sgp rfl rfl rfl rfl ?_
        refine az_ald rfl rfl (k := 4 * k) (ix4 k) (by omega) (by decide) (hR.lw hk12) ?_
        refine az_bra rfl rfl rfl (fun q => ?_) (fun q => ?_)
        rotate_left
        · exact absurd rfl q
        refine az_sgp rfl rfl rfl rfl ?_
        refine az_cav rfl rfl rfl rfl (w1) ?_
        refine az_sgp rfl rfl rfl rfl ?_
        refine az_ifeqF rfl ?_
        refine az_sgp rfl rfl rfl rfl ?_
        refine az_ald rfl rfl (k := 4 * k + 1) (ix4c k 1) (by omega) (by decide) (k1) ?_
        refine az_sgp rfl rfl rfl rfl ?_
        refine az_bra rfl rfl rfl (fun q => ?_) (fun q => ?_)
        rotate_left
        · exact absurd rfl q
        refine az_sgp rfl rfl rfl rfl ?_
        refine az_cav rfl rfl rfl rfl (w2) ?_
        refine az_sgp rfl rfl rfl rfl ?_
        refine az_ifeqF rfl ?_
        refine az_sgp rfl rfl rfl rfl ?_
        refine az_ald rfl rfl (k := 4 * k + 2) (ix4c k 2) (by omega) (by decide) (k2) ?_
        refine az_sgp rfl rfl rfl rfl ?_
        refine az_bra rfl rfl rfl (fun q => ?_) (fun q => ?_)
        rotate_left
        · exact absurd rfl q
        refine az_sgp rfl rfl rfl rfl ?_
        refine az_cav rfl rfl rfl rfl (w3) ?_
        refine az_sgp rfl rfl rfl rfl ?_
        refine az_ifeqF rfl ?_
        refine az_sgp rfl rfl rfl rfl ?_
        refine az_ald rfl rfl (k := 4 * k + 1) (ix4c k 1) (by omega) (by decide) (k1) ?_
        refine az_sgp rfl rfl rfl rfl ?_
        refine az_ald rfl rfl (k := 4 * k + 2) (ix4c k 2) (by omega) (by decide) (k2) ?_
        refine az_sgp rfl rfl rfl rfl ?_
        refine az_ald rfl rfl (k := 12 * y + 2 * x + 1) (ix12c y x 1) (by omega) (by decide) (hR.cm hy hx) ?_
        refine az_sgp rfl rfl rfl rfl ?_
        refine az_bra rfl rfl rfl (fun q => ?_) (fun q => ?_)
        rotate_left
        · exact absurd rfl q
        exact b155 _
      · -- it does not
        have w1 := ql 1 (v := -5) (by rw [ofL_in (by omega), if_neg (by decide), if_pos rfl, sof_in (by omega), if_pos qs])
        have w2 := ql 2 (v := -5) (by rw [ofL_in (by omega), if_neg (by decide), if_neg (by decide), if_pos rfl, sof_in (by omega), if_pos qs])
        have w3 := ql 3 (v := -5) (by rw [ofL_in (by omega), if_neg (by decide), if_neg (by decide), if_neg (by decide), if_pos rfl, sof_in (by omega), if_pos qs])
        refine az_sgp rfl rfl rfl rfl ?_
        refine az_cav rfl rfl rfl rfl (w0) ?_
        refine az_sgp rfl rfl rfl rfl ?_
        refine az_ald rfl rfl (k := 4 * k) (ix4 k) (by omega) (by decide) (hR.lw hk12) ?_
        refine az_bra rfl rfl rfl (fun q => ?_) (fun q => ?_)
        rotate_left
        · exact absurd rfl q
        refine az_sgp rfl rfl rfl rfl ?_
        refine az_cav rfl rfl rfl rfl (w1) ?_
        refine az_sgp rfl rfl rfl rfl ?_
        refine az_ifeqT rfl ?_
        refine az_sgp rfl rfl rfl rfl ?_
        refine az_bra rfl rfl rfl (fun q => ?_) (fun q => ?_)
        rotate_left
        · exact absurd rfl q
        refine az_sgp rfl rfl rfl rfl ?_
        refine az_cav rfl rfl rfl rfl (w2) ?_
        refine az_sgp rfl rfl rfl rfl ?_
        refine az_ifeqT rfl ?_
        refine az_sgp rfl rfl rfl rfl ?_
        refine az_bra rfl rfl rfl (fun q => ?_) (fun q => ?_)
        rotate_left
        · exact absurd rfl q
        refine az_sgp rfl rfl rfl rfl ?_
        refine az_cav rfl rfl rfl rfl (w3) ?_
        refine az_sgp rfl rfl rfl rfl ?_
        refine az_ifeqT rfl ?_
        refine az_sgp rfl rfl rfl rfl ?_
        refine az_bra rfl rfl rfl (fun q => ?_) (fun q => ?_)
        rotate_left
        · exact absurd rfl q
        exact b155 _
  refine az_EX.of (az_in0 (code := k_L_areLoads) (ls := [some (.ref 0), some (.ref 192), some (.ref 194), some (.ref 195), none, none, none, none]) rfl rfl rfl ?_)
  refine az_sg 4 rfl ?_
  exact KL 12 0 none none (by omega)
end LDS
