/-! REFERENCE: clean -/
def QA2 (W1 : az_Mem) (a : Int32) (M : az_Mem) (r : Option Value) (h : az_H) : Prop := ∃ M', h = az_hp M' ∧ r = some (.int a) ∧ fr2 M M' ∧ (okA a → RR W1 (M' 193))
def AC2 (d mid : Nat) (args : List Value) (M : az_Mem) (a : Int32) (W1 : az_Mem) : Prop := ∃ M', fr2 M M' ∧ (okA a → RR W1 (M' 193)) ∧ az_EX d mid args (az_hp M) (some (.int a)) (az_hp M')
theorem AC2.of {d mid : Nat} {args : List Value} {M : az_Mem} {a : Int32} {W1 : az_Mem} (h : az_EV d mid args (az_hp M) (QA2 W1 a M)) : AC2 d mid args M a W1 := by
  obtain ⟨r, h', q, hx⟩ := h
  obtain ⟨M', rfl, rfl, hf, hr⟩ := q
  exact ⟨M', hf, hr, hx⟩
theorem AC.w {d mid : Nat} {args : List Value} {M : az_Mem} {a : Int32} {W1 : az_Mem} (h : AC d mid args M a W1) : AC2 d mid args M a W1 := by
  obtain ⟨M', hf, hr, hx⟩ := h
  exact ⟨M', hf.w, hr, hx⟩
section REFG
variable {M W : az_Mem}
theorem ex_clL (d e Z : Nat) (h8 : Z ≤ 8) (x1 x2 : az_V) : ∀ (k g : Nat) (N M : az_Mem), g + k = Z → N 2 0 = nI Z → RR N (M 193) → IW N → TR e N M → (∃ B : Nat, N 24 4 = nI B ∧ e ≤ B ∧ B ≤ 6) → az_RUN (d + 4) k_X9_cleans 153 [some (.ref 192), x1, x2, some (.int (nI e)), some (.int (nI g))] [] (az_hp M) (QA2 (cg_clL e k g N).2 (cg_clL e k g N).1 M) := by
  intro k
  induction k with
  | zero =>
    intro g N M hs hZ hR hI hT hB
    obtain ⟨B, hB, heB, h6⟩ := hB
    have eS : cg_clL e 0 g N = (if N 24 4 ≤ nI e then nI g else -4, N) := rfl
    rw [eS]
    refine az_sgp rfl rfl rfl rfl ?_
    refine az_ald rfl rfl (k := 12) rfl (by decide) (by decide) hR.many ?_
    refine az_sgp rfl rfl rfl rfl ?_
    refine az_bra rfl rfl rfl (fun q => ?_) (fun q => ?_)
    · rw [if_pos q]
      refine az_sgp rfl rfl rfl rfl ?_
      refine az_ret rfl rfl rfl rfl ?_
      exact ⟨M, rfl, rfl, fr2.rf M, fun _ => hR⟩
    · rw [if_neg q]
      refine az_sgp rfl rfl rfl rfl ?_
      refine az_ald rfl rfl (k := 0) rfl (by decide) (by decide) (hR.zones.trans hZ) ?_
      refine az_bra rfl rfl rfl (fun q2 => ?_) (fun q2 => ?_)
      · refine az_sgp rfl rfl rfl rfl ?_
        refine az_ret rfl rfl rfl rfl ?_
        exact ⟨M, rfl, rfl, fr2.rf M, fun _ => hR⟩
      · exact absurd (by rw [show g = Z by omega]) q2
  | succ k ih =>
    intro g N M hs hZ hR hI hT hB
    obtain ⟨B, hB, heB, h6⟩ := hB
    have hb : (N 24 4).toNatClampNeg = B := by
      rw [hB]
      exact nI_clamp (by omega)
    have eS : cg_clL e (k + 1) g N = if N 24 4 ≤ nI e then (nI g, N) else if 1 ≤ N 24 1 then (if (cg_unpF (B - e) e (cg_step N)).1 = true then cg_clL e k (g + 1) (cg_unpF (B - e) e (cg_step N)).2 else (-6, (cg_unpF (B - e) e (cg_step N)).2)) else (-6, N) := by
      rw [← hb]
      rfl
    rw [eS]
    refine az_sgp rfl rfl rfl rfl ?_
    refine az_ald rfl rfl (k := 12) rfl (by decide) (by decide) hR.many ?_
    refine az_sgp rfl rfl rfl rfl ?_
    refine az_bra rfl rfl rfl (fun q => ?_) (fun q => ?_)
    · rw [if_pos q]
      refine az_sgp rfl rfl rfl rfl ?_
      refine az_ret rfl rfl rfl rfl ?_
      exact ⟨M, rfl, rfl, fr2.rf M, fun _ => hR⟩
    rw [if_neg q]
    refine az_sgp rfl rfl rfl rfl ?_
    refine az_ald rfl rfl (k := 0) rfl (by decide) (by decide) (hR.zones.trans hZ) ?_
    refine az_bra rfl rfl rfl (fun q2 => ?_) (fun q2 => ?_)
    · rw [nI_eq (by omega) (by omega)] at q2
      omega
    refine az_sgp rfl rfl rfl rfl ?_
    obtain ⟨M1, hf1, hr1, hE1⟩ := ex_goesOn (d + 1) hR hI
    refine az_ca2 rfl rfl rfl rfl hE1 (fun c => ?_) (fun c => ?_)
    · (with_reducible apply az_ifeqF); rfl
      rw [if_pos c]
      have hI1 := hI.u_step c
      have hB1 : cg_step N 24 4 = nI B := cg_step_24.trans hB
      have hT1 : TR e (cg_step N) M1 := by
        intro B2 hB2 hB26 i l hi hl hil
        rw [hf1 198 (by decide)]
        rw [cg_step_24] at hB2
        rw [cg_step_row (by decide)] at hil
        exact hT B2 hB2 hB26 i l hi hl hil
      refine az_sgp rfl rfl rfl rfl ?_
      refine az_cal rfl rfl rfl rfl (ex_putsDown d hr1 hI1 hB1 h6 heB hT1) (fun r h qp => ?_)
      obtain ⟨M2, rfl, rfl, hf2, hr2⟩ := qp
      by_cases q3 : (cg_unpF (B - e) e (cg_step N)).1 = true
      · rw [if_pos q3, if_pos q3]
        refine az_ifneT rfl ?_
        obtain ⟨rr, tt⟩ := hr2 q3
        obtain ⟨i1, B', b1, b2, b3⟩ := iw_unpF e (B - e) e B (cg_step N) hI1 hB1 h6 (by omega) (Nat.le_refl _) q3
        have z1 : (cg_unpF (B - e) e (cg_step N)).2 2 0 = nI Z := by
          rw [(cg_unpF_bag (B - e) e (cg_step N) ⟨B, hB1, h6⟩).2, cg_step_row (by decide)]
          exact hZ
        refine az_sg 2 rfl ?_
        rw [nI_1]
        refine (ih (g + 1) _ M2 (by omega) z1 rr i1 tt ⟨B', b1, b2, b3⟩).mono (fun r h q => ?_)
        obtain ⟨M3, g1, g2, g3, g4⟩ := q
        exact ⟨M3, g1, g2, (hf1.w.tr hf2).tr g3, g4⟩
      · rw [if_neg q3, if_neg q3]
        refine az_ifneF rfl ?_
        refine az_sgp rfl rfl rfl rfl ?_
        refine az_ret rfl rfl rfl rfl ?_
        exact ⟨M2, rfl, rfl, hf1.w.tr hf2, fun c => absurd c (by decide : ¬ okA (-6))⟩
    · (with_reducible apply az_ifeqT); rfl
      rw [if_neg c]
      refine az_sgp rfl rfl rfl rfl ?_
      refine az_ret rfl rfl rfl rfl ?_
      exact ⟨M, rfl, rfl, fr2.rf M, fun c => absurd c (by decide : ¬ okA (-6))⟩
theorem ex_cleans (d : Nat) (hR : RR W (M 193)) (hI : IW W) {P Z e : Nat} (hP : az_rd (W 4) 8 (W 24 0) = nI P) (hP12 : P ≤ 12) (hZ : W 2 0 = nI Z) (hZ8 : Z ≤ 8) (he : W 24 4 = nI e) (he6 : e ≤ 6) : AC2 (d + 5) m_X9_cleans [.ref 192] M (cg_clean W P Z e).1 (cg_clean W P Z e).2 := by
  obtain ⟨Z', a, S, p, hZ', ha, h2, h8, haZ, ha8, hS, h2S, h12, hp, hpS, hps⟩ := hI.pt
  obtain ⟨B', R, e1, e2, e3, e4, e5, e6, e7⟩ := hI.bag
  have eP : P = p := by
    rw [ha, az_rdN ha8 (by decide), hp, nI_eq (by omega) (by omega)] at hP
    exact hP.symm
  subst eP
  have eB : B' = e := by
    rw [e1, nI_eq (by omega) (by omega)] at he
    exact he
  subst eB
  have hcl : cg_cl W (nI a) P ≤ P := az_cnt_le _ _
  have el : (nI (cg_cl W (nI a) P) ≤ W 24 3 - W 24 4) ↔ B' + cg_cl W (nI a) P ≤ R := by
    rw [e1, e2, nI_sub e3, nI_leI (by omega) (by omega)]
    omega
  unfold cg_clean
  rw [ha]
  refine AC2.of (az_in0 (code := k_X9_cleans) (ls := [some (.ref 192), none, none, none, none]) rfl rfl rfl ?_)
  refine az_sgp rfl rfl rfl rfl ?_
  refine az_ald rfl rfl (k := 2) rfl (by decide) (by decide) (hR.at_.trans ha) ?_
  refine az_sgp rfl rfl rfl rfl ?_
  refine az_cav rfl rfl rfl rfl (ex_ofZone (d + 3) (w := 0) rfl rfl (by omega) ((hR.zp a ha8).trans hp)) ?_
  refine az_bra rfl rfl rfl (fun q => ?_) (fun q => ?_)
  · rw [if_pos q]
    refine az_sgp rfl rfl rfl rfl ?_
    refine az_ret rfl rfl rfl rfl ?_
    exact ⟨M, rfl, rfl, fr2.rf M, fun _ => hR⟩
  rw [if_neg q]
  refine az_sgp rfl rfl rfl rfl ?_
  refine az_cav rfl rfl rfl rfl (ex_live (d + 1) hR hI rfl ha8 hS h12 hp hpS) ?_
  refine az_sgp rfl rfl rfl rfl ?_
  refine az_ald rfl rfl (k := 12) rfl (by decide) (by decide) (hR.many.trans e1) ?_
  refine az_sgp rfl rfl rfl rfl ?_
  refine az_ald rfl rfl (k := 5) rfl (by decide) (by decide) (hR.room.trans e2) ?_
  rw [nI_add]
  refine az_bra rfl rfl rfl (fun q2 => ?_) (fun q2 => ?_)
  case refine_2 =>
    rw [nI_leI (by omega) (by omega)] at q2
    rw [if_pos (fun c => q2 (el.mp c))]
    refine az_sgp rfl rfl rfl rfl ?_
    refine az_ret rfl rfl rfl rfl ?_
    exact ⟨M, rfl, rfl, fr2.rf M, fun c => absurd c (by decide : ¬ okA (-3))⟩
  rw [nI_leI (by omega) (by omega)] at q2
  rw [if_neg (fun c => c (el.mpr q2))]
  obtain ⟨iX, pX, bX⟩ := cg_packs_end hI ha8 (show P ≤ 12 by omega) e1 e2 e4 q2
  generalize hX : cg_packs (nI a) P 0 W = X at iX pX bX ⊢
  -- after packing
  have K2 : ∀ M2, fr2 M M2 → RR X (M2 193) → TR B' X M2 → ∀ v v2 : az_V, az_RUN (d + 4) k_X9_cleans 124 [some (.ref 192), some (.int (nI a)), some (.int (nI (cg_cl W (nI a) P))), v, v2] [] (az_hp M2) (QA2 (if ¬ 3 ≤ X 24 1 then ((-6 : Int32), X) else cg_clL B' Z 0 (cg_clear (cg_pay X 3) (nI a))).2 (if ¬ 3 ≤ X 24 1 then ((-6 : Int32), X) else cg_clL B' Z 0 (cg_clear (cg_pay X 3) (nI a))).1 M) := by
    intro M2 hf2 hr2 ht2 v v2
    refine az_sgp rfl rfl rfl rfl ?_
    refine az_ca2 rfl rfl rfl rfl (ex_uses (d + 3) hr2 3) (fun c => ?_) (fun c => ?_)
    · (with_reducible apply az_ifneT); rfl
      rw [if_neg (fun q => q c)]
      have r3 := hr2.uses 3
      obtain ⟨M4, hf4, hr4, hE4⟩ := ex_beReset (d + 2) r3 (zi := nI a) rfl ha8
      have f4 : fr1 M2 M4 := (((fr1.rf M2).up _ _).up _ _).tr hf4
      have y24 : cg_clear (cg_pay X 3) (nI a) 24 4 = nI (B' + cg_cl W (nI a) P) := by
        rw [cg_clear_24]
        exact bX
      have y26 : cg_clear (cg_pay X 3) (nI a) 26 = X 26 := by
        unfold cg_clear
        rw [az_up_row (by decide), az_wr_row (by decide), az_wr_row (by decide), az_wr_row (by decide)]
        rfl
      have y20 : cg_clear (cg_pay X 3) (nI a) 2 0 = nI Z := by
        rw [cg_clear_20]
        show X 2 0 = nI Z
        rw [pX.2.2.2.1]
        exact hZ
      have ht4 : TR B' (cg_clear (cg_pay X 3) (nI a)) M4 := by
        intro B2 hB2 hB26 i l hi hl hil
        rw [f4 198 (by decide)]
        rw [y24] at hB2
        rw [y26] at hil
        exact ht2 B2 (bX.trans hB2) hB26 i l hi hl hil
      refine az_sgp rfl rfl rfl rfl ?_
      refine az_can rfl rfl rfl rfl hE4 ?_
      refine az_sgp rfl rfl rfl rfl ?_
      refine az_ald rfl rfl (k := 12) rfl (by decide) (by decide) (hr4.many.trans y24) ?_
      refine az_sg 5 rfl ?_
      rw [nI_sub (by omega), Nat.add_sub_cancel]
      refine (ex_clL d B' Z hZ8 _ _ Z 0 _ M4 (by omega) y20 hr4 ((iX.u_pay (n := 3) rfl (by decide) c).u_clear ha8) ht4 ⟨_, y24, by omega, by omega⟩).mono (fun r h q => ?_)
      obtain ⟨M3, g1, g2, g3, g4⟩ := q
      exact ⟨M3, g1, g2, (hf2.tr f4.w).tr g3, g4⟩
    · (with_reducible apply az_ifneF); rfl
      rw [if_pos c]
      refine az_sgp rfl rfl rfl rfl ?_
      refine az_ret rfl rfl rfl rfl ?_
      exact ⟨M2, rfl, rfl, hf2, fun c => absurd c (by decide : ¬ okA (-6))⟩
  -- packing
  have K1 : ∀ (m i : Nat) (N M1 : az_Mem), IW N → PK W N a i → i + m = P → N 24 4 = nI (B' + az_cnt (fun s => cg_liveB W (nI a) (nI s)) i) → fr2 M M1 → RR N (M1 193) → TR B' N M1 → cg_packs (nI a) m i N = X → az_RUN (d + 4) k_X9_cleans 69 [some (.ref 192), some (.int (nI a)), some (.int (nI (cg_cl W (nI a) P))), some (.int (nI i)), none] [] (az_hp M1) (QA2 (if ¬ 3 ≤ X 24 1 then ((-6 : Int32), X) else cg_clL B' Z 0 (cg_clear (cg_pay X 3) (nI a))).2 (if ¬ 3 ≤ X 24 1 then ((-6 : Int32), X) else cg_clL B' Z 0 (cg_clear (cg_pay X 3) (nI a))).1 M) := by
    intro m
    induction m with
    | zero =>
      intro i N M1 hN pN hs hB hf hr ht hx
      have hpN : N 4 a = nI P := by
        rw [pN.2.2.1]
        exact hp
      refine az_sgp rfl rfl rfl rfl ?_
      refine az_cav rfl rfl rfl rfl (ex_ofZone (d + 3) (w := 0) rfl rfl (by omega) ((hr.zp a ha8).trans hpN)) ?_
      refine az_bra rfl rfl rfl (fun q => ?_) (fun q => ?_)
      · have hx' : N = X := hx
        subst hx'
        exact K2 M1 hf hr ht _ _
      · exact absurd (nI_le (by omega) (by omega)) q
    | succ m ih =>
      intro i N M1 hN pN hs hB hf hr ht hx
      have hpN : N 4 a = nI P := by
        rw [pN.2.2.1]
        exact hp
      obtain ⟨k1, k2⟩ := cg_packsS hI hN pN ha8 (show P ≤ 12 by omega) hs hB e2 e4 q2
      have hL := pN.live hI hN ha8 (show i < 12 by omega)
      refine az_sgp rfl rfl rfl rfl ?_
      refine az_cav rfl rfl rfl rfl (ex_ofZone (d + 3) (w := 0) rfl rfl (by omega) ((hr.zp a ha8).trans hpN)) ?_
      refine az_bra rfl rfl rfl (fun q => ?_) (fun q => ?_)
      · exact absurd q (nI_ge (by omega) (by omega))
      refine az_sgp rfl rfl rfl rfl ?_
      refine az_ca2 rfl rfl rfl rfl (ex_isLive (d + 2) hr hN rfl rfl ha8 (show i < 12 by omega) hpN (by omega)) (fun c => ?_) (fun c => ?_)
      · (with_reducible apply az_ifeqF); rfl
        obtain ⟨l, hl, e14, n2, hlt, x1, i1, p1, b1⟩ := k1 (hL.symm.trans c.2)
        rw [x1] at hx
        obtain ⟨M2, hf2, hr2, hE2⟩ := ex_bag (d + 2) (M := az_up M1 198 l 1) (W := N) (li := nI l) (by rw [az_up_row (by decide)]; exact hr) hB (by omega) rfl hl
        refine az_sgp rfl rfl rfl rfl ?_
        refine az_cav rfl rfl rfl rfl (ex_slotAt (d + 3) rfl rfl) ?_
        refine az_ald rfl rfl (k := 59 + 2 * (12 * a + i)) rfl (by omega) (by decide) ((hr.cl _ (by omega)).trans e14) ?_
        refine az_sgp rfl rfl rfl rfl ?_
        refine az_bst rfl rfl (k := l) rfl hl (by decide) rfl ?_
        refine az_sgp rfl rfl rfl rfl ?_
        refine az_cav rfl rfl rfl rfl (ex_slotAt (d + 3) rfl rfl) ?_
        refine az_ald rfl rfl (k := 59 + 2 * (12 * a + i)) rfl (by omega) (by decide) (x := nI l) ?_ ?_
        · rw [az_up_row (by decide)]
          exact (hr.cl _ (by omega)).trans e14
        refine az_can rfl rfl rfl rfl hE2 ?_
        refine az_sg 2 rfl ?_
        rw [nI_1]
        refine ih (i + 1) _ M2 i1 p1 (by omega) b1 ((hf.up8 l 1).tr hf2.w) hr2 ?_ hx
        have u := cg_packUpN hl hB (show B' + az_cnt (fun s => cg_liveB W (nI a) (nI s)) i < 6 by omega)
        have w24 : cg_packUp N (nI l) 24 4 = nI (B' + az_cnt (fun s => cg_liveB W (nI a) (nI s)) i + 1) := by
          rw [u]
          simp [az_up]
        have w26 : ∀ j, cg_packUp N (nI l) 26 j = if j = B' + az_cnt (fun s => cg_liveB W (nI a) (nI s)) i then nI l else N 26 j := by
          intro j
          rw [u]
          simp [az_up]
        obtain ⟨B3, R3, g1, g2, g3, g4, g5, g6, g7⟩ := hN.bag
        have eB3 : B3 = B' + az_cnt (fun s => cg_liveB W (nI a) (nI s)) i := by
          rw [g1, nI_eq (by omega) (by omega)] at hB
          exact hB
        intro B2 hB2 hB26 j k hj hk hjk
        rw [hf2 198 (by decide), az_up_self]
        have eB2 : B' + az_cnt (fun s => cg_liveB W (nI a) (nI s)) i + 1 = B2 := by
          rw [w24, nI_eq (by omega) (by omega)] at hB2
          exact hB2
        rw [w26] at hjk
        by_cases hjB : j = B' + az_cnt (fun s => cg_liveB W (nI a) (nI s)) i
        · rw [if_pos hjB, nI_eq (by omega) (by omega)] at hjk
          rw [if_pos hjk.symm, if_pos (by omega)]
        · rw [if_neg hjB] at hjk
          obtain ⟨k', f1, f2, f3⟩ := g5 j (by omega)
          have ek : k' = k := by
            rw [hjk, nI_eq (by omega) (by omega)] at f2
            exact f2.symm
          subst ek
          have hkl : ¬ k' = l := fun c => n2 (c ▸ f3)
          rw [if_neg hkl]
          exact ht _ hB (by omega) j k' (by omega) hk hjk
      · (with_reducible apply az_ifeqT); rfl
        obtain ⟨x1, b1⟩ := k2 (fun c2 => c ⟨by omega, hL.trans c2⟩)
        rw [x1] at hx
        refine az_sg 2 rfl ?_
        rw [nI_1]
        exact ih (i + 1) N M1 hN (pN.next hI) (by omega) b1 hf hr ht hx
  -- nothing is taken
  have K0 : ∀ (m i : Nat) (M1 : az_Mem), i + m = 40 → fr2 M M1 → M1 193 = M 193 → (∀ j, j < i → M1 198 j = 0) → az_RUN (d + 4) k_X9_cleans 48 [some (.ref 192), some (.int (nI a)), some (.int (nI (cg_cl W (nI a) P))), some (.int (nI i)), none] [] (az_hp M1) (QA2 (if ¬ 3 ≤ X 24 1 then ((-6 : Int32), X) else cg_clL B' Z 0 (cg_clear (cg_pay X 3) (nI a))).2 (if ¬ 3 ≤ X 24 1 then ((-6 : Int32), X) else cg_clL B' Z 0 (cg_clear (cg_pay X 3) (nI a))).1 M) := by
    intro m
    induction m with
    | zero =>
      intro i M1 hs hf h93 h98
      have ei : i = 40 := (by omega)
      subst ei
      refine az_sgp rfl rfl rfl rfl ?_
      refine az_bra rfl rfl rfl (fun q => ?_) (fun q => ?_)
      · refine az_sg 2 rfl ?_
        refine K1 P 0 W M1 hI (PK.rf W a) (by omega) e1 hf (by rw [h93]; exact hR) ?_ hX
        intro B2 hB2 hB26 j k hj hk hjk
        have eB2 : B' = B2 := by
          rw [e1, nI_eq (by omega) (by omega)] at hB2
          exact hB2
        rw [h98 k hk, if_neg (by omega)]
      · exact absurd (nI_le (a := 40) (b := 40) (by omega) (by omega)) q
    | succ m ih =>
      intro i M1 hs hf h93 h98
      refine az_sgp rfl rfl rfl rfl ?_
      refine az_bra rfl rfl rfl (fun q => ?_) (fun q => ?_)
      · exact absurd q (nI_ge (a := i) (b := 40) (by omega) (by omega))
      refine az_sgp rfl rfl rfl rfl ?_
      refine az_bst rfl rfl (k := i) rfl (by omega) (by decide) rfl ?_
      refine az_sg 2 rfl ?_
      rw [nI_1]
      refine ih (i + 1) _ (by omega) (hf.up8 i 0) (by rw [az_up_row (by decide)]; exact h93) (fun j hj => ?_)
      rw [az_up_self]
      split
      · rfl
      · exact h98 j (by omega)
  refine az_sg 2 rfl ?_
  exact K0 40 0 M (by omega) (fr2.rf M) rfl (fun j hj => absurd hj (by omega))
theorem iw_clean (hI : IW W) {P Z e : Nat} (hP : az_rd (W 4) 8 (W 24 0) = nI P) (hP12 : P ≤ 12) (hZ : W 2 0 = nI Z) (hZ8 : Z ≤ 8) (he : W 24 4 = nI e) (he6 : e ≤ 6) (ho : okA (cg_clean W P Z e).1) : IW (cg_clean W P Z e).2 := by
  obtain ⟨Z', a, S, p, hZ', ha, h2, h8, haZ, ha8, hS, h2S, h12, hp, hpS, hps⟩ := hI.pt
  obtain ⟨B', R, e1, e2, e3, e4, e5, e6, e7⟩ := hI.bag
  have eP : P = p := by
    rw [ha, az_rdN ha8 (by decide), hp, nI_eq (by omega) (by omega)] at hP
    exact hP.symm
  subst eP
  have eB : B' = e := by
    rw [e1, nI_eq (by omega) (by omega)] at he
    exact he
  subst eB
  have hcl : cg_cl W (nI a) P ≤ P := az_cnt_le _ _
  have el : (nI (cg_cl W (nI a) P) ≤ W 24 3 - W 24 4) ↔ B' + cg_cl W (nI a) P ≤ R := by
    rw [e1, e2, nI_sub e3, nI_leI (by omega) (by omega)]
    omega
  unfold cg_clean at ho ⊢
  rw [ha] at ho ⊢
  by_cases q : nI P = 0
  · rw [if_pos q]
    exact hI
  rw [if_neg q] at ho ⊢
  by_cases q2 : nI (cg_cl W (nI a) P) ≤ W 24 3 - W 24 4
  case neg =>
    rw [if_pos q2] at ho
    exact absurd ho (by decide : ¬ okA (-3))
  rw [if_neg (fun c => c q2)] at ho ⊢
  obtain ⟨iX, pX, bX⟩ := cg_packs_end hI ha8 (show P ≤ 12 by omega) e1 e2 e4 (el.mp q2)
  by_cases q3 : 3 ≤ cg_packs (nI a) P 0 W 24 1
  case neg =>
    rw [if_pos q3] at ho
    exact absurd ho (by decide : ¬ okA (-6))
  rw [if_neg (fun c => c q3)] at ho ⊢
  refine iw_clL B' Z hZ8 Z 0 _ ((iX.u_pay (n := 3) rfl (by decide) q3).u_clear ha8) ⟨_, ?_, Nat.le_add_right B' (cg_cl W (nI a) P), by have := el.mp q2; omega⟩ ho
  rw [cg_clear_24]
  exact bX
end REFG
