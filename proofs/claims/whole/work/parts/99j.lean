/-! REFERENCE, ACTS: go, seal, reset, take -/
abbrev okA (a : Int32) : Prop := 0 ≤ a ∨ a = -5
def QA (W1 : az_Mem) (a : Int32) (M : az_Mem) (r : Option Value) (h : az_H) : Prop := ∃ M', h = az_hp M' ∧ r = some (.int a) ∧ fr1 M M' ∧ (okA a → RR W1 (M' 193))
def AC (d mid : Nat) (args : List Value) (M : az_Mem) (a : Int32) (W1 : az_Mem) : Prop := ∃ M', fr1 M M' ∧ (okA a → RR W1 (M' 193)) ∧ az_EX d mid args (az_hp M) (some (.int a)) (az_hp M')
theorem AC.of {d mid : Nat} {args : List Value} {M : az_Mem} {a : Int32} {W1 : az_Mem} (h : az_EV d mid args (az_hp M) (QA W1 a M)) : AC d mid args M a W1 := by
  obtain ⟨r, h', q, hx⟩ := h
  obtain ⟨M', rfl, rfl, hf, hr⟩ := q
  exact ⟨M', hf, hr, hx⟩
theorem IW.pt {W : az_Mem} (h : IW W) : ∃ Z a S p : Nat, W 2 0 = nI Z ∧ W 24 0 = nI a ∧ 2 ≤ Z ∧ Z ≤ 8 ∧ a < Z ∧ a < 8 ∧ W 2 1 = nI S ∧ 2 ≤ S ∧ S ≤ 12 ∧ W 4 a = nI p ∧ p ≤ S ∧ (W 8 a = 0 → p < S) := by
  obtain ⟨Z, a, h1, h2, h3, h4, h5⟩ := h.zn
  obtain ⟨S, h6, h7, h8, h9⟩ := h.sl
  obtain ⟨p, h10, h11, h12⟩ := h9 a (by omega)
  exact ⟨Z, a, S, p, h1, h2, h3, h4, h5, by omega, h6, h7, h8, h10, h11, h12⟩
def cg_go (W : az_Mem) (n : Int32) : Int32 × az_Mem := if n < 1 ∨ ¬ n ≤ 24 then (-2, W) else (if (cg_trav n.toNatClampNeg W).1 = true then (cg_trav n.toNatClampNeg W).2 24 0 else -6, (cg_trav n.toNatClampNeg W).2)
section REFA
variable {M W : az_Mem}
theorem ex_goes (d : Nat) (hR : RR W (M 193)) (hI : IW W) (n : Int32) : AC (d + 4) m_X9_goes [.ref 192, .int n] M (cg_go W n).1 (cg_go W n).2 := by
  by_cases hn : n < 1 ∨ ¬ n ≤ 24
  · have e : cg_go W n = (-2, W) := if_pos hn
    rw [e]
    refine AC.of (az_in0 (code := k_X9_goes) (ls := [some (.ref 192), some (.int n), none]) rfl rfl rfl ?_)
    refine az_sgp rfl rfl rfl rfl ?_
    refine az_cav rfl rfl rfl rfl ((ex_in (d + 2) n 1 24).2 (fun q => ?_)) ?_
    · rcases hn with h | h
      · exact q.1 h
      · exact h (Int32.not_lt.mp q.2)
    (with_reducible apply az_ifneF); rfl
    refine az_sgp rfl rfl rfl rfl ?_
    refine az_ret rfl rfl rfl rfl ?_
    exact ⟨M, rfl, rfl, fr1.rf M, fun _ => hR⟩
  · have h1 : ¬ n < 1 := fun q => hn (Or.inl q)
    have h24 : n ≤ 24 := by
      by_cases q : n ≤ 24
      · exact q
      · exact absurd (Or.inr q) hn
    have h0 : ¬ n < 0 := fun q => h1 (Int32.lt_trans q (by decide))
    obtain ⟨N, hN, rfl⟩ := nI_of2 (M := 24) (n := 24) (by decide) h0 h24
    have e : cg_go W (nI N) = (if (cg_trav N W).1 = true then (cg_trav N W).2 24 0 else -6, (cg_trav N W).2) := by
      unfold cg_go
      rw [if_neg hn, nI_clamp (by omega)]
    rw [e]
    have K : ∀ (m i : Nat) (M W : az_Mem), RR W (M 193) → IW W → i + m = N → az_RUN (d + 3) k_X9_goes 15 [some (.ref 192), some (.int (nI N)), some (.int (nI i))] [] (az_hp M) (QA (cg_trav m W).2 (if (cg_trav m W).1 = true then (cg_trav m W).2 24 0 else -6) M) := by
      intro m
      induction m with
      | zero =>
        intro i M W hR hI hs
        refine az_sgp rfl rfl rfl rfl ?_
        refine az_bra rfl rfl rfl (fun q => ?_) (fun q => ?_)
        · refine az_sgp rfl rfl rfl rfl ?_
          refine az_ald rfl rfl (k := 2) rfl (by decide) (by decide) hR.at_ ?_
          refine az_ret rfl rfl rfl rfl ?_
          exact ⟨M, rfl, rfl, fr1.rf M, fun _ => hR⟩
        · exact absurd (nI_le (by omega) (by omega)) q
      | succ m ih =>
        intro i M W hR hI hs
        refine az_sgp rfl rfl rfl rfl ?_
        refine az_bra rfl rfl rfl (fun q => ?_) (fun q => ?_)
        · exact absurd q (nI_ge (by omega) (by omega))
        refine az_sgp rfl rfl rfl rfl ?_
        obtain ⟨M', hf, hr, hE⟩ := ex_goesOn d hR hI
        refine az_ca2 rfl rfl rfl rfl hE (fun c => ?_) (fun c => ?_)
        · (with_reducible apply az_ifneT); rfl
          refine az_sg 2 rfl ?_
          rw [nI_1]
          have eT : cg_trav (m + 1) W = cg_trav m (cg_step W) := if_pos c
          rw [eT]
          refine (ih (i + 1) M' (cg_step W) hr (hI.u_step c) (by omega)).mono (fun r h q => ?_)
          obtain ⟨M2, e1, e2, e3, e4⟩ := q
          exact ⟨M2, e1, e2, hf.tr e3, e4⟩
        · (with_reducible apply az_ifneF); rfl
          refine az_sgp rfl rfl rfl rfl ?_
          refine az_ret rfl rfl rfl rfl ?_
          have eF : cg_trav (m + 1) W = (false, W) := if_neg c
          rw [eF]
          exact ⟨M, rfl, rfl, fr1.rf M, fun _ => hR⟩
    refine AC.of (az_in0 (code := k_X9_goes) (ls := [some (.ref 192), some (.int (nI N)), none]) rfl rfl rfl ?_)
    refine az_sgp rfl rfl rfl rfl ?_
    refine az_cav rfl rfl rfl rfl ((ex_in (d + 2) (nI N) 1 24).1 ⟨h1, Int32.not_lt.mpr h24⟩) ?_
    (with_reducible apply az_ifneT); rfl
    refine az_sg 2 rfl ?_
    exact K N 0 M W hR hI (by omega)
theorem iw_go (hI : IW W) (n : Int32) : IW (cg_go W n).2 := by
  have K : ∀ (m : Nat) (W : az_Mem), IW W → IW (cg_trav m W).2 := by
    intro m
    induction m with
    | zero => intro W h; exact h
    | succ m ih =>
      intro W h
      show IW (if 1 ≤ W 24 1 then cg_trav m (cg_step W) else (false, W)).2
      split
      · next c => exact ih _ (h.u_step c)
      · exact h
  unfold cg_go
  split
  · exact hI
  · exact K _ W hI
theorem ex_seals (d : Nat) (hR : RR W (M 193)) (hI : IW W) : AC (d + 2) m_X9_seals [.ref 192] M (cg_seal W).1 (cg_seal W).2 := by
  obtain ⟨Z, a, S, p, hZ, ha, h2, h8, haZ, ha8, hS, h2S, h12, hp, hpS, hps⟩ := hI.pt
  have e : cg_seal W = if ¬ W 8 a = 0 then (-5, W) else (nI S - nI p, az_up W 8 a 1) := by
    unfold cg_seal
    rw [ha, az_rdN ha8 (by decide), az_rdN ha8 (by decide), az_wrN ha8 (by decide), hS, hp]
  rw [e]
  have r1 := hR.m_zs ha8 1
  refine AC.of (az_in0 (code := k_X9_seals) (ls := [some (.ref 192), none]) rfl rfl rfl ?_)
  refine az_sgp rfl rfl rfl rfl ?_
  refine az_ald rfl rfl (k := 2) rfl (by decide) (by decide) (hR.at_.trans ha) ?_
  refine az_sgp rfl rfl rfl rfl ?_
  refine az_cav rfl rfl rfl rfl (ex_ofZone d (w := 1) rfl rfl (by omega) (hR.zs a ha8)) ?_
  refine az_sgp rfl rfl rfl rfl ?_
  refine az_bra rfl rfl rfl (fun q => ?_) (fun q => ?_)
  · rw [if_pos (by rw [q]; decide)]
    refine az_sgp rfl rfl rfl rfl ?_
    refine az_ret rfl rfl rfl rfl ?_
    exact ⟨M, rfl, rfl, fr1.rf M, fun _ => hR⟩
  · rw [if_neg (fun c => c ((hI.sld a ha8).resolve_right q))]
    refine az_sgp rfl rfl rfl rfl ?_
    refine az_can rfl rfl rfl rfl (ex_zoneIs d (w := 1) rfl rfl (by omega)) ?_
    refine az_sgp rfl rfl rfl rfl ?_
    refine az_ald rfl rfl (k := 1) rfl (by decide) (by decide) (r1.slots.trans hS) ?_
    refine az_sgp rfl rfl rfl rfl ?_
    refine az_cav rfl rfl rfl rfl (ex_ofZone d (w := 0) rfl rfl (by omega) ((r1.zp a ha8).trans hp)) ?_
    refine az_sgp rfl rfl rfl rfl ?_
    refine az_ret rfl rfl rfl rfl ?_
    exact ⟨_, rfl, rfl, (fr1.rf M).up _ _, fun _ => r1⟩
theorem iw_seal (hI : IW W) : IW (cg_seal W).2 := by
  obtain ⟨Z, a, S, p, hZ, ha, h2, h8, haZ, ha8, hS, h2S, h12, hp, hpS, hps⟩ := hI.pt
  unfold cg_seal
  split
  · exact hI
  · rw [ha, az_wrN ha8 (by decide)]
    exact hI.u_seal
theorem ex_resets (d : Nat) (hR : RR W (M 193)) (hI : IW W) {P : Nat} (hP : az_rd (W 4) 8 (W 24 0) = nI P) (hP12 : P ≤ 12) : AC (d + 4) m_X9_resets [.ref 192] M (cg_reset W P).1 (cg_reset W P).2 := by
  obtain ⟨Z, a, S, p, hZ, ha, h2, h8, haZ, ha8, hS, h2S, h12, hp, hpS, hps⟩ := hI.pt
  have eP : P = p := by
    rw [ha, az_rdN ha8 (by decide), hp, nI_eq (by omega) (by omega)] at hP
    exact hP.symm
  subst eP
  have e : cg_reset W P = if ¬ nI (cg_cl W (nI a) P) ≤ 0 then (-4, W) else if ¬ 3 ≤ W 24 1 then (-6, W) else if nI P = 0 ∧ W 8 a = 0 then (-5, W) else (nI P, cg_clear (cg_pay W 3) (nI a)) := by
    unfold cg_reset
    rw [ha, az_rdN ha8 (by decide)]
  rw [e]
  refine AC.of (az_in0 (code := k_X9_resets) (ls := [some (.ref 192), none, none]) rfl rfl rfl ?_)
  refine az_sgp rfl rfl rfl rfl ?_
  refine az_ald rfl rfl (k := 2) rfl (by decide) (by decide) (hR.at_.trans ha) ?_
  refine az_sgp rfl rfl rfl rfl ?_
  refine az_cav rfl rfl rfl rfl (ex_ofZone (d + 2) (w := 0) rfl rfl (by omega) ((hR.zp a ha8).trans hp)) ?_
  refine az_sgp rfl rfl rfl rfl ?_
  refine az_cav rfl rfl rfl rfl (ex_live d hR hI rfl ha8 hS h12 hp hpS) ?_
  refine az_bra rfl rfl rfl (fun q => ?_) (fun q => ?_)
  · rw [if_neg (fun c => c q)]
    refine az_sgp rfl rfl rfl rfl ?_
    refine az_ald rfl rfl (k := 3) rfl (by decide) (by decide) hR.water ?_
    refine az_sgp rfl rfl rfl rfl ?_
    refine az_bra rfl rfl rfl (fun q2 => ?_) (fun q2 => ?_)
    · rw [if_neg (fun c => c q2)]
      have fin : ¬ (nI P = 0 ∧ W 8 a = 0) → az_RUN (d + 3) k_X9_resets 51 [some (.ref 192), some (.int (nI a)), some (.int (nI P))] [] (az_hp M) (QA (cg_clear (cg_pay W 3) (nI a)) (nI P) M) := by
        intro hc
        have r1 := hR.uses 3
        obtain ⟨M', hf, hr, hE⟩ := ex_beReset (d + 1) r1 (zi := nI a) rfl ha8
        refine az_sgp rfl rfl rfl rfl ?_
        refine az_cav rfl rfl rfl rfl ((ex_uses (d + 2) hR 3).1 q2) ?_
        (with_reducible apply az_ifneT); rfl
        refine az_sgp rfl rfl rfl rfl ?_
        refine az_can rfl rfl rfl rfl hE ?_
        refine az_sgp rfl rfl rfl rfl ?_
        refine az_ret rfl rfl rfl rfl ?_
        exact ⟨M', rfl, rfl, (((fr1.rf M).up _ _).up _ _).tr hf, fun _ => hr⟩
      refine az_sgp rfl rfl rfl rfl ?_
      refine az_bra rfl rfl rfl (fun q3 => ?_) (fun q3 => ?_)
      · refine az_sgp rfl rfl rfl rfl ?_
        refine az_cav rfl rfl rfl rfl (ex_ofZone (d + 2) (w := 1) rfl rfl (by omega) (hR.zs a ha8)) ?_
        refine az_bra rfl rfl rfl (fun q4 => ?_) (fun q4 => ?_)
        · rw [if_pos ⟨q3, q4⟩]
          refine az_sgp rfl rfl rfl rfl ?_
          refine az_ret rfl rfl rfl rfl ?_
          exact ⟨M, rfl, rfl, fr1.rf M, fun _ => hR⟩
        · have hc : ¬ (nI P = 0 ∧ W 8 a = 0) := fun c => q4 c.2
          rw [if_neg hc]
          exact fin hc
      · have hc : ¬ (nI P = 0 ∧ W 8 a = 0) := fun c => q3 c.1
        rw [if_neg hc]
        exact fin hc
    · rw [if_pos q2]
      refine az_sgp rfl rfl rfl rfl ?_
      refine az_ret rfl rfl rfl rfl ?_
      exact ⟨M, rfl, rfl, fr1.rf M, fun _ => hR⟩
  · rw [if_pos q]
    refine az_sgp rfl rfl rfl rfl ?_
    refine az_ret rfl rfl rfl rfl ?_
    exact ⟨M, rfl, rfl, fr1.rf M, fun _ => hR⟩
theorem iw_reset (hI : IW W) (P : Nat) : IW (cg_reset W P).2 := by
  obtain ⟨Z, a, S, p, hZ, ha, h2, h8, haZ, ha8, hS, h2S, h12, hp, hpS, hps⟩ := hI.pt
  unfold cg_reset
  split
  · exact hI
  split
  · exact hI
  split
  · exact hI
  · next q _ =>
    rw [ha]
    exact (hI.u_pay (n := 3) rfl (by decide) (by rw [Classical.not_not] at q; exact q)).u_clear ha8
end REFA
