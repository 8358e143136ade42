/-! REFERENCE: water, steps, what may be written, what is live -/
section REFM
variable {M W : az_Mem}
theorem ex_drinkHere (d : Nat) (hR : RR W (M 193)) {a : Nat} (ha : W 24 0 = nI a) (h8 : a < 8) : az_E2 (W 10 a = 1) (d + 2) m_X9_drinkHere [.ref 192] (az_hp M) none (az_hp (az_up M 193 3 (W 24 2))) none (az_hp M) := by
  refine ⟨fun hc => ?_, fun hc => ?_⟩ <;> refine az_EX.of (az_in0 (code := k_X9_drinkHere) (ls := [some (.ref 192)]) rfl rfl rfl ?_)
  · refine az_sgp rfl rfl rfl rfl ?_
    refine az_ald rfl rfl (k := 2) rfl (by decide) (by decide) (hR.at_.trans ha) ?_
    refine az_sgp rfl rfl rfl rfl ?_
    refine az_cav rfl rfl rfl rfl (ex_ofZone d (w := 3) rfl rfl (by omega) (hR.zw a h8)) ?_
    refine az_sgp rfl rfl rfl rfl ?_
    refine az_bra rfl rfl rfl (fun q => ?_) (fun q => absurd hc q)
    refine az_sgp rfl rfl rfl rfl ?_
    refine az_ald rfl rfl (k := 4) rfl (by decide) (by decide) hR.skin ?_
    refine az_ast rfl rfl (k := 3) rfl (by decide) (by decide) ?_
    refine az_ret rfl rfl rfl rfl ?_
    exact ⟨rfl, rfl⟩
  · refine az_sgp rfl rfl rfl rfl ?_
    refine az_ald rfl rfl (k := 2) rfl (by decide) (by decide) (hR.at_.trans ha) ?_
    refine az_sgp rfl rfl rfl rfl ?_
    refine az_cav rfl rfl rfl rfl (ex_ofZone d (w := 3) rfl rfl (by omega) (hR.zw a h8)) ?_
    refine az_sgp rfl rfl rfl rfl ?_
    refine az_bra rfl rfl rfl (fun q => absurd q hc) (fun q => ?_)
    refine az_ret rfl rfl rfl rfl ?_
    exact ⟨rfl, rfl⟩
def rg_uses (W M : az_Mem) (c : Int32) : az_Mem := az_up (az_up M 193 3 (W 24 1 - c)) 193 9 (W 24 6 + c)
theorem RR.uses (hR : RR W (M 193)) (c : Int32) : RR (cg_pay W c) (rg_uses W M c 193) := (hR.m_water (W 24 1 - c)).m_used (W 24 6 + c)
theorem ex_uses (d : Nat) (hR : RR W (M 193)) (c : Int32) : az_E2 (c ≤ W 24 1) (d + 1) m_X9_uses [.ref 192, .int c] (az_hp M) (some (.int 1)) (az_hp (rg_uses W M c)) (some (.int 0)) (az_hp M) := by
  refine ⟨fun hc => ?_, fun hc => ?_⟩ <;> refine az_EX.of (az_in0 (code := k_X9_uses) (ls := [some (.ref 192), some (.int c)]) rfl rfl rfl ?_)
  · refine az_sgp rfl rfl rfl rfl ?_
    refine az_ald rfl rfl (k := 3) rfl (by decide) (by decide) hR.water ?_
    refine az_sgp rfl rfl rfl rfl ?_
    refine az_bra rfl rfl rfl (fun q => ?_) (fun q => absurd hc q)
    refine az_sgp rfl rfl rfl rfl ?_
    refine az_ald rfl rfl (k := 3) rfl (by decide) (by decide) hR.water ?_
    refine az_sgp rfl rfl rfl rfl ?_
    refine az_ast rfl rfl (k := 3) rfl (by decide) (by decide) ?_
    refine az_sgp rfl rfl rfl rfl ?_
    refine az_ald rfl rfl (k := 9) rfl (by decide) (by decide) (hR.m_water (W 24 1 - c)).used ?_
    refine az_sgp rfl rfl rfl rfl ?_
    refine az_ast rfl rfl (k := 9) rfl (by decide) (by decide) ?_
    refine az_sgp rfl rfl rfl rfl ?_
    refine az_ret rfl rfl rfl rfl ?_
    exact ⟨rfl, rfl⟩
  · refine az_sgp rfl rfl rfl rfl ?_
    refine az_ald rfl rfl (k := 3) rfl (by decide) (by decide) hR.water ?_
    refine az_sgp rfl rfl rfl rfl ?_
    refine az_bra rfl rfl rfl (fun q => absurd q hc) (fun q => ?_)
    refine az_sgp rfl rfl rfl rfl ?_
    refine az_ret rfl rfl rfl rfl ?_
    exact ⟨rfl, rfl⟩
theorem cg_nextN {Z a : Nat} (hZ : W 2 0 = nI Z) (ha : W 24 0 = nI a) (h8 : Z ≤ 8) (haZ : a < Z) : cg_next W = nI ((a + 1) % Z) := by
  unfold cg_next
  rw [hZ, ha, nI_1]
  split <;> rename_i h <;> rw [nI_leI (by omega) (by omega)] at h
  · have e : a + 1 = Z := by omega
    rw [e, Nat.mod_self]
    rfl
  · rw [Nat.mod_eq_of_lt (by omega)]
theorem ex_goesOn (d : Nat) (hR : RR W (M 193)) (hI : IW W) : ∃ M', fr1 M M' ∧ RR (cg_step W) (M' 193) ∧ az_E2 (1 ≤ W 24 1) (d + 3) m_X9_goesOn [.ref 192] (az_hp M) (some (.int 1)) (az_hp M') (some (.int 0)) (az_hp M) := by
  obtain ⟨Z, a, hZ, ha, h2, h8, haZ⟩ := hI.zn
  have hn := cg_nextN hZ ha h8 haZ
  have hlt : (a + 1) % Z < Z := Nat.mod_lt _ (by omega)
  generalize hb : (a + 1) % Z = b at hn hlt
  have r1 := hR.uses 1
  have r2 := r1.m_at_ (cg_next W)
  have r3 := r2.m_steps (W 24 5 + 1)
  have e3 : az_up (az_up (cg_pay W 1) 24 0 (cg_next W)) 24 5 (W 24 5 + 1) = cg_step0 W := az_up_comm (Or.inr (by decide))
  rw [e3] at r3
  have hw := hI.well b (by omega)
  have h3a : cg_step0 W 24 0 = nI b := hn
  have hE := ex_drinkHere d r3 h3a (by omega)
  have run : ∀ M', az_EX (d + 2) m_X9_drinkHere [.ref 192] (az_hp (az_up (az_up (rg_uses W M 1) 193 2 (cg_next W)) 193 8 (W 24 5 + 1))) none (az_hp M') → az_E2 (1 ≤ W 24 1) (d + 3) m_X9_goesOn [.ref 192] (az_hp M) (some (.int 1)) (az_hp M') (some (.int 0)) (az_hp M) := by
    intro M' hD
    refine ⟨fun hc => ?_, fun hc => ?_⟩ <;> refine az_EX.of (az_in0 (code := k_X9_goesOn) (ls := [some (.ref 192)]) rfl rfl rfl ?_)
    · refine az_sgp rfl rfl rfl rfl ?_
      refine az_cav rfl rfl rfl rfl ((ex_uses (d + 1) hR 1).1 hc) ?_
      (with_reducible apply az_ifneT); rfl
      refine az_sgp rfl rfl rfl rfl ?_
      refine az_ald rfl rfl (k := 2) rfl (by decide) (by decide) (r1.at_.trans ha) ?_
      refine az_sgp rfl rfl rfl rfl ?_
      refine az_ald rfl rfl (k := 0) rfl (by decide) (by decide) (r1.zones.trans hZ) ?_
      refine az_grd rfl rfl rfl ?_ ?_
      · rw [decide_eq_false (nI_ne0 (by omega) (by omega))]
        rfl
      rw [show (nI a + 1 - (nI a + 1) / nI Z * nI Z) = cg_next W by rw [hn, nI_1, nI_mod (by omega) (by omega), hb]]
      refine az_ast rfl rfl (k := 2) rfl (by decide) (by decide) ?_
      refine az_sgp rfl rfl rfl rfl ?_
      refine az_ald rfl rfl (k := 8) rfl (by decide) (by decide) r2.steps ?_
      refine az_sgp rfl rfl rfl rfl ?_
      refine az_ast rfl rfl (k := 8) rfl (by decide) (by decide) ?_
      refine az_sgp rfl rfl rfl rfl ?_
      refine az_can rfl rfl rfl rfl hD ?_
      refine az_sgp rfl rfl rfl rfl ?_
      refine az_ret rfl rfl rfl rfl ?_
      exact ⟨rfl, rfl⟩
    · refine az_sgp rfl rfl rfl rfl ?_
      refine az_cav rfl rfl rfl rfl ((ex_uses (d + 1) hR 1).2 hc) ?_
      (with_reducible apply az_ifneF); rfl
      refine az_sgp rfl rfl rfl rfl ?_
      refine az_ret rfl rfl rfl rfl ?_
      exact ⟨rfl, rfl⟩
  have hcs : cg_step W = if W 10 b = 0 then cg_step0 W else az_up (cg_step0 W) 24 1 (W 24 2) := by
    unfold cg_step
    rw [hn, az_rdN (by omega) (by decide)]
  have fr3 := ((((fr1.rf M).up 3 (W 24 1 - 1)).up 9 (W 24 6 + 1)).up 2 (cg_next W)).up 8 (W 24 5 + 1)
  by_cases hv : W 10 b = 1
  · refine ⟨_, ?_, ?_, run _ (hE.1 hv)⟩
    · exact fr3.up 3 _
    · rw [hcs, if_neg (by rw [hv]; decide)]
      exact r3.m_water _
  · refine ⟨_, ?_, ?_, run _ (hE.2 hv)⟩
    · exact fr3
    · rw [hcs, if_pos (hw.resolve_right hv)]
      exact r3
theorem ex_mayBe (d : Nat) (hR : RR W (M 193)) {z : Nat} {zi : Int32} (hz : zi = nI z) (h8 : z < 8) (h : Int32) : az_E2 (cg_adm W (nI z) (if W 17 0 ≤ h then 1 else 0)) (d + 2) m_X9_mayBe [.ref 192, .int zi, .int h] (az_hp M) (some (.int 1)) (az_hp M) (some (.int 0)) (az_hp M) := by
  have ha : cg_adm W (nI z) (if W 17 0 ≤ h then 1 else 0) ↔ (W 8 z = 0 ∧ (W 6 z = 0 ∨ (if W 6 z = 1 then (1 : Int32) else 0) = (if W 17 0 ≤ h then 1 else 0))) := by
    unfold cg_adm
    rw [az_rdN h8 (by decide), az_rdN h8 (by decide)]
  have k1 := ex_ofZone d (M := M) hz (w := 2) rfl (by omega) (hR.zk z h8)
  have k2 := ex_ofZone d (M := M) hz (w := 1) rfl (by omega) (hR.zs z h8)
  refine ⟨fun hc => ?_, fun hc => ?_⟩ <;> rw [ha] at hc <;> refine az_EX.of (az_in0 (code := k_X9_mayBe) (ls := [some (.ref 192), some (.int zi), some (.int h), none]) rfl rfl rfl ?_)
  all_goals
    refine az_sgp rfl rfl rfl rfl ?_
    refine az_cav rfl rfl rfl rfl k1 ?_
    refine az_sgp rfl rfl rfl rfl ?_
    refine az_cav rfl rfl rfl rfl k2 ?_
    refine az_bra rfl rfl rfl (fun q1 => ?_) (fun q1 => ?_)
  · refine az_sgp rfl rfl rfl rfl ?_
    refine az_bra rfl rfl rfl (fun q2 => ?_) (fun q2 => ?_)
    · refine az_sgp rfl rfl rfl rfl ?_
      refine az_ret rfl rfl rfl rfl ?_
      simp_all
    refine az_sgp rfl rfl rfl rfl ?_
    refine az_bra rfl rfl rfl (fun q3 => ?_) (fun q3 => ?_)
    all_goals
      refine az_sgp rfl rfl rfl rfl ?_
      refine az_ald rfl rfl (k := 6) rfl (by decide) (by decide) hR.bound ?_
      refine az_bra rfl rfl rfl (fun q4 => ?_) (fun q4 => ?_)
    all_goals
      refine az_sgp rfl rfl rfl rfl ?_
      refine az_bra rfl rfl rfl (fun q5 => ?_) (fun q5 => ?_)
    all_goals
      refine az_sgp rfl rfl rfl rfl ?_
      refine az_ret rfl rfl rfl rfl ?_
      first
      | have q6 : (W 17 0 ≤ h) = False := eq_false (Int32.not_le.mpr q4)
      | have q6 : (W 17 0 ≤ h) = True := eq_true (Int32.not_lt.mp q4)
      clear k1 k2 ha hR
      simp_all
  · refine az_sgp rfl rfl rfl rfl ?_
    refine az_ret rfl rfl rfl rfl ?_
    simp_all
  · refine az_sgp rfl rfl rfl rfl ?_
    refine az_bra rfl rfl rfl (fun q2 => ?_) (fun q2 => ?_)
    · refine az_sgp rfl rfl rfl rfl ?_
      refine az_ret rfl rfl rfl rfl ?_
      simp_all
    refine az_sgp rfl rfl rfl rfl ?_
    refine az_bra rfl rfl rfl (fun q3 => ?_) (fun q3 => ?_)
    all_goals
      refine az_sgp rfl rfl rfl rfl ?_
      refine az_ald rfl rfl (k := 6) rfl (by decide) (by decide) hR.bound ?_
      refine az_bra rfl rfl rfl (fun q4 => ?_) (fun q4 => ?_)
    all_goals
      refine az_sgp rfl rfl rfl rfl ?_
      refine az_bra rfl rfl rfl (fun q5 => ?_) (fun q5 => ?_)
    all_goals
      refine az_sgp rfl rfl rfl rfl ?_
      refine az_ret rfl rfl rfl rfl ?_
      first
      | have q6 : (W 17 0 ≤ h) = False := eq_false (Int32.not_le.mpr q4)
      | have q6 : (W 17 0 ≤ h) = True := eq_true (Int32.not_lt.mp q4)
      clear k1 k2 ha hR
      simp_all
  · refine az_sgp rfl rfl rfl rfl ?_
    refine az_ret rfl rfl rfl rfl ?_
    simp_all
end REFM
