/-! REFERENCE: a load comes into a slot, into the bag; a zone is reset -/
section REFN
variable {M W : az_Mem}
def cg_cm (W : az_Mem) (l : Int32) : az_Mem := cg_moveToSlot (cg_append W (W 24 0) l) l (cg_append W (W 24 0) l 24 0 * 12 + az_rd (W 4) 8 (W 24 0))
theorem cg_append_24 (W : az_Mem) (z l : Int32) : cg_append W z l 24 = W 24 := by
  unfold cg_append cg_app1
  split
  · rw [az_wr_row (by decide), az_up_row (by decide), az_wr_row (by decide), az_wr_row (by decide)]
  · rw [az_wr_row (by decide), az_wr_row (by decide), az_up_row (by decide), az_wr_row (by decide), az_wr_row (by decide)]
theorem nI_cell (a p : Nat) : nI a * 12 + nI p = nI (12 * a + p) := by
  show nI a * nI 12 + nI p = _
  rw [nI_mul, nI_add, Nat.mul_comm]
theorem cg_cmN {a S p l : Nat} (ha : W 24 0 = nI a) (h8 : a < 8) (hS : W 2 1 = nI S) (h12 : S ≤ 12) (hp : W 4 a = nI p) (hpS : p < S) (h40 : l < 40) :
    cg_cm W (nI l) = az_up (az_up ((fun X => if p + 1 = S then az_up X 8 a 1 else X) (az_up (az_up (az_up (az_up W 14 (12 * a + p) (nI l)) 16 (12 * a + p) (W 2 2)) 2 2 (W 2 2 + 1)) 4 a (nI p + 1))) 19 l 1) 21 l (nI (12 * a + p)) := by
  unfold cg_cm
  rw [cg_append_24, ha]
  unfold cg_moveToSlot cg_append cg_app1
  rw [az_rdN h8 (by decide), hp, nI_cell, hS]
  simp only [nI_1]
  have e : (nI (p + 1) < nI S) = ¬ (p + 1 = S) := by
    rw [nI_ltI (by omega) (by omega)]
    apply propext
    omega
  simp only [az_wrN (show 12 * a + p < 96 by omega) (show 96 < 2 ^ 31 by decide), az_wrN h8 (show 8 < 2 ^ 31 by decide), az_wrN h40 (show 40 < 2 ^ 31 by decide)]
  by_cases h : p + 1 = S
  · rw [if_neg (by rw [e]; exact fun q => q h), if_pos h]
  · rw [if_pos (by rw [e]; exact h), if_neg h]
theorem ex_comes (d : Nat) (hR : RR W (M 193)) {a S p l : Nat} {li : Int32} (ha : W 24 0 = nI a) (h8 : a < 8) (hS : W 2 1 = nI S) (h12 : S ≤ 12) (hp : W 4 a = nI p) (hpS : p < S) (hl : li = nI l) (h40 : l < 40) : ∃ M', fr1 M M' ∧ RR (cg_cm W (nI l)) (M' 193) ∧ az_EX (d + 2) m_X9_comes [.ref 192, .int li] (az_hp M) (some (.int (nI p))) (az_hp M') := by
  subst hl
  rw [cg_cmN ha h8 hS h12 hp hpS h40]
  have hc : 12 * a + p < 96 := by omega
  have r1 := hR.m_cl hc (nI l)
  have r2 := r1.m_cm hc (W 2 2)
  have r3 := r2.m_mark (W 2 2 + 1)
  have r4 := r3.m_zp h8 (nI p + 1)
  have f4 := ((((fr1.rf M).up (59 + 2 * (12 * a + p)) (nI l)).up (59 + 2 * (12 * a + p) + 1) (W 2 2)).up 7 (W 2 2 + 1)).up (19 + 5 * a + 0) (nI p + 1)
  have hy : nI a = nI (12 * a + p) / 12 := by
    show _ = nI (12 * a + p) / nI 12
    rw [nI_div (by omega) (by decide)]
    congr 1
    omega
  have hz : nI p = nI (12 * a + p) - nI (12 * a + p) / 12 * 12 := by
    show _ = nI (12 * a + p) - nI (12 * a + p) / nI 12 * nI 12
    rw [nI_mod (by omega) (by decide)]
    congr 1
    omega
  have fin : ∀ M5 W5, fr1 M M5 → RR W5 (M5 193) → ∀ dd, (∀ M7, M7 = az_up (az_up (az_up M5 193 (251 + 4 * l + 0) 1) 193 (251 + 4 * l + 1) (nI a)) 193 (251 + 4 * l + 2) (nI p) → az_RUN (d + 1) k_X9_comes 83 dd [] (az_hp M5) (fun r1 h1 => r1 = some (.int (nI p)) ∧ h1 = az_hp M7)) → True := fun _ _ _ _ _ _ => trivial
  have step : ∀ M5, az_RUN (d + 1) k_X9_comes 83 [some (.ref 192), some (.int (nI l)), some (.int (nI a)), some (.int (nI p))] [] (az_hp M5) (fun r1 h1 => r1 = some (.int (nI p)) ∧ h1 = az_hp (az_up (az_up (az_up M5 193 (251 + 4 * l + 0) 1) 193 (251 + 4 * l + 1) (nI a)) 193 (251 + 4 * l + 2) (nI p))) := by
    intro M5
    refine az_sgp rfl rfl rfl rfl ?_
    refine az_can rfl rfl rfl rfl (ex_loadIs d (w := 0) rfl rfl (by omega)) ?_
    refine az_sgp rfl rfl rfl rfl ?_
    refine az_can rfl rfl rfl rfl (ex_loadIs d (w := 1) rfl rfl (by omega)) ?_
    refine az_sgp rfl rfl rfl rfl ?_
    refine az_can rfl rfl rfl rfl (ex_loadIs d (w := 2) rfl rfl (by omega)) ?_
    refine az_sgp rfl rfl rfl rfl ?_
    refine az_ret rfl rfl rfl rfl ?_
    exact ⟨rfl, rfl⟩
  have run : ∀ M5 : az_Mem, (p + 1 = S → M5 = az_up (az_up (az_up (az_up (az_up M 193 (59 + 2 * (12 * a + p)) (nI l)) 193 (59 + 2 * (12 * a + p) + 1) (W 2 2)) 193 7 (W 2 2 + 1)) 193 (19 + 5 * a + 0) (nI p + 1)) 193 (19 + 5 * a + 1) 1) → (¬ p + 1 = S → M5 = (az_up (az_up (az_up (az_up M 193 (59 + 2 * (12 * a + p)) (nI l)) 193 (59 + 2 * (12 * a + p) + 1) (W 2 2)) 193 7 (W 2 2 + 1)) 193 (19 + 5 * a + 0) (nI p + 1))) → az_EX (d + 2) m_X9_comes [.ref 192, .int (nI l)] (az_hp M) (some (.int (nI p))) (az_hp (az_up (az_up (az_up M5 193 (251 + 4 * l + 0) 1) 193 (251 + 4 * l + 1) (nI a)) 193 (251 + 4 * l + 2) (nI p))) := by
    intro M5 e1 e2
    refine az_EX.of (az_in0 (code := k_X9_comes) (ls := [some (.ref 192), some (.int (nI l)), none, none]) rfl rfl rfl ?_)
    refine az_sgp rfl rfl rfl rfl ?_
    refine az_ald rfl rfl (k := 2) rfl (by decide) (by decide) (hR.at_.trans ha) ?_
    refine az_sgp rfl rfl rfl rfl ?_
    refine az_cav rfl rfl rfl rfl (ex_ofZone d (w := 0) rfl rfl (by omega) ((hR.zp a h8).trans hp)) ?_
    refine az_sgp rfl rfl rfl rfl ?_
    refine az_cav rfl rfl rfl rfl (ex_slotAt d rfl rfl) ?_
    refine az_sgp rfl rfl rfl rfl ?_
    refine az_ast rfl rfl (k := 59 + 2 * (12 * a + p)) rfl (by omega) (by decide) ?_
    refine az_sgp rfl rfl rfl rfl ?_
    refine az_cav rfl rfl rfl rfl (ex_slotAt d rfl rfl) ?_
    refine az_sgp rfl rfl rfl rfl ?_
    refine az_ald rfl rfl (k := 7) rfl (by decide) (by decide) r1.mark ?_
    refine az_ast rfl rfl (k := 59 + 2 * (12 * a + p) + 1) (nI_1 _) (by omega) (by decide) ?_
    refine az_sgp rfl rfl rfl rfl ?_
    refine az_ald rfl rfl (k := 7) rfl (by decide) (by decide) r2.mark ?_
    refine az_sgp rfl rfl rfl rfl ?_
    refine az_ast rfl rfl (k := 7) rfl (by decide) (by decide) ?_
    refine az_sgp rfl rfl rfl rfl ?_
    refine az_can rfl rfl rfl rfl (ex_zoneIs d (w := 0) rfl rfl (by omega)) ?_
    refine az_sgp rfl rfl rfl rfl ?_
    refine az_ald rfl rfl (k := 1) rfl (by decide) (by decide) (r4.slots.trans hS) ?_
    refine az_bra rfl rfl rfl (fun q => ?_) (fun q => ?_)
    · rw [nI_1, nI_eq (by omega) (by omega)] at q
      rw [e1 q]
      refine az_sgp rfl rfl rfl rfl ?_
      refine az_can rfl rfl rfl rfl (ex_zoneIs d (w := 1) rfl rfl (by omega)) ?_
      exact step _
    · rw [nI_1, nI_eq (by omega) (by omega)] at q
      rw [e2 q]
      exact step _
  by_cases h : p + 1 = S
  · refine ⟨_, ?_, ?_, run _ (fun _ => rfl) (fun q => absurd h q)⟩
    · exact (((f4.up _ _).up _ _).up _ _).up _ _
    · simp only [if_pos h]
      exact ((r4.m_zs h8 1).m_lw h40 1).m_cell h40 hy hz
  · refine ⟨_, ?_, ?_, run _ (fun q => absurd q h) (fun _ => rfl)⟩
    · exact ((f4.up _ _).up _ _).up _ _
    · simp only [if_neg h]
      exact (r4.m_lw h40 1).m_cell h40 hy hz
theorem ex_bag (d : Nat) (hR : RR W (M 193)) {B l : Nat} {li : Int32} (hB : W 24 4 = nI B) (h6 : B < 6) (hl : li = nI l) (h40 : l < 40) : ∃ M', fr1 M M' ∧ RR (cg_packUp W (nI l)) (M' 193) ∧ az_EX (d + 2) m_X9_bag [.ref 192, .int li] (az_hp M) none (az_hp M') := by
  subst hl
  have r1 := hR.m_lw h40 2
  have r2 := r1.m_bag h6 (nI l)
  have r3 := r2.m_many (W 24 4 + 1)
  have e : az_up (az_up (az_up W 19 l 2) 26 B (nI l)) 24 4 (W 24 4 + 1) = cg_packUp W (nI l) := by
    unfold cg_packUp cg_pack
    rw [hB, az_wrN h40 (by decide), az_wrN h6 (by decide), az_up_comm (a := 19) (b := 26) (Or.inl (by decide)), az_up_comm (a := 19) (b := 24) (Or.inl (by decide))]
  rw [e] at r3
  refine ⟨_, ?_, r3, ?_⟩
  · exact (((fr1.rf M).up _ _).up _ _).up _ _
  · refine az_EX.of (az_in0 (code := k_X9_bag) (ls := [some (.ref 192), some (.int (nI l))]) rfl rfl rfl ?_)
    refine az_sgp rfl rfl rfl rfl ?_
    refine az_can rfl rfl rfl rfl (ex_loadIs d (w := 0) rfl rfl (by omega)) ?_
    refine az_sgp rfl rfl rfl rfl ?_
    refine az_ald rfl rfl (k := 12) rfl (by decide) (by decide) (r1.many.trans hB) ?_
    refine az_sgp rfl rfl rfl rfl ?_
    refine az_ast rfl rfl (k := 13 + B) (nI_add 13 B) (by omega) (by decide) ?_
    refine az_sgp rfl rfl rfl rfl ?_
    refine az_ald rfl rfl (k := 12) rfl (by decide) (by decide) r2.many ?_
    refine az_sgp rfl rfl rfl rfl ?_
    refine az_ast rfl rfl (k := 12) rfl (by decide) (by decide) ?_
    refine az_ret rfl rfl rfl rfl ?_
    exact ⟨rfl, rfl⟩
theorem ex_beReset (d : Nat) (hR : RR W (M 193)) {z : Nat} {zi : Int32} (hz : zi = nI z) (h8 : z < 8) : ∃ M', fr1 M M' ∧ RR (cg_clear W (nI z)) (M' 193) ∧ az_EX (d + 2) m_X9_beReset [.ref 192, .int zi] (az_hp M) none (az_hp M') := by
  subst hz
  have r1 := hR.m_zp h8 0
  have r2 := r1.m_zs h8 0
  have r3 := r2.m_zr h8 (W 12 z + 1)
  have r4 := r3.m_resets (W 2 3 + 1)
  have e : az_up (az_up (az_up (az_up W 4 z 0) 8 z 0) 12 z (W 12 z + 1)) 2 3 (W 2 3 + 1) = cg_clear W (nI z) := by
    unfold cg_clear
    rw [az_rdN h8 (by decide), az_wrN h8 (by decide), az_wrN h8 (by decide), az_wrN h8 (by decide)]
  rw [e] at r4
  refine ⟨_, ?_, r4, ?_⟩
  · exact ((((fr1.rf M).up _ _).up _ _).up _ _).up _ _
  · refine az_EX.of (az_in0 (code := k_X9_beReset) (ls := [some (.ref 192), some (.int (nI z))]) rfl rfl rfl ?_)
    refine az_sgp rfl rfl rfl rfl ?_
    refine az_can rfl rfl rfl rfl (ex_zoneIs d (w := 0) rfl rfl (by omega)) ?_
    refine az_sgp rfl rfl rfl rfl ?_
    refine az_can rfl rfl rfl rfl (ex_zoneIs d (w := 1) rfl rfl (by omega)) ?_
    refine az_sgp rfl rfl rfl rfl ?_
    refine az_cav rfl rfl rfl rfl (ex_ofZone d (w := 4) rfl rfl (by omega) (r2.zr z h8)) ?_
    refine az_sgp rfl rfl rfl rfl ?_
    refine az_can rfl rfl rfl rfl (ex_zoneIs d (w := 4) rfl rfl (by omega)) ?_
    refine az_sgp rfl rfl rfl rfl ?_
    refine az_ald rfl rfl (k := 10) rfl (by decide) (by decide) r3.resets ?_
    refine az_sgp rfl rfl rfl rfl ?_
    refine az_ast rfl rfl (k := 10) rfl (by decide) (by decide) ?_
    refine az_ret rfl rfl rfl rfl ?_
    exact ⟨rfl, rfl⟩
end REFN
