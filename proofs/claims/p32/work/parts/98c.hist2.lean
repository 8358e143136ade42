/-! CLASS: the history -/
section HIST
variable {M : Nat → Nat → Int32}
def az_hw : Nat → Nat
  | 0 => 81 | 1 => 107 | 2 => 133 | _ => 159
theorem ec_stateAt (d : Nat) {i : Int32} {L : Nat} (hi : i = nI L) (hL : L < 4) : az_EX (d + 1) m_X1_stateAt [.ref 79, .int i] (az_hp M) (some (.ref (az_hw L))) (az_hp M) := by
  have h1 : ¬ i < 0 := by rw [hi]; exact nI_pos (by omega)
  have h2 : ¬ 4 ≤ i := by rw [hi]; show ¬ nI 4 ≤ nI L; exact nI_ge (a := L) (b := 4) hL (by omega)
  have h3 : az_in i 4 = true := by rw [hi]; exact az_inN hL (by omega)
  have h4 : i.toNatClampNeg = L := by rw [hi]; exact nI_clamp (by omega)
  refine az_EX.of (az_in0 (code := k_X1_stateAt) (ls := [some (.ref 79), some (.int i)]) rfl rfl rfl ?_)
  refine az_sgp rfl rfl rfl rfl ?_
  refine az_bra rfl rfl rfl (fun q => absurd q h1) (fun _ => ?_)
  refine az_sgp rfl rfl rfl rfl ?_
  refine az_bra rfl rfl rfl (fun q => absurd q h2) (fun _ => ?_)
  refine az_sgp rfl rfl rfl rfl ?_
  refine az_grd rfl rfl rfl h3 ?_
  rw [h4]
  rcases (show L = 0 ∨ L = 1 ∨ L = 2 ∨ L = 3 by omega) with rfl | rfl | rfl | rfl
  all_goals (refine az_sgp rfl rfl rfl rfl ?_)
  all_goals (refine az_ret rfl rfl rfl rfl ?_)
  all_goals (exact ⟨rfl, rfl⟩)
def cg_nxL (L : Nat) : Nat := if L + 1 < 4 then L + 1 else 0
def cg_rem (M : az_Mem) (L : Nat) : az_Mem := cg_cpW (az_up (az_up M 79 1 (nI (cg_nxL L))) 79 2 (if 4 < M 79 2 + 1 then 4 else M 79 2 + 1)) (az_hw (cg_nxL L)) 27
theorem ec_cpH (d : Nat) {L : Nat} (hL : L < 4) : az_EX (d + 3) m_X7_copyFrom [.ref (az_hw L), .ref 27] (az_hp M) none (az_hp (cg_cpW M (az_hw L) 27)) := by
  rcases (show L = 0 ∨ L = 1 ∨ L = 2 ∨ L = 3 by omega) with rfl | rfl | rfl | rfl
  · exact ec_cpW_81_27 d
  · exact ec_cpW_107_27 d
  · exact ec_cpW_133_27 d
  · exact ec_cpW_159_27 d
theorem ec_remember (d : Nat) {L : Nat} (hL : M 79 1 = nI L) (h4 : L < 4) : az_EX (d + 4) m_X1_remember [.ref 79, .ref 27] (az_hp M) none (az_hp (cg_rem M L)) := by
  refine az_EX.of (az_in0 (code := k_X1_remember) (ls := [some (.ref 79), some (.ref 27), none]) rfl rfl rfl ?_)
  have main : ∀ (N : az_Mem), N = az_up M 79 1 (nI (cg_nxL L)) → az_RUN (d + 3) k_X1_remember 24 [some (.ref 79), some (.ref 27), none] [] (az_hp N) (fun r1 h1 => r1 = none ∧ h1 = az_hp (cg_rem M L)) := by
    intro N hN
    have hl : cg_nxL L < 4 := by unfold cg_nxL; split <;> omega
    have e2 : N 79 2 = M 79 2 := by rw [hN, az_up_self, if_neg (by decide)]
    refine az_sgp rfl rfl rfl rfl ?_
    rw [e2]
    refine az_cav rfl rfl rfl rfl (ec_stateAt (d + 2) (L := cg_nxL L) ?_ hl) ?_
    · rw [az_up_self, if_neg (by decide), hN, az_up_same]
    · rcases (show cg_nxL L = 0 ∨ cg_nxL L = 1 ∨ cg_nxL L = 2 ∨ cg_nxL L = 3 by omega) with hx | hx | hx | hx
      all_goals (rw [hx])
      all_goals (refine az_sgp rfl rfl rfl rfl ?_)
      · refine az_can rfl rfl rfl rfl (ec_cpW_81_27 d) ?_
        refine az_ret rfl rfl rfl rfl ?_
        unfold cg_rem; rw [hx, hN, hx]; exact ⟨rfl, rfl⟩
      · refine az_can rfl rfl rfl rfl (ec_cpW_107_27 d) ?_
        refine az_ret rfl rfl rfl rfl ?_
        unfold cg_rem; rw [hx, hN, hx]; exact ⟨rfl, rfl⟩
      · refine az_can rfl rfl rfl rfl (ec_cpW_133_27 d) ?_
        refine az_ret rfl rfl rfl rfl ?_
        unfold cg_rem; rw [hx, hN, hx]; exact ⟨rfl, rfl⟩
      · refine az_can rfl rfl rfl rfl (ec_cpW_159_27 d) ?_
        refine az_ret rfl rfl rfl rfl ?_
        unfold cg_rem; rw [hx, hN, hx]; exact ⟨rfl, rfl⟩
  refine az_sgp rfl rfl rfl rfl ?_
  rw [hL, nI_1]
  refine az_bra rfl rfl rfl (fun q => ?_) (fun q => ?_)
  · have hq : ¬ L + 1 < 4 := fun z => absurd (show nI 4 ≤ nI (L + 1) from q) (nI_ge (a := L + 1) (b := 4) z (by omega))
    refine az_sg 2 rfl ?_
    exact main _ (by unfold cg_nxL; rw [if_neg hq]; rfl)
  · have hq : L + 1 < 4 := by
      rcases Nat.lt_or_ge (L + 1) 4 with z | z
      · exact z
      · exact absurd (nI_le z (by omega)) q
    refine az_sg 6 rfl ?_
    rw [hL, nI_1]
    exact main _ (by unfold cg_nxL; rw [if_pos hq])
end HIST
