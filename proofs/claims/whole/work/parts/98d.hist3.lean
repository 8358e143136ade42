/-! CLASS: the history, taken back -/
section HIST3
variable {M : Nat → Nat → Int32}
def cg_pvL (L : Nat) : Nat := if 0 < L then L - 1 else 3
def cg_tkH (M : az_Mem) (L : Nat) : az_Mem := az_up (az_up (cg_cpW M 1 (az_hw L)) 79 1 (nI (cg_pvL L))) 79 2 (cg_cpW M 1 (az_hw L) 79 2 - 1)
theorem ec_tkH (d : Nat) {L : Nat} (hL : M 79 1 = nI L) (h4 : L < 4) (hs : ¬ M 79 2 < 1) : az_EX (d + 4) m_X1_takeLatest [.ref 79, .ref 1] (az_hp M) (some (.int 1)) (az_hp (cg_tkH M L)) := by
  refine az_EX.of (az_in0 (code := k_X1_takeLatest) (ls := [some (.ref 79), some (.ref 1), none]) rfl rfl rfl ?_)
  have main : ∀ (N : az_Mem) (w : Nat), N 79 1 = nI L → az_RUN (d + 3) k_X1_takeLatest 28 [some (.ref 79), some (.ref 1), some (.ref w)] [] (az_hp N) (fun r1 h1 => r1 = some (.int 1) ∧ h1 = az_hp (az_up (az_up N 79 1 (nI (cg_pvL L))) 79 2 (N 79 2 - 1))) := by
    intro N w hN
    rcases (show L = 0 ∨ L = 1 ∨ L = 2 ∨ L = 3 by omega) with rfl | rfl | rfl | rfl
    · refine az_sgp rfl rfl rfl rfl ?_
      refine az_bra rfl rfl rfl (fun _ => ?_) (fun q => absurd (show N 79 1 ≤ 0 by rw [hN]; decide) q)
      refine az_sgp rfl rfl rfl rfl ?_
      refine az_ret rfl rfl rfl rfl ?_
      exact ⟨rfl, rfl⟩
    all_goals (refine az_sgp rfl rfl rfl rfl ?_)
    all_goals (refine az_bra rfl rfl rfl (fun q => absurd (show N 79 1 ≤ 0 from q) (by rw [hN]; decide)) (fun _ => ?_))
    all_goals (refine az_sgp rfl rfl rfl rfl ?_)
    all_goals (refine az_ret rfl rfl rfl rfl ?_)
    · refine ⟨rfl, ?_⟩
      rw [show nI (cg_pvL 1) = N 79 1 - 1 by rw [hN]; decide]; rfl
    · refine ⟨rfl, ?_⟩
      rw [show nI (cg_pvL 2) = N 79 1 - 1 by rw [hN]; decide]; rfl
    · refine ⟨rfl, ?_⟩
      rw [show nI (cg_pvL 3) = N 79 1 - 1 by rw [hN]; decide]; rfl
  refine az_sgp rfl rfl rfl rfl ?_
  refine az_cav rfl rfl rfl rfl (ec_stateAt (d + 2) hL h4) ?_
  refine az_sgp rfl rfl rfl rfl ?_
  refine az_bra rfl rfl rfl (fun q => absurd q hs) (fun _ => ?_)
  refine az_sgp rfl rfl rfl rfl ?_
  refine az_can rfl rfl rfl rfl (ec_cpU d h4) ?_
  exact main (cg_cpW M 1 (az_hw L)) (az_hw L) (by rw [cg_cpW_out (by omega)]; exact hL)
theorem ec_tkH0 (d : Nat) {L : Nat} (hL : M 79 1 = nI L) (h4 : L < 4) (hs : M 79 2 < 1) : az_EX (d + 4) m_X1_takeLatest [.ref 79, .ref 1] (az_hp M) (some (.int 0)) (az_hp M) := by
  refine az_EX.of (az_in0 (code := k_X1_takeLatest) (ls := [some (.ref 79), some (.ref 1), none]) rfl rfl rfl ?_)
  refine az_sgp rfl rfl rfl rfl ?_
  refine az_cav rfl rfl rfl rfl (ec_stateAt (d + 2) hL h4) ?_
  refine az_sgp rfl rfl rfl rfl ?_
  refine az_bra rfl rfl rfl (fun _ => ?_) (fun q => absurd hs q)
  refine az_sgp rfl rfl rfl rfl ?_
  refine az_ret rfl rfl rfl rfl ?_
  exact ⟨rfl, rfl⟩
theorem ec_hsize (d : Nat) : az_EX (d + 1) m_X1_size [.ref 79] (az_hp M) (some (.int (M 79 2))) (az_hp M) := by
  refine az_EX.of (az_in0 (code := k_X1_size) (ls := [some (.ref 79)]) rfl rfl rfl ?_)
  refine az_sgp rfl rfl rfl rfl ?_
  refine az_ret rfl rfl rfl rfl ?_
  exact ⟨rfl, rfl⟩
end HIST3
