/-! CLASS: the history, taken back -/
section HIST3
variable {M : Nat → Nat → Int32}
def cg_pvL (L : Nat) : Nat := if 0 < L then L - 1 else 3
def cg_tkH (M : az_Mem) (L : Nat) : az_Mem := az_up (az_up (cg_cpW M 1 (az_hw L)) 79 1 (nI (cg_pvL L))) 79 2 (cg_cpW M 1 (az_hw L) 79 2 - 1)
theorem ec_hsize (d : Nat) : az_EX (d + 1) m_X1_size [.ref 79] (az_hp M) (some (.int (M 79 2))) (az_hp M) := by
  refine az_EX.of (az_in0 (code := k_X1_size) (ls := [some (.ref 79)]) rfl rfl rfl ?_)
  refine az_sgp rfl rfl rfl rfl ?_
  refine az_ret rfl rfl rfl rfl ?_
  exact ⟨rfl, rfl⟩
end HIST3
