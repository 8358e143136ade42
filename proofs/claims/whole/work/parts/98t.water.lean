/-! CLASS, SURVEY: the water that a way needs -/
section WAT
variable {M : Nat → Nat → Int32}
def cg_bh (M : az_Mem) (z : Int32) : Int32 := if M 2 0 ≤ z + 1 then 0 else z + 1
def cg_wt (M : az_Mem) (T : Nat) : Nat → Nat → Int32 → Int32
  | 0, _, _ => nI T * 1
  | m + 1, g, z => if az_rd (M 10) 8 (cg_bh M z) = 0 then cg_wt M T m (g + 1) (cg_bh M z) else nI g * 1
theorem ec_zoneBehind1 (d : Nat) (z : Int32) : az_EX (d + 1) m_X4_zoneBehind [.ref 2, .int z] (az_hp M) (some (.int (cg_bh M z))) (az_hp M) := by
  unfold cg_bh
  by_cases h : M 2 0 ≤ z + 1
  · rw [if_pos h]; exact (ec_zoneBehind d z).1 h
  · rw [if_neg h]; exact (ec_zoneBehind d z).2 h
end WAT
