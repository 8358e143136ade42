/-! CLASS, SURVEY: the water to a zone -/
section WAT3
variable {M : Nat → Nat → Int32}
def cg_stB (M : az_Mem) (z : Int32) : Int32 := if z < M 24 0 then z - M 24 0 + M 2 0 else z - M 24 0
theorem ec_stepsBetween1 (d : Nat) (z : Int32) : az_EX (d + 1) m_X4_stepsBetween [.ref 2, .int (M 24 0), .int z] (az_hp M) (some (.int (cg_stB M z))) (az_hp M) := by
  unfold cg_stB
  by_cases h : z < M 24 0
  · rw [if_pos h]; exact (ec_stepsBetween d (M 24 0) z).1 h
  · rw [if_neg h]; exact (ec_stepsBetween d (M 24 0) z).2 h
theorem ec_waterNeededTo (d : Nat) (z : Int32) {T : Nat} (hT : (¬ z < 0 ∧ ¬ M 2 0 ≤ z) → cg_stB M z = nI T) (hT8 : T ≤ 8) : az_EX (d + 3) m_X6_waterNeededTo [.ref 1, .int z] (az_hp M) (some (.int (if ¬ (¬ z < 0 ∧ ¬ M 2 0 ≤ z) then -1 else cg_wt M T (T - 1) 1 (M 24 0)))) (az_hp M) := by
  refine az_EX.of (az_in0 (code := k_X6_waterNeededTo) (ls := [some (.ref 1), some (.int z), none, none, none]) rfl rfl rfl ?_)
  refine az_sgp rfl rfl rfl rfl ?_
  refine az_ca2 rfl rfl rfl rfl (ec_hasZone _ z) (fun a => ?_) (fun a => ?_)
  · rw [if_neg (fun q => q a)]
    refine az_bra rfl rfl rfl (fun q => absurd q (by decide)) (fun _ => ?_)
    refine az_sgp rfl rfl rfl rfl ?_
    refine az_cav rfl rfl rfl rfl (ec_stepsBetween1 _ z) ?_
    rw [hT a]
    refine az_sg 7 rfl ?_
    exact ec_waterK d T hT8 z (T - 1) 1 _ (by omega) (by omega) (by omega)
  · rw [if_pos a]
    refine az_bra rfl rfl rfl (fun _ => ?_) (fun q => absurd rfl q)
    refine az_sgp rfl rfl rfl rfl ?_
    refine az_ret rfl rfl rfl rfl ?_
    exact ⟨rfl, rfl⟩
end WAT3
