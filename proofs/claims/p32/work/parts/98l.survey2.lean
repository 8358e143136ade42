/-! CLASS, SURVEY: a zone -/
section SUR2
variable {M : Nat → Nat → Int32}
def cg_ofZ (M : az_Mem) (z w : Int32) (P : Nat) : Int32 := if ¬ (¬ z < 0 ∧ ¬ M 2 0 ≤ z) then -1 else if w = 0 then az_rd (M 4) 8 z else if w = 1 then nI (cg_cl M z P) else if w = 2 then nI P - nI (cg_cl M z P) else if w = 3 then az_rd (M 6) 8 z else if w = 4 then az_rd (M 8) 8 z else if w = 5 then az_rd (M 10) 8 z else if w = 6 then az_rd (M 12) 8 z else if w = 7 then (if z < M 24 0 then z - M 24 0 + M 2 0 else z - M 24 0) else -2
theorem ec_ofZone (d : Nat) {z w : Int32} {P : Nat} (hP : (¬ z < 0 ∧ ¬ M 2 0 ≤ z) → az_rd (M 4) 8 z = nI P) (hP12 : P ≤ 12) : az_EX (d + 6) m_X6_ofZone [.ref 1, .int z, .int w] (az_hp M) (some (.int (cg_ofZ M z w P))) (az_hp M) := by
  refine az_EX.of (az_in0 (code := k_X6_ofZone) (ls := [some (.ref 1), some (.int z), some (.int w)]) rfl rfl rfl ?_)
  unfold cg_ofZ
  refine az_sgp rfl rfl rfl rfl ?_
  refine az_ca2 rfl rfl rfl rfl (ec_hasZone _ z) (fun a => ?_) (fun a => ?_)
  · rw [if_neg (fun q => q a)]
    refine az_bra rfl rfl rfl (fun q => absurd q (by decide)) (fun _ => ?_)
    refine az_sgp rfl rfl rfl rfl ?_
    refine az_swi rfl rfl rfl ?_
    by_cases h0 : w = 0
    · subst h0
      refine az_sgp rfl rfl rfl rfl ?_
      refine az_cav rfl rfl rfl rfl (ev_X5_at _ rfl rfl (by decide) _) ?_
      refine az_ret rfl rfl rfl rfl ?_
      exact ⟨rfl, rfl⟩
    by_cases h1 : w = 1
    · subst h1
      refine az_sgp rfl rfl rfl rfl ?_
      refine az_cav rfl rfl rfl rfl (ec_liveIn (d + 1) (hP a) hP12) ?_
      refine az_ret rfl rfl rfl rfl ?_
      exact ⟨rfl, rfl⟩
    by_cases h2 : w = 2
    · subst h2
      refine az_sgp rfl rfl rfl rfl ?_
      refine az_cav rfl rfl rfl rfl (ec_deadIn d (hP a) hP12) ?_
      refine az_ret rfl rfl rfl rfl ?_
      exact ⟨rfl, rfl⟩
    by_cases h3 : w = 3
    · subst h3
      refine az_sgp rfl rfl rfl rfl ?_
      refine az_cav rfl rfl rfl rfl (ev_X5_at _ rfl rfl (by decide) _) ?_
      refine az_ret rfl rfl rfl rfl ?_
      exact ⟨rfl, rfl⟩
    by_cases h4 : w = 4
    · subst h4
      refine az_sgp rfl rfl rfl rfl ?_
      refine az_cav rfl rfl rfl rfl (ev_X5_at _ rfl rfl (by decide) _) ?_
      refine az_ret rfl rfl rfl rfl ?_
      exact ⟨rfl, rfl⟩
    by_cases h5 : w = 5
    · subst h5
      refine az_sgp rfl rfl rfl rfl ?_
      refine az_cav rfl rfl rfl rfl (ev_X5_at _ rfl rfl (by decide) _) ?_
      refine az_ret rfl rfl rfl rfl ?_
      exact ⟨rfl, rfl⟩
    by_cases h6 : w = 6
    · subst h6
      refine az_sgp rfl rfl rfl rfl ?_
      refine az_cav rfl rfl rfl rfl (ev_X5_at _ rfl rfl (by decide) _) ?_
      refine az_ret rfl rfl rfl rfl ?_
      exact ⟨rfl, rfl⟩
    by_cases h7 : w = 7
    · subst h7
      refine az_sgp rfl rfl rfl rfl ?_
      refine az_ca2 rfl rfl rfl rfl (ec_stepsBetween _ _ _) (fun b => ?_) (fun b => ?_)
      · refine az_ret rfl rfl rfl rfl ?_
        refine ⟨?_, rfl⟩
        show _ = some (Value.int (if z < M 24 0 then z - M 24 0 + M 2 0 else z - M 24 0))
        rw [if_pos b]
      · refine az_ret rfl rfl rfl rfl ?_
        refine ⟨?_, rfl⟩
        show _ = some (Value.int (if z < M 24 0 then z - M 24 0 + M 2 0 else z - M 24 0))
        rw [if_neg b]
    simp only [az_swt, h0, h1, h2, h3, h4, h5, h6, h7, decide_false, cond_false]
    refine az_sgp rfl rfl rfl rfl ?_
    refine az_ret rfl rfl rfl rfl ?_
    simp only [h0, h1, h2, h3, h4, h5, h6, h7, if_false, and_self]
  · rw [if_pos a]
    refine az_bra rfl rfl rfl (fun _ => ?_) (fun q => absurd rfl q)
    refine az_sgp rfl rfl rfl rfl ?_
    refine az_ret rfl rfl rfl rfl ?_
    exact ⟨rfl, rfl⟩
end SUR2
