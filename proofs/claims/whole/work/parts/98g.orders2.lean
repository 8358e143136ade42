/-! CLASS: a sign is read -/
section ORDS2
variable {M : Nat → Nat → Int32}
def cg_rlv (x : Int32) : Int32 := if x = 103 ∨ x = 119 ∨ x = 116 ∨ x = 112 ∨ x = 100 then 1 else if x = 114 ∨ x = 115 ∨ x = 99 then 3 else 4
def cg_rl (M : az_Mem) (x : Int32) : az_Mem := az_up (az_wr (az_wr M 189 30 (M 185 4) x) 191 30 (M 185 4) 0) 185 4 (M 185 4 + 1)
theorem ec_readLetter (d : Nat) (x : Int32) : az_EX (d + 2) m_X3_readLetter [.ref 185, .int x] (az_hp M) (some (.int (cg_rlv x))) (az_hp (cg_rl M x)) := by
  refine az_EX.of (az_in0 (code := k_X3_readLetter) (ls := [some (.ref 185), some (.int x)]) rfl rfl rfl ?_)
  refine az_sgp rfl rfl rfl rfl ?_
  refine az_can rfl rfl rfl rfl (ev_X5_change _ rfl rfl (by decide) _ _) ?_
  refine az_sgp rfl rfl rfl rfl ?_
  refine az_can rfl rfl rfl rfl (ev_X5_change _ rfl rfl (by decide) _ _) ?_
  refine az_sgp rfl rfl rfl rfl ?_
  refine az_swi rfl rfl rfl ?_
  have e1 : az_wr M 189 30 (M 185 4) x 185 = M 185 := az_wr_row (by decide)
  have e2 : az_wr (az_wr M 189 30 (M 185 4) x) 191 30 (M 185 4) 0 185 = M 185 := by rw [az_wr_row (by decide), e1]
  have out : ∀ (p : Nat) (v : Int32) (N : az_Mem), N = cg_rl M x → v = cg_rlv x → (p = 132 ∧ v = 1 ∨ p = 134 ∧ v = 3 ∨ p = 136 ∧ v = 4) → az_RUN (d + 1) k_X3_readLetter p [some (.ref 185), some (.int x)] [] (az_hp N) (fun r1 h1 => r1 = some (.int (cg_rlv x)) ∧ h1 = az_hp (cg_rl M x)) := by
    intro p v N hN hv hp
    subst hN
    rw [← hv]
    rcases hp with ⟨rfl, rfl⟩ | ⟨rfl, rfl⟩ | ⟨rfl, rfl⟩
    all_goals (refine az_sgp rfl rfl rfl rfl ?_)
    all_goals (refine az_ret rfl rfl rfl rfl ?_)
    all_goals (exact ⟨rfl, rfl⟩)
  refine out _ (cg_rlv x) _ ?_ rfl ?_
  · unfold cg_rl; simp only [e1, e2]
  · by_cases a1 : x = 103
    · subst a1; decide
    by_cases a2 : x = 119
    · subst a2; decide
    by_cases a3 : x = 116
    · subst a3; decide
    by_cases a4 : x = 112
    · subst a4; decide
    by_cases a5 : x = 100
    · subst a5; decide
    by_cases a6 : x = 114
    · subst a6; decide
    by_cases a7 : x = 115
    · subst a7; decide
    by_cases a8 : x = 99
    · subst a8; decide
    refine Or.inr (Or.inr ⟨?_, ?_⟩)
    · simp only [az_swt, a1, a2, a3, a4, a5, a6, a7, a8, decide_false, cond_false, Bool.cond_self]
    · simp only [cg_rlv, a1, a2, a3, a4, a5, a6, a7, a8, or_false, if_false]
end ORDS2
