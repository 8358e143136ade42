/-! CLASS, SURVEY: of all -/
section SUR7
variable {M : Nat → Nat → Int32}
def cg_all (M : az_Mem) (P : Nat → Nat) (Z : Nat) (w : Int32) : Int32 := if w = 0 then M 2 0 else if w = 1 then M 2 1 else if w = 2 then cg_smL M P Z 0 0 else if w = 3 then cg_smW M Z 0 0 - cg_smL M P Z 0 0 else if w = 4 then M 2 0 * M 2 1 - cg_smW M Z 0 0 else if w = 5 then nI (cg_nz M 8 Z) else if w = 6 then nI (cg_hot M) else if w = 7 then M 17 0 else if w = 8 then M 2 2 else if w = 9 then M 2 3 else if w = 10 then nI (cg_nz M 10 Z) else if w = 11 then M 24 7 else -2
theorem ec_ofAll (d : Nat) (w : Int32) {Z : Nat} {P : Nat → Nat} (hZ : M 2 0 = nI Z) (hZ8 : Z ≤ 8) (hP : ∀ i, i < Z → az_rd (M 4) 8 (nI i) = nI (P i) ∧ P i ≤ 12) : az_EX (d + 6) m_X6_ofAll [.ref 1, .int w] (az_hp M) (some (.int (cg_all M P Z w))) (az_hp M) := by
  refine az_EX.of (az_in0 (code := k_X6_ofAll) (ls := [some (.ref 1), some (.int w)]) rfl rfl rfl ?_)
  refine az_sg 1 rfl ?_
  refine az_swi rfl rfl rfl ?_
  by_cases h0 : w = 0
  · subst h0
    refine az_sgp rfl rfl rfl rfl ?_
    refine az_ret rfl rfl rfl rfl ?_
    exact ⟨rfl, rfl⟩
  by_cases h1 : w = 1
  · subst h1
    refine az_sgp rfl rfl rfl rfl ?_
    refine az_ret rfl rfl rfl rfl ?_
    exact ⟨rfl, rfl⟩
  by_cases h2 : w = 2
  · subst h2
    refine az_sgp rfl rfl rfl rfl ?_
    refine az_cav rfl rfl rfl rfl (ec_liveSlots d hZ hZ8 hP) ?_
    refine az_ret rfl rfl rfl rfl ?_
    exact ⟨rfl, rfl⟩
  by_cases h3 : w = 3
  · subst h3
    refine az_sgp rfl rfl rfl rfl ?_
    refine az_cav rfl rfl rfl rfl (ec_writtenSlots (d + 3) hZ hZ8) ?_
    refine az_sgp rfl rfl rfl rfl ?_
    refine az_cav rfl rfl rfl rfl (ec_liveSlots d hZ hZ8 hP) ?_
    refine az_sgp rfl rfl rfl rfl ?_
    refine az_ret rfl rfl rfl rfl ?_
    exact ⟨rfl, rfl⟩
  by_cases h4 : w = 4
  · subst h4
    refine az_sgp rfl rfl rfl rfl ?_
    refine az_cav rfl rfl rfl rfl (ec_writtenSlots (d + 3) hZ hZ8) ?_
    refine az_sgp rfl rfl rfl rfl ?_
    refine az_ret rfl rfl rfl rfl ?_
    exact ⟨rfl, rfl⟩
  by_cases h5 : w = 5
  · subst h5
    refine az_sgp rfl rfl rfl rfl ?_
    refine az_cav rfl rfl rfl rfl (ec_sealCount (d + 2) hZ hZ8) ?_
    refine az_ret rfl rfl rfl rfl ?_
    exact ⟨rfl, rfl⟩
  by_cases h6 : w = 6
  · subst h6
    refine az_sgp rfl rfl rfl rfl ?_
    refine az_cav rfl rfl rfl rfl (ec_hotCount (d + 2)) ?_
    refine az_ret rfl rfl rfl rfl ?_
    exact ⟨rfl, rfl⟩
  by_cases h7 : w = 7
  · subst h7
    refine az_sgp rfl rfl rfl rfl ?_
    refine az_ret rfl rfl rfl rfl ?_
    exact ⟨rfl, rfl⟩
  by_cases h8 : w = 8
  · subst h8
    refine az_sgp rfl rfl rfl rfl ?_
    refine az_ret rfl rfl rfl rfl ?_
    exact ⟨rfl, rfl⟩
  by_cases h9 : w = 9
  · subst h9
    refine az_sgp rfl rfl rfl rfl ?_
    refine az_ret rfl rfl rfl rfl ?_
    exact ⟨rfl, rfl⟩
  by_cases h10 : w = 10
  · subst h10
    refine az_sgp rfl rfl rfl rfl ?_
    refine az_cav rfl rfl rfl rfl (ec_wellCount (d + 2) hZ hZ8) ?_
    refine az_ret rfl rfl rfl rfl ?_
    exact ⟨rfl, rfl⟩
  by_cases h11 : w = 11
  · subst h11
    refine az_sgp rfl rfl rfl rfl ?_
    refine az_ret rfl rfl rfl rfl ?_
    exact ⟨rfl, rfl⟩
  simp only [az_swt, h0, h1, h2, h3, h4, h5, h6, h7, h8, h9, h10, h11, decide_false, cond_false]
  refine az_sgp rfl rfl rfl rfl ?_
  refine az_ret rfl rfl rfl rfl ?_
  simp only [cg_all, h0, h1, h2, h3, h4, h5, h6, h7, h8, h9, h10, h11, if_false, and_self]
end SUR7
