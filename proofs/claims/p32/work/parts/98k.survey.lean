/-! CLASS, SURVEY: caravan and bag -/
section SUR1
variable {M : Nat → Nat → Int32}
def cg_car (M : az_Mem) (w : Int32) : Int32 := if w = 0 then M 24 0 else if w = 1 then M 24 1 else if w = 2 then M 24 2 else if w = 3 then M 24 4 else if w = 4 then M 24 3 else if w = 5 then M 24 5 else if w = 6 then M 24 6 else -2
theorem ec_ofCaravan (d : Nat) (w : Int32) : az_EX (d + 1) m_X6_ofCaravan [.ref 1, .int w] (az_hp M) (some (.int (cg_car M w))) (az_hp M) := by
  refine az_EX.of (az_in0 (code := k_X6_ofCaravan) (ls := [some (.ref 1), some (.int w)]) rfl rfl rfl ?_)
  refine az_sg 1 rfl ?_
  refine az_swi rfl rfl rfl ?_
  by_cases h0 : w = 0
  · subst h0
    refine az_sgp rfl rfl rfl rfl ?_
    refine az_ret rfl rfl rfl rfl ?_
    exact ⟨rfl, rfl⟩
  by_cases h1 : w = 1
  · subst h1
    refine az_sgp rfl rfl rfl rfl ?_
    refine az_ret rfl rfl rfl rfl ?_
    exact ⟨rfl, rfl⟩
  by_cases h2 : w = 2
  · subst h2
    refine az_sgp rfl rfl rfl rfl ?_
    refine az_ret rfl rfl rfl rfl ?_
    exact ⟨rfl, rfl⟩
  by_cases h3 : w = 3
  · subst h3
    refine az_sgp rfl rfl rfl rfl ?_
    refine az_ret rfl rfl rfl rfl ?_
    exact ⟨rfl, rfl⟩
  by_cases h4 : w = 4
  · subst h4
    refine az_sgp rfl rfl rfl rfl ?_
    refine az_ret rfl rfl rfl rfl ?_
    exact ⟨rfl, rfl⟩
  by_cases h5 : w = 5
  · subst h5
    refine az_sgp rfl rfl rfl rfl ?_
    refine az_ret rfl rfl rfl rfl ?_
    exact ⟨rfl, rfl⟩
  by_cases h6 : w = 6
  · subst h6
    refine az_sgp rfl rfl rfl rfl ?_
    refine az_ret rfl rfl rfl rfl ?_
    exact ⟨rfl, rfl⟩
  simp only [az_swt, h0, h1, h2, h3, h4, h5, h6, decide_false, cond_false]
  refine az_sgp rfl rfl rfl rfl ?_
  refine az_ret rfl rfl rfl rfl ?_
  simp only [cg_car, h0, h1, h2, h3, h4, h5, h6, if_false, and_self]
def cg_bagAt (M : az_Mem) (i : Int32) : Int32 := if i < 0 then -2 else if M 24 4 ≤ i then -5 else az_rd (M 26) 6 i
theorem ec_ofBag (d : Nat) (i : Int32) : az_EX (d + 2) m_X6_ofBag [.ref 1, .int i] (az_hp M) (some (.int (cg_bagAt M i))) (az_hp M) := by
  refine az_EX.of (az_in0 (code := k_X6_ofBag) (ls := [some (.ref 1), some (.int i)]) rfl rfl rfl ?_)
  refine az_sgp rfl rfl rfl rfl ?_
  unfold cg_bagAt
  refine az_bra rfl rfl rfl (fun a => ?_) (fun a => ?_)
  · rw [if_neg (Int32.not_lt.mpr a)]
    refine az_sgp rfl rfl rfl rfl ?_
    refine az_bra rfl rfl rfl (fun b => ?_) (fun b => ?_)
    · rw [if_pos b]
      refine az_sgp rfl rfl rfl rfl ?_
      refine az_ret rfl rfl rfl rfl ?_
      exact ⟨rfl, rfl⟩
    · rw [if_neg b]
      refine az_sgp rfl rfl rfl rfl ?_
      refine az_cav rfl rfl rfl rfl (ev_X5_at _ rfl rfl (by decide) _) ?_
      refine az_sgp rfl rfl rfl rfl ?_
      refine az_ret rfl rfl rfl rfl ?_
      exact ⟨rfl, rfl⟩
  · rw [if_pos (Int32.not_le.mp a)]
    refine az_sgp rfl rfl rfl rfl ?_
    refine az_ret rfl rfl rfl rfl ?_
    exact ⟨rfl, rfl⟩
end SUR1
