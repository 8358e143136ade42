/-! CLASS, SURVEY: the slot of a load -/
section SUR4
variable {M : Nat → Nat → Int32}
def cg_sof (M : az_Mem) (l w : Int32) : Int32 := if ¬ az_rd (M 19) 40 l = 1 then -5 else if w = 1 then az_rd (M 21) 40 l / 12 else if w = 2 then az_rd (M 21) 40 l - az_rd (M 21) 40 l / 12 * 12 else az_rd (M 16) 96 (az_rd (M 21) 40 l)
theorem ec_ofSlotOf (d : Nat) (l w : Int32) : az_EX (d + 3) m_X6_ofSlotOf [.ref 1, .int l, .int w] (az_hp M) (some (.int (cg_sof M l w))) (az_hp M) := by
  refine az_EX.of (az_in0 (code := k_X6_ofSlotOf) (ls := [some (.ref 1), some (.int l), some (.int w), none]) rfl rfl rfl ?_)
  unfold cg_sof
  refine az_sgp rfl rfl rfl rfl ?_
  refine az_ca2 rfl rfl rfl rfl (ec_isIn _ l 1) (fun a => ?_) (fun a => ?_)
  · rw [if_neg (fun q => q a)]
    refine az_bra rfl rfl rfl (fun q => absurd q (by decide)) (fun _ => ?_)
    refine az_sgp rfl rfl rfl rfl ?_
    refine az_cav rfl rfl rfl rfl (ev_X5_at _ rfl rfl (by decide) _) ?_
    refine az_sgp rfl rfl rfl rfl ?_
    refine az_swi rfl rfl rfl ?_
    by_cases h1 : w = 1
    · subst h1
      refine az_sgp rfl rfl rfl rfl ?_
      refine az_grd rfl rfl rfl rfl ?_
      refine az_ret rfl rfl rfl rfl ?_
      exact ⟨rfl, rfl⟩
    by_cases h2 : w = 2
    · subst h2
      refine az_sgp rfl rfl rfl rfl ?_
      refine az_grd rfl rfl rfl rfl ?_
      refine az_ret rfl rfl rfl rfl ?_
      exact ⟨rfl, rfl⟩
    rw [if_neg h1, if_neg h2]
    simp only [az_swt, h1, h2, decide_false, cond_false]
    refine az_sgp rfl rfl rfl rfl ?_
    refine az_cav rfl rfl rfl rfl (ev_X5_at _ rfl rfl (by decide) _) ?_
    refine az_ret rfl rfl rfl rfl ?_
    exact ⟨rfl, rfl⟩
  · rw [if_pos a]
    refine az_bra rfl rfl rfl (fun _ => ?_) (fun q => absurd rfl q)
    refine az_sgp rfl rfl rfl rfl ?_
    refine az_ret rfl rfl rfl rfl ?_
    exact ⟨rfl, rfl⟩
end SUR4
