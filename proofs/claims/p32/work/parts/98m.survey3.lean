/-! CLASS, SURVEY: a slot -/
section SUR3
variable {M : Nat → Nat → Int32}
def cg_ofS (M : az_Mem) (z s w : Int32) : Int32 := if ¬ (¬ z < 0 ∧ ¬ M 2 0 ≤ z) then -1 else if ¬ (¬ s < 0 ∧ ¬ M 2 1 ≤ s) then -1 else if w < 0 then -2 else if ¬ w ≤ 2 then -2 else if ¬ s < az_rd (M 4) 8 z then -5 else if w = 0 then az_rd (M 14) 96 (z * 12 + s) else if w = 1 then az_rd (M 16) 96 (z * 12 + s) else if cg_live M z s then 1 else 0
theorem ec_ofSlot (d : Nat) (z s w : Int32) : az_EX (d + 4) m_X6_ofSlot [.ref 1, .int z, .int s, .int w] (az_hp M) (some (.int (cg_ofS M z s w))) (az_hp M) := by
  refine az_EX.of (az_in0 (code := k_X6_ofSlot) (ls := [some (.ref 1), some (.int z), some (.int s), some (.int w)]) rfl rfl rfl ?_)
  unfold cg_ofS
  refine az_sgp rfl rfl rfl rfl ?_
  refine az_ca2 rfl rfl rfl rfl (ec_hasZone _ z) (fun a => ?_) (fun a => ?_)
  · rw [if_neg (fun q => q a)]
    refine az_bra rfl rfl rfl (fun q => absurd q (by decide)) (fun _ => ?_)
    refine az_sgp rfl rfl rfl rfl ?_
    refine az_ca2 rfl rfl rfl rfl (ec_hasSlot _ s) (fun b => ?_) (fun b => ?_)
    · rw [if_neg (fun q => q b)]
      refine az_bra rfl rfl rfl (fun q => absurd q (by decide)) (fun _ => ?_)
      refine az_sgp rfl rfl rfl rfl ?_
      refine az_bra rfl rfl rfl (fun c => ?_) (fun c => ?_)
      · rw [if_pos c]
        refine az_sgp rfl rfl rfl rfl ?_
        refine az_ret rfl rfl rfl rfl ?_
        exact ⟨rfl, rfl⟩
      · rw [if_neg c]
        refine az_sgp rfl rfl rfl rfl ?_
        refine az_bra rfl rfl rfl (fun e => ?_) (fun e => ?_)
        · rw [if_neg (fun q => q e)]
          refine az_sgp rfl rfl rfl rfl ?_
          refine az_cav rfl rfl rfl rfl (ev_X5_at _ rfl rfl (by decide) _) ?_
          refine az_bra rfl rfl rfl (fun f => ?_) (fun f => ?_)
          · rw [if_neg (fun q => q f)]
            refine az_sgp rfl rfl rfl rfl ?_
            refine az_swi rfl rfl rfl ?_
            by_cases h0 : w = 0
            · subst h0
              refine az_sgp rfl rfl rfl rfl ?_
              refine az_cav rfl rfl rfl rfl (ec_cellAt _ _ _) ?_
              refine az_cav rfl rfl rfl rfl (ev_X5_at _ rfl rfl (by decide) _) ?_
              refine az_ret rfl rfl rfl rfl ?_
              exact ⟨rfl, rfl⟩
            by_cases h1 : w = 1
            · subst h1
              refine az_sgp rfl rfl rfl rfl ?_
              refine az_cav rfl rfl rfl rfl (ec_cellAt _ _ _) ?_
              refine az_cav rfl rfl rfl rfl (ev_X5_at _ rfl rfl (by decide) _) ?_
              refine az_ret rfl rfl rfl rfl ?_
              exact ⟨rfl, rfl⟩
            rw [if_neg h0, if_neg h1]
            simp only [az_swt, h0, h1, decide_false, cond_false]
            refine az_sgp rfl rfl rfl rfl ?_
            refine az_ca2 rfl rfl rfl rfl (ec_isLive d z s) (fun g => ?_) (fun g => ?_)
            · rw [if_pos g]
              refine az_bra rfl rfl rfl (fun q => absurd q (by decide)) (fun _ => ?_)
              refine az_sgp rfl rfl rfl rfl ?_
              refine az_ret rfl rfl rfl rfl ?_
              exact ⟨rfl, rfl⟩
            · rw [if_neg g]
              refine az_bra rfl rfl rfl (fun _ => ?_) (fun q => absurd rfl q)
              refine az_sgp rfl rfl rfl rfl ?_
              refine az_ret rfl rfl rfl rfl ?_
              exact ⟨rfl, rfl⟩
          · rw [if_pos f]
            refine az_sgp rfl rfl rfl rfl ?_
            refine az_ret rfl rfl rfl rfl ?_
            exact ⟨rfl, rfl⟩
        · rw [if_pos e]
          refine az_sgp rfl rfl rfl rfl ?_
          refine az_ret rfl rfl rfl rfl ?_
          exact ⟨rfl, rfl⟩
    · rw [if_pos b]
      refine az_bra rfl rfl rfl (fun _ => ?_) (fun q => absurd rfl q)
      refine az_sgp rfl rfl rfl rfl ?_
      refine az_ret rfl rfl rfl rfl ?_
      exact ⟨rfl, rfl⟩
  · rw [if_pos a]
    refine az_bra rfl rfl rfl (fun _ => ?_) (fun q => absurd rfl q)
    refine az_sgp rfl rfl rfl rfl ?_
    refine az_ret rfl rfl rfl rfl ?_
    exact ⟨rfl, rfl⟩
end SUR3
