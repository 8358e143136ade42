/-! CLASS, SURVEY: a load -/
section SUR5
variable {M : Nat → Nat → Int32}
def cg_ofL (M : az_Mem) (l w : Int32) (B : Nat) : Int32 := if ¬ (¬ l < 0 ∧ ¬ 40 ≤ l) then -1 else if w = 0 then az_rd (M 19) 40 l else if w = 1 then cg_sof M l 1 else if w = 2 then cg_sof M l 2 else if w = 3 then cg_sof M l 3 else if w = 4 then az_rd (M 23) 40 l else if w = 5 then (if M 17 0 ≤ az_rd (M 23) 40 l then 1 else 0) else if w = 6 then az_find (M 26) l B 0 else -2
theorem ec_ofLoad (d : Nat) (l w : Int32) {B : Nat} (hB : M 24 4 = nI B) (hB6 : B ≤ 6) : az_EX (d + 4) m_X6_ofLoad [.ref 1, .int l, .int w] (az_hp M) (some (.int (cg_ofL M l w B))) (az_hp M) := by
  refine az_EX.of (az_in0 (code := k_X6_ofLoad) (ls := [some (.ref 1), some (.int l), some (.int w)]) rfl rfl rfl ?_)
  unfold cg_ofL
  refine az_sgp rfl rfl rfl rfl ?_
  refine az_ca2 rfl rfl rfl rfl (ec_isKnown _ l) (fun a => ?_) (fun a => ?_)
  · rw [if_neg (fun q => q a)]
    refine az_bra rfl rfl rfl (fun q => absurd q (by decide)) (fun _ => ?_)
    refine az_sgp rfl rfl rfl rfl ?_
    refine az_swi rfl rfl rfl ?_
    by_cases h0 : w = 0
    · subst h0
      refine az_sgp rfl rfl rfl rfl ?_
      refine az_cav rfl rfl rfl rfl (ev_X5_at _ rfl rfl (by decide) _) ?_
      refine az_ret rfl rfl rfl rfl ?_
      exact ⟨rfl, rfl⟩
    by_cases h1 : w = 1
    · subst h1
      refine az_sgp rfl rfl rfl rfl ?_
      refine az_cav rfl rfl rfl rfl (ec_ofSlotOf d l 1) ?_
      refine az_ret rfl rfl rfl rfl ?_
      exact ⟨rfl, rfl⟩
    by_cases h2 : w = 2
    · subst h2
      refine az_sgp rfl rfl rfl rfl ?_
      refine az_cav rfl rfl rfl rfl (ec_ofSlotOf d l 2) ?_
      refine az_ret rfl rfl rfl rfl ?_
      exact ⟨rfl, rfl⟩
    by_cases h3 : w = 3
    · subst h3
      refine az_sgp rfl rfl rfl rfl ?_
      refine az_cav rfl rfl rfl rfl (ec_ofSlotOf d l 3) ?_
      refine az_ret rfl rfl rfl rfl ?_
      exact ⟨rfl, rfl⟩
    by_cases h4 : w = 4
    · subst h4
      refine az_sgp rfl rfl rfl rfl ?_
      refine az_cav rfl rfl rfl rfl (ev_X5_at _ rfl rfl (by decide) _) ?_
      refine az_ret rfl rfl rfl rfl ?_
      exact ⟨rfl, rfl⟩
    by_cases h5 : w = 5
    · subst h5
      refine az_sgp rfl rfl rfl rfl ?_
      refine az_ca2 rfl rfl rfl rfl (ec_isHot _ _) (fun b => ?_) (fun b => ?_)
      · refine az_bra rfl rfl rfl (fun q => absurd q (by decide)) (fun _ => ?_)
        refine az_sgp rfl rfl rfl rfl ?_
        refine az_ret rfl rfl rfl rfl ?_
        refine ⟨?_, rfl⟩
        show _ = some (Value.int (if M 17 0 ≤ az_rd (M 23) 40 l then 1 else 0))
        rw [if_pos b]
      · refine az_bra rfl rfl rfl (fun _ => ?_) (fun q => absurd rfl q)
        refine az_sgp rfl rfl rfl rfl ?_
        refine az_ret rfl rfl rfl rfl ?_
        refine ⟨?_, rfl⟩
        show _ = some (Value.int (if M 17 0 ≤ az_rd (M 23) 40 l then 1 else 0))
        rw [if_neg b]
    by_cases h6 : w = 6
    · subst h6
      refine az_sgp rfl rfl rfl rfl ?_
      refine az_cav rfl rfl rfl rfl (ec_placeOf (d + 1) l hB hB6) ?_
      refine az_ret rfl rfl rfl rfl ?_
      exact ⟨rfl, rfl⟩
    simp only [az_swt, h0, h1, h2, h3, h4, h5, h6, decide_false, cond_false]
    refine az_sgp rfl rfl rfl rfl ?_
    refine az_ret rfl rfl rfl rfl ?_
    simp only [h0, h1, h2, h3, h4, h5, h6, if_false, and_self]
  · rw [if_pos a]
    refine az_bra rfl rfl rfl (fun _ => ?_) (fun q => absurd rfl q)
    refine az_sgp rfl rfl rfl rfl ?_
    refine az_ret rfl rfl rfl rfl ?_
    exact ⟨rfl, rfl⟩
end SUR5
