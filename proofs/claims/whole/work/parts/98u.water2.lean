/-! CLASS, SURVEY: the water that a way needs, its loop -/
section WAT2
variable {M : Nat → Nat → Int32}
theorem ec_waterK (d T : Nat) (hT : T ≤ 8) (x : Int32) : ∀ (m g : Nat) (z : Int32), g ≤ 9 → T ≤ g + m → (0 < m → g + m = T) → az_RUN (d + 2) k_X6_waterNeededTo 40 [some (.ref 1), some (.int x), some (.int (nI T)), some (.int z), some (.int (nI g))] [] (az_hp M) (fun r1 h1 => r1 = some (.int (cg_wt M T m g z)) ∧ h1 = az_hp M) := by
  intro m
  induction m with
  | zero =>
    intro g z hg h1 h2
    refine az_sgp rfl rfl rfl rfl ?_
    refine az_bra rfl rfl rfl (fun _ => ?_) (fun q => absurd (nI_le (show T ≤ g by omega) (by omega)) q)
    refine az_sgp rfl rfl rfl rfl ?_
    refine az_ret rfl rfl rfl rfl ?_
    exact ⟨rfl, rfl⟩
  | succ m ih =>
    intro g z hg h1 h2
    have h3 := h2 (by omega)
    refine az_sgp rfl rfl rfl rfl ?_
    refine az_bra rfl rfl rfl (fun q => absurd q (nI_ge (show g < T by omega) (by omega))) (fun _ => ?_)
    refine az_sgp rfl rfl rfl rfl ?_
    refine az_cav rfl rfl rfl rfl (ec_zoneBehind1 _ z) ?_
    refine az_sgp rfl rfl rfl rfl ?_
    refine az_cav rfl rfl rfl rfl (ev_X5_isSet _ rfl rfl (by decide) _) ?_
    unfold cg_wt
    by_cases w : az_rd (M 10) 8 (cg_bh M z) = 0
    · rw [if_pos w, if_pos w]
      refine az_bra rfl rfl rfl (fun _ => ?_) (fun q => absurd rfl q)
      refine az_sg 2 rfl ?_
      rw [nI_1]
      exact ih (g + 1) _ (by omega) (by omega) (by omega)
    · rw [if_neg w, if_neg w]
      refine az_bra rfl rfl rfl (fun q => absurd q (by decide)) (fun _ => ?_)
      refine az_sgp rfl rfl rfl rfl ?_
      refine az_ret rfl rfl rfl rfl ?_
      exact ⟨rfl, rfl⟩
end WAT2
