/-! CLASS, SURVEY: sums over the zones -/
section SUR6
variable {M : Nat → Nat → Int32}
def cg_smW (M : az_Mem) : Nat → Nat → Int32 → Int32
  | 0, _, s => s
  | m + 1, i, s => cg_smW M m (i + 1) (s + az_rd (M 4) 8 (nI i))
def cg_smL (M : az_Mem) (P : Nat → Nat) : Nat → Nat → Int32 → Int32
  | 0, _, s => s
  | m + 1, i, s => cg_smL M P m (i + 1) (s + nI (cg_cl M (nI i) (P i)))
theorem ec_writtenSlots (d : Nat) {Z : Nat} (hZ : M 2 0 = nI Z) (hZ8 : Z ≤ 8) : az_EX (d + 2) m_X6_writtenSlots [.ref 1] (az_hp M) (some (.int (cg_smW M Z 0 0))) (az_hp M) := by
  refine az_EX.of (az_in0 (code := k_X6_writtenSlots) (ls := [some (.ref 1), none, none]) rfl rfl rfl ?_)
  have K : ∀ (m i : Nat) (s : Int32), i + m = Z → az_RUN (d + 1) k_X6_writtenSlots 4 [some (.ref 1), some (.int s), some (.int (nI i))] [] (az_hp M) (fun r1 h1 => r1 = some (.int (cg_smW M m i s)) ∧ h1 = az_hp M) := by
    intro m
    induction m with
    | zero =>
      intro i s hi
      refine az_sgp rfl rfl rfl rfl ?_
      refine az_bra rfl rfl rfl (fun _ => ?_) (fun q => absurd (show M 2 0 ≤ nI i by rw [hZ]; exact nI_le (show Z ≤ i by omega) (by omega)) q)
      refine az_sgp rfl rfl rfl rfl ?_
      refine az_ret rfl rfl rfl rfl ?_
      exact ⟨rfl, rfl⟩
    | succ m ih =>
      intro i s hi
      refine az_sgp rfl rfl rfl rfl ?_
      refine az_bra rfl rfl rfl (fun q => absurd (show nI Z ≤ nI i by rw [← hZ]; exact q) (nI_ge (show i < Z by omega) (by omega))) (fun _ => ?_)
      refine az_sgp rfl rfl rfl rfl ?_
      refine az_cav rfl rfl rfl rfl (ev_X5_at _ rfl rfl (by decide) _) ?_
      refine az_sg 4 rfl ?_
      rw [nI_1]
      exact ih (i + 1) _ (by omega)
  refine az_sg 4 rfl ?_
  exact K Z 0 0 (by omega)
theorem ec_liveSlots (d : Nat) {Z : Nat} {P : Nat → Nat} (hZ : M 2 0 = nI Z) (hZ8 : Z ≤ 8) (hP : ∀ i, i < Z → az_rd (M 4) 8 (nI i) = nI (P i) ∧ P i ≤ 12) : az_EX (d + 5) m_X6_liveSlots [.ref 1] (az_hp M) (some (.int (cg_smL M P Z 0 0))) (az_hp M) := by
  refine az_EX.of (az_in0 (code := k_X6_liveSlots) (ls := [some (.ref 1), none, none]) rfl rfl rfl ?_)
  have K : ∀ (m i : Nat) (s : Int32), i + m = Z → az_RUN (d + 4) k_X6_liveSlots 4 [some (.ref 1), some (.int s), some (.int (nI i))] [] (az_hp M) (fun r1 h1 => r1 = some (.int (cg_smL M P m i s)) ∧ h1 = az_hp M) := by
    intro m
    induction m with
    | zero =>
      intro i s hi
      refine az_sgp rfl rfl rfl rfl ?_
      refine az_bra rfl rfl rfl (fun _ => ?_) (fun q => absurd (show M 2 0 ≤ nI i by rw [hZ]; exact nI_le (show Z ≤ i by omega) (by omega)) q)
      refine az_sgp rfl rfl rfl rfl ?_
      refine az_ret rfl rfl rfl rfl ?_
      exact ⟨rfl, rfl⟩
    | succ m ih =>
      intro i s hi
      refine az_sgp rfl rfl rfl rfl ?_
      refine az_bra rfl rfl rfl (fun q => absurd (show nI Z ≤ nI i by rw [← hZ]; exact q) (nI_ge (show i < Z by omega) (by omega))) (fun _ => ?_)
      refine az_sgp rfl rfl rfl rfl ?_
      refine az_cav rfl rfl rfl rfl (ec_liveIn d (hP i (by omega)).1 (hP i (by omega)).2) ?_
      refine az_sg 4 rfl ?_
      rw [nI_1]
      exact ih (i + 1) _ (by omega)
  refine az_sg 4 rfl ?_
  exact K Z 0 0 (by omega)
end SUR6
