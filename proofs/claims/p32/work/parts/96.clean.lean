/-! CLASS, cleaning -/
section CLEAN
variable {M : Nat → Nat → Int32}
/-- unpackFrom: k loads are left to look at, from place i on; false: no water -/
def cg_unpF : Nat → Nat → az_Mem → Bool × az_Mem
  | 0, _, M => (true, M)
  | k + 1, i, M => if ¬ cg_may M (az_rd (M 26) 6 (nI i)) (M 24 0) then cg_unpF k (i + 1) M else if 1 ≤ M 24 1 then (if 0 ≤ az_rd (cg_wh1 M (az_rd (M 26) 6 (nI i)) 4) 8 (cg_wh1 M (az_rd (M 26) 6 (nI i)) 24 0) then cg_unpF k i (cg_wh M (az_rd (M 26) 6 (nI i))) else (false, cg_wh M (az_rd (M 26) 6 (nI i)))) else (false, M)
theorem az_unp_frame (l : Int32) : ∀ (m i k : Nat) (M : az_Mem), (∀ c, c ≠ 26 → (az_unp l m i k M).1 c = M c) ∧ (az_unp l m i k M).2 ≤ k + m := by
  intro m
  induction m with
  | zero => intro i k M; exact ⟨fun _ _ => rfl, Nat.le_refl _⟩
  | succ m ih =>
    intro i k M
    unfold az_unp
    split
    · obtain ⟨h1, h2⟩ := ih (i + 1) k M
      exact ⟨h1, by omega⟩
    · obtain ⟨h1, h2⟩ := ih (i + 1) (k + 1) (az_up M 26 k (M 26 i))
      exact ⟨fun c hc => by rw [h1 c hc, az_up_row hc], by omega⟩
theorem cg_unp_bag {l : Int32} (h : az_bagOK M) : az_bagOK (cg_unp M l) := by
  obtain ⟨B, hB, hB6⟩ := h
  have h1 := (az_unp_frame l B 0 0 M).2
  refine ⟨(az_unp l B 0 0 M).2, ?_, by omega⟩
  unfold cg_unp
  rw [hB, nI_clamp (by omega), az_up_same]
theorem cg_wh1_bag {l : Int32} (h : az_bagOK M) : az_bagOK (cg_wh1 M l) := by
  have hp : az_bagOK (cg_pay M 1) := by
    obtain ⟨B, hB, hB6⟩ := h
    exact ⟨B, by simp [cg_pay, az_up_self, hB], hB6⟩
  unfold cg_wh1
  split
  · obtain ⟨B, hB, hB6⟩ := cg_unp_bag (l := l) hp
    exact ⟨B, by simp [az_up_self, hB], hB6⟩
  · exact hp
theorem cg_app_24 {z l : Int32} : cg_append M z l 24 = M 24 := by
  unfold cg_append cg_app1
  split <;> simp +decide [az_wr_row, az_up_row]
theorem cg_wh_24 {l : Int32} : cg_wh M l 24 = cg_wh1 M l 24 := by
  unfold cg_wh cg_moveToSlot
  rw [az_wr_row (by decide), az_wr_row (by decide), cg_app_24]
theorem cg_wh_bag {l : Int32} (h : az_bagOK M) : az_bagOK (cg_wh M l) := by
  obtain ⟨B, hB, hB6⟩ := cg_wh1_bag (l := l) h
  exact ⟨B, by rw [cg_wh_24]; exact hB, hB6⟩
end CLEAN
