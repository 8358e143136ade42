/-! CLASS, cleaning -/
section CLEAN
variable {M : Nat → Nat → Int32}
/-- unpackFrom: k loads are left to look at, from place i on; false: no water -/
def cg_unpF : Nat → Nat → az_Mem → Bool × az_Mem
  | 0, _, M => (true, M)
  | k + 1, i, M => if ¬ cg_may M (az_rd (M 26) 6 (nI i)) (M 24 0) then cg_unpF k (i + 1) M else if 1 ≤ M 24 1 then (if 0 ≤ az_rd (cg_wh1 M (az_rd (M 26) 6 (nI i)) 4) 8 (cg_wh1 M (az_rd (M 26) 6 (nI i)) 24 0) then cg_unpF k i (cg_wh M (az_rd (M 26) 6 (nI i))) else (false, cg_wh M (az_rd (M 26) 6 (nI i)))) else (false, M)
theorem az_unp_frame (l : Int32) : ∀ (m i k : Nat) (M : az_Mem), (∀ c, c ≠ 26 → (az_unp l m i k M).1 c = M c) ∧ (az_unp l m i k M).2 ≤ k + m := by
  intro m
  induction m with
  | zero => intro i k M; exact ⟨fun _ _ => rfl, Nat.le_refl _⟩
  | succ m ih =>
    intro i k M
    unfold az_unp
    split
    · obtain ⟨h1, h2⟩ := ih (i + 1) k M
      exact ⟨h1, by omega⟩
    · obtain ⟨h1, h2⟩ := ih (i + 1) (k + 1) (az_up M 26 k (M 26 i))
      exact ⟨fun c hc => by rw [h1 c hc, az_up_row hc], by omega⟩
theorem cg_unp_bag {l : Int32} (h : az_bagOK M) : az_bagOK (cg_unp M l) := by
  obtain ⟨B, hB, hB6⟩ := h
  have h1 := (az_unp_frame l B 0 0 M).2
  refine ⟨(az_unp l B 0 0 M).2, ?_, by omega⟩
  unfold cg_unp
  rw [hB, nI_clamp (by omega), az_up_same]
theorem cg_wh1_bag {l : Int32} (h : az_bagOK M) : az_bagOK (cg_wh1 M l) := by
  have hp : az_bagOK (cg_pay M 1) := by
    obtain ⟨B, hB, hB6⟩ := h
    exact ⟨B, by simp [cg_pay, az_up_self, hB], hB6⟩
  unfold cg_wh1
  split
  · obtain ⟨B, hB, hB6⟩ := cg_unp_bag (l := l) hp
    exact ⟨B, by simp [az_up_self, hB], hB6⟩
  · exact hp
theorem cg_app_24 {z l : Int32} : cg_append M z l 24 = M 24 := by
  unfold cg_append cg_app1
  split <;> simp +decide [az_wr_row, az_up_row]
theorem cg_wh_24 {l : Int32} : cg_wh M l 24 = cg_wh1 M l 24 := by
  unfold cg_wh cg_moveToSlot
  rw [az_wr_row (by decide), az_wr_row (by decide), cg_app_24]
theorem cg_wh_bag {l : Int32} (h : az_bagOK M) : az_bagOK (cg_wh M l) := by
  obtain ⟨B, hB, hB6⟩ := cg_wh1_bag (l := l) h
  exact ⟨B, by rw [cg_wh_24]; exact hB, hB6⟩
theorem ec_unpackFrom (d : Nat) {e B : Nat} (hB : M 24 4 = nI B) (hB6 : B ≤ 6) (he : e ≤ B) : az_E2 ((cg_unpF (B - e) e M).1 = true) (d + 5) m_X7_unpackFrom [.ref 1, .int (nI e)] (az_hp M) (some (.int 1)) (az_hp (cg_unpF (B - e) e M).2) (some (.int 0)) (az_hp (cg_unpF (B - e) e M).2) := by
  have K : ∀ (k i k1 : Nat) (N : az_Mem) (o : az_V), k1 = k → az_bagOK N → i + k ≤ 6 → az_RUN (d + 4) k_X7_unpackFrom 12 [some (.ref 1), some (.int (nI e)), some (.int (nI i)), some (.int (nI k1)), o] [] (az_hp N) (fun r1 h1 => r1 = some (.int (if (cg_unpF k i N).1 = true then 1 else 0)) ∧ h1 = az_hp (cg_unpF k i N).2) := by
    intro k
    induction k with
    | zero =>
      intro i k1 N o ek hN hi
      repeat' (first
        | (refine az_ret rfl rfl rfl rfl ?_)
        | (refine az_sgp rfl rfl rfl rfl ?_)
        | ((with_reducible apply az_ifeqT); rfl)
        | ((with_reducible apply az_ifeqF); rfl)
        | ((with_reducible apply az_ifneF); rfl)
        | ((with_reducible apply az_ifneT); rfl)
        | (refine az_bra rfl rfl rfl (fun _ => ?_) (fun _ => ?_)))
      · exact ⟨rfl, rfl⟩
      all_goals (exact absurd (show nI k1 ≤ 0 by subst ek; decide) (by with_reducible assumption))
    | succ k ih =>
      intro i k1 N o ek hN hi
      repeat' (first
        | (refine az_ret rfl rfl rfl rfl ?_)
        | (refine az_sgp rfl rfl rfl rfl ?_)
        | (refine az_cav rfl rfl rfl rfl (ev_X5_at _ rfl rfl (by decide) _) ?_)
        | (refine az_can rfl rfl rfl rfl (ev_X5_at _ rfl rfl (by decide) _) ?_)
        | (refine az_ca2 rfl rfl rfl rfl (ec_mayBeWritten .. ) (fun _ => ?_) (fun _ => ?_))
        | (refine az_ca2 rfl rfl rfl rfl (ec_writeHere _ _ hN ) (fun _ => ?_) (fun _ => ?_))
        | ((with_reducible apply az_ifeqT); rfl)
        | ((with_reducible apply az_ifeqF); rfl)
        | ((with_reducible apply az_ifneF); rfl)
        | ((with_reducible apply az_ifneT); rfl)
        | (refine az_bra rfl rfl rfl (fun _ => ?_) (fun _ => ?_)))
      · exact absurd (by with_reducible assumption) (nI_nle (show 0 < k1 by omega) (by omega))
      · have g1 : ¬ ¬ cg_may N (az_rd (N 26) 6 (nI i)) (N 24 0) := fun q => q (by with_reducible assumption)
        have g2 : 1 ≤ N 24 1 := by with_reducible assumption
        have g3 : 0 ≤ az_rd (cg_wh1 N (az_rd (N 26) 6 (nI i)) 4) 8 (cg_wh1 N (az_rd (N 26) 6 (nI i)) 24 0) := by with_reducible assumption
        have h3 := ih i k (cg_wh N (az_rd (N 26) 6 (nI i))) (some (.int (az_rd (N 26) 6 (nI i)))) rfl (cg_wh_bag hN) (by omega)
        refine az_sg 1 rfl ?_
        subst ek
        rw [show nI (k + 1) + -1 = nI k from pk_m1 k]
        rw [show cg_unpF (k + 1) i N = cg_unpF k i (cg_wh N (az_rd (N 26) 6 (nI i))) from (if_neg g1).trans ((if_pos g2).trans (if_pos g3))]
        exact h3
      · have g1 : ¬ ¬ cg_may N (az_rd (N 26) 6 (nI i)) (N 24 0) := fun q => q (by with_reducible assumption)
        have g2 : 1 ≤ N 24 1 := by with_reducible assumption
        have g3 : ¬ 0 ≤ az_rd (cg_wh1 N (az_rd (N 26) 6 (nI i)) 4) 8 (cg_wh1 N (az_rd (N 26) 6 (nI i)) 24 0) := by with_reducible assumption
        rw [show cg_unpF (k + 1) i N = (false, cg_wh N (az_rd (N 26) 6 (nI i))) from (if_neg g1).trans ((if_pos g2).trans (if_neg g3))]
        exact ⟨rfl, rfl⟩
      · exact absurd (show (0 : Int32) ≤ -6 by with_reducible assumption) (by decide)
      · have g1 : ¬ ¬ cg_may N (az_rd (N 26) 6 (nI i)) (N 24 0) := fun q => q (by with_reducible assumption)
        have g2 : ¬ 1 ≤ N 24 1 := by with_reducible assumption
        rw [show cg_unpF (k + 1) i N = (false, N) from (if_neg g1).trans (if_neg g2)]
        exact ⟨rfl, rfl⟩
      · have g1 : ¬ cg_may N (az_rd (N 26) 6 (nI i)) (N 24 0) := by with_reducible assumption
        have h3 := ih (i + 1) k N (some (.int (az_rd (N 26) 6 (nI i)))) rfl hN (by omega)
        refine az_sg 1 rfl ?_
        subst ek
        rw [nI_1, show nI (k + 1) + -1 = nI k from pk_m1 k]
        rw [show cg_unpF (k + 1) i N = cg_unpF k (i + 1) N from if_pos g1]
        exact h3
  have e0 : az_RUN (d + 4) k_X7_unpackFrom 0 [some (.ref 1), some (.int (nI e)), none, none, none] [] (az_hp M) (fun r1 h1 => r1 = some (.int (if (cg_unpF (B - e) e M).1 = true then 1 else 0)) ∧ h1 = az_hp (cg_unpF (B - e) e M).2) := by
    refine az_sg 8 rfl ?_
    rw [hB, pk_sub he]
    exact K (B - e) e (B - e) M _ rfl ⟨B, hB, hB6⟩ (by omega)
  refine ⟨fun hc => ?_, fun hc => ?_⟩ <;> refine az_EX.of (az_in0 (code := k_X7_unpackFrom) (ls := [some (.ref 1), some (.int (nI e)), none, none, none]) rfl rfl rfl ?_)
  · rw [if_pos hc] at e0
    exact e0
  · rw [if_neg hc] at e0
    exact e0
end CLEAN
