/-! CLASS, LOOPS of Caravan, Loads, Road -/
theorem az_up_same (M : Nat → Nat → Int32) (b k : Nat) (x : Int32) : az_up M b k x b k = x := by simp [az_up]
theorem az_nIle {a b : Nat} (h : nI a ≤ nI b) (ha : a < 2 ^ 31) (hb : b < 2 ^ 31) : a ≤ b := (nI_leI ha hb).mp h
section LOOPS
variable {M : Nat → Nat → Int32}
theorem ec_placeOf (d : Nat) (l : Int32) {B : Nat} (hB : M 24 4 = nI B) (hB6 : B ≤ 6) : az_EX (d + 2) m_X0_placeOf [.ref 24, .int l] (az_hp M) (some (.int (az_find (M 26) l B 0))) (az_hp M) := by
  refine az_EX.of (az_in0 (code := k_X0_placeOf) (ls := [some (.ref 24), some (.int l), none]) rfl rfl rfl ?_)
  have K : ∀ (m i : Nat), i + m = B → az_RUN (d + 1) k_X0_placeOf 2 [some (.ref 24), some (.int l), some (.int (nI i))] [] (az_hp M) (fun r1 h1 => r1 = some (.int (az_find (M 26) l m i)) ∧ h1 = az_hp M) := by
    intro m
    induction m with
    | zero =>
      intro i hi
      repeat' (first
        | (refine az_ret rfl rfl rfl rfl ?_)
        | (refine az_sgp rfl rfl rfl rfl ?_)
        | (refine az_cav rfl rfl rfl rfl (ev_X5_at _ rfl rfl (by decide) _) ?_)
        | (refine az_can rfl rfl rfl rfl (ev_X5_at _ rfl rfl (by decide) _) ?_)
        | ((with_reducible apply az_ifeqT); rfl)
        | ((with_reducible apply az_ifeqF); rfl)
        | ((with_reducible apply az_ifneF); rfl)
        | ((with_reducible apply az_ifneT); rfl)
        | (refine az_bra rfl rfl rfl (fun _ => ?_) (fun _ => ?_)))
      · simp [az_find]
      all_goals (exact absurd (show M 24 4 ≤ nI i by rw [hB]; exact nI_le (show B ≤ i by omega) (by omega)) (by assumption))
    | succ m ih =>
      intro i hi
      have e1 : az_rd (M 26) 6 (nI i) = M 26 i := az_rdN (by omega) (by omega)
      repeat' (first
        | (refine az_ret rfl rfl rfl rfl ?_)
        | (refine az_sgp rfl rfl rfl rfl ?_)
        | (refine az_cav rfl rfl rfl rfl (ev_X5_at _ rfl rfl (by decide) _) ?_)
        | (refine az_can rfl rfl rfl rfl (ev_X5_at _ rfl rfl (by decide) _) ?_)
        | ((with_reducible apply az_ifeqT); rfl)
        | ((with_reducible apply az_ifeqF); rfl)
        | ((with_reducible apply az_ifneF); rfl)
        | ((with_reducible apply az_ifneT); rfl)
        | (refine az_bra rfl rfl rfl (fun _ => ?_) (fun _ => ?_)))
      · exact absurd (by assumption) (by rw [hB]; exact nI_ge (show i < B by omega) (by omega))
      · have h2 : M 26 i = l := by rw [← e1]; assumption
        simp [az_find, h2]
      · refine az_sg 1 rfl ?_
        rw [nI_1]
        have h2 : ¬ M 26 i = l := by rw [← e1]; assumption
        have h3 := ih (i + 1) (by omega)
        rw [show az_find (M 26) l (m + 1) i = az_find (M 26) l m (i + 1) by simp [az_find, h2]]
        exact h3
  refine az_sg 2 rfl ?_
  exact K B 0 (by omega)
theorem ec_unpack (d : Nat) (l : Int32) {B : Nat} (hB : M 24 4 = nI B) (hB6 : B ≤ 6) : az_EX (d + 2) m_X0_unpack [.ref 24, .int l] (az_hp M) none (az_hp (az_up (az_unp l B 0 0 M).1 24 4 (nI (az_unp l B 0 0 M).2))) := by
  refine az_EX.of (az_in0 (code := k_X0_unpack) (ls := [some (.ref 24), some (.int l), none, none, none]) rfl rfl rfl ?_)
  have K : ∀ (m i k : Nat) (N : Nat → Nat → Int32) (o : az_V), N 24 4 = nI B → i + m = B → k ≤ i → az_RUN (d + 1) k_X0_unpack 4 [some (.ref 24), some (.int l), some (.int (nI k)), some (.int (nI i)), o] [] (az_hp N) (fun r1 h1 => r1 = none ∧ h1 = az_hp (az_up (az_unp l m i k N).1 24 4 (nI (az_unp l m i k N).2))) := by
    intro m
    induction m with
    | zero =>
      intro i k N o hB hi hk
      repeat' (first
        | (refine az_ret rfl rfl rfl rfl ?_)
        | (refine az_sgp rfl rfl rfl rfl ?_)
        | (refine az_cav rfl rfl rfl rfl (ev_X5_at _ rfl rfl (by decide) _) ?_)
        | (refine az_can rfl rfl rfl rfl (ev_X5_at _ rfl rfl (by decide) _) ?_)
        | (refine az_cav rfl rfl rfl rfl (ev_X5_change _ rfl rfl (by decide) _ _) ?_)
        | (refine az_can rfl rfl rfl rfl (ev_X5_change _ rfl rfl (by decide) _ _) ?_)
        | ((with_reducible apply az_ifeqT); rfl)
        | ((with_reducible apply az_ifeqF); rfl)
        | ((with_reducible apply az_ifneF); rfl)
        | ((with_reducible apply az_ifneT); rfl)
        | (refine az_bra rfl rfl rfl (fun _ => ?_) (fun _ => ?_)))
      · simp [az_unp]
      all_goals (exact absurd (show N 24 4 ≤ nI i by rw [hB]; exact nI_le (show B ≤ i by omega) (by omega)) (by assumption))
    | succ m ih =>
      intro i k N o hB hi hk
      have e1 : az_rd (N 26) 6 (nI i) = N 26 i := az_rdN (by omega) (by omega)
      repeat' (first
        | (refine az_ret rfl rfl rfl rfl ?_)
        | (refine az_sgp rfl rfl rfl rfl ?_)
        | (refine az_cav rfl rfl rfl rfl (ev_X5_at _ rfl rfl (by decide) _) ?_)
        | (refine az_can rfl rfl rfl rfl (ev_X5_at _ rfl rfl (by decide) _) ?_)
        | (refine az_cav rfl rfl rfl rfl (ev_X5_change _ rfl rfl (by decide) _ _) ?_)
        | (refine az_can rfl rfl rfl rfl (ev_X5_change _ rfl rfl (by decide) _ _) ?_)
        | ((with_reducible apply az_ifeqT); rfl)
        | ((with_reducible apply az_ifeqF); rfl)
        | ((with_reducible apply az_ifneF); rfl)
        | ((with_reducible apply az_ifneT); rfl)
        | (refine az_bra rfl rfl rfl (fun _ => ?_) (fun _ => ?_)))
      · exact absurd (by assumption) (by rw [hB]; exact nI_ge (show i < B by omega) (by omega))
      · refine az_sg 1 rfl ?_
        rw [nI_1]
        have h2 : N 26 i = l := by rw [← e1]; assumption
        rw [show az_unp l (m + 1) i k N = az_unp l m (i + 1) k N by simp [az_unp, h2]]
        exact ih (i + 1) k N _ hB (by omega) (by omega)
      · refine az_sg 1 rfl ?_
        rw [nI_1, nI_1, e1, az_wrN (by omega) (by omega)]
        have h2 : ¬ N 26 i = l := by rw [← e1]; assumption
        rw [show az_unp l (m + 1) i k N = az_unp l m (i + 1) (k + 1) (az_up N 26 k (N 26 i)) by simp [az_unp, h2]]
        exact ih (i + 1) (k + 1) _ _ (by rw [az_up_row (by decide)]; exact hB) (by omega) (by omega)
  refine az_sg 4 rfl ?_
  exact K B 0 0 M _ hB (by omega) (Nat.le_refl _)
theorem ec_anyInSlot (d : Nat) : az_E2 (∃ j, j < 40 ∧ M 19 j = 1) (d + 3) m_X2_anyInSlot [.ref 17] (az_hp M) (some (.int 1)) (az_hp M) (some (.int 0)) (az_hp M) := by
  have K : ∀ (m i : Nat), i + m = 40 → az_RUN (d + 2) k_X2_anyInSlot 2 [some (.ref 17), some (.int (nI i))] [] (az_hp M) (fun r1 h1 => ((∃ j, i ≤ j ∧ j < 40 ∧ M 19 j = 1) → r1 = some (.int 1) ∧ h1 = az_hp M) ∧ (¬ (∃ j, i ≤ j ∧ j < 40 ∧ M 19 j = 1) → r1 = some (.int 0) ∧ h1 = az_hp M)) := by
    intro m
    induction m with
    | zero =>
      intro i hi
      repeat' (first
        | (refine az_ret rfl rfl rfl rfl ?_)
        | (refine az_sgp rfl rfl rfl rfl ?_)
        | (refine az_ca2 rfl rfl rfl rfl (ec_isIn .. ) (fun _ => ?_) (fun _ => ?_))
        | ((with_reducible apply az_ifeqT); rfl)
        | ((with_reducible apply az_ifeqF); rfl)
        | ((with_reducible apply az_ifneF); rfl)
        | ((with_reducible apply az_ifneT); rfl)
        | (refine az_bra rfl rfl rfl (fun _ => ?_) (fun _ => ?_)))
      · exact ⟨fun ⟨j, h1, h2, _⟩ => absurd h1 (by omega), fun _ => ⟨rfl, rfl⟩⟩
      all_goals (exact absurd (nI_le (show 40 ≤ i by omega) (by omega)) (by assumption))
    | succ m ih =>
      intro i hi
      have e1 : az_rd (M 19) 40 (nI i) = M 19 i := az_rdN (by omega) (by omega)
      repeat' (first
        | (refine az_ret rfl rfl rfl rfl ?_)
        | (refine az_sgp rfl rfl rfl rfl ?_)
        | (refine az_ca2 rfl rfl rfl rfl (ec_isIn .. ) (fun _ => ?_) (fun _ => ?_))
        | ((with_reducible apply az_ifeqT); rfl)
        | ((with_reducible apply az_ifeqF); rfl)
        | ((with_reducible apply az_ifneF); rfl)
        | ((with_reducible apply az_ifneT); rfl)
        | (refine az_bra rfl rfl rfl (fun _ => ?_) (fun _ => ?_)))
      · exact absurd (by assumption) (nI_ge (show i < 40 by omega) (by omega))
      · exact ⟨fun _ => ⟨rfl, rfl⟩, fun h => absurd ⟨i, Nat.le_refl _, by omega, by rw [← e1]; assumption⟩ h⟩
      · refine az_sg 1 rfl ?_
        rw [nI_1]
        have h2 : ¬ M 19 i = 1 := by rw [← e1]; assumption
        refine (ih (i + 1) (by omega)).mono (fun r h q => ⟨fun ⟨j, g1, g2, g3⟩ => q.1 ⟨j, ?_, g2, g3⟩, fun g => q.2 (fun ⟨j, g1, g2, g3⟩ => g ⟨j, by omega, g2, g3⟩)⟩)
        by_cases e : j = i
        · subst e; exact absurd g3 h2
        · omega
  have e0 : az_RUN (d + 2) k_X2_anyInSlot 0 [some (.ref 17), none] [] (az_hp M) (fun r1 h1 => ((∃ j, 0 ≤ j ∧ j < 40 ∧ M 19 j = 1) → r1 = some (.int 1) ∧ h1 = az_hp M) ∧ (¬ (∃ j, 0 ≤ j ∧ j < 40 ∧ M 19 j = 1) → r1 = some (.int 0) ∧ h1 = az_hp M)) := by
    refine az_sg 2 rfl ?_
    exact K 40 0 (by omega)
  refine ⟨fun ⟨j, h1, h2⟩ => az_EX.of (az_in0 (code := k_X2_anyInSlot) (ls := [some (.ref 17), none]) rfl rfl rfl ?_), fun hc => az_EX.of (az_in0 (code := k_X2_anyInSlot) (ls := [some (.ref 17), none]) rfl rfl rfl ?_)⟩
  · exact e0.mono (fun r h q => q.1 ⟨j, Nat.zero_le _, h1, h2⟩)
  · exact e0.mono (fun r h q => q.2 (fun ⟨j, _, h1, h2⟩ => hc ⟨j, h1, h2⟩))
def cg_hot (M : Nat → Nat → Int32) : Nat := az_cnt (fun l => decide (M 17 0 ≤ M 23 l)) 40
theorem ec_hotCount (d : Nat) : az_EX (d + 3) m_X2_hotCount [.ref 17] (az_hp M) (some (.int (nI (cg_hot M)))) (az_hp M) := by
  refine az_EX.of (az_in0 (code := k_X2_hotCount) (ls := [some (.ref 17), none, none]) rfl rfl rfl ?_)
  have K : ∀ (m i : Nat), i + m = 40 → az_RUN (d + 2) k_X2_hotCount 4 [some (.ref 17), some (.int (nI (az_cnt (fun l => decide (M 17 0 ≤ M 23 l)) i))), some (.int (nI i))] [] (az_hp M) (fun r1 h1 => r1 = some (.int (nI (cg_hot M))) ∧ h1 = az_hp M) := by
    intro m
    induction m with
    | zero =>
      intro i hi
      obtain rfl : i = 40 := by omega
      repeat' (first
        | (refine az_ret rfl rfl rfl rfl ?_)
        | (refine az_sgp rfl rfl rfl rfl ?_)
        | (refine az_ca2 rfl rfl rfl rfl (ec_isHot .. ) (fun _ => ?_) (fun _ => ?_))
        | ((with_reducible apply az_ifeqT); rfl)
        | ((with_reducible apply az_ifeqF); rfl)
        | ((with_reducible apply az_ifneF); rfl)
        | ((with_reducible apply az_ifneT); rfl)
        | (refine az_bra rfl rfl rfl (fun _ => ?_) (fun _ => ?_)))
      · exact ⟨rfl, rfl⟩
      all_goals (exact absurd (nI_le (show 40 ≤ 40 by omega) (by omega)) (by assumption))
    | succ m ih =>
      intro i hi
      have e1 : az_rd (M 23) 40 (nI i) = M 23 i := az_rdN (by omega) (by omega)
      have h3 := ih (i + 1) (by omega)
      repeat' (first
        | (refine az_ret rfl rfl rfl rfl ?_)
        | (refine az_sgp rfl rfl rfl rfl ?_)
        | (refine az_ca2 rfl rfl rfl rfl (ec_isHot .. ) (fun _ => ?_) (fun _ => ?_))
        | ((with_reducible apply az_ifeqT); rfl)
        | ((with_reducible apply az_ifeqF); rfl)
        | ((with_reducible apply az_ifneF); rfl)
        | ((with_reducible apply az_ifneT); rfl)
        | (refine az_bra rfl rfl rfl (fun _ => ?_) (fun _ => ?_)))
      · exact absurd (by assumption) (nI_ge (show i < 40 by omega) (by omega))
      · refine az_sg 1 rfl ?_
        have h2 : M 17 0 ≤ M 23 i := by rw [← e1]; assumption
        rw [nI_1, nI_1]
        simp only [az_cnt, h2, decide_true, if_pos] at h3
        exact h3
      · refine az_sg 1 rfl ?_
        have h2 : ¬ M 17 0 ≤ M 23 i := by rw [← e1]; assumption
        rw [nI_1]
        simp only [az_cnt, h2, decide_false, Bool.false_eq_true, if_false, Nat.add_zero] at h3
        exact h3
  refine az_sg 4 rfl ?_
  exact K 40 0 (by omega)
def cg_cool (M : Nat → Nat → Int32) (n : Nat) : Nat → Nat → Int32 := fun c j => if c = 23 ∧ j < n then M 23 j / 2 else M c j
theorem ec_cool (d : Nat) : az_EX (d + 2) m_X2_cool [.ref 17] (az_hp M) none (az_hp (cg_cool M 40)) := by
  refine az_EX.of (az_in0 (code := k_X2_cool) (ls := [some (.ref 17), none]) rfl rfl rfl ?_)
  have K : ∀ (m i : Nat), i + m = 40 → az_RUN (d + 1) k_X2_cool 2 [some (.ref 17), some (.int (nI i))] [] (az_hp (cg_cool M i)) (fun r1 h1 => r1 = none ∧ h1 = az_hp (cg_cool M 40)) := by
    intro m
    induction m with
    | zero =>
      intro i hi
      obtain rfl : i = 40 := by omega
      repeat' (first
        | (refine az_ret rfl rfl rfl rfl ?_)
        | (refine az_sgp rfl rfl rfl rfl ?_)
        | (refine az_cav rfl rfl rfl rfl (ev_X5_at _ rfl rfl (by decide) _) ?_)
        | (refine az_can rfl rfl rfl rfl (ev_X5_at _ rfl rfl (by decide) _) ?_)
        | (refine az_cav rfl rfl rfl rfl (ev_X5_change _ rfl rfl (by decide) _ _) ?_)
        | (refine az_can rfl rfl rfl rfl (ev_X5_change _ rfl rfl (by decide) _ _) ?_)
        | ((with_reducible apply az_ifeqT); rfl)
        | ((with_reducible apply az_ifeqF); rfl)
        | ((with_reducible apply az_ifneF); rfl)
        | ((with_reducible apply az_ifneT); rfl)
        | (refine az_bra rfl rfl rfl (fun _ => ?_) (fun _ => ?_)))
      · exact ⟨rfl, rfl⟩
      all_goals (exact absurd (nI_le (show 40 ≤ 40 by omega) (by omega)) (by assumption))
    | succ m ih =>
      intro i hi
      have e1 : az_rd (cg_cool M i 23) 40 (nI i) = M 23 i := by rw [az_rdN (by omega) (by omega)]; simp [cg_cool]
      repeat' (first
        | (refine az_ret rfl rfl rfl rfl ?_)
        | (refine az_sgp rfl rfl rfl rfl ?_)
        | (refine az_cav rfl rfl rfl rfl (ev_X5_at _ rfl rfl (by decide) _) ?_)
        | (refine az_can rfl rfl rfl rfl (ev_X5_at _ rfl rfl (by decide) _) ?_)
        | (refine az_cav rfl rfl rfl rfl (ev_X5_change _ rfl rfl (by decide) _ _) ?_)
        | (refine az_can rfl rfl rfl rfl (ev_X5_change _ rfl rfl (by decide) _ _) ?_)
        | ((with_reducible apply az_ifeqT); rfl)
        | ((with_reducible apply az_ifeqF); rfl)
        | ((with_reducible apply az_ifneF); rfl)
        | ((with_reducible apply az_ifneT); rfl)
        | (refine az_bra rfl rfl rfl (fun _ => ?_) (fun _ => ?_)))
      · exact absurd (by assumption) (nI_ge (show i < 40 by omega) (by omega))
      · refine az_grd rfl rfl rfl (by decide) ?_
        refine az_cax rfl rfl rfl rfl (ev_X5_change _ rfl rfl (by decide) _ _) ?_
        refine az_sg 2 rfl ?_
        have h3 := ih (i + 1) (by omega)
        rw [nI_1]
        have e2 : az_wr (cg_cool M i) 23 40 (nI i) (az_rd (cg_cool M i 23) 40 (nI i) / 2) = cg_cool M (i + 1) := by
          rw [e1, az_wrN (by omega) (by omega)]
          funext c j
          by_cases h1 : c = 23 <;> by_cases h2 : j = i <;> simp [az_up, cg_cool, h1, h2, Nat.lt_succ_iff, Nat.le_iff_lt_or_eq]
        have e3 : (bif Nat.beq 31 31 then az_rd (cg_cool M i 23) 40 (nI i) / 2 else az_rd (cg_cool M i 23) 40 (nI i) - az_rd (cg_cool M i 23) 40 (nI i) / 2 * 2) = az_rd (cg_cool M i 23) 40 (nI i) / 2 := rfl
        rw [← e2] at h3
        exact h3
  refine az_sg 2 rfl ?_
  have h0 : cg_cool M 0 = M := by funext c j; simp [cg_cool]
  have h1 := K 40 0 (by omega)
  rw [h0] at h1
  exact h1
theorem ec_setIn9 (d : Nat) {Z : Nat} (hZ : M 2 0 = nI Z) (hZ8 : Z ≤ 8) : az_EX (d + 2) m_X4_setIn [.ref 2, .ref 9] (az_hp M) (some (.int (nI (az_cnt (fun z => decide (M 10 z ≠ 0)) Z)))) (az_hp M) := by
  refine az_EX.of (az_in0 (code := k_X4_setIn) (ls := [some (.ref 2), some (.ref 9), none, none]) rfl rfl rfl ?_)
  have K : ∀ (m i : Nat), i + m = Z → az_RUN (d + 1) k_X4_setIn 4 [some (.ref 2), some (.ref 9), some (.int (nI (az_cnt (fun z => decide (M 10 z ≠ 0)) i))), some (.int (nI i))] [] (az_hp M) (fun r1 h1 => r1 = some (.int (nI (az_cnt (fun z => decide (M 10 z ≠ 0)) Z))) ∧ h1 = az_hp M) := by
    intro m
    induction m with
    | zero =>
      intro i hi
      obtain rfl : i = Z := by omega
      repeat' (first
        | (refine az_ret rfl rfl rfl rfl ?_)
        | (refine az_sgp rfl rfl rfl rfl ?_)
        | ((with_reducible apply az_ifeqT); rfl)
        | ((with_reducible apply az_ifeqF); rfl)
        | ((with_reducible apply az_ifneF); rfl)
        | ((with_reducible apply az_ifneT); rfl)
        | (refine az_bra rfl rfl rfl (fun _ => ?_) (fun _ => ?_)))
      · exact ⟨rfl, rfl⟩
      all_goals (exact absurd (show M 2 0 ≤ nI i by rw [hZ]; exact nI_le (Nat.le_refl _) (by omega)) (by assumption))
    | succ m ih =>
      intro i hi
      have e1 : az_rd (M 10) 8 (nI i) = M 10 i := az_rdN (by omega) (by omega)
      have h3 := ih (i + 1) (by omega)
      repeat' (first
        | (refine az_ret rfl rfl rfl rfl ?_)
        | (refine az_sgp rfl rfl rfl rfl ?_)
        | ((with_reducible apply az_ifeqT); rfl)
        | ((with_reducible apply az_ifeqF); rfl)
        | ((with_reducible apply az_ifneF); rfl)
        | ((with_reducible apply az_ifneT); rfl)
        | (refine az_bra rfl rfl rfl (fun _ => ?_) (fun _ => ?_)))
      · exact absurd (by assumption) (by rw [hZ]; exact nI_ge (show i < Z by omega) (by omega))
      · refine az_cav rfl rfl rfl rfl (ev_X5_isSet _ rfl rfl (by decide) _) ?_
        rw [e1]
        by_cases h2 : M 10 i = 0
        · rw [if_pos h2]
          repeat' (first
            | (refine az_ret rfl rfl rfl rfl ?_)
            | (refine az_sgp rfl rfl rfl rfl ?_)
            | ((with_reducible apply az_ifeqT); rfl)
            | ((with_reducible apply az_ifeqF); rfl)
            | ((with_reducible apply az_ifneF); rfl)
            | ((with_reducible apply az_ifneT); rfl)
            | (refine az_bra rfl rfl rfl (fun _ => ?_) (fun _ => ?_)))
          refine az_sg 1 rfl ?_
          rw [nI_1]
          simp only [az_cnt, h2, ne_eq, not_true, decide_false, Bool.false_eq_true, if_false, Nat.add_zero] at h3
          exact h3
        · rw [if_neg h2]
          repeat' (first
            | (refine az_ret rfl rfl rfl rfl ?_)
            | (refine az_sgp rfl rfl rfl rfl ?_)
            | ((with_reducible apply az_ifeqT); rfl)
            | ((with_reducible apply az_ifeqF); rfl)
            | ((with_reducible apply az_ifneF); rfl)
            | ((with_reducible apply az_ifneT); rfl)
            | (refine az_bra rfl rfl rfl (fun _ => ?_) (fun _ => ?_)))
          refine az_sg 1 rfl ?_
          rw [nI_1, nI_1]
          simp only [az_cnt, h2, ne_eq, not_false_iff, decide_true, if_pos] at h3
          exact h3
  refine az_sg 4 rfl ?_
  exact K Z 0 (by omega)
theorem ec_setIn7 (d : Nat) {Z : Nat} (hZ : M 2 0 = nI Z) (hZ8 : Z ≤ 8) : az_EX (d + 2) m_X4_setIn [.ref 2, .ref 7] (az_hp M) (some (.int (nI (az_cnt (fun z => decide (M 8 z ≠ 0)) Z)))) (az_hp M) := by
  refine az_EX.of (az_in0 (code := k_X4_setIn) (ls := [some (.ref 2), some (.ref 7), none, none]) rfl rfl rfl ?_)
  have K : ∀ (m i : Nat), i + m = Z → az_RUN (d + 1) k_X4_setIn 4 [some (.ref 2), some (.ref 7), some (.int (nI (az_cnt (fun z => decide (M 8 z ≠ 0)) i))), some (.int (nI i))] [] (az_hp M) (fun r1 h1 => r1 = some (.int (nI (az_cnt (fun z => decide (M 8 z ≠ 0)) Z))) ∧ h1 = az_hp M) := by
    intro m
    induction m with
    | zero =>
      intro i hi
      obtain rfl : i = Z := by omega
      repeat' (first
        | (refine az_ret rfl rfl rfl rfl ?_)
        | (refine az_sgp rfl rfl rfl rfl ?_)
        | ((with_reducible apply az_ifeqT); rfl)
        | ((with_reducible apply az_ifeqF); rfl)
        | ((with_reducible apply az_ifneF); rfl)
        | ((with_reducible apply az_ifneT); rfl)
        | (refine az_bra rfl rfl rfl (fun _ => ?_) (fun _ => ?_)))
      · exact ⟨rfl, rfl⟩
      all_goals (exact absurd (show M 2 0 ≤ nI i by rw [hZ]; exact nI_le (Nat.le_refl _) (by omega)) (by assumption))
    | succ m ih =>
      intro i hi
      have e1 : az_rd (M 8) 8 (nI i) = M 8 i := az_rdN (by omega) (by omega)
      have h3 := ih (i + 1) (by omega)
      repeat' (first
        | (refine az_ret rfl rfl rfl rfl ?_)
        | (refine az_sgp rfl rfl rfl rfl ?_)
        | ((with_reducible apply az_ifeqT); rfl)
        | ((with_reducible apply az_ifeqF); rfl)
        | ((with_reducible apply az_ifneF); rfl)
        | ((with_reducible apply az_ifneT); rfl)
        | (refine az_bra rfl rfl rfl (fun _ => ?_) (fun _ => ?_)))
      · exact absurd (by assumption) (by rw [hZ]; exact nI_ge (show i < Z by omega) (by omega))
      · refine az_cav rfl rfl rfl rfl (ev_X5_isSet _ rfl rfl (by decide) _) ?_
        rw [e1]
        by_cases h2 : M 8 i = 0
        · rw [if_pos h2]
          repeat' (first
            | (refine az_ret rfl rfl rfl rfl ?_)
            | (refine az_sgp rfl rfl rfl rfl ?_)
            | ((with_reducible apply az_ifeqT); rfl)
            | ((with_reducible apply az_ifeqF); rfl)
            | ((with_reducible apply az_ifneF); rfl)
            | ((with_reducible apply az_ifneT); rfl)
            | (refine az_bra rfl rfl rfl (fun _ => ?_) (fun _ => ?_)))
          refine az_sg 1 rfl ?_
          rw [nI_1]
          simp only [az_cnt, h2, ne_eq, not_true, decide_false, Bool.false_eq_true, if_false, Nat.add_zero] at h3
          exact h3
        · rw [if_neg h2]
          repeat' (first
            | (refine az_ret rfl rfl rfl rfl ?_)
            | (refine az_sgp rfl rfl rfl rfl ?_)
            | ((with_reducible apply az_ifeqT); rfl)
            | ((with_reducible apply az_ifeqF); rfl)
            | ((with_reducible apply az_ifneF); rfl)
            | ((with_reducible apply az_ifneT); rfl)
            | (refine az_bra rfl rfl rfl (fun _ => ?_) (fun _ => ?_)))
          refine az_sg 1 rfl ?_
          rw [nI_1, nI_1]
          simp only [az_cnt, h2, ne_eq, not_false_iff, decide_true, if_pos] at h3
          exact h3
  refine az_sg 4 rfl ?_
  exact K Z 0 (by omega)
end LOOPS
