/-! CLASS, cleanHere -/
section CLEAN2
variable {M : Nat → Nat → Int32}
def cg_clL (e : Nat) : Nat → Nat → az_Mem → Int32 × az_Mem
  | 0, g, M => (if M 24 4 ≤ nI e then nI g else -4, M)
  | k + 1, g, M => if M 24 4 ≤ nI e then (nI g, M) else if 1 ≤ M 24 1 then (if (cg_unpF ((M 24 4).toNatClampNeg - e) e (cg_step M)).1 = true then cg_clL e k (g + 1) (cg_unpF ((M 24 4).toNatClampNeg - e) e (cg_step M)).2 else (-6, (cg_unpF ((M 24 4).toNatClampNeg - e) e (cg_step M)).2)) else (-6, M)
theorem cg_step_24 : cg_step M 24 4 = M 24 4 := by
  unfold cg_step cg_step0 cg_pay
  split <;> simp +decide [az_up_self]
theorem cg_step_row {c : Nat} (h : c ≠ 24) : cg_step M c = M c := by
  unfold cg_step cg_step0 cg_pay
  split <;> simp [az_up_row h]
theorem cg_unp_row {l : Int32} {c : Nat} (h1 : c ≠ 24) (h2 : c ≠ 26) : cg_unp M l c = M c := by
  unfold cg_unp
  rw [az_up_row h1, (az_unp_frame l _ 0 0 M).1 c h2]
theorem cg_wh1_row {l : Int32} {c : Nat} (h1 : c ≠ 24) (h2 : c ≠ 26) : cg_wh1 M l c = M c := by
  unfold cg_wh1
  split
  · rw [az_up_row h1, cg_unp_row h1 h2]
    unfold cg_pay
    rw [az_up_row h1, az_up_row h1]
  · unfold cg_pay
    rw [az_up_row h1, az_up_row h1]
theorem cg_app_20 {z l : Int32} : cg_append M z l 2 0 = M 2 0 := by
  unfold cg_append cg_app1
  split <;> simp +decide [az_wr_row, az_up_row, az_up_self]
theorem cg_wh_20 {l : Int32} : cg_wh M l 2 0 = M 2 0 := by
  unfold cg_wh cg_moveToSlot
  rw [az_wr_row (by decide), az_wr_row (by decide), cg_app_20, cg_wh1_row (by decide) (by decide)]
theorem cg_unpF_bag : ∀ (k i : Nat) (M : az_Mem), az_bagOK M → az_bagOK (cg_unpF k i M).2 ∧ (cg_unpF k i M).2 2 0 = M 2 0 := by
  intro k
  induction k with
  | zero => intro i M h; exact ⟨h, rfl⟩
  | succ k ih =>
    intro i M h
    unfold cg_unpF
    split
    · exact ih (i + 1) M h
    · split
      · split
        · obtain ⟨h1, h2⟩ := ih i _ (cg_wh_bag (l := az_rd (M 26) 6 (nI i)) h)
          exact ⟨h1, h2.trans cg_wh_20⟩
        · exact ⟨cg_wh_bag h, cg_wh_20⟩
      · exact ⟨h, rfl⟩
def cg_clean (M : az_Mem) (P Z e : Nat) : Int32 × az_Mem :=
  if nI P = 0 then (-5, M) else if ¬ nI (cg_cl M (M 24 0) P) ≤ M 24 3 - M 24 4 then (-3, M) else if ¬ 3 ≤ cg_packs (M 24 0) P 0 M 24 1 then (-6, cg_packs (M 24 0) P 0 M) else cg_clL e Z 0 (cg_clear (cg_pay (cg_packs (M 24 0) P 0 M) 3) (M 24 0))
theorem cg_clear_24 {z : Int32} : cg_clear M z 24 = M 24 := by
  unfold cg_clear
  simp +decide [az_wr_row, az_up_row]
theorem cg_clear_20 {z : Int32} : cg_clear M z 2 0 = M 2 0 := by
  unfold cg_clear
  simp +decide [az_wr_row, az_up_row, az_up_self]
theorem cg_packUp_row {l : Int32} {c : Nat} (h1 : c ≠ 24) (h2 : c ≠ 26) (h3 : c ≠ 19) : cg_packUp M l c = M c := by
  unfold cg_packUp cg_pack
  rw [az_wr_row h3, az_up_row h1, az_wr_row h2]
theorem cg_packs_row {z : Int32} {c : Nat} (h1 : c ≠ 24) (h2 : c ≠ 26) (h3 : c ≠ 19) : ∀ (m i : Nat) (M : az_Mem), cg_packs z m i M c = M c := by
  intro m
  induction m with
  | zero => intro i M; rfl
  | succ m ih =>
    intro i M
    unfold cg_packs
    split
    · rw [ih, cg_packUp_row h1 h2 h3]
    · exact ih _ _
theorem ec_cleanHere (d : Nat) {P Z e : Nat} (hP : az_rd (M 4) 8 (M 24 0) = nI P) (hP12 : P ≤ 12) (hZ : M 2 0 = nI Z) (hZ8 : Z ≤ 8) (he : M 24 4 = nI e) (he6 : e ≤ 6) (hbk : nI (cg_cl M (M 24 0) P) ≤ M 24 3 - M 24 4 → az_bagOK (cg_packs (M 24 0) P 0 M)) : az_EX (d + 6) m_X7_cleanHere [.ref 1] (az_hp M) (some (.int (cg_clean M P Z e).1)) (az_hp (cg_clean M P Z e).2) := by
  have K : ∀ (k g Z1 : Nat) (N : az_Mem), Z1 = Z → g + k = Z → az_bagOK N → N 2 0 = nI Z1 → az_RUN (d + 5) k_X7_cleanHere 80 [some (.ref 1), some (.int (M 24 0)), some (.int (nI e)), some (.int (nI g))] [] (az_hp N) (fun r1 h1 => r1 = some (.int (cg_clL e k g N).1) ∧ h1 = az_hp (cg_clL e k g N).2) := by
    intro k
    induction k with
    | zero =>
      intro g Z1 N eZ hg hN hz
      by_cases hc : N 24 4 ≤ nI e
      · refine az_sgp rfl rfl rfl rfl ?_
        refine az_bra rfl rfl rfl (fun _ => ?_) (fun q => absurd hc q)
        refine az_sgp rfl rfl rfl rfl ?_
        refine az_bra rfl rfl rfl (fun _ => ?_) (fun q => absurd hc q)
        refine az_sgp rfl rfl rfl rfl ?_
        refine az_ret rfl rfl rfl rfl ?_
        rw [show cg_clL e 0 g N = (nI g, N) by simp only [cg_clL, hc, if_true]]
        exact ⟨rfl, rfl⟩
      · refine az_sgp rfl rfl rfl rfl ?_
        refine az_bra rfl rfl rfl (fun q => absurd q hc) (fun _ => ?_)
        refine az_sgp rfl rfl rfl rfl ?_
        refine az_bra rfl rfl rfl (fun _ => ?_) (fun q => absurd (show N 2 0 ≤ nI g by rw [hz]; exact nI_le (by omega) (by omega)) q)
        refine az_sgp rfl rfl rfl rfl ?_
        refine az_bra rfl rfl rfl (fun q => absurd q hc) (fun _ => ?_)
        refine az_sgp rfl rfl rfl rfl ?_
        refine az_ret rfl rfl rfl rfl ?_
        rw [show cg_clL e 0 g N = (-4, N) by simp only [cg_clL, hc, if_false]]
        exact ⟨rfl, rfl⟩
    | succ k ih =>
      intro g Z1 N eZ hg hN hz
      obtain ⟨B, hB, hB6⟩ := hN
      by_cases hc : N 24 4 ≤ nI e
      · refine az_sgp rfl rfl rfl rfl ?_
        refine az_bra rfl rfl rfl (fun _ => ?_) (fun q => absurd hc q)
        refine az_sgp rfl rfl rfl rfl ?_
        refine az_bra rfl rfl rfl (fun _ => ?_) (fun q => absurd hc q)
        refine az_sgp rfl rfl rfl rfl ?_
        refine az_ret rfl rfl rfl rfl ?_
        rw [show cg_clL e (k + 1) g N = (nI g, N) from if_pos hc]
        exact ⟨rfl, rfl⟩
      · have heB : e ≤ B := by
          rcases Nat.lt_or_ge B e with q | q
          · exact absurd (by rw [hB]; exact nI_le (by omega) (by omega)) hc
          · exact q
        have hBs : cg_step N 24 4 = nI B := by rw [cg_step_24]; exact hB
        have hclamp : (N 24 4).toNatClampNeg = B := by rw [hB]; exact nI_clamp (by omega)
        have hE := ec_unpackFrom (M := cg_step N) d hBs hB6 heB
        refine az_sgp rfl rfl rfl rfl ?_
        refine az_bra rfl rfl rfl (fun q => absurd q hc) (fun _ => ?_)
        refine az_sgp rfl rfl rfl rfl ?_
        refine az_bra rfl rfl rfl (fun q => absurd q (by rw [hz]; exact nI_ge (by omega) (by omega))) (fun _ => ?_)
        refine az_sgp rfl rfl rfl rfl ?_
        refine az_ca2 rfl rfl rfl rfl (ec_stepAhead (d + 3)) (fun hw => ?_) (fun hw => ?_)
        · refine az_ifeqF rfl ?_
          refine az_sgp rfl rfl rfl rfl ?_
          refine az_ca2 rfl rfl rfl rfl hE (fun hu => ?_) (fun hu => ?_)
          · refine az_ifneT rfl ?_
            refine az_sg 2 rfl ?_
            rw [nI_1]
            rw [show cg_clL e (k + 1) g N = cg_clL e k (g + 1) (cg_unpF (B - e) e (cg_step N)).2 from (if_neg hc).trans ((if_pos hw).trans (by rw [hclamp]; exact if_pos hu))]
            have hq := cg_unpF_bag (B - e) e (cg_step N) ⟨B, hBs, hB6⟩
            exact ih (g + 1) Z1 _ eZ (by omega) hq.1 (by rw [hq.2, cg_step_row (by decide)]; exact hz)
          · refine az_ifneF rfl ?_
            refine az_sgp rfl rfl rfl rfl ?_
            refine az_ret rfl rfl rfl rfl ?_
            rw [show cg_clL e (k + 1) g N = (-6, (cg_unpF (B - e) e (cg_step N)).2) from (if_neg hc).trans ((if_pos hw).trans (by rw [hclamp]; exact if_neg hu))]
            exact ⟨rfl, rfl⟩
        · refine az_ifeqT rfl ?_
          refine az_sgp rfl rfl rfl rfl ?_
          refine az_ret rfl rfl rfl rfl ?_
          rw [show cg_clL e (k + 1) g N = (-6, N) from (if_neg hc).trans (if_neg hw)]
          exact ⟨rfl, rfl⟩
  refine az_EX.of (az_in0 (code := k_X7_cleanHere) (ls := [some (.ref 1), none, none, none]) rfl rfl rfl ?_)
  refine az_sgp rfl rfl rfl rfl ?_
  refine az_cav rfl rfl rfl rfl (ev_X5_at (n := 8) _ rfl rfl (by decide) _) ?_
  rw [hP]
  refine az_bra rfl rfl rfl (fun q1 => ?_) (fun q1 => ?_)
  · refine az_sgp rfl rfl rfl rfl ?_
    refine az_ret rfl rfl rfl rfl ?_
    rw [show cg_clean M P Z e = (-5, M) from if_pos q1]
    exact ⟨rfl, rfl⟩
  · refine az_sgp rfl rfl rfl rfl ?_
    refine az_cav rfl rfl rfl rfl (ec_liveIn (d + 1) hP hP12) ?_
    refine az_sgp rfl rfl rfl rfl ?_
    refine az_cav rfl rfl rfl rfl (ec_bagSpace (d + 4)) ?_
    refine az_bra rfl rfl rfl (fun q2 => ?_) (fun q2 => ?_)
    · refine az_sgp rfl rfl rfl rfl ?_
      refine az_can rfl rfl rfl rfl (ec_packAllOf (d + 1) _ hP hP12) ?_
      refine az_sgp rfl rfl rfl rfl ?_
      refine az_ca2 rfl rfl rfl rfl (ec_pay (d + 4) _) (fun q3 => ?_) (fun q3 => ?_)
      · refine az_ifneT rfl ?_
        refine az_sgp rfl rfl rfl rfl ?_
        refine az_can rfl rfl rfl rfl (ec_clear (d + 3) _) ?_
        refine az_sg 2 rfl ?_
        rw [show cg_clean M P Z e = cg_clL e Z 0 (cg_clear (cg_pay (cg_packs (M 24 0) P 0 M) 3) (M 24 0)) from (if_neg q1).trans ((if_neg (fun q => q q2)).trans (if_neg (fun q => q q3)))]
        obtain ⟨B, hB, hB6⟩ := hbk q2
        have h1 := K Z 0 Z (cg_clear (cg_pay (cg_packs (M 24 0) P 0 M) 3) (M 24 0)) rfl (by omega) ⟨B, by rw [cg_clear_24]; simp +decide [cg_pay, az_up_self, hB], hB6⟩ (by rw [cg_clear_20]; unfold cg_pay; rw [az_up_row (by decide), az_up_row (by decide), cg_packs_row (by decide) (by decide) (by decide)]; exact hZ)
        rw [← he] at h1
        exact h1
      · refine az_ifneF rfl ?_
        refine az_sgp rfl rfl rfl rfl ?_
        refine az_ret rfl rfl rfl rfl ?_
        rw [show cg_clean M P Z e = (-6, cg_packs (M 24 0) P 0 M) from (if_neg q1).trans ((if_neg (fun q => q q2)).trans (if_pos q3))]
        exact ⟨rfl, rfl⟩
    · refine az_sgp rfl rfl rfl rfl ?_
      refine az_ret rfl rfl rfl rfl ?_
      rw [show cg_clean M P Z e = (-3, M) from (if_neg q1).trans (if_pos q2)]
      exact ⟨rfl, rfl⟩
end CLEAN2
