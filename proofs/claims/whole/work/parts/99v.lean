/-! CLASS: an act changes the world only -/
section FW
variable {M W N : az_Mem}
theorem fW.rf (W : az_Mem) : fW W W := fun _ _ => rfl
theorem fW.tr {X : az_Mem} (h : fW W N) (h' : fW N X) : fW W X := fun c hc => (h' c hc).trans (h c hc)
theorem fW.up (h : fW W N) {b k : Nat} {x : Int32} (h1 : 1 ≤ b) (h2 : b ≤ 26) : fW W (az_up N b k x) := fun c hc => by
  rw [az_up_row (by omega)]
  exact h c hc
theorem fW.wr (h : fW W N) {b n : Nat} {i x : Int32} (h1 : 1 ≤ b) (h2 : b ≤ 26) : fW W (az_wr N b n i x) := fun c hc => by
  rw [az_wr_row (by omega)]
  exact h c hc
theorem fW.fl (h : fW W N) {b n : Nat} {x : Int32} (h1 : 1 ≤ b) (h2 : b ≤ 26) : fW W (az_fl N b n x) := fun c hc => by
  rw [az_fl_row (by omega)]
  exact h c hc
theorem fw_pay (c : Int32) : fW W (cg_pay W c) := ((fW.rf W).up (by decide) (by decide)).up (by decide) (by decide)
theorem fw_step : fW W (cg_step W) := fun c hc => cg_step_row (by omega)
theorem fw_trav : ∀ (k : Nat) (W : az_Mem), fW W (cg_trav k W).2 := by
  intro k
  induction k with
  | zero => intro W; exact fW.rf W
  | succ k ih =>
    intro W
    show fW W (if 1 ≤ W 24 1 then cg_trav k (cg_step W) else (false, W)).2
    split
    · exact fw_step.tr (ih _)
    · exact fW.rf W
theorem fw_go (n : Int32) : fW W (cg_go W n).2 := by
  unfold cg_go
  split
  · exact fW.rf W
  · exact fw_trav _ W
theorem fw_append (z l : Int32) : fW W (cg_append W z l) := by
  have h : fW W (cg_app1 W z l) := by
    unfold cg_app1
    exact ((((fW.rf W).wr (by decide) (by decide)).wr (by decide) (by decide)).up (by decide) (by decide)).wr (by decide) (by decide)
  unfold cg_append
  split
  · exact h
  · exact h.wr (by decide) (by decide)
theorem fw_move (l c : Int32) : fW W (cg_moveToSlot W l c) := by
  unfold cg_moveToSlot
  exact ((fW.rf W).wr (by decide) (by decide)).wr (by decide) (by decide)
theorem fw_unp (l : Int32) : fW W (cg_unp W l) := fun c hc => cg_unp_row (by omega) (by omega)
theorem fw_wh1 (l : Int32) : fW W (cg_wh1 W l) := by
  unfold cg_wh1
  split
  · exact ((fw_pay 1).tr (fw_unp l)).up (by decide) (by decide)
  · exact fw_pay 1
theorem fw_wh (l : Int32) : fW W (cg_wh W l) := by
  unfold cg_wh
  exact ((fw_wh1 l).tr (fw_append _ _)).tr (fw_move _ _)
theorem fw_warm (l : Int32) : fW W (cg_warm W l) := by
  unfold cg_warm
  exact (fW.rf W).wr (by decide) (by decide)
theorem fw_write (l : Int32) : fW W (cg_write W l).2 := by
  unfold cg_write
  by_cases c1 : cg_known l
  · have n1 : ¬ ¬ cg_known l := fun c => c c1
    rw [if_neg n1]
    by_cases c2 : az_rd (cg_warm W l 19) 40 l = 2
    · rw [if_pos c2]
      exact fw_warm l
    rw [if_neg c2]
    by_cases c3 : cg_may (cg_warm W l) l (cg_warm W l 24 0)
    · have n3 : ¬ ¬ cg_may (cg_warm W l) l (cg_warm W l 24 0) := fun c => c c3
      rw [if_neg n3]
      by_cases c4 : 1 ≤ cg_warm W l 24 1
      · have n4 : ¬ ¬ 1 ≤ cg_warm W l 24 1 := fun c => c c4
        rw [if_neg n4]
        exact (fw_warm l).tr (fw_wh l)
      · rw [if_pos c4]
        exact fw_warm l
    · rw [if_pos c3]
      exact fw_warm l
  · rw [if_pos c1]
    exact fW.rf W
theorem fw_put (l : Int32) : fW W (cg_put W l).2 := by
  unfold cg_put
  by_cases c1 : cg_known l
  · have n1 : ¬ ¬ cg_known l := fun c => c c1
    rw [if_neg n1]
    by_cases c2 : az_rd (W 19) 40 l = 2
    · have n2 : ¬ ¬ az_rd (W 19) 40 l = 2 := fun c => c c2
      rw [if_neg n2]
      by_cases c3 : cg_may W l (W 24 0)
      · have n3 : ¬ ¬ cg_may W l (W 24 0) := fun c => c c3
        rw [if_neg n3]
        by_cases c4 : 1 ≤ W 24 1
        · have n4 : ¬ ¬ 1 ≤ W 24 1 := fun c => c c4
          rw [if_neg n4]
          exact fw_wh l
        · rw [if_pos c4]
          exact fW.rf W
      · rw [if_pos c3]
        exact fW.rf W
    · rw [if_pos c2]
      exact fW.rf W
  · rw [if_pos c1]
    exact fW.rf W
theorem fw_packUp (l : Int32) : fW W (cg_packUp W l) := fun c hc => cg_packUp_row (by omega) (by omega) (by omega)
theorem fw_tak (l : Int32) : fW W (cg_tak W l).2 := by
  unfold cg_tak
  by_cases c1 : cg_known l
  · have n1 : ¬ ¬ cg_known l := fun c => c c1
    rw [if_neg n1]
    by_cases c2 : az_rd (W 19) 40 l = 1 ∧ az_rd (W 21) 40 l / 12 = W 24 0
    · have n2 : ¬ ¬ (az_rd (W 19) 40 l = 1 ∧ az_rd (W 21) 40 l / 12 = W 24 0) := fun c => c c2
      rw [if_neg n2]
      by_cases c3 : 1 ≤ W 24 3 - W 24 4
      · have n3 : ¬ ¬ 1 ≤ W 24 3 - W 24 4 := fun c => c c3
        rw [if_neg n3]
        exact fw_packUp l
      · rw [if_pos c3]
        exact fW.rf W
    · rw [if_pos c2]
      exact fW.rf W
  · rw [if_pos c1]
    exact fW.rf W
theorem fw_drop (l : Int32) : fW W (cg_drop W l).2 := by
  unfold cg_drop
  by_cases c1 : cg_known l
  · have n1 : ¬ ¬ cg_known l := fun c => c c1
    rw [if_neg n1]
    by_cases c2 : az_rd (W 19) 40 l = 0
    · rw [if_pos c2]
      exact fW.rf W
    · rw [if_neg c2]
      unfold cg_forget
      exact ((fw_unp l).wr (by decide) (by decide)).wr (by decide) (by decide)
  · rw [if_pos c1]
    exact fW.rf W
theorem fw_clear (z : Int32) : fW W (cg_clear W z) := by
  unfold cg_clear
  exact ((((fW.rf W).wr (by decide) (by decide)).wr (by decide) (by decide)).wr (by decide) (by decide)).up (by decide) (by decide)
theorem fw_reset (P : Nat) : fW W (cg_reset W P).2 := by
  unfold cg_reset
  split
  · exact fW.rf W
  split
  · exact fW.rf W
  split
  · exact fW.rf W
  · exact (fw_pay 3).tr (fw_clear _)
theorem fw_seal : fW W (cg_seal W).2 := by
  unfold cg_seal
  split
  · exact fW.rf W
  · exact (fW.rf W).wr (by decide) (by decide)
theorem fw_unpF : ∀ (k i : Nat) (W : az_Mem), fW W (cg_unpF k i W).2 := by
  intro k
  induction k with
  | zero => intro i W; exact fW.rf W
  | succ k ih =>
    intro i W
    unfold cg_unpF
    by_cases c1 : cg_may W (az_rd (W 26) 6 (nI i)) (W 24 0)
    · have n1 : ¬ ¬ cg_may W (az_rd (W 26) 6 (nI i)) (W 24 0) := fun c => c c1
      rw [if_neg n1]
      by_cases c2 : 1 ≤ W 24 1
      · rw [if_pos c2]
        by_cases c3 : 0 ≤ az_rd (cg_wh1 W (az_rd (W 26) 6 (nI i)) 4) 8 (cg_wh1 W (az_rd (W 26) 6 (nI i)) 24 0)
        · rw [if_pos c3]
          exact (fw_wh _).tr (ih _ _)
        · rw [if_neg c3]
          exact fw_wh _
      · rw [if_neg c2]
        exact fW.rf W
    · rw [if_pos c1]
      exact ih _ W
theorem fw_clL (e : Nat) : ∀ (k g : Nat) (W : az_Mem), fW W (cg_clL e k g W).2 := by
  intro k
  induction k with
  | zero => intro g W; exact fW.rf W
  | succ k ih =>
    intro g W
    unfold cg_clL
    split
    · exact fW.rf W
    split
    · split
      · exact (fw_step.tr (fw_unpF _ _ _)).tr (ih _ _)
      · exact fw_step.tr (fw_unpF _ _ _)
    · exact fW.rf W
theorem fw_packs (z : Int32) (m i : Nat) : fW W (cg_packs z m i W) := fun c hc => cg_packs_row (by omega) (by omega) (by omega) m i W
theorem fw_clean (P Z e : Nat) : fW W (cg_clean W P Z e).2 := by
  unfold cg_clean
  split
  · exact fW.rf W
  split
  · exact fW.rf W
  split
  · exact fw_packs _ _ _
  · exact (((fw_packs _ _ _).tr (fw_pay 3)).tr (fw_clear _)).tr (fw_clL _ _ _ _)
theorem fw_lay (z q : Int32) : fW W (cg_lay W z q) := by
  unfold cg_lay cg_build
  exact (((((((((fW.rf W).up (by decide) (by decide)).up (by decide) (by decide)).fl (by decide) (by decide)).fl (by decide) (by decide)).fl (by decide) (by decide)).fl (by decide) (by decide)).wr (by decide) (by decide)).fl (by decide) (by decide)).up (by decide) (by decide)
theorem fw_kind (z k : Int32) : fW W (cg_kind W z k).2 := by
  unfold cg_kind
  split
  · exact fW.rf W
  split
  · exact fW.rf W
  split
  · exact fW.rf W
  · exact (fW.rf W).wr (by decide) (by decide)
theorem fw_well1 (z w : Int32) : fW W (cg_well1 W z w) := by
  unfold cg_well1
  split
  · exact (fW.rf W).wr (by decide) (by decide)
  split
  · exact ((fW.rf W).wr (by decide) (by decide)).up (by decide) (by decide)
  · exact (fW.rf W).wr (by decide) (by decide)
theorem fw_swl (z w : Int32) (Z : Nat) : fW W (cg_swl W z w Z).2 := by
  unfold cg_swl
  by_cases c1 : cg_zone W z
  · have n1 : ¬ ¬ cg_zone W z := fun c => c c1
    rw [if_neg n1]
    by_cases c2 : (if az_rd (W 10) 8 z = 0 then (0 : Int32) else 1) = w
    · rw [if_pos c2]
      exact fW.rf W
    · rw [if_neg c2]
      exact fw_well1 z w
  · rw [if_pos c1]
    exact fW.rf W
theorem fw_set (w v : Int32) : fW W (cg_set W w v).2 := by
  unfold cg_set
  split
  · unfold cg_setBag
    split
    · exact fW.rf W
    split
    · exact fW.rf W
    · exact (fW.rf W).up (by decide) (by decide)
  split
  · unfold cg_setSkin
    split
    · exact fW.rf W
    · exact ((fW.rf W).up (by decide) (by decide)).up (by decide) (by decide)
  split
  · unfold cg_setBound
    split
    · exact fW.rf W
    · exact (fW.rf W).up (by decide) (by decide)
  · exact fW.rf W
theorem fw_cool (k : Nat) : fW W (cg_cool W k) := fun c hc => by
  funext j
  simp only [cg_cool]
  rw [if_neg (by omega)]
end FW
