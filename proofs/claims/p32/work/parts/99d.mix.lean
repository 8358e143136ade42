/-! ACTS LOOK AT NO ROW OF THE LAW: a memory made of the class's rows of W and the law's rows of R -/
def mx (R W : az_Mem) : az_Mem := fun c => if c < 192 then W c else R c
section MX
variable {R W : az_Mem}
theorem mx_lo {a : Nat} (h : a < 192) : mx R W a = W a := if_pos h
theorem mx_hi {a : Nat} (h : 192 ≤ a) : mx R W a = R a := if_neg (by omega)
theorem mx_up {a k : Nat} {x : Int32} (h : a < 192) : az_up (mx R W) a k x = mx R (az_up W a k x) := by
  funext c j
  unfold mx az_up
  by_cases hc : c < 192
  · simp [hc]
  · have : c ≠ a := by omega
    simp [hc, this]
theorem mx_wr {a n : Nat} {i x : Int32} (h : a < 192) : az_wr (mx R W) a n i x = mx R (az_wr W a n i x) := by
  unfold az_wr
  split
  · exact mx_up h
  · rfl
theorem mx_fl {a n : Nat} {x : Int32} (h : a < 192) : az_fl (mx R W) a n x = mx R (az_fl W a n x) := by
  funext c j
  unfold mx az_fl
  by_cases hc : c < 192
  · simp [hc]
  · have : c ≠ a := by omega
    simp [hc, this]
theorem mx_cp {a b n : Nat} (h : a < 192) (hb : b < 192) : az_cp (mx R W) a b n = mx R (az_cp W a b n) := by
  funext c j
  unfold mx az_cp
  by_cases hc : c < 192
  · simp [hc, hb]
  · have : c ≠ a := by omega
    simp [hc, this]
theorem mx_cpW {a b : Nat} (h : a + 26 ≤ 192) (hb : b + 26 ≤ 192) : cg_cpW (mx R W) a b = mx R (cg_cpW W a b) := by
  unfold cg_cpW cg_cpC cg_cpL cg_cpR
  simp only [mx_lo (show b + 1 < 192 by omega), mx_lo (show b + 16 < 192 by omega), mx_lo (show b + 23 < 192 by omega), mx_up (show a + 1 < 192 by omega), mx_up (show a + 16 < 192 by omega), mx_up (show a + 23 < 192 by omega), mx_cp (show a + 1 + 2 < 192 by omega) (show b + 1 + 2 < 192 by omega), mx_cp (show a + 1 + 4 < 192 by omega) (show b + 1 + 4 < 192 by omega), mx_cp (show a + 1 + 6 < 192 by omega) (show b + 1 + 6 < 192 by omega), mx_cp (show a + 1 + 8 < 192 by omega) (show b + 1 + 8 < 192 by omega), mx_cp (show a + 1 + 10 < 192 by omega) (show b + 1 + 10 < 192 by omega), mx_cp (show a + 1 + 12 < 192 by omega) (show b + 1 + 12 < 192 by omega), mx_cp (show a + 1 + 14 < 192 by omega) (show b + 1 + 14 < 192 by omega), mx_cp (show a + 16 + 2 < 192 by omega) (show b + 16 + 2 < 192 by omega), mx_cp (show a + 16 + 4 < 192 by omega) (show b + 16 + 4 < 192 by omega), mx_cp (show a + 16 + 6 < 192 by omega) (show b + 16 + 6 < 192 by omega), mx_cp (show a + 23 + 2 < 192 by omega) (show b + 23 + 2 < 192 by omega)]
theorem mx_pay (c : Int32) : cg_pay (mx R W) c = mx R (cg_pay W c) := by
  unfold cg_pay
  simp +decide only [mx_lo, mx_up]
theorem mx_unp (l : Int32) : ∀ (m i k : Nat) (W : az_Mem), az_unp l m i k (mx R W) = (mx R (az_unp l m i k W).1, (az_unp l m i k W).2) := by
  intro m
  induction m with
  | zero => intro i k W; rfl
  | succ m ih =>
    intro i k W
    show (if mx R W 26 i = l then az_unp l m (i + 1) k (mx R W) else az_unp l m (i + 1) (k + 1) (az_up (mx R W) 26 k (mx R W 26 i))) = (mx R (if W 26 i = l then az_unp l m (i + 1) k W else az_unp l m (i + 1) (k + 1) (az_up W 26 k (W 26 i))).1, (if W 26 i = l then az_unp l m (i + 1) k W else az_unp l m (i + 1) (k + 1) (az_up W 26 k (W 26 i))).2)
    rw [mx_lo (show 26 < 192 by decide), mx_up (show 26 < 192 by decide)]
    split
    · exact ih _ _ _
    · exact ih _ _ _
theorem mx_cunp (l : Int32) : cg_unp (mx R W) l = mx R (cg_unp W l) := by
  unfold cg_unp
  rw [mx_lo (show 24 < 192 by decide), mx_unp, mx_up (show 24 < 192 by decide)]
theorem mx_warm (l : Int32) : cg_warm (mx R W) l = mx R (cg_warm W l) := by
  unfold cg_warm
  simp +decide only [mx_lo, mx_wr]
theorem mx_move (l c : Int32) : cg_moveToSlot (mx R W) l c = mx R (cg_moveToSlot W l c) := by
  unfold cg_moveToSlot
  simp +decide only [mx_lo, mx_wr]
theorem mx_forget (l : Int32) : cg_forget (mx R W) l = mx R (cg_forget W l) := by
  unfold cg_forget
  simp +decide only [mx_lo, mx_wr]
theorem mx_app1 (z l : Int32) : cg_app1 (mx R W) z l = mx R (cg_app1 W z l) := by
  unfold cg_app1
  simp +decide only [mx_lo, mx_wr, mx_up]
theorem mx_append (z l : Int32) : cg_append (mx R W) z l = mx R (cg_append W z l) := by
  unfold cg_append
  rw [mx_app1, mx_lo (show 4 < 192 by decide), mx_lo (show 2 < 192 by decide), mx_wr (show 8 < 192 by decide)]
  split <;> rfl
theorem mx_clear (z : Int32) : cg_clear (mx R W) z = mx R (cg_clear W z) := by
  unfold cg_clear
  simp +decide only [mx_lo, mx_wr, mx_up]
theorem mx_lay (z q : Int32) : cg_lay (mx R W) z q = mx R (cg_lay W z q) := by
  unfold cg_lay cg_build
  simp +decide only [mx_lo, mx_wr, mx_up, mx_fl]
theorem mx_wh1 (l : Int32) : cg_wh1 (mx R W) l = mx R (cg_wh1 W l) := by
  unfold cg_wh1
  rw [mx_lo (show 19 < 192 by decide), mx_pay, mx_cunp, mx_lo (show 24 < 192 by decide), mx_up (show 24 < 192 by decide)]
  split <;> rfl
theorem mx_wh (l : Int32) : cg_wh (mx R W) l = mx R (cg_wh W l) := by
  unfold cg_wh
  rw [mx_wh1, mx_lo (show 24 < 192 by decide), mx_append, mx_lo (show 24 < 192 by decide), mx_lo (show 4 < 192 by decide), mx_move]
theorem mx_may (l z : Int32) : cg_may (mx R W) l z = cg_may W l z := by
  unfold cg_may cg_adm
  rw [mx_lo (show 17 < 192 by decide), mx_lo (show 23 < 192 by decide), mx_lo (show 8 < 192 by decide), mx_lo (show 6 < 192 by decide)]
theorem mx_write (l : Int32) : cg_write (mx R W) l = ((cg_write W l).1, mx R (cg_write W l).2) := by
  unfold cg_write cg_may cg_adm
  simp +decide only [mx_warm, mx_wh1, mx_wh, mx_lo]
  repeat' split
  all_goals rfl
theorem mx_put (l : Int32) : cg_put (mx R W) l = ((cg_put W l).1, mx R (cg_put W l).2) := by
  unfold cg_put cg_may cg_adm
  simp +decide only [mx_wh1, mx_wh, mx_lo]
  repeat' split
  all_goals rfl
theorem mx_tak (l : Int32) : cg_tak (mx R W) l = ((cg_tak W l).1, mx R (cg_tak W l).2) := by
  unfold cg_tak cg_packUp cg_pack
  simp +decide only [mx_lo, mx_wr, mx_up]
  repeat' split
  all_goals rfl
theorem mx_drop (l : Int32) : cg_drop (mx R W) l = ((cg_drop W l).1, mx R (cg_drop W l).2) := by
  unfold cg_drop
  rw [mx_cunp, mx_forget, mx_lo (show 19 < 192 by decide)]
  repeat' split
  all_goals rfl
theorem mx_cl (z : Int32) (P : Nat) : cg_cl (mx R W) z P = cg_cl W z P := by
  unfold cg_cl cg_liveB
  simp +decide only [mx_lo]
theorem mx_reset (P : Nat) : cg_reset (mx R W) P = ((cg_reset W P).1, mx R (cg_reset W P).2) := by
  unfold cg_reset
  rw [mx_lo (show 24 < 192 by decide), mx_cl, mx_pay, mx_clear, mx_lo (show 8 < 192 by decide)]
  repeat' split
  all_goals rfl
theorem mx_seal : cg_seal (mx R W) = ((cg_seal W).1, mx R (cg_seal W).2) := by
  unfold cg_seal
  simp +decide only [mx_lo, mx_wr, mx_up]
  repeat' split
  all_goals rfl
theorem mx_kind (z k : Int32) : cg_kind (mx R W) z k = ((cg_kind W z k).1, mx R (cg_kind W z k).2) := by
  unfold cg_kind cg_zone
  simp +decide only [mx_lo, mx_wr, mx_up]
  repeat' split
  all_goals rfl
theorem mx_well1 (z w : Int32) : cg_well1 (mx R W) z w = mx R (cg_well1 W z w) := by
  unfold cg_well1
  simp +decide only [mx_lo, mx_wr, mx_up]
  repeat' split
  all_goals rfl
theorem mx_swl (z w : Int32) (Z : Nat) : cg_swl (mx R W) z w Z = ((cg_swl W z w Z).1, mx R (cg_swl W z w Z).2) := by
  unfold cg_swl cg_zone cg_nz
  rw [mx_well1]
  simp +decide only [mx_lo]
  repeat' split
  all_goals rfl
theorem mx_set (w v : Int32) : cg_set (mx R W) w v = ((cg_set W w v).1, mx R (cg_set W w v).2) := by
  unfold cg_set cg_setBag cg_setSkin cg_setBound
  simp +decide only [mx_lo, mx_up]
  repeat' split
  all_goals rfl
theorem mx_step : cg_step (mx R W) = mx R (cg_step W) := by
  unfold cg_step cg_step0 cg_next
  rw [mx_pay]
  simp +decide only [mx_lo, mx_up]
  repeat' split
  all_goals rfl
theorem mx_trav : ∀ (k : Nat) (W : az_Mem), cg_trav k (mx R W) = ((cg_trav k W).1, mx R (cg_trav k W).2) := by
  intro k
  induction k with
  | zero => intro W; rfl
  | succ k ih =>
    intro W
    show (if 1 ≤ mx R W 24 1 then cg_trav k (cg_step (mx R W)) else (false, mx R W)) = ((if 1 ≤ W 24 1 then cg_trav k (cg_step W) else (false, W)).1, mx R (if 1 ≤ W 24 1 then cg_trav k (cg_step W) else (false, W)).2)
    rw [mx_lo (show 24 < 192 by decide), mx_step]
    split
    · exact ih _
    · rfl
theorem mx_go (n : Int32) : cg_go (mx R W) n = ((cg_go W n).1, mx R (cg_go W n).2) := by
  unfold cg_go
  rw [mx_trav]
  split
  · rfl
  · simp +decide only [mx_lo]
theorem mx_cool (n : Nat) : cg_cool (mx R W) n = mx R (cg_cool W n) := by
  funext c j
  unfold cg_cool mx
  by_cases hc : c < 192
  · simp [hc]
  · have : c ≠ 23 := by omega
    simp [hc, this]
theorem mx_hot : cg_hot (mx R W) = cg_hot W := by
  unfold cg_hot
  simp +decide only [mx_lo]
theorem IW.mx (h : IW W) (R : az_Mem) : IW (mx R W) := h.cg (sW.row (fun c _ h2 => (mx_lo (show c < 192 by omega)).symm))
end MX
