/-! CLASS, ACTS of the world at cell 1 -/
section ACTS
variable {M : Nat → Nat → Int32}
theorem ec_liesInZone (d : Nat) (l z : Int32) : az_E2 (az_rd (M 19) 40 l = 1 ∧ az_rd (M 21) 40 l / 12 = z) (d + 3) m_X7_liesInZone [.ref 1, .int l, .int z] (az_hp M) (some (.int 1)) (az_hp M) (some (.int 0)) (az_hp M) := by
  refine ⟨fun hc => ?_, fun hc => ?_⟩ <;> refine az_EX.of (az_in0 (code := k_X7_liesInZone) (ls := [some (.ref 1), some (.int l), some (.int z)]) rfl rfl rfl ?_)
  · repeat' (first
    | (refine az_ret rfl rfl rfl rfl ?_)
    | (refine az_sgp rfl rfl rfl rfl ?_)
    | (refine az_ca2 rfl rfl rfl rfl (ec_isIn .. ) (fun _ => ?_) (fun _ => ?_))
    | (refine az_cav rfl rfl rfl rfl (ev_X5_at _ rfl rfl (by decide) _) ?_)
    | (refine az_can rfl rfl rfl rfl (ev_X5_at _ rfl rfl (by decide) _) ?_)
    | ((with_reducible apply az_ifeqT); rfl)
    | ((with_reducible apply az_ifeqF); rfl)
    | ((with_reducible apply az_ifneF); rfl)
    | ((with_reducible apply az_ifneT); rfl)
    | (refine az_bra rfl rfl rfl (fun _ => ?_) (fun _ => ?_)))
    · refine az_grd rfl rfl rfl (by decide) ?_
      repeat' (first
        | (refine az_ret rfl rfl rfl rfl ?_)
        | (refine az_sgp rfl rfl rfl rfl ?_)
        | ((with_reducible apply az_ifeqT); rfl)
        | ((with_reducible apply az_ifeqF); rfl)
        | ((with_reducible apply az_ifneF); rfl)
        | ((with_reducible apply az_ifneT); rfl)
        | (refine az_bra rfl rfl rfl (fun _ => ?_) (fun _ => ?_)))
      all_goals (first | (exact ⟨rfl, rfl⟩) | (exact absurd hc.2 (by assumption)))
    all_goals (exact absurd hc.1 (by assumption))
  · repeat' (first
    | (refine az_ret rfl rfl rfl rfl ?_)
    | (refine az_sgp rfl rfl rfl rfl ?_)
    | (refine az_ca2 rfl rfl rfl rfl (ec_isIn .. ) (fun _ => ?_) (fun _ => ?_))
    | (refine az_cav rfl rfl rfl rfl (ev_X5_at _ rfl rfl (by decide) _) ?_)
    | (refine az_can rfl rfl rfl rfl (ev_X5_at _ rfl rfl (by decide) _) ?_)
    | ((with_reducible apply az_ifeqT); rfl)
    | ((with_reducible apply az_ifeqF); rfl)
    | ((with_reducible apply az_ifneF); rfl)
    | ((with_reducible apply az_ifneT); rfl)
    | (refine az_bra rfl rfl rfl (fun _ => ?_) (fun _ => ?_)))
    · refine az_grd rfl rfl rfl (by decide) ?_
      repeat' (first
        | (refine az_ret rfl rfl rfl rfl ?_)
        | (refine az_sgp rfl rfl rfl rfl ?_)
        | ((with_reducible apply az_ifeqT); rfl)
        | ((with_reducible apply az_ifeqF); rfl)
        | ((with_reducible apply az_ifneF); rfl)
        | ((with_reducible apply az_ifneT); rfl)
        | (refine az_bra rfl rfl rfl (fun _ => ?_) (fun _ => ?_)))
      all_goals (first | (exact absurd ⟨by assumption, by assumption⟩ hc) | (exact ⟨rfl, rfl⟩))
    all_goals (exact ⟨rfl, rfl⟩)
def cg_packUp (M : az_Mem) (l : Int32) : az_Mem := az_wr (cg_pack M l) 19 40 l 2
theorem ec_packUp (d : Nat) (l : Int32) : az_EX (d + 3) m_X7_packUp [.ref 1, .int l] (az_hp M) none (az_hp (cg_packUp M l)) := by
  refine az_EX.of (az_in0 (code := k_X7_packUp) (ls := [some (.ref 1), some (.int l)]) rfl rfl rfl ?_)
  repeat' (first
    | (refine az_ret rfl rfl rfl rfl ?_)
    | (refine az_sgp rfl rfl rfl rfl ?_)
    | (refine az_cav rfl rfl rfl rfl (ec_pack ..) ?_)
    | (refine az_can rfl rfl rfl rfl (ec_pack ..) ?_)
    | (refine az_cav rfl rfl rfl rfl (ec_moveToBag ..) ?_)
    | (refine az_can rfl rfl rfl rfl (ec_moveToBag ..) ?_)
    | ((with_reducible apply az_ifeqT); rfl)
    | ((with_reducible apply az_ifeqF); rfl)
    | ((with_reducible apply az_ifneF); rfl)
    | ((with_reducible apply az_ifneT); rfl)
    | (refine az_bra rfl rfl rfl (fun _ => ?_) (fun _ => ?_)))
  all_goals (exact ⟨rfl, rfl⟩)
abbrev cg_known (l : Int32) : Prop := ¬ l < 0 ∧ ¬ 40 ≤ l
def cg_take (M : az_Mem) (l : Int32) : az_Mem := cg_packUp M l
theorem ec_takeUp (d : Nat) (l : Int32) : az_EX (d + 4) m_X7_takeUp [.ref 1, .int l] (az_hp M) (some (.int (if ¬ (¬ l < 0 ∧ ¬ 40 ≤ l) then -1 else if ¬ (az_rd (M 19) 40 l = 1 ∧ az_rd (M 21) 40 l / 12 = M 24 0) then -4 else if ¬ 1 ≤ M 24 3 - M 24 4 then -3 else M 24 4 + 1)))
    (az_hp (if ¬ (¬ l < 0 ∧ ¬ 40 ≤ l) then M else if ¬ (az_rd (M 19) 40 l = 1 ∧ az_rd (M 21) 40 l / 12 = M 24 0) then M else if ¬ 1 ≤ M 24 3 - M 24 4 then M else cg_packUp M l)) := by
  refine az_EX.of (az_in0 (code := k_X7_takeUp) (ls := [some (.ref 1), some (.int l)]) rfl rfl rfl ?_)
  repeat' (first
    | (refine az_ret rfl rfl rfl rfl ?_)
    | (refine az_sgp rfl rfl rfl rfl ?_)
    | (refine az_ca2 rfl rfl rfl rfl (ec_isKnown .. ) (fun _ => ?_) (fun _ => ?_))
    | (refine az_ca2 rfl rfl rfl rfl (ec_liesInZone .. ) (fun _ => ?_) (fun _ => ?_))
    | (refine az_cav rfl rfl rfl rfl (ec_bagSpace ..) ?_)
    | (refine az_can rfl rfl rfl rfl (ec_bagSpace ..) ?_)
    | (refine az_cav rfl rfl rfl rfl (ec_packUp ..) ?_)
    | (refine az_can rfl rfl rfl rfl (ec_packUp ..) ?_)
    | ((with_reducible apply az_ifeqT); rfl)
    | ((with_reducible apply az_ifeqF); rfl)
    | ((with_reducible apply az_ifneF); rfl)
    | ((with_reducible apply az_ifneT); rfl)
    | (refine az_bra rfl rfl rfl (fun _ => ?_) (fun _ => ?_)))
  all_goals (try simp +decide only [cg_packUp, cg_pack, az_wr_row, az_up_row, az_up_self, az_up_same, az_fl_row, ne_eq, not_true, not_false_iff, if_true, if_false, reduceIte] at *)
  all_goals (simp +decide only [cg_packUp, cg_pack, az_wr_row, az_up_row, az_up_self, az_up_same, az_fl_row, ne_eq, not_true, not_false_iff, if_true, if_false, reduceIte, *, or_true, true_or, or_false, false_or, and_true, true_and, and_false, false_and, and_self, or_self, Bool.false_eq_true, Bool.true_eq_false])
  all_goals contradiction
def cg_wh1 (M : az_Mem) (l : Int32) : az_Mem := if az_rd (M 19) 40 l = 2 then az_up (cg_unp (cg_pay M 1) l) 24 7 (cg_unp (cg_pay M 1) l 24 7 + 1) else cg_pay M 1
def cg_wh (M : az_Mem) (l : Int32) : az_Mem := cg_moveToSlot (cg_append (cg_wh1 M l) (cg_wh1 M l 24 0) l) l (cg_append (cg_wh1 M l) (cg_wh1 M l 24 0) l 24 0 * 12 + az_rd (cg_wh1 M l 4) 8 (cg_wh1 M l 24 0))
theorem ec_writeHere (d : Nat) (l : Int32) (h : az_bagOK M) : az_E2 (1 ≤ M 24 1) (d + 3) m_X7_writeHere [.ref 1, .int l] (az_hp M) (some (.int (az_rd (cg_wh1 M l 4) 8 (cg_wh1 M l 24 0)))) (az_hp (cg_wh M l)) (some (.int (-6))) (az_hp M) := by
  have hb : az_bagOK (cg_pay M 1) := by
    obtain ⟨B, hB, hB6⟩ := h
    exact ⟨B, by simp [cg_pay, az_up_self, hB], hB6⟩
  have e19 : cg_pay M 1 19 = M 19 := by simp [cg_pay, az_up_row]
  refine ⟨fun hc => ?_, fun hc => ?_⟩ <;> refine az_EX.of (az_in0 (code := k_X7_writeHere) (ls := [some (.ref 1), some (.int l), none]) rfl rfl rfl ?_)
  · repeat' (first
    | (refine az_ret rfl rfl rfl rfl ?_)
    | (refine az_sgp rfl rfl rfl rfl ?_)
    | (refine az_ca2 rfl rfl rfl rfl (ec_pay .. ) (fun _ => ?_) (fun _ => ?_))
    | (refine az_ca2 rfl rfl rfl rfl (ec_isIn .. ) (fun _ => ?_) (fun _ => ?_))
    | (refine az_cav rfl rfl rfl rfl (ec_unpk _ _ hb) ?_)
    | (refine az_can rfl rfl rfl rfl (ec_unpk _ _ hb) ?_)
    | (refine az_cav rfl rfl rfl rfl (ec_append ..) ?_)
    | (refine az_can rfl rfl rfl rfl (ec_append ..) ?_)
    | (refine az_cav rfl rfl rfl rfl (ec_cellAt ..) ?_)
    | (refine az_can rfl rfl rfl rfl (ec_cellAt ..) ?_)
    | (refine az_cav rfl rfl rfl rfl (ec_moveToSlot ..) ?_)
    | (refine az_can rfl rfl rfl rfl (ec_moveToSlot ..) ?_)
    | ((with_reducible apply az_ifeqT); rfl)
    | ((with_reducible apply az_ifeqF); rfl)
    | ((with_reducible apply az_ifneF); rfl)
    | ((with_reducible apply az_ifneT); rfl)
    | (refine az_bra rfl rfl rfl (fun _ => ?_) (fun _ => ?_)))
    all_goals (try contradiction)
    all_goals (simp only [e19] at *)
    all_goals (simp only [cg_wh, cg_wh1, *, if_true, if_false, and_self])
  · repeat' (first
    | (refine az_ret rfl rfl rfl rfl ?_)
    | (refine az_sgp rfl rfl rfl rfl ?_)
    | (refine az_ca2 rfl rfl rfl rfl (ec_pay .. ) (fun _ => ?_) (fun _ => ?_))
    | ((with_reducible apply az_ifeqT); rfl)
    | ((with_reducible apply az_ifeqF); rfl)
    | ((with_reducible apply az_ifneF); rfl)
    | ((with_reducible apply az_ifneT); rfl)
    | (refine az_bra rfl rfl rfl (fun _ => ?_) (fun _ => ?_)))
    all_goals (first | contradiction | (exact ⟨rfl, rfl⟩))
end ACTS
