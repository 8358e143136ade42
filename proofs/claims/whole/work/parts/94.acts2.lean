/-! CLASS, more ACTS -/
section ACTS2
variable {M : Nat → Nat → Int32}
def cg_write (M : az_Mem) (l : Int32) : Int32 × az_Mem :=
  if ¬ cg_known l then (-1, M) else if az_rd (cg_warm M l 19) 40 l = 2 then (-4, cg_warm M l) else if ¬ cg_may (cg_warm M l) l (cg_warm M l 24 0) then (-4, cg_warm M l) else if ¬ 1 ≤ cg_warm M l 24 1 then (-6, cg_warm M l) else (az_rd (cg_wh1 (cg_warm M l) l 4) 8 (cg_wh1 (cg_warm M l) l 24 0), cg_wh (cg_warm M l) l)
theorem ec_writeAnew (d : Nat) (l : Int32) (h : az_bagOK M) : az_EX (d + 4) m_X7_writeAnew [.ref 1, .int l] (az_hp M) (some (.int (cg_write M l).1)) (az_hp (cg_write M l).2) := by
  have hb : az_bagOK (cg_warm M l) := by
    obtain ⟨B, hB, hB6⟩ := h
    exact ⟨B, by simp [cg_warm, az_wr_row, hB], hB6⟩
  refine az_EX.of (az_in0 (code := k_X7_writeAnew) (ls := [some (.ref 1), some (.int l)]) rfl rfl rfl ?_)
  repeat' (first
    | (refine az_ret rfl rfl rfl rfl ?_)
    | (refine az_sgp rfl rfl rfl rfl ?_)
    | (refine az_ca2 rfl rfl rfl rfl (ec_isKnown .. ) (fun _ => ?_) (fun _ => ?_))
    | (refine az_cax rfl rfl rfl rfl (ec_warm ..) ?_)
    | (refine az_ca2 rfl rfl rfl rfl (ec_isIn .. ) (fun _ => ?_) (fun _ => ?_))
    | (refine az_ca2 rfl rfl rfl rfl (ec_mayBeWritten .. ) (fun _ => ?_) (fun _ => ?_))
    | (refine az_ca2 rfl rfl rfl rfl (ec_writeHere _ _ hb ) (fun _ => ?_) (fun _ => ?_))
    | (refine az_br1 rfl rfl rfl ?_)
    | (refine az_br0 rfl rfl rfl ?_)
    | (refine az_bra rfl rfl rfl (fun _ => ?_) (fun _ => ?_)))
  all_goals (simp only [cg_write, cg_known, cg_may, cg_adm, *, and_self, or_true, true_or, not_true, not_false_iff, if_true, if_false, and_self])
def cg_put (M : az_Mem) (l : Int32) : Int32 × az_Mem :=
  if ¬ cg_known l then (-1, M) else if ¬ az_rd (M 19) 40 l = 2 then (-4, M) else if ¬ cg_may M l (M 24 0) then (-4, M) else if ¬ 1 ≤ M 24 1 then (-6, M) else (az_rd (cg_wh1 M l 4) 8 (cg_wh1 M l 24 0), cg_wh M l)
theorem ec_putDown (d : Nat) (l : Int32) (h : az_bagOK M) : az_EX (d + 4) m_X7_putDown [.ref 1, .int l] (az_hp M) (some (.int (cg_put M l).1)) (az_hp (cg_put M l).2) := by
  refine az_EX.of (az_in0 (code := k_X7_putDown) (ls := [some (.ref 1), some (.int l)]) rfl rfl rfl ?_)
  repeat' (first
    | (refine az_ret rfl rfl rfl rfl ?_)
    | (refine az_sgp rfl rfl rfl rfl ?_)
    | (refine az_ca2 rfl rfl rfl rfl (ec_isKnown .. ) (fun _ => ?_) (fun _ => ?_))
    | (refine az_ca2 rfl rfl rfl rfl (ec_isIn .. ) (fun _ => ?_) (fun _ => ?_))
    | (refine az_ca2 rfl rfl rfl rfl (ec_mayBeWritten .. ) (fun _ => ?_) (fun _ => ?_))
    | (refine az_ca2 rfl rfl rfl rfl (ec_writeHere _ _ h ) (fun _ => ?_) (fun _ => ?_))
    | (refine az_br1 rfl rfl rfl ?_)
    | (refine az_br0 rfl rfl rfl ?_)
    | (refine az_bra rfl rfl rfl (fun _ => ?_) (fun _ => ?_)))
  all_goals (simp only [cg_put, cg_known, cg_may, cg_adm, *, and_self, or_true, true_or, not_true, not_false_iff, if_true, if_false, and_self])
def cg_drop (M : az_Mem) (l : Int32) : Int32 × az_Mem :=
  if ¬ cg_known l then (-1, M) else if az_rd (M 19) 40 l = 0 then (-5, M) else (az_rd (M 19) 40 l, cg_forget (cg_unp M l) l)
theorem ec_giveUp (d : Nat) (l : Int32) (h : az_bagOK M) : az_EX (d + 4) m_X7_giveUp [.ref 1, .int l] (az_hp M) (some (.int (cg_drop M l).1)) (az_hp (cg_drop M l).2) := by
  refine az_EX.of (az_in0 (code := k_X7_giveUp) (ls := [some (.ref 1), some (.int l), none]) rfl rfl rfl ?_)
  repeat' (first
    | (refine az_ret rfl rfl rfl rfl ?_)
    | (refine az_sgp rfl rfl rfl rfl ?_)
    | (refine az_ca2 rfl rfl rfl rfl (ec_isKnown .. ) (fun _ => ?_) (fun _ => ?_))
    | (refine az_cax rfl rfl rfl rfl (ev_X5_at _ rfl rfl (by decide) _) ?_)
    | (refine az_cax rfl rfl rfl rfl (ec_unpk _ _ h) ?_)
    | (refine az_cax rfl rfl rfl rfl (ec_forget ..) ?_)
    | (refine az_br1 rfl rfl rfl ?_)
    | (refine az_br0 rfl rfl rfl ?_)
    | (refine az_bra rfl rfl rfl (fun _ => ?_) (fun _ => ?_)))
  all_goals (simp only [cg_drop, cg_known, *, not_true, not_false_iff, if_true, if_false, and_self])
def cg_reset (M : az_Mem) (P : Nat) : Int32 × az_Mem :=
  if ¬ nI (cg_cl M (M 24 0) P) ≤ 0 then (-4, M) else if ¬ 3 ≤ M 24 1 then (-6, M) else if nI P = 0 ∧ az_rd (M 8) 8 (M 24 0) = 0 then (-5, M) else (nI P, cg_clear (cg_pay M 3) (M 24 0))
theorem ec_resetHere (d : Nat) {P : Nat} (hP : az_rd (M 4) 8 (M 24 0) = nI P) (hP12 : P ≤ 12) : az_EX (d + 5) m_X7_resetHere [.ref 1] (az_hp M) (some (.int (cg_reset M P).1)) (az_hp (cg_reset M P).2) := by
  refine az_EX.of (az_in0 (code := k_X7_resetHere) (ls := [some (.ref 1), none]) rfl rfl rfl ?_)
  repeat' (first
    | (refine az_ret rfl rfl rfl rfl ?_)
    | (refine az_sgp rfl rfl rfl rfl ?_)
    | (refine az_cax rfl rfl rfl rfl (ev_X5_at _ rfl rfl (by decide) _) ?_)
    | (refine az_cax rfl rfl rfl rfl (ec_liveIn _ hP hP12) ?_)
    | (refine az_ca2 rfl rfl rfl rfl (ev_X5_isSet2 _ rfl rfl (by decide) _) (fun _ => ?_) (fun _ => ?_))
    | (refine az_ca2 rfl rfl rfl rfl (ec_pay .. ) (fun _ => ?_) (fun _ => ?_))
    | (refine az_cax rfl rfl rfl rfl (ec_clear ..) ?_)
    | (refine az_br1 rfl rfl rfl ?_)
    | (refine az_br0 rfl rfl rfl ?_)
    | (refine az_bra rfl rfl rfl (fun _ => ?_) (fun _ => ?_)))
  all_goals (try simp only [hP] at *)
  all_goals (first | contradiction | (simp only [cg_reset, *, not_true, not_false_iff, if_true, if_false, and_self, and_true, and_false, true_and, false_and]; done) | skip)
  all_goals (simp +decide only [cg_reset, cg_pay, az_up_row, az_up_self, *, not_true, not_false_iff, if_true, if_false, and_self, and_true, and_false, true_and, false_and])
def cg_seal (M : az_Mem) : Int32 × az_Mem := if ¬ az_rd (M 8) 8 (M 24 0) = 0 then (-5, M) else (M 2 1 - az_rd (M 4) 8 (M 24 0), az_wr M 8 8 (M 24 0) 1)
theorem ec_sealHere (d : Nat) : az_EX (d + 4) m_X7_sealHere [.ref 1] (az_hp M) (some (.int (cg_seal M).1)) (az_hp (cg_seal M).2) := by
  refine az_EX.of (az_in0 (code := k_X7_sealHere) (ls := [some (.ref 1)]) rfl rfl rfl ?_)
  repeat' (first
    | (refine az_ret rfl rfl rfl rfl ?_)
    | (refine az_sgp rfl rfl rfl rfl ?_)
    | (refine az_ca2 rfl rfl rfl rfl (ev_X5_isSet2 _ rfl rfl (by decide) _) (fun _ => ?_) (fun _ => ?_))
    | (refine az_cax rfl rfl rfl rfl (ev_X5_change _ rfl rfl (by decide) _ _) ?_)
    | (refine az_cax rfl rfl rfl rfl (ec_freeIn ..) ?_)
    | (refine az_br1 rfl rfl rfl ?_)
    | (refine az_br0 rfl rfl rfl ?_)
    | (refine az_bra rfl rfl rfl (fun _ => ?_) (fun _ => ?_)))
  all_goals (simp +decide only [cg_seal, az_wr_row, ne_eq, *, not_true, not_false_iff, if_true, if_false, and_self])
theorem ec_endDay (d : Nat) : az_EX (d + 4) m_X7_endDay [.ref 1] (az_hp M) (some (.int (nI (cg_hot M) - nI (cg_hot (cg_cool M 40))))) (az_hp (cg_cool M 40)) := by
  refine az_EX.of (az_in0 (code := k_X7_endDay) (ls := [some (.ref 1), none]) rfl rfl rfl ?_)
  repeat' (first
    | (refine az_ret rfl rfl rfl rfl ?_)
    | (refine az_sgp rfl rfl rfl rfl ?_)
    | (refine az_cax rfl rfl rfl rfl (ec_hotCount ..) ?_)
    | (refine az_cax rfl rfl rfl rfl (ec_cool ..) ?_)
    | (refine az_br1 rfl rfl rfl ?_)
    | (refine az_br0 rfl rfl rfl ?_)
    | (refine az_bra rfl rfl rfl (fun _ => ?_) (fun _ => ?_)))
  all_goals (exact ⟨rfl, rfl⟩)
def cg_lay (M : az_Mem) (z q : Int32) : az_Mem := az_up (cg_build M z q) 24 0 0
theorem ec_layBad (d : Nat) {z q : Int32} (h : z < 2 ∨ 8 < z ∨ q < 2 ∨ ¬ q ≤ 12) : az_EX (d + 4) m_X7_layZones [.ref 1, .int z, .int q] (az_hp M) (some (.int (-2))) (az_hp M) := by
  refine az_EX.of (az_in0 (code := k_X7_layZones) (ls := [some (.ref 1), some (.int z), some (.int q)]) rfl rfl rfl ?_)
  repeat' (first
    | (refine az_ret rfl rfl rfl rfl ?_)
    | (refine az_sgp rfl rfl rfl rfl ?_)
    | (refine az_br1 rfl rfl rfl ?_)
    | (refine az_br0 rfl rfl rfl ?_)
    | (refine az_bra rfl rfl rfl (fun _ => ?_) (fun _ => ?_)))
  all_goals (first | exact ⟨rfl, rfl⟩ | (exfalso; rcases h with h | h | h | h <;> contradiction))
theorem ec_layNot (d : Nat) {z q : Int32} (h : ¬ (z < 2 ∨ 8 < z ∨ q < 2 ∨ ¬ q ≤ 12)) (h2 : ∃ j, j < 40 ∧ M 19 j = 1) : az_EX (d + 4) m_X7_layZones [.ref 1, .int z, .int q] (az_hp M) (some (.int (-4))) (az_hp M) := by
  refine az_EX.of (az_in0 (code := k_X7_layZones) (ls := [some (.ref 1), some (.int z), some (.int q)]) rfl rfl rfl ?_)
  repeat' (first
    | (refine az_ret rfl rfl rfl rfl ?_)
    | (refine az_sgp rfl rfl rfl rfl ?_)
    | (refine az_ca2 rfl rfl rfl rfl (ec_anyInSlot .. ) (fun _ => ?_) (fun _ => ?_))
    | (refine az_cax rfl rfl rfl rfl (ec_build ..) ?_)
    | (refine az_br1 rfl rfl rfl ?_)
    | (refine az_br0 rfl rfl rfl ?_)
    | (refine az_bra rfl rfl rfl (fun _ => ?_) (fun _ => ?_)))
  all_goals (first | (exact ⟨rfl, rfl⟩) | (exfalso; contradiction) | (exfalso; exact h (by simp only [*, or_true, true_or, not_false_iff])))
theorem ec_layOK (d : Nat) {z q : Int32} (h : ¬ (z < 2 ∨ 8 < z ∨ q < 2 ∨ ¬ q ≤ 12)) (h2 : ¬ ∃ j, j < 40 ∧ M 19 j = 1) : az_EX (d + 4) m_X7_layZones [.ref 1, .int z, .int q] (az_hp M) (some (.int (z * q))) (az_hp (cg_lay M z q)) := by
  refine az_EX.of (az_in0 (code := k_X7_layZones) (ls := [some (.ref 1), some (.int z), some (.int q)]) rfl rfl rfl ?_)
  repeat' (first
    | (refine az_ret rfl rfl rfl rfl ?_)
    | (refine az_sgp rfl rfl rfl rfl ?_)
    | (refine az_ca2 rfl rfl rfl rfl (ec_anyInSlot .. ) (fun _ => ?_) (fun _ => ?_))
    | (refine az_cax rfl rfl rfl rfl (ec_build ..) ?_)
    | (refine az_br1 rfl rfl rfl ?_)
    | (refine az_br0 rfl rfl rfl ?_)
    | (refine az_bra rfl rfl rfl (fun _ => ?_) (fun _ => ?_)))
  all_goals (first | (exact ⟨rfl, rfl⟩) | (exfalso; contradiction) | (exfalso; exact h (by simp only [*, or_true, true_or, not_false_iff])))
end ACTS2
