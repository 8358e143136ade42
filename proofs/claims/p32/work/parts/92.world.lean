/-! CLASS, WORLD: acts of the world at cell 1 -/
theorem ev_X5_isSet2 {z w : Nat} {S : Nat → az_Sh} {M : Nat → Nat → Int32} {a b n : Nat} {l : List (Option (Option Nat))} (d : Nat) (ha : S a = (5, 0, [some (some b)])) (hb : S b = (9, n, l)) (hn : n < 2 ^ 31) (i : Int32) : az_E2 (az_rd (M b) n i = 0) (d + 1) m_X5_isSet [.ref a, .int i] (z, S, M, w) (some (.int 0)) (z, S, M, w) (some (.int 1)) (z, S, M, w) := by
  have h := ev_X5_isSet (z := z) (w := w) (M := M) d ha hb hn i
  refine ⟨fun hc => ?_, fun hc => ?_⟩
  · rw [if_pos hc] at h; exact h
  · rw [if_neg hc] at h; exact h
section WORLD
variable {M : Nat → Nat → Int32}
abbrev az_Mem : Type := Nat → Nat → Int32
def cg_next (M : az_Mem) : Int32 := if M 2 0 ≤ M 24 0 + 1 then 0 else M 24 0 + 1
def cg_step0 (M : az_Mem) : az_Mem := az_up (az_up (cg_pay M 1) 24 5 (M 24 5 + 1)) 24 0 (cg_next M)
def cg_step (M : az_Mem) : az_Mem := if az_rd (M 10) 8 (cg_next M) = 0 then cg_step0 M else az_up (cg_step0 M) 24 1 (M 24 2)
theorem ec_stepAhead (d : Nat) : az_E2 (1 ≤ M 24 1) (d + 2) m_X7_stepAhead [.ref 1] (az_hp M) (some (.int 1)) (az_hp (cg_step M)) (some (.int 0)) (az_hp M) := by
  refine ⟨fun hc => ?_, fun hc => ?_⟩ <;> refine az_EX.of (az_in0 (code := k_X7_stepAhead) (ls := [some (.ref 1)]) rfl rfl rfl ?_)
  · repeat' (first
    | (refine az_ret rfl rfl rfl rfl ?_)
    | (refine az_sgp rfl rfl rfl rfl ?_)
    | (refine az_ca2 rfl rfl rfl rfl (ec_pay .. ) (fun _ => ?_) (fun _ => ?_))
    | (refine az_ca2 rfl rfl rfl rfl (ec_zoneBehind .. ) (fun _ => ?_) (fun _ => ?_))
    | (refine az_ca2 rfl rfl rfl rfl (ev_X5_isSet2 _ rfl rfl (by decide) _) (fun _ => ?_) (fun _ => ?_))
    | (refine az_cav rfl rfl rfl rfl (ec_fillSkin ..) ?_)
    | (refine az_can rfl rfl rfl rfl (ec_fillSkin ..) ?_)
    | ((with_reducible apply az_ifeqT); rfl)
    | ((with_reducible apply az_ifeqF); rfl)
    | ((with_reducible apply az_ifneF); rfl)
    | ((with_reducible apply az_ifneT); rfl)
    | (refine az_bra rfl rfl rfl (fun _ => ?_) (fun _ => ?_)))
    all_goals (try simp +decide only [cg_step, cg_step0, cg_next, cg_pay, az_wr_row, az_up_row, az_up_self, az_up_same, az_fl_row, ne_eq, not_true, not_false_iff, if_true, if_false, reduceIte] at *)
    all_goals (simp +decide only [cg_step, cg_step0, cg_next, cg_pay, az_wr_row, az_up_row, az_up_self, az_up_same, az_fl_row, ne_eq, not_true, not_false_iff, if_true, if_false, reduceIte, *, or_true, true_or, or_false, false_or, and_true, true_and, and_false, false_and, and_self, or_self, Bool.false_eq_true, Bool.true_eq_false])
    all_goals contradiction
  · repeat' (first
    | (refine az_ret rfl rfl rfl rfl ?_)
    | (refine az_sgp rfl rfl rfl rfl ?_)
    | (refine az_ca2 rfl rfl rfl rfl (ec_pay .. ) (fun _ => ?_) (fun _ => ?_))
    | (refine az_ca2 rfl rfl rfl rfl (ec_zoneBehind .. ) (fun _ => ?_) (fun _ => ?_))
    | (refine az_ca2 rfl rfl rfl rfl (ev_X5_isSet2 _ rfl rfl (by decide) _) (fun _ => ?_) (fun _ => ?_))
    | (refine az_cav rfl rfl rfl rfl (ec_fillSkin ..) ?_)
    | (refine az_can rfl rfl rfl rfl (ec_fillSkin ..) ?_)
    | ((with_reducible apply az_ifeqT); rfl)
    | ((with_reducible apply az_ifeqF); rfl)
    | ((with_reducible apply az_ifneF); rfl)
    | ((with_reducible apply az_ifneT); rfl)
    | (refine az_bra rfl rfl rfl (fun _ => ?_) (fun _ => ?_)))
    all_goals (first | contradiction | simp)
def cg_trav : Nat → az_Mem → Bool × az_Mem
  | 0, M => (true, M)
  | k + 1, M => if 1 ≤ M 24 1 then cg_trav k (cg_step M) else (false, M)
theorem ec_travelBad (d : Nat) {n : Int32} (h : n < 1 ∨ ¬ n ≤ 24) : az_EX (d + 3) m_X7_travel [.ref 1, .int n] (az_hp M) (some (.int (-2))) (az_hp M) := by
  refine az_EX.of (az_in0 (code := k_X7_travel) (ls := [some (.ref 1), some (.int n), none]) rfl rfl rfl ?_)
  repeat' (first
    | (refine az_ret rfl rfl rfl rfl ?_)
    | (refine az_sgp rfl rfl rfl rfl ?_)
    | ((with_reducible apply az_ifeqT); rfl)
    | ((with_reducible apply az_ifeqF); rfl)
    | ((with_reducible apply az_ifneF); rfl)
    | ((with_reducible apply az_ifneT); rfl)
    | (refine az_bra rfl rfl rfl (fun _ => ?_) (fun _ => ?_)))
  all_goals (first | exact ⟨rfl, rfl⟩ | (exfalso; rcases h with h | h <;> contradiction))
theorem ec_travel (d : Nat) {k : Nat} (h1 : 1 ≤ k) (h24 : k ≤ 24) : az_EX (d + 3) m_X7_travel [.ref 1, .int (nI k)] (az_hp M) (some (.int (if (cg_trav k M).1 = true then (cg_trav k M).2 24 0 else -6))) (az_hp (cg_trav k M).2) := by
  refine az_EX.of (az_in0 (code := k_X7_travel) (ls := [some (.ref 1), some (.int (nI k)), none]) rfl rfl rfl ?_)
  have K : ∀ (m i : Nat) (N : az_Mem), i + m = k → az_RUN (d + 2) k_X7_travel 16 [some (.ref 1), some (.int (nI k)), some (.int (nI i))] [] (az_hp N) (fun r1 h1 => r1 = some (.int (if (cg_trav m N).1 = true then (cg_trav m N).2 24 0 else -6)) ∧ h1 = az_hp (cg_trav m N).2) := by
    intro m
    induction m with
    | zero =>
      intro i N hi
      obtain rfl : i = k := by omega
      repeat' (first
        | (refine az_ret rfl rfl rfl rfl ?_)
        | (refine az_sgp rfl rfl rfl rfl ?_)
        | (refine az_ca2 rfl rfl rfl rfl (ec_stepAhead .. ) (fun _ => ?_) (fun _ => ?_))
        | ((with_reducible apply az_ifeqT); rfl)
        | ((with_reducible apply az_ifeqF); rfl)
        | ((with_reducible apply az_ifneF); rfl)
        | ((with_reducible apply az_ifneT); rfl)
        | (refine az_bra rfl rfl rfl (fun _ => ?_) (fun _ => ?_)))
      · exact ⟨rfl, rfl⟩
      all_goals (exact absurd (nI_le (Nat.le_refl i) (by omega)) (by assumption))
    | succ m ih =>
      intro i N hi
      have h3 := ih (i + 1) (cg_step N) (by omega)
      repeat' (first
        | (refine az_ret rfl rfl rfl rfl ?_)
        | (refine az_sgp rfl rfl rfl rfl ?_)
        | (refine az_ca2 rfl rfl rfl rfl (ec_stepAhead .. ) (fun _ => ?_) (fun _ => ?_))
        | ((with_reducible apply az_ifeqT); rfl)
        | ((with_reducible apply az_ifeqF); rfl)
        | ((with_reducible apply az_ifneF); rfl)
        | ((with_reducible apply az_ifneT); rfl)
        | (refine az_bra rfl rfl rfl (fun _ => ?_) (fun _ => ?_)))
      · exact absurd (by assumption) (nI_ge (show i < k by omega) (by omega))
      · refine az_sg 1 rfl ?_
        have h2 : 1 ≤ N 24 1 := by assumption
        rw [nI_1]
        simp only [cg_trav, h2, if_true]
        exact h3
      · have h2 : ¬ 1 ≤ N 24 1 := by assumption
        simp [cg_trav, h2]
  have h2 : ¬ nI k < 1 := nI_nlt (a := k) (b := 1) h1 (by omega)
  have h3 : nI k ≤ 24 := nI_le (b := 24) h24 (by omega)
  refine az_sg 2 rfl ?_
  refine az_bra rfl rfl rfl (fun h => absurd h h2) (fun _ => ?_)
  refine az_sg 2 rfl ?_
  refine az_bra rfl rfl rfl (fun _ => ?_) (fun h => absurd h3 h)
  refine az_sg 2 rfl ?_
  exact K k 0 M (by omega)
abbrev cg_live (M : az_Mem) (z s : Int32) : Prop := az_rd (M 19) 40 (az_rd (M 14) 96 (z * 12 + s)) = 1 ∧ az_rd (M 21) 40 (az_rd (M 14) 96 (z * 12 + s)) = z * 12 + s
def cg_liveB (M : az_Mem) (z s : Int32) : Bool := decide (az_rd (M 19) 40 (az_rd (M 14) 96 (z * 12 + s)) = 1) && decide (az_rd (M 21) 40 (az_rd (M 14) 96 (z * 12 + s)) = z * 12 + s)
theorem cg_live_iff {M : az_Mem} {z s : Int32} : cg_liveB M z s = true ↔ cg_live M z s := by
  unfold cg_liveB cg_live
  rw [Bool.and_eq_true, decide_eq_true_eq, decide_eq_true_eq]
theorem ec_isLive (d : Nat) (z s : Int32) : az_E2 (cg_live M z s) (d + 3) m_X7_isLive [.ref 1, .int z, .int s] (az_hp M) (some (.int 1)) (az_hp M) (some (.int 0)) (az_hp M) := by
  refine ⟨fun hc => ?_, fun hc => ?_⟩ <;> refine az_EX.of (az_in0 (code := k_X7_isLive) (ls := [some (.ref 1), some (.int z), some (.int s), none]) rfl rfl rfl ?_)
  · repeat' (first
    | (refine az_ret rfl rfl rfl rfl ?_)
    | (refine az_sgp rfl rfl rfl rfl ?_)
    | (refine az_cav rfl rfl rfl rfl (ev_X5_at _ rfl rfl (by decide) _) ?_)
    | (refine az_can rfl rfl rfl rfl (ev_X5_at _ rfl rfl (by decide) _) ?_)
    | (refine az_cav rfl rfl rfl rfl (ec_cellAt ..) ?_)
    | (refine az_can rfl rfl rfl rfl (ec_cellAt ..) ?_)
    | (refine az_ca2 rfl rfl rfl rfl (ec_liesAt .. ) (fun _ => ?_) (fun _ => ?_))
    | ((with_reducible apply az_ifeqT); rfl)
    | ((with_reducible apply az_ifeqF); rfl)
    | ((with_reducible apply az_ifneF); rfl)
    | ((with_reducible apply az_ifneT); rfl)
    | (refine az_bra rfl rfl rfl (fun _ => ?_) (fun _ => ?_)))
    all_goals (first | (exact ⟨rfl, rfl⟩) | (exact absurd hc (by assumption)))
  · repeat' (first
    | (refine az_ret rfl rfl rfl rfl ?_)
    | (refine az_sgp rfl rfl rfl rfl ?_)
    | (refine az_cav rfl rfl rfl rfl (ev_X5_at _ rfl rfl (by decide) _) ?_)
    | (refine az_can rfl rfl rfl rfl (ev_X5_at _ rfl rfl (by decide) _) ?_)
    | (refine az_cav rfl rfl rfl rfl (ec_cellAt ..) ?_)
    | (refine az_can rfl rfl rfl rfl (ec_cellAt ..) ?_)
    | (refine az_ca2 rfl rfl rfl rfl (ec_liesAt .. ) (fun _ => ?_) (fun _ => ?_))
    | ((with_reducible apply az_ifeqT); rfl)
    | ((with_reducible apply az_ifeqF); rfl)
    | ((with_reducible apply az_ifneF); rfl)
    | ((with_reducible apply az_ifneT); rfl)
    | (refine az_bra rfl rfl rfl (fun _ => ?_) (fun _ => ?_)))
    all_goals (first | (exact absurd (by assumption) hc) | (exact ⟨rfl, rfl⟩))
/-- the live slots of a zone, whose pointer is P -/
def cg_cl (M : az_Mem) (z : Int32) (P : Nat) : Nat := az_cnt (fun s => cg_liveB M z (nI s)) P
theorem ec_liveIn (d : Nat) {z : Int32} {P : Nat} (hP : az_rd (M 4) 8 z = nI P) (hP12 : P ≤ 12) : az_EX (d + 4) m_X7_liveIn [.ref 1, .int z] (az_hp M) (some (.int (nI (cg_cl M z P)))) (az_hp M) := by
  refine az_EX.of (az_in0 (code := k_X7_liveIn) (ls := [some (.ref 1), some (.int z), none, none, none]) rfl rfl rfl ?_)
  have K : ∀ (m i : Nat), i + m = P → az_RUN (d + 3) k_X7_liveIn 17 [some (.ref 1), some (.int z), some (.int (nI (cg_cl M z i))), some (.int (nI P)), some (.int (nI i))] [] (az_hp M) (fun r1 h1 => r1 = some (.int (nI (cg_cl M z P))) ∧ h1 = az_hp M) := by
    intro m
    induction m with
    | zero =>
      intro i hi
      obtain rfl : i = P := by omega
      repeat' (first
        | (refine az_ret rfl rfl rfl rfl ?_)
        | (refine az_sgp rfl rfl rfl rfl ?_)
        | (refine az_ca2 rfl rfl rfl rfl (ec_isLive .. ) (fun _ => ?_) (fun _ => ?_))
        | ((with_reducible apply az_ifeqT); rfl)
        | ((with_reducible apply az_ifeqF); rfl)
        | ((with_reducible apply az_ifneF); rfl)
        | ((with_reducible apply az_ifneT); rfl)
        | (refine az_bra rfl rfl rfl (fun _ => ?_) (fun _ => ?_)))
      · exact ⟨rfl, rfl⟩
      all_goals (exact absurd (nI_le (Nat.le_refl i) (by omega)) (by assumption))
    | succ m ih =>
      intro i hi
      have h3 := ih (i + 1) (by omega)
      repeat' (first
        | (refine az_ret rfl rfl rfl rfl ?_)
        | (refine az_sgp rfl rfl rfl rfl ?_)
        | (refine az_ca2 rfl rfl rfl rfl (ec_isLive .. ) (fun _ => ?_) (fun _ => ?_))
        | ((with_reducible apply az_ifeqT); rfl)
        | ((with_reducible apply az_ifeqF); rfl)
        | ((with_reducible apply az_ifneF); rfl)
        | ((with_reducible apply az_ifneT); rfl)
        | (refine az_bra rfl rfl rfl (fun _ => ?_) (fun _ => ?_)))
      · exact absurd (by assumption) (nI_ge (show i < P by omega) (by omega))
      · refine az_sg 1 rfl ?_
        have h2 : cg_liveB M z (nI i) = true := cg_live_iff.mpr (by assumption)
        rw [nI_1, nI_1]
        simp only [cg_cl, az_cnt, h2, if_true] at h3
        exact h3
      · refine az_sg 1 rfl ?_
        have h2 : ¬ cg_liveB M z (nI i) = true := fun q => absurd (cg_live_iff.mp q) (by assumption)
        rw [nI_1]
        simp only [cg_cl, az_cnt, h2, if_false, Nat.add_zero] at h3
        exact h3
  refine az_sg 6 rfl ?_
  refine az_cav rfl rfl rfl rfl (ev_X5_at _ rfl rfl (by decide) _) ?_
  rw [hP]
  refine az_sg 3 rfl ?_
  exact K P 0 (by omega)
theorem ec_deadIn (d : Nat) {z : Int32} {P : Nat} (hP : az_rd (M 4) 8 z = nI P) (hP12 : P ≤ 12) : az_EX (d + 5) m_X7_deadIn [.ref 1, .int z] (az_hp M) (some (.int (nI P - nI (cg_cl M z P)))) (az_hp M) := by
  refine az_EX.of (az_in0 (code := k_X7_deadIn) (ls := [some (.ref 1), some (.int z)]) rfl rfl rfl ?_)
  repeat' (first
    | (refine az_ret rfl rfl rfl rfl ?_)
    | (refine az_sgp rfl rfl rfl rfl ?_)
    | (refine az_cav rfl rfl rfl rfl (ev_X5_at _ rfl rfl (by decide) _) ?_)
    | (refine az_can rfl rfl rfl rfl (ev_X5_at _ rfl rfl (by decide) _) ?_)
    | (refine az_cav rfl rfl rfl rfl (ec_liveIn _ hP hP12) ?_)
    | (refine az_can rfl rfl rfl rfl (ec_liveIn _ hP hP12) ?_)
    | ((with_reducible apply az_ifeqT); rfl)
    | ((with_reducible apply az_ifeqF); rfl)
    | ((with_reducible apply az_ifneF); rfl)
    | ((with_reducible apply az_ifneT); rfl)
    | (refine az_bra rfl rfl rfl (fun _ => ?_) (fun _ => ?_)))
  all_goals simp [hP]
abbrev cg_may (M : az_Mem) (l z : Int32) : Prop := cg_adm M z (if M 17 0 ≤ az_rd (M 23) 40 l then 1 else 0)
theorem ec_mayBeWritten (d : Nat) (l z : Int32) : az_E2 (cg_may M l z) (d + 3) m_X7_mayBeWritten [.ref 1, .int l, .int z] (az_hp M) (some (.int 1)) (az_hp M) (some (.int 0)) (az_hp M) := by
  refine ⟨fun hc => ?_, fun hc => ?_⟩ <;> refine az_EX.of (az_in0 (code := k_X7_mayBeWritten) (ls := [some (.ref 1), some (.int l), some (.int z)]) rfl rfl rfl ?_)
  · unfold cg_may at hc
    repeat' (first
      | (refine az_ret rfl rfl rfl rfl ?_)
      | (refine az_sgp rfl rfl rfl rfl ?_)
      | (refine az_ca2 rfl rfl rfl rfl (ec_isHot .. ) (fun _ => ?_) (fun _ => ?_))
      | (refine az_ca2 rfl rfl rfl rfl (ec_admits .. ) (fun _ => ?_) (fun _ => ?_))
      | ((with_reducible apply az_ifeqT); rfl)
      | ((with_reducible apply az_ifeqF); rfl)
      | ((with_reducible apply az_ifneF); rfl)
      | ((with_reducible apply az_ifneT); rfl)
      | (refine az_bra rfl rfl rfl (fun _ => ?_) (fun _ => ?_)))
    all_goals (first | (exact ⟨rfl, rfl⟩) | (exfalso; simp only [*, if_true, if_false] at hc; done) | (exfalso; simp only [*, if_true, if_false] at hc; contradiction))
  · unfold cg_may at hc
    repeat' (first
      | (refine az_ret rfl rfl rfl rfl ?_)
      | (refine az_sgp rfl rfl rfl rfl ?_)
      | (refine az_ca2 rfl rfl rfl rfl (ec_isHot .. ) (fun _ => ?_) (fun _ => ?_))
      | (refine az_ca2 rfl rfl rfl rfl (ec_admits .. ) (fun _ => ?_) (fun _ => ?_))
      | ((with_reducible apply az_ifeqT); rfl)
      | ((with_reducible apply az_ifeqF); rfl)
      | ((with_reducible apply az_ifneF); rfl)
      | ((with_reducible apply az_ifneT); rfl)
      | (refine az_bra rfl rfl rfl (fun _ => ?_) (fun _ => ?_)))
    all_goals (first | (exfalso; simp only [*, if_true, if_false] at hc; done) | (exfalso; simp only [*, if_true, if_false] at hc; contradiction) | (exact ⟨rfl, rfl⟩) | skip)
def cg_unp (M : az_Mem) (l : Int32) : az_Mem := az_up (az_unp l (M 24 4).toNatClampNeg 0 0 M).1 24 4 (nI (az_unp l (M 24 4).toNatClampNeg 0 0 M).2)
def az_bagOK (M : az_Mem) : Prop := ∃ B : Nat, M 24 4 = nI B ∧ B ≤ 6
theorem ec_unpk (d : Nat) (l : Int32) (h : az_bagOK M) : az_EX (d + 2) m_X0_unpack [.ref 24, .int l] (az_hp M) none (az_hp (cg_unp M l)) := by
  obtain ⟨B, hB, hB6⟩ := h
  have h1 := ec_unpack (M := M) d l hB hB6
  unfold cg_unp
  rw [hB, nI_clamp (by omega)]
  exact h1
end WORLD
