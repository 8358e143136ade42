/-! CLASS, settings; cleaning -/
section ACTS3
variable {M : Nat → Nat → Int32}
def cg_nz (M : az_Mem) (b Z : Nat) : Nat := az_cnt (fun z => decide (M b z ≠ 0)) Z
theorem ec_wellCount (d : Nat) {Z : Nat} (hZ : M 2 0 = nI Z) (hZ8 : Z ≤ 8) : az_EX (d + 3) m_X4_wellCount [.ref 2] (az_hp M) (some (.int (nI (cg_nz M 10 Z)))) (az_hp M) := by
  refine az_EX.of (az_in0 (code := k_X4_wellCount) (ls := [some (.ref 2)]) rfl rfl rfl ?_)
  repeat' (first
    | (refine az_ret rfl rfl rfl rfl ?_)
    | (refine az_sgp rfl rfl rfl rfl ?_)
    | (refine az_cav rfl rfl rfl rfl (ec_setIn9 _ hZ hZ8) ?_)
    | (refine az_can rfl rfl rfl rfl (ec_setIn9 _ hZ hZ8) ?_)
    | ((with_reducible apply az_ifeqT); rfl)
    | ((with_reducible apply az_ifeqF); rfl)
    | ((with_reducible apply az_ifneF); rfl)
    | ((with_reducible apply az_ifneT); rfl)
    | (refine az_bra rfl rfl rfl (fun _ => ?_) (fun _ => ?_)))
  all_goals (exact ⟨rfl, rfl⟩)
theorem ec_sealCount (d : Nat) {Z : Nat} (hZ : M 2 0 = nI Z) (hZ8 : Z ≤ 8) : az_EX (d + 3) m_X4_sealCount [.ref 2] (az_hp M) (some (.int (nI (cg_nz M 8 Z)))) (az_hp M) := by
  refine az_EX.of (az_in0 (code := k_X4_sealCount) (ls := [some (.ref 2)]) rfl rfl rfl ?_)
  repeat' (first
    | (refine az_ret rfl rfl rfl rfl ?_)
    | (refine az_sgp rfl rfl rfl rfl ?_)
    | (refine az_cav rfl rfl rfl rfl (ec_setIn7 _ hZ hZ8) ?_)
    | (refine az_can rfl rfl rfl rfl (ec_setIn7 _ hZ hZ8) ?_)
    | ((with_reducible apply az_ifeqT); rfl)
    | ((with_reducible apply az_ifeqF); rfl)
    | ((with_reducible apply az_ifneF); rfl)
    | ((with_reducible apply az_ifneT); rfl)
    | (refine az_bra rfl rfl rfl (fun _ => ?_) (fun _ => ?_)))
  all_goals (exact ⟨rfl, rfl⟩)
abbrev cg_zone (M : az_Mem) (z : Int32) : Prop := ¬ z < 0 ∧ ¬ M 2 0 ≤ z
def cg_kind (M : az_Mem) (z k : Int32) : Int32 × az_Mem :=
  if ¬ cg_zone M z then (-1, M) else if k < 0 ∨ ¬ k ≤ 2 then (-2, M) else if az_rd (M 6) 8 z = k then (-5, M) else (az_rd (M 6) 8 z, az_wr M 6 8 z k)
theorem ec_changeKind (d : Nat) (z k : Int32) : az_EX (d + 4) m_X7_changeKind [.ref 1, .int z, .int k] (az_hp M) (some (.int (cg_kind M z k).1)) (az_hp (cg_kind M z k).2) := by
  refine az_EX.of (az_in0 (code := k_X7_changeKind) (ls := [some (.ref 1), some (.int z), some (.int k), none]) rfl rfl rfl ?_)
  repeat' (first
    | (refine az_ret rfl rfl rfl rfl ?_)
    | (refine az_sgp rfl rfl rfl rfl ?_)
    | (refine az_ca2 rfl rfl rfl rfl (ec_hasZone .. ) (fun _ => ?_) (fun _ => ?_))
    | (refine az_cav rfl rfl rfl rfl (ev_X5_at _ rfl rfl (by decide) _) ?_)
    | (refine az_can rfl rfl rfl rfl (ev_X5_at _ rfl rfl (by decide) _) ?_)
    | (refine az_cav rfl rfl rfl rfl (ev_X5_change _ rfl rfl (by decide) _ _) ?_)
    | (refine az_can rfl rfl rfl rfl (ev_X5_change _ rfl rfl (by decide) _ _) ?_)
    | ((with_reducible apply az_ifeqT); rfl)
    | ((with_reducible apply az_ifeqF); rfl)
    | ((with_reducible apply az_ifneF); rfl)
    | ((with_reducible apply az_ifneT); rfl)
    | (refine az_bra rfl rfl rfl (fun _ => ?_) (fun _ => ?_)))
  all_goals (simp only [cg_kind, cg_zone, *, not_true, not_false_iff, or_true, true_or, or_false, false_or, if_true, if_false, and_self])
def cg_well1 (M : az_Mem) (z w : Int32) : az_Mem := if w = 0 then az_wr M 10 8 z 0 else if z = M 24 0 then az_up (az_wr M 10 8 z 1) 24 1 (M 24 2) else az_wr M 10 8 z 1
theorem ec_changeWell (d : Nat) (z w : Int32) (hw : w = 0 ∨ w = 1) {Z : Nat} (hZ : M 2 0 = nI Z) (hZ8 : Z ≤ 8) : az_EX (d + 5) m_X7_changeWell [.ref 1, .int z, .int w] (az_hp M) (some (.int (if ¬ cg_zone M z then -1 else if (if az_rd (M 10) 8 z = 0 then (0 : Int32) else 1) = w then -5 else nI (cg_nz (cg_well1 M z w) 10 Z)))) (az_hp (if ¬ cg_zone M z then M else if (if az_rd (M 10) 8 z = 0 then (0 : Int32) else 1) = w then M else cg_well1 M z w)) := by
  have h1 : az_wr M 10 8 z 0 2 0 = nI Z := by rw [az_wr_row (by decide)]; exact hZ
  have h2 : az_wr M 10 8 z 1 2 0 = nI Z := by rw [az_wr_row (by decide)]; exact hZ
  have h3 : az_up (az_wr M 10 8 z 1) 24 1 (az_wr M 10 8 z 1 24 2) 2 0 = nI Z := by rw [az_up_row (by decide), az_wr_row (by decide)]; exact hZ
  rcases hw with rfl | rfl
  · refine az_EX.of (az_in0 (code := k_X7_changeWell) (ls := [some (.ref 1), some (.int z), some (.int 0)]) rfl rfl rfl ?_)
    repeat' (first
      | (refine az_ret rfl rfl rfl rfl ?_)
      | (refine az_sgp rfl rfl rfl rfl ?_)
      | (refine az_ca2 rfl rfl rfl rfl (ec_hasZone .. ) (fun _ => ?_) (fun _ => ?_))
      | (refine az_ca2 rfl rfl rfl rfl (ev_X5_isSet2 _ rfl rfl (by decide) _) (fun _ => ?_) (fun _ => ?_))
      | (refine az_cav rfl rfl rfl rfl (ev_X5_change _ rfl rfl (by decide) _ _) ?_)
      | (refine az_can rfl rfl rfl rfl (ev_X5_change _ rfl rfl (by decide) _ _) ?_)
      | (refine az_cav rfl rfl rfl rfl (ec_fillSkin ..) ?_)
      | (refine az_can rfl rfl rfl rfl (ec_fillSkin ..) ?_)
      | (refine az_cav rfl rfl rfl rfl (ec_wellCount _ h1 hZ8) ?_)
      | (refine az_can rfl rfl rfl rfl (ec_wellCount _ h1 hZ8) ?_)
      | (refine az_cav rfl rfl rfl rfl (ec_wellCount _ h2 hZ8) ?_)
      | (refine az_can rfl rfl rfl rfl (ec_wellCount _ h2 hZ8) ?_)
      | (refine az_cav rfl rfl rfl rfl (ec_wellCount _ h3 hZ8) ?_)
      | (refine az_can rfl rfl rfl rfl (ec_wellCount _ h3 hZ8) ?_)
      | ((with_reducible apply az_ifeqT); rfl)
      | ((with_reducible apply az_ifeqF); rfl)
      | ((with_reducible apply az_ifneF); rfl)
      | ((with_reducible apply az_ifneT); rfl)
      | (refine az_bra rfl rfl rfl (fun _ => ?_) (fun _ => ?_)))
    all_goals (clear h1 h2 h3 hZ)
    all_goals (first | contradiction | (exfalso; exact absurd rfl (by assumption)) | skip)
    all_goals (simp +decide only [cg_zone, cg_well1, az_wr_row, ne_eq, *, not_true, not_false_iff, or_true, true_or, or_false, false_or, if_true, if_false, and_self])
  · refine az_EX.of (az_in0 (code := k_X7_changeWell) (ls := [some (.ref 1), some (.int z), some (.int 1)]) rfl rfl rfl ?_)
    repeat' (first
      | (refine az_ret rfl rfl rfl rfl ?_)
      | (refine az_sgp rfl rfl rfl rfl ?_)
      | (refine az_ca2 rfl rfl rfl rfl (ec_hasZone .. ) (fun _ => ?_) (fun _ => ?_))
      | (refine az_ca2 rfl rfl rfl rfl (ev_X5_isSet2 _ rfl rfl (by decide) _) (fun _ => ?_) (fun _ => ?_))
      | (refine az_cav rfl rfl rfl rfl (ev_X5_change _ rfl rfl (by decide) _ _) ?_)
      | (refine az_can rfl rfl rfl rfl (ev_X5_change _ rfl rfl (by decide) _ _) ?_)
      | (refine az_cav rfl rfl rfl rfl (ec_fillSkin ..) ?_)
      | (refine az_can rfl rfl rfl rfl (ec_fillSkin ..) ?_)
      | (refine az_cav rfl rfl rfl rfl (ec_wellCount _ h1 hZ8) ?_)
      | (refine az_can rfl rfl rfl rfl (ec_wellCount _ h1 hZ8) ?_)
      | (refine az_cav rfl rfl rfl rfl (ec_wellCount _ h2 hZ8) ?_)
      | (refine az_can rfl rfl rfl rfl (ec_wellCount _ h2 hZ8) ?_)
      | (refine az_cav rfl rfl rfl rfl (ec_wellCount _ h3 hZ8) ?_)
      | (refine az_can rfl rfl rfl rfl (ec_wellCount _ h3 hZ8) ?_)
      | ((with_reducible apply az_ifeqT); rfl)
      | ((with_reducible apply az_ifeqF); rfl)
      | ((with_reducible apply az_ifneF); rfl)
      | ((with_reducible apply az_ifneT); rfl)
      | (refine az_bra rfl rfl rfl (fun _ => ?_) (fun _ => ?_)))
    all_goals (clear h1 h2 h3 hZ)
    all_goals (try simp +decide only [az_wr_row, ne_eq] at *)
    all_goals (try contradiction)
    all_goals (try subst_vars)
    all_goals (simp +decide only [cg_zone, cg_well1, az_wr_row, ne_eq, *, not_true, not_false_iff, or_true, true_or, or_false, false_or, if_true, if_false, and_self])
def cg_setBag (M : az_Mem) (v : Int32) : Int32 × az_Mem := if v < 0 ∨ ¬ v ≤ 6 then (-2, M) else if ¬ M 24 4 ≤ v then (-4, M) else (if M 24 3 = v then -5 else M 24 3, az_up M 24 3 v)
theorem ec_changeBag (d : Nat) (v : Int32) : az_EX (d + 3) m_X7_changeBag [.ref 1, .int v] (az_hp M) (some (.int (cg_setBag M v).1)) (az_hp (cg_setBag M v).2) := by
  refine az_EX.of (az_in0 (code := k_X7_changeBag) (ls := [some (.ref 1), some (.int v), none]) rfl rfl rfl ?_)
  repeat' (first
    | (refine az_ret rfl rfl rfl rfl ?_)
    | (refine az_sgp rfl rfl rfl rfl ?_)
    | ((with_reducible apply az_ifeqT); rfl)
    | ((with_reducible apply az_ifeqF); rfl)
    | ((with_reducible apply az_ifneF); rfl)
    | ((with_reducible apply az_ifneT); rfl)
    | (refine az_bra rfl rfl rfl (fun _ => ?_) (fun _ => ?_)))
  all_goals (simp only [cg_setBag, *, not_true, not_false_iff, or_true, true_or, or_false, false_or, if_true, if_false, and_self])
def cg_setSkin (M : az_Mem) (v : Int32) : Int32 × az_Mem := if v < 10 ∨ ¬ v ≤ 200 then (-2, M) else (if M 24 2 = v then -5 else M 24 2, az_up (az_up M 24 2 v) 24 1 (if v < M 24 1 then v else M 24 1))
theorem ec_changeSkin (d : Nat) (v : Int32) : az_EX (d + 3) m_X7_changeSkin [.ref 1, .int v] (az_hp M) (some (.int (cg_setSkin M v).1)) (az_hp (cg_setSkin M v).2) := by
  refine az_EX.of (az_in0 (code := k_X7_changeSkin) (ls := [some (.ref 1), some (.int v), none]) rfl rfl rfl ?_)
  repeat' (first
    | (refine az_ret rfl rfl rfl rfl ?_)
    | (refine az_sgp rfl rfl rfl rfl ?_)
    | (refine az_cav rfl rfl rfl rfl (ec_resizeSkin ..) ?_)
    | (refine az_can rfl rfl rfl rfl (ec_resizeSkin ..) ?_)
    | ((with_reducible apply az_ifeqT); rfl)
    | ((with_reducible apply az_ifeqF); rfl)
    | ((with_reducible apply az_ifneF); rfl)
    | ((with_reducible apply az_ifneT); rfl)
    | (refine az_bra rfl rfl rfl (fun _ => ?_) (fun _ => ?_)))
  all_goals (simp only [cg_setSkin, *, not_true, not_false_iff, or_true, true_or, or_false, false_or, if_true, if_false, and_self])
def cg_setBound (M : az_Mem) (v : Int32) : Int32 × az_Mem := if v < 1 ∨ ¬ v ≤ 9 then (-2, M) else (if M 17 0 = v then -5 else M 17 0, az_up M 17 0 v)
theorem ec_changeBound (d : Nat) (v : Int32) : az_EX (d + 3) m_X7_changeBound [.ref 1, .int v] (az_hp M) (some (.int (cg_setBound M v).1)) (az_hp (cg_setBound M v).2) := by
  refine az_EX.of (az_in0 (code := k_X7_changeBound) (ls := [some (.ref 1), some (.int v), none]) rfl rfl rfl ?_)
  repeat' (first
    | (refine az_ret rfl rfl rfl rfl ?_)
    | (refine az_sgp rfl rfl rfl rfl ?_)
    | ((with_reducible apply az_ifeqT); rfl)
    | ((with_reducible apply az_ifeqF); rfl)
    | ((with_reducible apply az_ifneF); rfl)
    | ((with_reducible apply az_ifneT); rfl)
    | (refine az_bra rfl rfl rfl (fun _ => ?_) (fun _ => ?_)))
  all_goals (simp only [cg_setBound, *, not_true, not_false_iff, or_true, true_or, or_false, false_or, if_true, if_false, and_self])
def cg_set (M : az_Mem) (w v : Int32) : Int32 × az_Mem := if w = 0 then cg_setBag M v else if w = 1 then cg_setSkin M v else if w = 2 then cg_setBound M v else (-2, M)
theorem ec_changeSetting (d : Nat) (w v : Int32) : az_EX (d + 4) m_X7_changeSetting [.ref 1, .int w, .int v] (az_hp M) (some (.int (cg_set M w v).1)) (az_hp (cg_set M w v).2) := by
  refine az_EX.of (az_in0 (code := k_X7_changeSetting) (ls := [some (.ref 1), some (.int w), some (.int v)]) rfl rfl rfl ?_)
  refine az_sg 1 rfl ?_
  refine az_swi rfl rfl rfl ?_
  by_cases h0 : w = 0
  · subst h0
    repeat' (first
      | (refine az_ret rfl rfl rfl rfl ?_)
      | (refine az_sgp rfl rfl rfl rfl ?_)
      | (refine az_cav rfl rfl rfl rfl (ec_changeBag ..) ?_)
      | (refine az_can rfl rfl rfl rfl (ec_changeBag ..) ?_)
      | ((with_reducible apply az_ifeqT); rfl)
      | ((with_reducible apply az_ifeqF); rfl)
      | ((with_reducible apply az_ifneF); rfl)
      | ((with_reducible apply az_ifneT); rfl)
      | (refine az_bra rfl rfl rfl (fun _ => ?_) (fun _ => ?_)))
    all_goals (exact ⟨rfl, rfl⟩)
  · by_cases h1 : w = 1
    · subst h1
      repeat' (first
        | (refine az_ret rfl rfl rfl rfl ?_)
        | (refine az_sgp rfl rfl rfl rfl ?_)
        | (refine az_cav rfl rfl rfl rfl (ec_changeSkin ..) ?_)
        | (refine az_can rfl rfl rfl rfl (ec_changeSkin ..) ?_)
        | ((with_reducible apply az_ifeqT); rfl)
        | ((with_reducible apply az_ifeqF); rfl)
        | ((with_reducible apply az_ifneF); rfl)
        | ((with_reducible apply az_ifneT); rfl)
        | (refine az_bra rfl rfl rfl (fun _ => ?_) (fun _ => ?_)))
      all_goals (exact ⟨rfl, rfl⟩)
    · by_cases h2 : w = 2
      · subst h2
        repeat' (first
          | (refine az_ret rfl rfl rfl rfl ?_)
          | (refine az_sgp rfl rfl rfl rfl ?_)
          | (refine az_cav rfl rfl rfl rfl (ec_changeBound ..) ?_)
          | (refine az_can rfl rfl rfl rfl (ec_changeBound ..) ?_)
          | ((with_reducible apply az_ifeqT); rfl)
          | ((with_reducible apply az_ifeqF); rfl)
          | ((with_reducible apply az_ifneF); rfl)
          | ((with_reducible apply az_ifneT); rfl)
          | (refine az_bra rfl rfl rfl (fun _ => ?_) (fun _ => ?_)))
        all_goals (exact ⟨rfl, rfl⟩)
      · simp only [az_swt, h0, h1, h2, decide_false, cond_false]
        repeat' (first
          | (refine az_ret rfl rfl rfl rfl ?_)
          | (refine az_sgp rfl rfl rfl rfl ?_)
          | ((with_reducible apply az_ifeqT); rfl)
          | ((with_reducible apply az_ifeqF); rfl)
          | ((with_reducible apply az_ifneF); rfl)
          | ((with_reducible apply az_ifneT); rfl)
          | (refine az_bra rfl rfl rfl (fun _ => ?_) (fun _ => ?_)))
        all_goals (simp only [cg_set, h0, h1, h2, if_false, and_self])
/-- all live loads of a zone into the bag: the slots below P, from i on -/
def cg_packs (z : Int32) : Nat → Nat → az_Mem → az_Mem
  | 0, _, M => M
  | m + 1, i, M => if cg_live M z (nI i) then cg_packs z m (i + 1) (cg_packUp M (az_rd (M 14) 96 (z * 12 + nI i))) else cg_packs z m (i + 1) M
end ACTS3
