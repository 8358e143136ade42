/-! CLASS, LEAVES: Caravan, Loads, Road of the world at cell 1 -/
section LEAF
variable {M : Nat → Nat → Int32}
def cg_pay (M : Nat → Nat → Int32) (c : Int32) : Nat → Nat → Int32 := az_up (az_up M 24 1 (M 24 1 - c)) 24 6 (M 24 6 + c)
theorem ec_pay (d : Nat) (c : Int32) : az_E2 (c ≤ M 24 1) (d + 1) m_X0_pay [.ref 24, .int c] (az_hp M) (some (.int 1)) (az_hp (cg_pay M c)) (some (.int 0)) (az_hp M) := by
  refine ⟨fun hc => ?_, fun hc => ?_⟩ <;> refine az_EX.of (az_in0 (code := k_X0_pay) (ls := [some (.ref 24), some (.int c)]) rfl rfl rfl ?_)
  · repeat' (first
    | (refine az_ret rfl rfl rfl rfl ?_)
    | (refine az_sgp rfl rfl rfl rfl ?_)
    | ((with_reducible apply az_ifeqT); rfl)
    | ((with_reducible apply az_ifeqF); rfl)
    | ((with_reducible apply az_ifneF); rfl)
    | ((with_reducible apply az_ifneT); rfl)
    | (refine az_bra rfl rfl rfl (fun _ => ?_) (fun _ => ?_)))
    all_goals (first | contradiction | simp [cg_pay, az_up_self])
  · repeat' (first
    | (refine az_ret rfl rfl rfl rfl ?_)
    | (refine az_sgp rfl rfl rfl rfl ?_)
    | ((with_reducible apply az_ifeqT); rfl)
    | ((with_reducible apply az_ifeqF); rfl)
    | ((with_reducible apply az_ifneF); rfl)
    | ((with_reducible apply az_ifneT); rfl)
    | (refine az_bra rfl rfl rfl (fun _ => ?_) (fun _ => ?_)))
    all_goals (first | contradiction | simp)
theorem ec_fillSkin (d : Nat) : az_EX (d + 1) m_X0_fillSkin [.ref 24] (az_hp M) none (az_hp (az_up M 24 1 (M 24 2))) := by
  refine az_EX.of (az_in0 (code := k_X0_fillSkin) (ls := [some (.ref 24)]) rfl rfl rfl ?_)
  repeat' (first
    | (refine az_ret rfl rfl rfl rfl ?_)
    | (refine az_sgp rfl rfl rfl rfl ?_)
    | ((with_reducible apply az_ifeqT); rfl)
    | ((with_reducible apply az_ifeqF); rfl)
    | ((with_reducible apply az_ifneF); rfl)
    | ((with_reducible apply az_ifneT); rfl)
    | (refine az_bra rfl rfl rfl (fun _ => ?_) (fun _ => ?_)))
  all_goals simp
theorem ec_resizeSkin (d : Nat) (v : Int32) : az_EX (d + 1) m_X0_resizeSkin [.ref 24, .int v] (az_hp M) none (az_hp (az_up (az_up M 24 2 v) 24 1 (if v < M 24 1 then v else M 24 1))) := by
  refine az_EX.of (az_in0 (code := k_X0_resizeSkin) (ls := [some (.ref 24), some (.int v)]) rfl rfl rfl ?_)
  repeat' (first
    | (refine az_ret rfl rfl rfl rfl ?_)
    | (refine az_sgp rfl rfl rfl rfl ?_)
    | ((with_reducible apply az_ifeqT); rfl)
    | ((with_reducible apply az_ifeqF); rfl)
    | ((with_reducible apply az_ifneF); rfl)
    | ((with_reducible apply az_ifneT); rfl)
    | (refine az_bra rfl rfl rfl (fun _ => ?_) (fun _ => ?_)))
  all_goals simp [az_up_self]
theorem ec_bagSpace (d : Nat) : az_EX (d + 1) m_X0_bagSpace [.ref 24] (az_hp M) (some (.int (M 24 3 - M 24 4))) (az_hp M) := by
  refine az_EX.of (az_in0 (code := k_X0_bagSpace) (ls := [some (.ref 24)]) rfl rfl rfl ?_)
  repeat' (first
    | (refine az_ret rfl rfl rfl rfl ?_)
    | (refine az_sgp rfl rfl rfl rfl ?_)
    | ((with_reducible apply az_ifeqT); rfl)
    | ((with_reducible apply az_ifeqF); rfl)
    | ((with_reducible apply az_ifneF); rfl)
    | ((with_reducible apply az_ifneT); rfl)
    | (refine az_bra rfl rfl rfl (fun _ => ?_) (fun _ => ?_)))
  all_goals simp
def cg_pack (M : Nat → Nat → Int32) (l : Int32) : Nat → Nat → Int32 := az_up (az_wr M 26 6 (M 24 4) l) 24 4 (M 24 4 + 1)
theorem ec_pack (d : Nat) (l : Int32) : az_EX (d + 2) m_X0_pack [.ref 24, .int l] (az_hp M) none (az_hp (cg_pack M l)) := by
  refine az_EX.of (az_in0 (code := k_X0_pack) (ls := [some (.ref 24), some (.int l)]) rfl rfl rfl ?_)
  repeat' (first
    | (refine az_ret rfl rfl rfl rfl ?_)
    | (refine az_sgp rfl rfl rfl rfl ?_)
    | (refine az_cav rfl rfl rfl rfl (ev_X5_change _ rfl rfl (by decide) _ _) ?_)
    | (refine az_can rfl rfl rfl rfl (ev_X5_change _ rfl rfl (by decide) _ _) ?_)
    | ((with_reducible apply az_ifeqT); rfl)
    | ((with_reducible apply az_ifeqF); rfl)
    | ((with_reducible apply az_ifneF); rfl)
    | ((with_reducible apply az_ifneT); rfl)
    | (refine az_bra rfl rfl rfl (fun _ => ?_) (fun _ => ?_)))
  all_goals simp [cg_pack, az_wr_row]
theorem ec_isKnown (d : Nat) (l : Int32) : az_E2 (¬ l < 0 ∧ ¬ 40 ≤ l) (d + 1) m_X2_isKnown [.ref 17, .int l] (az_hp M) (some (.int 1)) (az_hp M) (some (.int 0)) (az_hp M) := by
  refine ⟨fun hc => ?_, fun hc => ?_⟩ <;> refine az_EX.of (az_in0 (code := k_X2_isKnown) (ls := [some (.ref 17), some (.int l)]) rfl rfl rfl ?_)
  · repeat' (first
    | (refine az_ret rfl rfl rfl rfl ?_)
    | (refine az_sgp rfl rfl rfl rfl ?_)
    | ((with_reducible apply az_ifeqT); rfl)
    | ((with_reducible apply az_ifeqF); rfl)
    | ((with_reducible apply az_ifneF); rfl)
    | ((with_reducible apply az_ifneT); rfl)
    | (refine az_bra rfl rfl rfl (fun _ => ?_) (fun _ => ?_)))
    all_goals (first | (exact absurd (by assumption) hc.1) | (exact absurd (by assumption) hc.2) | simp)
  · repeat' (first
    | (refine az_ret rfl rfl rfl rfl ?_)
    | (refine az_sgp rfl rfl rfl rfl ?_)
    | ((with_reducible apply az_ifeqT); rfl)
    | ((with_reducible apply az_ifeqF); rfl)
    | ((with_reducible apply az_ifneF); rfl)
    | ((with_reducible apply az_ifneT); rfl)
    | (refine az_bra rfl rfl rfl (fun _ => ?_) (fun _ => ?_)))
    all_goals (first | (exact absurd ⟨by assumption, by assumption⟩ hc) | simp)
theorem ec_isIn (d : Nat) (l q : Int32) : az_E2 (az_rd (M 19) 40 l = q) (d + 2) m_X2_isIn [.ref 17, .int l, .int q] (az_hp M) (some (.int 1)) (az_hp M) (some (.int 0)) (az_hp M) := by
  refine ⟨fun hc => ?_, fun hc => ?_⟩ <;> refine az_EX.of (az_in0 (code := k_X2_isIn) (ls := [some (.ref 17), some (.int l), some (.int q)]) rfl rfl rfl ?_)
  · repeat' (first
    | (refine az_ret rfl rfl rfl rfl ?_)
    | (refine az_sgp rfl rfl rfl rfl ?_)
    | (refine az_cav rfl rfl rfl rfl (ev_X5_at _ rfl rfl (by decide) _) ?_)
    | (refine az_can rfl rfl rfl rfl (ev_X5_at _ rfl rfl (by decide) _) ?_)
    | ((with_reducible apply az_ifeqT); rfl)
    | ((with_reducible apply az_ifeqF); rfl)
    | ((with_reducible apply az_ifneF); rfl)
    | ((with_reducible apply az_ifneT); rfl)
    | (refine az_bra rfl rfl rfl (fun _ => ?_) (fun _ => ?_)))
    all_goals (first | contradiction | simp)
  · repeat' (first
    | (refine az_ret rfl rfl rfl rfl ?_)
    | (refine az_sgp rfl rfl rfl rfl ?_)
    | (refine az_cav rfl rfl rfl rfl (ev_X5_at _ rfl rfl (by decide) _) ?_)
    | (refine az_can rfl rfl rfl rfl (ev_X5_at _ rfl rfl (by decide) _) ?_)
    | ((with_reducible apply az_ifeqT); rfl)
    | ((with_reducible apply az_ifeqF); rfl)
    | ((with_reducible apply az_ifneF); rfl)
    | ((with_reducible apply az_ifneT); rfl)
    | (refine az_bra rfl rfl rfl (fun _ => ?_) (fun _ => ?_)))
    all_goals (first | contradiction | simp)
end LEAF
