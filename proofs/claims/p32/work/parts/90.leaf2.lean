/-! CLASS, LEAVES: the rest of Caravan, Loads, Road -/
theorem az_rdN {f : Nat → Int32} {j n : Nat} (h : j < n) (hn : n < 2 ^ 31) : az_rd f n (nI j) = f j := by
  unfold az_rd
  rw [if_pos (az_inN h hn), nI_clamp (by omega)]
theorem az_wrN {M : Nat → Nat → Int32} {b j n : Nat} {x : Int32} (h : j < n) (hn : n < 2 ^ 31) : az_wr M b n (nI j) x = az_up M b j x := by
  unfold az_wr
  rw [if_pos (az_inN h hn), nI_clamp (by omega)]
def az_cnt (P : Nat → Bool) : Nat → Nat
  | 0 => 0
  | n + 1 => az_cnt P n + (if P n = true then 1 else 0)
theorem az_cnt_le (P : Nat → Bool) : ∀ n, az_cnt P n ≤ n := by
  intro n
  induction n with
  | zero => exact Nat.le_refl _
  | succ n ih =>
    show az_cnt P n + (if P n = true then 1 else 0) ≤ n + 1
    split <;> omega
def az_find (f : Nat → Int32) (l : Int32) : Nat → Nat → Int32
  | 0, _ => -5
  | m + 1, i => if f i = l then nI i else az_find f l m (i + 1)
def az_unp (l : Int32) : Nat → Nat → Nat → (Nat → Nat → Int32) → (Nat → Nat → Int32) × Nat
  | 0, _, k, M => (M, k)
  | m + 1, i, k, M => if M 26 i = l then az_unp l m (i + 1) k M else az_unp l m (i + 1) (k + 1) (az_up M 26 k (M 26 i))
def az_row1 (M : Nat → Nat → Int32) (b : Nat) (f : Nat → Int32) : Nat → Nat → Int32 := fun c j => if c = b then f j else M c j
section LEAF2
variable {M : Nat → Nat → Int32}
theorem ec_liesAt (d : Nat) (l c : Int32) : az_E2 (az_rd (M 19) 40 l = 1 ∧ az_rd (M 21) 40 l = c) (d + 2) m_X2_liesAt [.ref 17, .int l, .int c] (az_hp M) (some (.int 1)) (az_hp M) (some (.int 0)) (az_hp M) := by
  refine ⟨fun hc => ?_, fun hc => ?_⟩ <;> refine az_EX.of (az_in0 (code := k_X2_liesAt) (ls := [some (.ref 17), some (.int l), some (.int c)]) rfl rfl rfl ?_)
  · repeat' (first
    | (refine az_ret rfl rfl rfl rfl ?_)
    | (refine az_sgp rfl rfl rfl rfl ?_)
    | (refine az_cav rfl rfl rfl rfl (ev_X5_at _ rfl rfl (by decide) _) ?_)
    | (refine az_can rfl rfl rfl rfl (ev_X5_at _ rfl rfl (by decide) _) ?_)
    | ((with_reducible apply az_ifeqT); rfl)
    | ((with_reducible apply az_ifeqF); rfl)
    | ((with_reducible apply az_ifneF); rfl)
    | ((with_reducible apply az_ifneT); rfl)
    | (refine az_bra rfl rfl rfl (fun _ => ?_) (fun _ => ?_)))
    all_goals (first | (exact absurd hc.1 (by assumption)) | (exact absurd hc.2 (by assumption)) | simp)
  · repeat' (first
    | (refine az_ret rfl rfl rfl rfl ?_)
    | (refine az_sgp rfl rfl rfl rfl ?_)
    | (refine az_cav rfl rfl rfl rfl (ev_X5_at _ rfl rfl (by decide) _) ?_)
    | (refine az_can rfl rfl rfl rfl (ev_X5_at _ rfl rfl (by decide) _) ?_)
    | ((with_reducible apply az_ifeqT); rfl)
    | ((with_reducible apply az_ifeqF); rfl)
    | ((with_reducible apply az_ifneF); rfl)
    | ((with_reducible apply az_ifneT); rfl)
    | (refine az_bra rfl rfl rfl (fun _ => ?_) (fun _ => ?_)))
    all_goals (first | (exact absurd ⟨by assumption, by assumption⟩ hc) | simp)
theorem ec_isHot (d : Nat) (l : Int32) : az_E2 (M 17 0 ≤ az_rd (M 23) 40 l) (d + 2) m_X2_isHot [.ref 17, .int l] (az_hp M) (some (.int 1)) (az_hp M) (some (.int 0)) (az_hp M) := by
  refine ⟨fun hc => ?_, fun hc => ?_⟩ <;> refine az_EX.of (az_in0 (code := k_X2_isHot) (ls := [some (.ref 17), some (.int l)]) rfl rfl rfl ?_)
  · repeat' (first
    | (refine az_ret rfl rfl rfl rfl ?_)
    | (refine az_sgp rfl rfl rfl rfl ?_)
    | (refine az_cav rfl rfl rfl rfl (ev_X5_at _ rfl rfl (by decide) _) ?_)
    | (refine az_can rfl rfl rfl rfl (ev_X5_at _ rfl rfl (by decide) _) ?_)
    | ((with_reducible apply az_ifeqT); rfl)
    | ((with_reducible apply az_ifeqF); rfl)
    | ((with_reducible apply az_ifneF); rfl)
    | ((with_reducible apply az_ifneT); rfl)
    | (refine az_bra rfl rfl rfl (fun _ => ?_) (fun _ => ?_)))
    all_goals (first | (exact absurd hc (Int32.not_le.mpr (by assumption))) | simp)
  · repeat' (first
    | (refine az_ret rfl rfl rfl rfl ?_)
    | (refine az_sgp rfl rfl rfl rfl ?_)
    | (refine az_cav rfl rfl rfl rfl (ev_X5_at _ rfl rfl (by decide) _) ?_)
    | (refine az_can rfl rfl rfl rfl (ev_X5_at _ rfl rfl (by decide) _) ?_)
    | ((with_reducible apply az_ifeqT); rfl)
    | ((with_reducible apply az_ifeqF); rfl)
    | ((with_reducible apply az_ifneF); rfl)
    | ((with_reducible apply az_ifneT); rfl)
    | (refine az_bra rfl rfl rfl (fun _ => ?_) (fun _ => ?_)))
    all_goals (first | (exact absurd (Int32.not_lt.mp (by assumption)) hc) | simp)
def cg_warm (M : Nat → Nat → Int32) (l : Int32) : Nat → Nat → Int32 := az_wr M 23 40 l (if 99 < az_rd (M 23) 40 l + 1 then 99 else az_rd (M 23) 40 l + 1)
theorem ec_warm (d : Nat) (l : Int32) : az_EX (d + 2) m_X2_warm [.ref 17, .int l] (az_hp M) none (az_hp (cg_warm M l)) := by
  refine az_EX.of (az_in0 (code := k_X2_warm) (ls := [some (.ref 17), some (.int l)]) rfl rfl rfl ?_)
  repeat' (first
    | (refine az_ret rfl rfl rfl rfl ?_)
    | (refine az_sgp rfl rfl rfl rfl ?_)
    | (refine az_cav rfl rfl rfl rfl (ev_X5_at _ rfl rfl (by decide) _) ?_)
    | (refine az_can rfl rfl rfl rfl (ev_X5_at _ rfl rfl (by decide) _) ?_)
    | (refine az_cav rfl rfl rfl rfl (ev_X5_change _ rfl rfl (by decide) _ _) ?_)
    | (refine az_can rfl rfl rfl rfl (ev_X5_change _ rfl rfl (by decide) _ _) ?_)
    | ((with_reducible apply az_ifeqT); rfl)
    | ((with_reducible apply az_ifeqF); rfl)
    | ((with_reducible apply az_ifneF); rfl)
    | ((with_reducible apply az_ifneT); rfl)
    | (refine az_bra rfl rfl rfl (fun _ => ?_) (fun _ => ?_)))
  all_goals simp [cg_warm]
def cg_moveToSlot (M : Nat → Nat → Int32) (l c : Int32) : Nat → Nat → Int32 := az_wr (az_wr M 19 40 l 1) 21 40 l c
theorem ec_moveToSlot (d : Nat) (l c : Int32) : az_EX (d + 2) m_X2_moveToSlot [.ref 17, .int l, .int c] (az_hp M) none (az_hp (cg_moveToSlot M l c)) := by
  refine az_EX.of (az_in0 (code := k_X2_moveToSlot) (ls := [some (.ref 17), some (.int l), some (.int c)]) rfl rfl rfl ?_)
  repeat' (first
    | (refine az_ret rfl rfl rfl rfl ?_)
    | (refine az_sgp rfl rfl rfl rfl ?_)
    | (refine az_cav rfl rfl rfl rfl (ev_X5_change _ rfl rfl (by decide) _ _) ?_)
    | (refine az_can rfl rfl rfl rfl (ev_X5_change _ rfl rfl (by decide) _ _) ?_)
    | ((with_reducible apply az_ifeqT); rfl)
    | ((with_reducible apply az_ifeqF); rfl)
    | ((with_reducible apply az_ifneF); rfl)
    | ((with_reducible apply az_ifneT); rfl)
    | (refine az_bra rfl rfl rfl (fun _ => ?_) (fun _ => ?_)))
  all_goals simp [cg_moveToSlot]
theorem ec_moveToBag (d : Nat) (l : Int32) : az_EX (d + 2) m_X2_moveToBag [.ref 17, .int l] (az_hp M) none (az_hp (az_wr M 19 40 l 2)) := by
  refine az_EX.of (az_in0 (code := k_X2_moveToBag) (ls := [some (.ref 17), some (.int l)]) rfl rfl rfl ?_)
  repeat' (first
    | (refine az_ret rfl rfl rfl rfl ?_)
    | (refine az_sgp rfl rfl rfl rfl ?_)
    | (refine az_cav rfl rfl rfl rfl (ev_X5_change _ rfl rfl (by decide) _ _) ?_)
    | (refine az_can rfl rfl rfl rfl (ev_X5_change _ rfl rfl (by decide) _ _) ?_)
    | ((with_reducible apply az_ifeqT); rfl)
    | ((with_reducible apply az_ifeqF); rfl)
    | ((with_reducible apply az_ifneF); rfl)
    | ((with_reducible apply az_ifneT); rfl)
    | (refine az_bra rfl rfl rfl (fun _ => ?_) (fun _ => ?_)))
  all_goals simp
def cg_forget (M : Nat → Nat → Int32) (l : Int32) : Nat → Nat → Int32 := az_wr (az_wr M 19 40 l 0) 23 40 l 0
theorem ec_forget (d : Nat) (l : Int32) : az_EX (d + 2) m_X2_forget [.ref 17, .int l] (az_hp M) none (az_hp (cg_forget M l)) := by
  refine az_EX.of (az_in0 (code := k_X2_forget) (ls := [some (.ref 17), some (.int l)]) rfl rfl rfl ?_)
  repeat' (first
    | (refine az_ret rfl rfl rfl rfl ?_)
    | (refine az_sgp rfl rfl rfl rfl ?_)
    | (refine az_cav rfl rfl rfl rfl (ev_X5_change _ rfl rfl (by decide) _ _) ?_)
    | (refine az_can rfl rfl rfl rfl (ev_X5_change _ rfl rfl (by decide) _ _) ?_)
    | ((with_reducible apply az_ifeqT); rfl)
    | ((with_reducible apply az_ifeqF); rfl)
    | ((with_reducible apply az_ifneF); rfl)
    | ((with_reducible apply az_ifneT); rfl)
    | (refine az_bra rfl rfl rfl (fun _ => ?_) (fun _ => ?_)))
  all_goals simp [cg_forget]
theorem ec_hasZone (d : Nat) (z : Int32) : az_E2 (¬ z < 0 ∧ ¬ M 2 0 ≤ z) (d + 1) m_X4_hasZone [.ref 2, .int z] (az_hp M) (some (.int 1)) (az_hp M) (some (.int 0)) (az_hp M) := by
  refine ⟨fun hc => ?_, fun hc => ?_⟩ <;> refine az_EX.of (az_in0 (code := k_X4_hasZone) (ls := [some (.ref 2), some (.int z)]) rfl rfl rfl ?_)
  · repeat' (first
    | (refine az_ret rfl rfl rfl rfl ?_)
    | (refine az_sgp rfl rfl rfl rfl ?_)
    | ((with_reducible apply az_ifeqT); rfl)
    | ((with_reducible apply az_ifeqF); rfl)
    | ((with_reducible apply az_ifneF); rfl)
    | ((with_reducible apply az_ifneT); rfl)
    | (refine az_bra rfl rfl rfl (fun _ => ?_) (fun _ => ?_)))
    all_goals (first | (exact absurd (by assumption) hc.1) | (exact absurd (by assumption) hc.2) | simp)
  · repeat' (first
    | (refine az_ret rfl rfl rfl rfl ?_)
    | (refine az_sgp rfl rfl rfl rfl ?_)
    | ((with_reducible apply az_ifeqT); rfl)
    | ((with_reducible apply az_ifeqF); rfl)
    | ((with_reducible apply az_ifneF); rfl)
    | ((with_reducible apply az_ifneT); rfl)
    | (refine az_bra rfl rfl rfl (fun _ => ?_) (fun _ => ?_)))
    all_goals (first | (exact absurd ⟨by assumption, by assumption⟩ hc) | simp)
theorem ec_hasSlot (d : Nat) (z : Int32) : az_E2 (¬ z < 0 ∧ ¬ M 2 1 ≤ z) (d + 1) m_X4_hasSlot [.ref 2, .int z] (az_hp M) (some (.int 1)) (az_hp M) (some (.int 0)) (az_hp M) := by
  refine ⟨fun hc => ?_, fun hc => ?_⟩ <;> refine az_EX.of (az_in0 (code := k_X4_hasSlot) (ls := [some (.ref 2), some (.int z)]) rfl rfl rfl ?_)
  · repeat' (first
    | (refine az_ret rfl rfl rfl rfl ?_)
    | (refine az_sgp rfl rfl rfl rfl ?_)
    | ((with_reducible apply az_ifeqT); rfl)
    | ((with_reducible apply az_ifeqF); rfl)
    | ((with_reducible apply az_ifneF); rfl)
    | ((with_reducible apply az_ifneT); rfl)
    | (refine az_bra rfl rfl rfl (fun _ => ?_) (fun _ => ?_)))
    all_goals (first | (exact absurd (by assumption) hc.1) | (exact absurd (by assumption) hc.2) | simp)
  · repeat' (first
    | (refine az_ret rfl rfl rfl rfl ?_)
    | (refine az_sgp rfl rfl rfl rfl ?_)
    | ((with_reducible apply az_ifeqT); rfl)
    | ((with_reducible apply az_ifeqF); rfl)
    | ((with_reducible apply az_ifneF); rfl)
    | ((with_reducible apply az_ifneT); rfl)
    | (refine az_bra rfl rfl rfl (fun _ => ?_) (fun _ => ?_)))
    all_goals (first | (exact absurd ⟨by assumption, by assumption⟩ hc) | simp)
theorem ec_cellAt (d : Nat) (z q : Int32) : az_EX (d + 1) m_X4_cellAt [.ref 2, .int z, .int q] (az_hp M) (some (.int (z * 12 + q))) (az_hp M) := by
  refine az_EX.of (az_in0 (code := k_X4_cellAt) (ls := [some (.ref 2), some (.int z), some (.int q)]) rfl rfl rfl ?_)
  repeat' (first
    | (refine az_ret rfl rfl rfl rfl ?_)
    | (refine az_sgp rfl rfl rfl rfl ?_)
    | ((with_reducible apply az_ifeqT); rfl)
    | ((with_reducible apply az_ifeqF); rfl)
    | ((with_reducible apply az_ifneF); rfl)
    | ((with_reducible apply az_ifneT); rfl)
    | (refine az_bra rfl rfl rfl (fun _ => ?_) (fun _ => ?_)))
  all_goals simp
theorem ec_zoneBehind (d : Nat) (z : Int32) : az_E2 (M 2 0 ≤ z + 1) (d + 1) m_X4_zoneBehind [.ref 2, .int z] (az_hp M) (some (.int 0)) (az_hp M) (some (.int (z + 1))) (az_hp M) := by
  refine ⟨fun hc => ?_, fun hc => ?_⟩ <;> refine az_EX.of (az_in0 (code := k_X4_zoneBehind) (ls := [some (.ref 2), some (.int z)]) rfl rfl rfl ?_)
  · repeat' (first
    | (refine az_ret rfl rfl rfl rfl ?_)
    | (refine az_sgp rfl rfl rfl rfl ?_)
    | ((with_reducible apply az_ifeqT); rfl)
    | ((with_reducible apply az_ifeqF); rfl)
    | ((with_reducible apply az_ifneF); rfl)
    | ((with_reducible apply az_ifneT); rfl)
    | (refine az_bra rfl rfl rfl (fun _ => ?_) (fun _ => ?_)))
    all_goals (first | contradiction | simp)
  · repeat' (first
    | (refine az_ret rfl rfl rfl rfl ?_)
    | (refine az_sgp rfl rfl rfl rfl ?_)
    | ((with_reducible apply az_ifeqT); rfl)
    | ((with_reducible apply az_ifeqF); rfl)
    | ((with_reducible apply az_ifneF); rfl)
    | ((with_reducible apply az_ifneT); rfl)
    | (refine az_bra rfl rfl rfl (fun _ => ?_) (fun _ => ?_)))
    all_goals (first | contradiction | simp)
theorem ec_stepsBetween (d : Nat) (f t : Int32) : az_E2 (t < f) (d + 1) m_X4_stepsBetween [.ref 2, .int f, .int t] (az_hp M) (some (.int (t - f + M 2 0))) (az_hp M) (some (.int (t - f))) (az_hp M) := by
  refine ⟨fun hc => ?_, fun hc => ?_⟩ <;> refine az_EX.of (az_in0 (code := k_X4_stepsBetween) (ls := [some (.ref 2), some (.int f), some (.int t)]) rfl rfl rfl ?_)
  · repeat' (first
    | (refine az_ret rfl rfl rfl rfl ?_)
    | (refine az_sgp rfl rfl rfl rfl ?_)
    | ((with_reducible apply az_ifeqT); rfl)
    | ((with_reducible apply az_ifeqF); rfl)
    | ((with_reducible apply az_ifneF); rfl)
    | ((with_reducible apply az_ifneT); rfl)
    | (refine az_bra rfl rfl rfl (fun _ => ?_) (fun _ => ?_)))
    all_goals (first | contradiction | simp)
  · repeat' (first
    | (refine az_ret rfl rfl rfl rfl ?_)
    | (refine az_sgp rfl rfl rfl rfl ?_)
    | ((with_reducible apply az_ifeqT); rfl)
    | ((with_reducible apply az_ifeqF); rfl)
    | ((with_reducible apply az_ifneF); rfl)
    | ((with_reducible apply az_ifneT); rfl)
    | (refine az_bra rfl rfl rfl (fun _ => ?_) (fun _ => ?_)))
    all_goals (first | contradiction | simp)
theorem ec_freeIn (d : Nat) (z : Int32) : az_EX (d + 2) m_X4_freeIn [.ref 2, .int z] (az_hp M) (some (.int (M 2 1 - az_rd (M 4) 8 z))) (az_hp M) := by
  refine az_EX.of (az_in0 (code := k_X4_freeIn) (ls := [some (.ref 2), some (.int z)]) rfl rfl rfl ?_)
  repeat' (first
    | (refine az_ret rfl rfl rfl rfl ?_)
    | (refine az_sgp rfl rfl rfl rfl ?_)
    | (refine az_cav rfl rfl rfl rfl (ev_X5_at _ rfl rfl (by decide) _) ?_)
    | (refine az_can rfl rfl rfl rfl (ev_X5_at _ rfl rfl (by decide) _) ?_)
    | ((with_reducible apply az_ifeqT); rfl)
    | ((with_reducible apply az_ifeqF); rfl)
    | ((with_reducible apply az_ifneF); rfl)
    | ((with_reducible apply az_ifneT); rfl)
    | (refine az_bra rfl rfl rfl (fun _ => ?_) (fun _ => ?_)))
  all_goals simp
abbrev cg_adm (M : Nat → Nat → Int32) (z hot : Int32) : Prop := az_rd (M 8) 8 z = 0 ∧ (az_rd (M 6) 8 z = 0 ∨ (if az_rd (M 6) 8 z = 1 then (1 : Int32) else 0) = hot)
theorem ec_admits (d : Nat) (z hot : Int32) : az_E2 (cg_adm M z hot) (d + 2) m_X4_admits [.ref 2, .int z, .int hot] (az_hp M) (some (.int 1)) (az_hp M) (some (.int 0)) (az_hp M) := by
  refine ⟨fun hc => ?_, fun hc => ?_⟩ <;> refine az_EX.of (az_in0 (code := k_X4_admits) (ls := [some (.ref 2), some (.int z), some (.int hot), none]) rfl rfl rfl ?_)
  · repeat' (first
    | (refine az_ret rfl rfl rfl rfl ?_)
    | (refine az_sgp rfl rfl rfl rfl ?_)
    | (refine az_cav rfl rfl rfl rfl (ev_X5_at _ rfl rfl (by decide) _) ?_)
    | (refine az_can rfl rfl rfl rfl (ev_X5_at _ rfl rfl (by decide) _) ?_)
    | (refine az_cav rfl rfl rfl rfl (ev_X5_isSet _ rfl rfl (by decide) _) ?_)
    | (refine az_can rfl rfl rfl rfl (ev_X5_isSet _ rfl rfl (by decide) _) ?_)
    | ((with_reducible apply az_ifeqT); rfl)
    | ((with_reducible apply az_ifeqF); rfl)
    | ((with_reducible apply az_ifneF); rfl)
    | ((with_reducible apply az_ifneT); rfl)
    | (refine az_bra rfl rfl rfl (fun _ => ?_) (fun _ => ?_)))
    all_goals (simp_all [cg_adm])
  · repeat' (first
    | (refine az_ret rfl rfl rfl rfl ?_)
    | (refine az_sgp rfl rfl rfl rfl ?_)
    | (refine az_cav rfl rfl rfl rfl (ev_X5_at _ rfl rfl (by decide) _) ?_)
    | (refine az_can rfl rfl rfl rfl (ev_X5_at _ rfl rfl (by decide) _) ?_)
    | (refine az_cav rfl rfl rfl rfl (ev_X5_isSet _ rfl rfl (by decide) _) ?_)
    | (refine az_can rfl rfl rfl rfl (ev_X5_isSet _ rfl rfl (by decide) _) ?_)
    | ((with_reducible apply az_ifeqT); rfl)
    | ((with_reducible apply az_ifeqF); rfl)
    | ((with_reducible apply az_ifneF); rfl)
    | ((with_reducible apply az_ifneT); rfl)
    | (refine az_bra rfl rfl rfl (fun _ => ?_) (fun _ => ?_)))
    all_goals (simp_all [cg_adm])
def cg_app1 (M : Nat → Nat → Int32) (z l : Int32) : Nat → Nat → Int32 := az_wr (az_up (az_wr (az_wr M 14 96 (z * 12 + az_rd (M 4) 8 z) l) 16 96 (z * 12 + az_rd (M 4) 8 z) (M 2 2)) 2 2 (M 2 2 + 1)) 4 8 z (az_rd (M 4) 8 z + 1)
def cg_append (M : Nat → Nat → Int32) (z l : Int32) : Nat → Nat → Int32 := if az_rd (M 4) 8 z + 1 < M 2 1 then cg_app1 M z l else az_wr (cg_app1 M z l) 8 8 z 1
theorem ec_append (d : Nat) (z l : Int32) : az_EX (d + 2) m_X4_append [.ref 2, .int z, .int l] (az_hp M) (some (.int (az_rd (M 4) 8 z))) (az_hp (cg_append M z l)) := by
  refine az_EX.of (az_in0 (code := k_X4_append) (ls := [some (.ref 2), some (.int z), some (.int l), none]) rfl rfl rfl ?_)
  repeat' (first
    | (refine az_ret rfl rfl rfl rfl ?_)
    | (refine az_sgp rfl rfl rfl rfl ?_)
    | (refine az_cav rfl rfl rfl rfl (ev_X5_at _ rfl rfl (by decide) _) ?_)
    | (refine az_can rfl rfl rfl rfl (ev_X5_at _ rfl rfl (by decide) _) ?_)
    | (refine az_cav rfl rfl rfl rfl (ev_X5_change _ rfl rfl (by decide) _ _) ?_)
    | (refine az_can rfl rfl rfl rfl (ev_X5_change _ rfl rfl (by decide) _ _) ?_)
    | (refine az_cav rfl rfl rfl rfl (ec_cellAt ..) ?_)
    | (refine az_can rfl rfl rfl rfl (ec_cellAt ..) ?_)
    | ((with_reducible apply az_ifeqT); rfl)
    | ((with_reducible apply az_ifeqF); rfl)
    | ((with_reducible apply az_ifneF); rfl)
    | ((with_reducible apply az_ifneT); rfl)
    | (refine az_bra rfl rfl rfl (fun _ => ?_) (fun _ => ?_)))
  all_goals (simp_all [cg_append, cg_app1, az_wr_row, az_up_row, az_up_self])
  all_goals (intro hq; exact absurd hq (Int32.not_lt.mpr (by assumption)))
def cg_clear (M : Nat → Nat → Int32) (z : Int32) : Nat → Nat → Int32 := az_up (az_wr (az_wr (az_wr M 4 8 z 0) 8 8 z 0) 12 8 z (az_rd (M 12) 8 z + 1)) 2 3 (M 2 3 + 1)
theorem ec_clear (d : Nat) (z : Int32) : az_EX (d + 2) m_X4_clear [.ref 2, .int z] (az_hp M) none (az_hp (cg_clear M z)) := by
  refine az_EX.of (az_in0 (code := k_X4_clear) (ls := [some (.ref 2), some (.int z)]) rfl rfl rfl ?_)
  repeat' (first
    | (refine az_ret rfl rfl rfl rfl ?_)
    | (refine az_sgp rfl rfl rfl rfl ?_)
    | (refine az_cav rfl rfl rfl rfl (ev_X5_at _ rfl rfl (by decide) _) ?_)
    | (refine az_can rfl rfl rfl rfl (ev_X5_at _ rfl rfl (by decide) _) ?_)
    | (refine az_cav rfl rfl rfl rfl (ev_X5_change _ rfl rfl (by decide) _ _) ?_)
    | (refine az_can rfl rfl rfl rfl (ev_X5_change _ rfl rfl (by decide) _ _) ?_)
    | ((with_reducible apply az_ifeqT); rfl)
    | ((with_reducible apply az_ifeqF); rfl)
    | ((with_reducible apply az_ifneF); rfl)
    | ((with_reducible apply az_ifneT); rfl)
    | (refine az_bra rfl rfl rfl (fun _ => ?_) (fun _ => ?_)))
  all_goals (simp [cg_clear, az_wr_row, az_up_row])
def cg_build (M : Nat → Nat → Int32) (z q : Int32) : Nat → Nat → Int32 := az_fl (az_wr (az_fl (az_fl (az_fl (az_fl (az_up (az_up M 2 0 z) 2 1 q) 4 8 0) 6 8 0) 8 8 0) 10 8 0) 10 8 0 1) 12 8 0
theorem ec_build (d : Nat) (z q : Int32) : az_EX (d + 2) m_X4_build [.ref 2, .int z, .int q] (az_hp M) none (az_hp (cg_build M z q)) := by
  refine az_EX.of (az_in0 (code := k_X4_build) (ls := [some (.ref 2), some (.int z), some (.int q)]) rfl rfl rfl ?_)
  repeat' (first
    | (refine az_ret rfl rfl rfl rfl ?_)
    | (refine az_sgp rfl rfl rfl rfl ?_)
    | (refine az_cav rfl rfl rfl rfl (ev_X5_change _ rfl rfl (by decide) _ _) ?_)
    | (refine az_can rfl rfl rfl rfl (ev_X5_change _ rfl rfl (by decide) _ _) ?_)
    | (refine az_cav rfl rfl rfl rfl (ev_X5_fill _ rfl rfl (by decide) _) ?_)
    | (refine az_can rfl rfl rfl rfl (ev_X5_fill _ rfl rfl (by decide) _) ?_)
    | ((with_reducible apply az_ifeqT); rfl)
    | ((with_reducible apply az_ifeqF); rfl)
    | ((with_reducible apply az_ifneF); rfl)
    | ((with_reducible apply az_ifneT); rfl)
    | (refine az_bra rfl rfl rfl (fun _ => ?_) (fun _ => ?_)))
  all_goals (simp [cg_build])
end LEAF2
