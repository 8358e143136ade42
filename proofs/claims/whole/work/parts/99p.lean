/-! REFERENCE: what stood before an act is kept, and comes back -/
section REFH
variable {M W : az_Mem}
theorem ex_aside (d : Nat) : az_EX (d + 1) m_X9_aside [.ref 192] (az_hp M) none (az_hp (az_cp (az_up M 192 0 0) 194 193 411)) := by
  have K : ∀ (m i : Nat), i + m = 411 → az_RUN d k_X9_aside 7 [some (.ref 192), some (.int (nI i))] [] (az_hp (az_cp (az_up M 192 0 0) 194 193 i)) (fun r1 h1 => r1 = none ∧ h1 = az_hp (az_cp (az_up M 192 0 0) 194 193 411)) := by
    intro m
    induction m with
    | zero =>
      intro i hs
      have ei : i = 411 := (by omega)
      subst ei
      refine az_sgp rfl rfl rfl rfl ?_
      refine az_bra rfl rfl rfl (fun q => ?_) (fun q => ?_)
      · refine az_ret rfl rfl rfl rfl ?_
        exact ⟨rfl, rfl⟩
      · exact absurd (nI_le (a := 411) (b := 411) (by omega) (by omega)) q
    | succ m ih =>
      intro i hs
      refine az_sgp rfl rfl rfl rfl ?_
      refine az_bra rfl rfl rfl (fun q => ?_) (fun q => ?_)
      · exact absurd q (nI_ge (a := i) (b := 411) (by omega) (by omega))
      refine az_sgp rfl rfl rfl rfl ?_
      refine az_ald rfl rfl (k := i) rfl (by omega) (by decide) rfl ?_
      refine az_ast rfl rfl (k := i) rfl (by omega) (by decide) ?_
      refine az_sg 2 rfl ?_
      rw [nI_1, az_cpS]
      exact ih (i + 1) (by omega)
  refine az_EX.of (az_in0 (code := k_X9_aside) (ls := [some (.ref 192), none]) rfl rfl rfl ?_)
  refine az_sg 5 rfl ?_
  have k := K 411 0 (by omega)
  rw [az_cp0] at k
  exact k
def rg_s4 (M : az_Mem) (k : Nat) : az_Mem := fun c j => if c = 196 ∧ j < k then M 196 (j + 411) else M c j
def rg_c4 (M : az_Mem) (n k : Nat) : az_Mem := fun c j => if c = 196 ∧ 411 * n ≤ j ∧ j < 411 * n + k then M 194 (j - 411 * n) else M c j
theorem rg_s4S (M : az_Mem) (k : Nat) : az_up (rg_s4 M k) 196 k (rg_s4 M k 196 (k + 411)) = rg_s4 M (k + 1) := by
  funext c j
  simp only [az_up, rg_s4]
  by_cases h1 : c = 196
  · subst h1
    by_cases h2 : j = k
    · subst h2
      rw [if_pos ⟨rfl, rfl⟩, if_neg (by omega), if_pos ⟨rfl, by omega⟩]
    · rw [if_neg (by omega)]
      by_cases h3 : j < k
      · rw [if_pos ⟨rfl, h3⟩, if_pos ⟨rfl, by omega⟩]
      · rw [if_neg (by omega), if_neg (by omega)]
  · rw [if_neg (by omega), if_neg (by omega), if_neg (by omega)]
theorem rg_c4S (M : az_Mem) (n k : Nat) : az_up (rg_c4 M n k) 196 (411 * n + k) (rg_c4 M n k 194 k) = rg_c4 M n (k + 1) := by
  funext c j
  simp only [az_up, rg_c4]
  by_cases h1 : c = 196
  · subst h1
    by_cases h2 : j = 411 * n + k
    · subst h2
      rw [if_pos ⟨rfl, rfl⟩, if_neg (by omega), if_pos ⟨rfl, by omega, by omega⟩, Nat.add_sub_cancel_left]
    · rw [if_neg (by omega)]
      by_cases h3 : 411 * n ≤ j ∧ j < 411 * n + k
      · rw [if_pos ⟨rfl, h3⟩, if_pos ⟨rfl, by omega, by omega⟩]
      · rw [if_neg (by omega), if_neg (by omega)]
  · rw [if_neg (by omega), if_neg (by omega), if_neg (by omega)]
theorem ex_actedN (d : Nat) {a : Int32} (h : a < 0) : az_EX (d + 1) m_X9_acted [.ref 192, .int a] (az_hp M) (some (.int a)) (az_hp (az_cp M 193 194 411)) := by
  have K : ∀ (m i : Nat), i + m = 411 → az_RUN d k_X9_acted 6 [some (.ref 192), some (.int a), some (.int (nI i))] [] (az_hp (az_cp M 193 194 i)) (fun r1 h1 => r1 = some (.int a) ∧ h1 = az_hp (az_cp M 193 194 411)) := by
    intro m
    induction m with
    | zero =>
      intro i hs
      have ei : i = 411 := (by omega)
      subst ei
      refine az_sgp rfl rfl rfl rfl ?_
      refine az_bra rfl rfl rfl (fun q => ?_) (fun q => ?_)
      · refine az_sgp rfl rfl rfl rfl ?_
        refine az_ret rfl rfl rfl rfl ?_
        exact ⟨rfl, rfl⟩
      · exact absurd (nI_le (a := 411) (b := 411) (by omega) (by omega)) q
    | succ m ih =>
      intro i hs
      refine az_sgp rfl rfl rfl rfl ?_
      refine az_bra rfl rfl rfl (fun q => ?_) (fun q => ?_)
      · exact absurd q (nI_ge (a := i) (b := 411) (by omega) (by omega))
      refine az_sgp rfl rfl rfl rfl ?_
      refine az_ald rfl rfl (k := i) rfl (by omega) (by decide) rfl ?_
      refine az_ast rfl rfl (k := i) rfl (by omega) (by decide) ?_
      refine az_sg 2 rfl ?_
      rw [nI_1, az_cpS]
      exact ih (i + 1) (by omega)
  refine az_EX.of (az_in0 (code := k_X9_acted) (ls := [some (.ref 192), some (.int a), none]) rfl rfl rfl ?_)
  refine az_sgp rfl rfl rfl rfl ?_
  refine az_bra rfl rfl rfl (fun q => ?_) (fun q => ?_)
  · exact absurd q (Int32.not_le.mpr h)
  refine az_sg 2 rfl ?_
  have k := K 411 0 (by omega)
  rw [az_cp0] at k
  exact k
/-- the act is kept: n rows stand, and room is for one more -/
theorem ex_actedK (d : Nat) (a : Int32) {n : Nat} (hn : M 192 6 = nI n) (h3 : n ≤ 3) : az_RUN d k_X9_acted 82 [some (.ref 192), some (.int a), some (.int 1233)] [] (az_hp M) (fun r1 h1 => r1 = some (.int a) ∧ h1 = az_hp (az_up (rg_c4 M n 411) 192 6 (nI (n + 1)))) ∧ az_RUN d k_X9_acted 82 [some (.ref 192), some (.int a), none] [] (az_hp M) (fun r1 h1 => r1 = some (.int a) ∧ h1 = az_hp (az_up (rg_c4 M n 411) 192 6 (nI (n + 1)))) := by
  have hk : ∀ k, rg_c4 M n k 192 6 = nI n := by
    intro k
    simp only [rg_c4]
    rw [if_neg (by omega)]
    exact hn
  have K : ∀ (m i : Nat), i + m = 411 → az_RUN d k_X9_acted 84 [some (.ref 192), some (.int a), some (.int (nI i))] [] (az_hp (rg_c4 M n i)) (fun r1 h1 => r1 = some (.int a) ∧ h1 = az_hp (az_up (rg_c4 M n 411) 192 6 (nI (n + 1)))) := by
    intro m
    induction m with
    | zero =>
      intro i hs
      have ei : i = 411 := (by omega)
      subst ei
      refine az_sgp rfl rfl rfl rfl ?_
      refine az_bra rfl rfl rfl (fun q => ?_) (fun q => ?_)
      · refine az_sgp rfl rfl rfl rfl ?_
        refine az_ret rfl rfl rfl rfl ?_
        rw [hk, nI_1]
        exact ⟨rfl, rfl⟩
      · exact absurd (nI_le (a := 411) (b := 411) (by omega) (by omega)) q
    | succ m ih =>
      intro i hs
      refine az_sgp rfl rfl rfl rfl ?_
      refine az_bra rfl rfl rfl (fun q => ?_) (fun q => ?_)
      · exact absurd q (nI_ge (a := i) (b := 411) (by omega) (by omega))
      refine az_sgp rfl rfl rfl rfl ?_
      rw [hk]
      refine az_ald rfl rfl (k := i) rfl (by omega) (by decide) rfl ?_
      refine az_ast rfl rfl (k := 411 * n + i) (by show nI 411 * nI n + nI i = _; rw [nI_mul, nI_add]) (by omega) (by decide) ?_
      refine az_sg 2 rfl ?_
      rw [nI_1, rg_c4S]
      exact ih (i + 1) (by omega)
  have k := K 411 0 (by omega)
  have e0 : rg_c4 M n 0 = M := by
    funext c j
    simp only [rg_c4]
    rw [if_neg (by omega)]
  rw [e0] at k
  exact ⟨az_sg 2 rfl k, az_sg 2 rfl k⟩
theorem ex_acted3 (d : Nat) {a : Int32} (h : ¬ a < 0) {n : Nat} (hn : M 192 6 = nI n) (h3 : n ≤ 3) : az_EX (d + 1) m_X9_acted [.ref 192, .int a] (az_hp M) (some (.int a)) (az_hp (az_up (rg_c4 M n 411) 192 6 (nI (n + 1)))) := by
  refine az_EX.of (az_in0 (code := k_X9_acted) (ls := [some (.ref 192), some (.int a), none]) rfl rfl rfl ?_)
  refine az_sgp rfl rfl rfl rfl ?_
  refine az_bra rfl rfl rfl (fun q => ?_) (fun q => ?_)
  case refine_2 => exact absurd (Int32.not_lt.mp h) q
  refine az_sgp rfl rfl rfl rfl ?_
  rw [hn]
  refine az_bra rfl rfl rfl (fun q => ?_) (fun q => ?_)
  · have q : nI n = nI 4 := q
    rw [nI_eq (by omega) (by omega)] at q
    omega
  exact (ex_actedK d a hn h3).2
theorem ex_acted4 (d : Nat) {a : Int32} (h : ¬ a < 0) (hn : M 192 6 = nI 4) : az_EX (d + 1) m_X9_acted [.ref 192, .int a] (az_hp M) (some (.int a)) (az_hp (az_up (rg_c4 (az_up (rg_s4 M 1233) 192 6 (nI 3)) 3 411) 192 6 (nI 4))) := by
  have hk : ∀ k, rg_s4 M k 192 6 = nI 4 := by
    intro k
    simp only [rg_s4]
    rw [if_neg (by omega)]
    exact hn
  have K : ∀ (m i : Nat), i + m = 1233 → az_RUN d k_X9_acted 43 [some (.ref 192), some (.int a), some (.int (nI i))] [] (az_hp (rg_s4 M i)) (fun r1 h1 => r1 = some (.int a) ∧ h1 = az_hp (az_up (rg_c4 (az_up (rg_s4 M 1233) 192 6 (nI 3)) 3 411) 192 6 (nI 4))) := by
    intro m
    induction m with
    | zero =>
      intro i hs
      have ei : i = 1233 := (by omega)
      subst ei
      refine az_sgp rfl rfl rfl rfl ?_
      refine az_bra rfl rfl rfl (fun q => ?_) (fun q => ?_)
      · refine az_sg 6 rfl ?_
        rw [hk, show nI 4 - 1 = nI 3 from nI_pred 3]
        exact (ex_actedK d a (M := az_up (rg_s4 M 1233) 192 6 (nI 3)) (n := 3) rfl (by omega)).1
      · exact absurd (nI_le (a := 1233) (b := 1233) (by omega) (by omega)) q
    | succ m ih =>
      intro i hs
      refine az_sgp rfl rfl rfl rfl ?_
      refine az_bra rfl rfl rfl (fun q => ?_) (fun q => ?_)
      · exact absurd q (nI_ge (a := i) (b := 1233) (by omega) (by omega))
      refine az_sgp rfl rfl rfl rfl ?_
      refine az_ald rfl rfl (k := i + 411) (nI_add i 411) (by omega) (by decide) rfl ?_
      refine az_ast rfl rfl (k := i) rfl (by omega) (by decide) ?_
      refine az_sg 2 rfl ?_
      rw [nI_1, rg_s4S]
      exact ih (i + 1) (by omega)
  refine az_EX.of (az_in0 (code := k_X9_acted) (ls := [some (.ref 192), some (.int a), none]) rfl rfl rfl ?_)
  refine az_sgp rfl rfl rfl rfl ?_
  refine az_bra rfl rfl rfl (fun q => ?_) (fun q => ?_)
  case refine_2 => exact absurd (Int32.not_lt.mp h) q
  refine az_sgp rfl rfl rfl rfl ?_
  rw [hn]
  refine az_bra rfl rfl rfl (fun q => ?_) (fun q => absurd rfl q)
  refine az_sg 2 rfl ?_
  have k := K 1233 0 (by omega)
  have e0 : rg_s4 M 0 = M := by
    funext c j
    simp only [rg_s4]
    rw [if_neg (by omega)]
  rw [e0] at k
  exact k
end REFH
