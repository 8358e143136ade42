/-! CLASS: a sign is read, by what may stand there -/
section ORDS3
variable {M : Nat → Nat → Int32}
def cg_rs (M : az_Mem) (a x : Int32) : Int32 × az_Mem := if a = 0 then (cg_rlv x, cg_rl M x) else if a = 1 ∧ (¬ x < 48 ∧ ¬ 57 < x) then (if cg_dg M x = 0 then 3 else 2, az_wr M 191 30 (M 185 4 - 1) (cg_dg M x)) else if a = 2 ∧ (¬ x < 48 ∧ ¬ 57 < x) then (3, az_wr M 191 30 (M 185 4 - 1) (cg_dg M x)) else (if a ≠ 1 ∧ x = 59 then 0 else 4, M)
theorem az_ite10 {P : Prop} [Decidable P] : (if P then (1 : Int32) else 0) = 0 ↔ ¬ P := by
  by_cases h : P <;> simp [h]
theorem ec_readSign (d : Nat) (a x : Int32) : az_EX (d + 3) m_X3_readSign [.ref 185, .int a, .int x] (az_hp M) (some (.int (cg_rs M a x).1)) (az_hp (cg_rs M a x).2) := by
  refine az_EX.of (az_in0 (code := k_X3_readSign) (ls := [some (.ref 185), some (.int a), some (.int x)]) rfl rfl rfl ?_)
  have t56 : cg_rs M a x = (if a ≠ 1 ∧ x = 59 then 0 else 4, M) → az_RUN (d + 2) k_X3_readSign 56 [some (.ref 185), some (.int a), some (.int x)] [] (az_hp M) (fun r1 h1 => r1 = some (.int (cg_rs M a x).1) ∧ h1 = az_hp (cg_rs M a x).2) := by
    intro hg
    rw [hg]
    refine az_sgp rfl rfl rfl rfl ?_
    refine az_bra rfl rfl rfl (fun q => ?_) (fun q => ?_)
    · refine az_sgp rfl rfl rfl rfl ?_
      refine az_ret rfl rfl rfl rfl ?_
      rw [if_neg (fun z => z.1 q)]; exact ⟨rfl, rfl⟩
    · refine az_sgp rfl rfl rfl rfl ?_
      refine az_bra rfl rfl rfl (fun w => ?_) (fun w => ?_)
      · refine az_sgp rfl rfl rfl rfl ?_
        refine az_ret rfl rfl rfl rfl ?_
        rw [if_pos ⟨q, w⟩]; exact ⟨rfl, rfl⟩
      · refine az_sgp rfl rfl rfl rfl ?_
        refine az_ret rfl rfl rfl rfl ?_
        rw [if_neg (fun z => w z.2)]; exact ⟨rfl, rfl⟩
  have t36 : a ≠ 0 → ¬ (a = 1 ∧ (¬ x < 48 ∧ ¬ 57 < x)) → az_RUN (d + 2) k_X3_readSign 36 [some (.ref 185), some (.int a), some (.int x)] [] (az_hp M) (fun r1 h1 => r1 = some (.int (cg_rs M a x).1) ∧ h1 = az_hp (cg_rs M a x).2) := by
    intro h0 h1
    refine az_sgp rfl rfl rfl rfl ?_
    refine az_bra rfl rfl rfl (fun q => ?_) (fun q => ?_)
    · refine az_sgp rfl rfl rfl rfl ?_
      refine az_cav rfl rfl rfl rfl (ec_isDigit (d + 1) x) ?_
      refine az_bra rfl rfl rfl (fun w => ?_) (fun w => ?_)
      · have w := az_ite10.mp w
        exact t56 (by unfold cg_rs; rw [if_neg h0, if_neg h1, if_neg (fun z => w z.2)])
      · have w : ¬ x < 48 ∧ ¬ 57 < x := Classical.byContradiction (fun z => w (az_ite10.mpr z))
        refine az_sgp rfl rfl rfl rfl ?_
        refine az_cav rfl rfl rfl rfl (ec_readDigit d x) ?_
        refine az_sgp rfl rfl rfl rfl ?_
        refine az_ret rfl rfl rfl rfl ?_
        unfold cg_rs; rw [if_neg h0, if_neg h1, if_pos ⟨q, w⟩]; exact ⟨rfl, rfl⟩
    · exact t56 (by unfold cg_rs; rw [if_neg h0, if_neg h1, if_neg (fun z => q z.1)])
  refine az_sgp rfl rfl rfl rfl ?_
  refine az_bra rfl rfl rfl (fun q => ?_) (fun h0 => ?_)
  · refine az_sgp rfl rfl rfl rfl ?_
    refine az_cav rfl rfl rfl rfl (ec_readLetter d x) ?_
    refine az_ret rfl rfl rfl rfl ?_
    unfold cg_rs; rw [if_pos q]; exact ⟨rfl, rfl⟩
  · refine az_sgp rfl rfl rfl rfl ?_
    refine az_bra rfl rfl rfl (fun q => ?_) (fun q => ?_)
    · refine az_sgp rfl rfl rfl rfl ?_
      refine az_cav rfl rfl rfl rfl (ec_isDigit (d + 1) x) ?_
      refine az_bra rfl rfl rfl (fun w => ?_) (fun w => ?_)
      · exact t36 h0 (fun z => az_ite10.mp w z.2)
      · have w : ¬ x < 48 ∧ ¬ 57 < x := Classical.byContradiction (fun z => w (az_ite10.mpr z))
        refine az_sgp rfl rfl rfl rfl ?_
        refine az_cav rfl rfl rfl rfl (ec_readDigit d x) ?_
        unfold cg_rs; rw [if_neg h0, if_pos ⟨q, w⟩]
        refine az_bra rfl rfl rfl (fun v => ?_) (fun v => ?_)
        · refine az_sgp rfl rfl rfl rfl ?_
          refine az_ret rfl rfl rfl rfl ?_
          rw [if_pos v]; exact ⟨rfl, rfl⟩
        · refine az_sgp rfl rfl rfl rfl ?_
          refine az_ret rfl rfl rfl rfl ?_
          rw [if_neg v]; exact ⟨rfl, rfl⟩
    · exact t36 h0 (fun z => q z.1)
end ORDS3
