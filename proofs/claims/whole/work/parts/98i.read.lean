/-! CLASS: the whole text is read -/
section RDO
variable {M : Nat → Nat → Int32}
def cg_rdo : Nat → Nat → Int32 → az_Mem → Int32 × az_Mem
  | 0, i, a, M => (if a = 0 ∨ a = 1 then nI i else -1, M)
  | m + 1, i, a, M => if (cg_rs M a (az_rd (M 187) 60 (nI i))).1 = 4 then (nI i, (cg_rs M a (az_rd (M 187) 60 (nI i))).2) else cg_rdo m (i + 1) (cg_rs M a (az_rd (M 187) 60 (nI i))).1 (cg_rs M a (az_rd (M 187) 60 (nI i))).2
theorem cg_rs_len (a x : Int32) : (cg_rs M a x).2 185 1 = M 185 1 := by
  unfold cg_rs
  split
  · show cg_rl M x 185 1 = M 185 1
    unfold cg_rl
    rw [az_up_self, if_neg (by decide), az_wr_row (by decide), az_wr_row (by decide)]
  · split
    · show az_wr M 191 30 (M 185 4 - 1) (cg_dg M x) 185 1 = M 185 1
      rw [az_wr_row (by decide)]
    · split
      · show az_wr M 191 30 (M 185 4 - 1) (cg_dg M x) 185 1 = M 185 1
        rw [az_wr_row (by decide)]
      · rfl
theorem ec_oread (d : Nat) {B : Nat} (hB : M 185 1 = nI B) (hB6 : B ≤ 60) : az_EX (d + 4) m_X3_read [.ref 185] (az_hp M) (some (.int (cg_rdo B 0 0 (az_up M 185 4 0)).1)) (az_hp (cg_rdo B 0 0 (az_up M 185 4 0)).2) := by
  refine az_EX.of (az_in0 (code := k_X3_read) (ls := [some (.ref 185), none, none]) rfl rfl rfl ?_)
  have K : ∀ (m i : Nat) (a : Int32) (N : az_Mem), N 185 1 = nI B → i + m = B → az_RUN (d + 3) k_X3_read 9 [some (.ref 185), some (.int a), some (.int (nI i))] [] (az_hp N) (fun r1 h1 => r1 = some (.int (cg_rdo m i a N).1) ∧ h1 = az_hp (cg_rdo m i a N).2) := by
    intro m
    induction m with
    | zero =>
      intro i a N hN hi
      have e : nI i = N 185 1 := by rw [hN]; exact congrArg nI (by omega)
      unfold cg_rdo
      refine az_sgp rfl rfl rfl rfl ?_
      refine az_bra rfl rfl rfl (fun _ => ?_) (fun q => absurd (show N 185 1 ≤ nI i by rw [e]; exact Int32.le_refl _) q)
      refine az_sgp rfl rfl rfl rfl ?_
      refine az_bra rfl rfl rfl (fun q => ?_) (fun q => ?_)
      · refine az_sgp rfl rfl rfl rfl ?_
        refine az_ret rfl rfl rfl rfl ?_
        rw [if_pos (Or.inl q), e]; exact ⟨rfl, rfl⟩
      · refine az_sgp rfl rfl rfl rfl ?_
        refine az_bra rfl rfl rfl (fun w => ?_) (fun w => ?_)
        · refine az_sgp rfl rfl rfl rfl ?_
          refine az_ret rfl rfl rfl rfl ?_
          rw [if_pos (Or.inr w), e]; exact ⟨rfl, rfl⟩
        · refine az_sgp rfl rfl rfl rfl ?_
          refine az_ret rfl rfl rfl rfl ?_
          rw [if_neg (fun z => z.elim q w)]; exact ⟨rfl, rfl⟩
    | succ m ih =>
      intro i a N hN hi
      refine az_sgp rfl rfl rfl rfl ?_
      refine az_bra rfl rfl rfl (fun q => absurd (show nI B ≤ nI i by rw [← hN]; exact q) (nI_ge (show i < B by omega) (by omega))) (fun _ => ?_)
      refine az_sgp rfl rfl rfl rfl ?_
      refine az_cav rfl rfl rfl rfl (ev_X5_at _ rfl rfl (by decide) _) ?_
      refine az_cav rfl rfl rfl rfl (ec_readSign d a _) ?_
      refine az_sgp rfl rfl rfl rfl ?_
      refine az_bra rfl rfl rfl (fun q => ?_) (fun q => ?_)
      · refine az_sgp rfl rfl rfl rfl ?_
        refine az_ret rfl rfl rfl rfl ?_
        unfold cg_rdo; rw [if_pos q]; exact ⟨rfl, rfl⟩
      · refine az_sg 2 rfl ?_
        rw [nI_1]
        have h3 := ih (i + 1) (cg_rs N a (az_rd (N 187) 60 (nI i))).1 (cg_rs N a (az_rd (N 187) 60 (nI i))).2 (by rw [cg_rs_len]; exact hN) (by omega)
        unfold cg_rdo; rw [if_neg q]; exact h3
  refine az_sg 7 rfl ?_
  exact K B 0 0 (az_up M 185 4 0) (by rw [az_up_self, if_neg (by decide)]; exact hB) (by omega)
end RDO
