/-! CLASS: the text and its orders -/
section ORDS
variable {M : Nat → Nat → Int32}
theorem ec_olen (d : Nat) : az_EX (d + 1) m_X3_length [.ref 185] (az_hp M) (some (.int (M 185 1))) (az_hp M) := by
  refine az_EX.of (az_in0 (code := k_X3_length) (ls := [some (.ref 185)]) rfl rfl rfl ?_)
  refine az_sgp rfl rfl rfl rfl ?_
  refine az_ret rfl rfl rfl rfl ?_
  exact ⟨rfl, rfl⟩
theorem ec_osize (d : Nat) : az_EX (d + 1) m_X3_size [.ref 185] (az_hp M) (some (.int (M 185 4))) (az_hp M) := by
  refine az_EX.of (az_in0 (code := k_X3_size) (ls := [some (.ref 185)]) rfl rfl rfl ?_)
  refine az_sgp rfl rfl rfl rfl ?_
  refine az_ret rfl rfl rfl rfl ?_
  exact ⟨rfl, rfl⟩
theorem ec_letterOf (d : Nat) (i : Int32) : az_EX (d + 2) m_X3_letterOf [.ref 185, .int i] (az_hp M) (some (.int (az_rd (M 189) 30 i))) (az_hp M) := by
  refine az_EX.of (az_in0 (code := k_X3_letterOf) (ls := [some (.ref 185), some (.int i)]) rfl rfl rfl ?_)
  refine az_sgp rfl rfl rfl rfl ?_
  refine az_cav rfl rfl rfl rfl (ev_X5_at _ rfl rfl (by decide) _) ?_
  refine az_ret rfl rfl rfl rfl ?_
  exact ⟨rfl, rfl⟩
theorem ec_numberOf (d : Nat) (i : Int32) : az_EX (d + 2) m_X3_numberOf [.ref 185, .int i] (az_hp M) (some (.int (az_rd (M 191) 30 i))) (az_hp M) := by
  refine az_EX.of (az_in0 (code := k_X3_numberOf) (ls := [some (.ref 185), some (.int i)]) rfl rfl rfl ?_)
  refine az_sgp rfl rfl rfl rfl ?_
  refine az_cav rfl rfl rfl rfl (ev_X5_at _ rfl rfl (by decide) _) ?_
  refine az_ret rfl rfl rfl rfl ?_
  exact ⟨rfl, rfl⟩
theorem ec_oempty (d : Nat) : az_EX (d + 1) m_X3_empty [.ref 185] (az_hp M) (some (.int (M 185 1))) (az_hp (az_up M 185 1 0)) := by
  refine az_EX.of (az_in0 (code := k_X3_empty) (ls := [some (.ref 185), none]) rfl rfl rfl ?_)
  refine az_sgp rfl rfl rfl rfl ?_
  refine az_ret rfl rfl rfl rfl ?_
  exact ⟨rfl, rfl⟩
theorem ec_oappFull (d : Nat) (x : Int32) (h : ¬ M 185 1 < 60) : az_EX (d + 2) m_X3_append [.ref 185, .int x] (az_hp M) (some (.int (-3))) (az_hp M) := by
  refine az_EX.of (az_in0 (code := k_X3_append) (ls := [some (.ref 185), some (.int x)]) rfl rfl rfl ?_)
  refine az_sgp rfl rfl rfl rfl ?_
  refine az_bra rfl rfl rfl (fun q => absurd q h) (fun _ => ?_)
  refine az_sgp rfl rfl rfl rfl ?_
  refine az_ret rfl rfl rfl rfl ?_
  exact ⟨rfl, rfl⟩
theorem ec_oapp (d : Nat) (x : Int32) (h : M 185 1 < 60) : az_EX (d + 2) m_X3_append [.ref 185, .int x] (az_hp M) (some (.int (M 185 1 + 1))) (az_hp (az_up (az_wr M 187 60 (M 185 1) x) 185 1 (M 185 1 + 1))) := by
  refine az_EX.of (az_in0 (code := k_X3_append) (ls := [some (.ref 185), some (.int x)]) rfl rfl rfl ?_)
  refine az_sgp rfl rfl rfl rfl ?_
  refine az_bra rfl rfl rfl (fun _ => ?_) (fun q => absurd h q)
  refine az_sgp rfl rfl rfl rfl ?_
  refine az_can rfl rfl rfl rfl (ev_X5_change _ rfl rfl (by decide) _ _) ?_
  refine az_sgp rfl rfl rfl rfl ?_
  refine az_ret rfl rfl rfl rfl ?_
  have e : az_wr M 187 60 (M 185 1) x 185 = M 185 := az_wr_row (by decide)
  refine ⟨?_, ?_⟩
  · rw [az_up_same, e]
  · rw [e]
theorem ec_isDigit (d : Nat) (x : Int32) : az_EX (d + 1) m_X3_isDigit [.int x] (az_hp M) (some (.int (if ¬ x < 48 ∧ ¬ 57 < x then 1 else 0))) (az_hp M) := by
  refine az_EX.of (az_in0 (code := k_X3_isDigit) (ls := [some (.int x)]) rfl rfl rfl ?_)
  refine az_sgp rfl rfl rfl rfl ?_
  refine az_bra rfl rfl rfl (fun a => ?_) (fun a => ?_)
  · refine az_sgp rfl rfl rfl rfl ?_
    refine az_ret rfl rfl rfl rfl ?_
    rw [if_neg (fun z => z.1 a)]; exact ⟨rfl, rfl⟩
  · refine az_sgp rfl rfl rfl rfl ?_
    refine az_bra rfl rfl rfl (fun b => ?_) (fun b => ?_)
    · refine az_sgp rfl rfl rfl rfl ?_
      refine az_ret rfl rfl rfl rfl ?_
      rw [if_neg (fun z => z.2 b)]; exact ⟨rfl, rfl⟩
    · refine az_sgp rfl rfl rfl rfl ?_
      refine az_ret rfl rfl rfl rfl ?_
      rw [if_pos ⟨a, b⟩]; exact ⟨rfl, rfl⟩
def cg_dg (M : az_Mem) (x : Int32) : Int32 := az_rd (M 191) 30 (M 185 4 - 1) * 10 + (x - 48)
theorem ec_readDigit (d : Nat) (x : Int32) : az_EX (d + 2) m_X3_readDigit [.ref 185, .int x] (az_hp M) (some (.int (cg_dg M x))) (az_hp (az_wr M 191 30 (M 185 4 - 1) (cg_dg M x))) := by
  refine az_EX.of (az_in0 (code := k_X3_readDigit) (ls := [some (.ref 185), some (.int x), none]) rfl rfl rfl ?_)
  refine az_sgp rfl rfl rfl rfl ?_
  refine az_cav rfl rfl rfl rfl (ev_X5_at _ rfl rfl (by decide) _) ?_
  refine az_sgp rfl rfl rfl rfl ?_
  refine az_can rfl rfl rfl rfl (ev_X5_change _ rfl rfl (by decide) _ _) ?_
  refine az_sgp rfl rfl rfl rfl ?_
  refine az_ret rfl rfl rfl rfl ?_
  exact ⟨rfl, rfl⟩
end ORDS
