/-! CLASS: the public acts -/
section ACTS8
variable {M N : Nat → Nat → Int32}
def cg_stl (M : az_Mem) (a : Int32) (L : Nat) : az_Mem := if a < 0 then cg_cpW M 1 27 else cg_rem M L
theorem ec_settle (d : Nat) {a : Int32} {L : Nat} (hL : M 79 1 = nI L) (h4 : L < 4) : az_EX (d + 5) m_X8_settle [.ref 0, .int a] (az_hp M) (some (.int a)) (az_hp (cg_stl M a L)) := by
  refine az_EX.of (az_in0 (code := k_X8_settle) (ls := [some (.ref 0), some (.int a)]) rfl rfl rfl ?_)
  refine az_sgp rfl rfl rfl rfl ?_
  refine az_bra rfl rfl rfl (fun q => ?_) (fun q => ?_)
  · refine az_sgp rfl rfl rfl rfl ?_
    refine az_can rfl rfl rfl rfl (ec_remember d hL h4) ?_
    refine az_sgp rfl rfl rfl rfl ?_
    refine az_ret rfl rfl rfl rfl ?_
    unfold cg_stl; rw [if_neg (Int32.not_lt.mpr q)]; exact ⟨rfl, rfl⟩
  · refine az_sgp rfl rfl rfl rfl ?_
    refine az_can rfl rfl rfl rfl (ec_cpW_1_27 (d + 1)) ?_
    refine az_sgp rfl rfl rfl rfl ?_
    refine az_ret rfl rfl rfl rfl ?_
    unfold cg_stl; rw [if_pos (Int32.not_le.mp q)]; exact ⟨rfl, rfl⟩
theorem ec8_lay (d : Nat) {z q : Int32} {a : Int32} {L : Nat} (hc : az_EX (d + 6) m_X7_layZones [.ref 1, .int z, .int q] (az_hp (cg_cpW M 27 1)) (some (.int a)) (az_hp N)) (hL : N 79 1 = nI L) (h4 : L < 4) : az_EX (d + 7) m_X8_lay [.ref 0, .int z, .int q] (az_hp M) (some (.int a)) (az_hp (cg_stl N a L)) := by
  refine az_EX.of (az_in0 (code := k_X8_lay) (ls := [some (.ref 0), some (.int z), some (.int q)]) rfl rfl rfl ?_)
  refine az_sgp rfl rfl rfl rfl ?_
  refine az_can rfl rfl rfl rfl (ec_cpW_27_1 (d + 3)) ?_
  refine az_sgp rfl rfl rfl rfl ?_
  refine az_cav rfl rfl rfl rfl hc ?_
  refine az_cav rfl rfl rfl rfl (ec_settle (d + 1) hL h4) ?_
  refine az_ret rfl rfl rfl rfl ?_
  exact ⟨rfl, rfl⟩
theorem ec8_setKind (d : Nat) {z q : Int32} {a : Int32} {L : Nat} (hc : az_EX (d + 6) m_X7_changeKind [.ref 1, .int z, .int q] (az_hp (cg_cpW M 27 1)) (some (.int a)) (az_hp N)) (hL : N 79 1 = nI L) (h4 : L < 4) : az_EX (d + 7) m_X8_setKind [.ref 0, .int z, .int q] (az_hp M) (some (.int a)) (az_hp (cg_stl N a L)) := by
  refine az_EX.of (az_in0 (code := k_X8_setKind) (ls := [some (.ref 0), some (.int z), some (.int q)]) rfl rfl rfl ?_)
  refine az_sgp rfl rfl rfl rfl ?_
  refine az_can rfl rfl rfl rfl (ec_cpW_27_1 (d + 3)) ?_
  refine az_sgp rfl rfl rfl rfl ?_
  refine az_cav rfl rfl rfl rfl hc ?_
  refine az_cav rfl rfl rfl rfl (ec_settle (d + 1) hL h4) ?_
  refine az_ret rfl rfl rfl rfl ?_
  exact ⟨rfl, rfl⟩
theorem ec8_setWell (d : Nat) {z q : Int32} {a : Int32} {L : Nat} (hc : az_EX (d + 6) m_X7_changeWell [.ref 1, .int z, .int q] (az_hp (cg_cpW M 27 1)) (some (.int a)) (az_hp N)) (hL : N 79 1 = nI L) (h4 : L < 4) : az_EX (d + 7) m_X8_setWell [.ref 0, .int z, .int q] (az_hp M) (some (.int a)) (az_hp (cg_stl N a L)) := by
  refine az_EX.of (az_in0 (code := k_X8_setWell) (ls := [some (.ref 0), some (.int z), some (.int q)]) rfl rfl rfl ?_)
  refine az_sgp rfl rfl rfl rfl ?_
  refine az_can rfl rfl rfl rfl (ec_cpW_27_1 (d + 3)) ?_
  refine az_sgp rfl rfl rfl rfl ?_
  refine az_cav rfl rfl rfl rfl hc ?_
  refine az_cav rfl rfl rfl rfl (ec_settle (d + 1) hL h4) ?_
  refine az_ret rfl rfl rfl rfl ?_
  exact ⟨rfl, rfl⟩
theorem ec8_set (d : Nat) {z q : Int32} {a : Int32} {L : Nat} (hc : az_EX (d + 6) m_X7_changeSetting [.ref 1, .int z, .int q] (az_hp (cg_cpW M 27 1)) (some (.int a)) (az_hp N)) (hL : N 79 1 = nI L) (h4 : L < 4) : az_EX (d + 7) m_X8_set [.ref 0, .int z, .int q] (az_hp M) (some (.int a)) (az_hp (cg_stl N a L)) := by
  refine az_EX.of (az_in0 (code := k_X8_set) (ls := [some (.ref 0), some (.int z), some (.int q)]) rfl rfl rfl ?_)
  refine az_sgp rfl rfl rfl rfl ?_
  refine az_can rfl rfl rfl rfl (ec_cpW_27_1 (d + 3)) ?_
  refine az_sgp rfl rfl rfl rfl ?_
  refine az_cav rfl rfl rfl rfl hc ?_
  refine az_cav rfl rfl rfl rfl (ec_settle (d + 1) hL h4) ?_
  refine az_ret rfl rfl rfl rfl ?_
  exact ⟨rfl, rfl⟩
theorem ec8_go (d : Nat) {z : Int32} {a : Int32} {L : Nat} (hc : az_EX (d + 6) m_X7_travel [.ref 1, .int z] (az_hp (cg_cpW M 27 1)) (some (.int a)) (az_hp N)) (hL : N 79 1 = nI L) (h4 : L < 4) : az_EX (d + 7) m_X8_go [.ref 0, .int z] (az_hp M) (some (.int a)) (az_hp (cg_stl N a L)) := by
  refine az_EX.of (az_in0 (code := k_X8_go) (ls := [some (.ref 0), some (.int z)]) rfl rfl rfl ?_)
  refine az_sgp rfl rfl rfl rfl ?_
  refine az_can rfl rfl rfl rfl (ec_cpW_27_1 (d + 3)) ?_
  refine az_sgp rfl rfl rfl rfl ?_
  refine az_cav rfl rfl rfl rfl hc ?_
  refine az_cav rfl rfl rfl rfl (ec_settle (d + 1) hL h4) ?_
  refine az_ret rfl rfl rfl rfl ?_
  exact ⟨rfl, rfl⟩
theorem ec8_write (d : Nat) {z : Int32} {a : Int32} {L : Nat} (hc : az_EX (d + 6) m_X7_writeAnew [.ref 1, .int z] (az_hp (cg_cpW M 27 1)) (some (.int a)) (az_hp N)) (hL : N 79 1 = nI L) (h4 : L < 4) : az_EX (d + 7) m_X8_write [.ref 0, .int z] (az_hp M) (some (.int a)) (az_hp (cg_stl N a L)) := by
  refine az_EX.of (az_in0 (code := k_X8_write) (ls := [some (.ref 0), some (.int z)]) rfl rfl rfl ?_)
  refine az_sgp rfl rfl rfl rfl ?_
  refine az_can rfl rfl rfl rfl (ec_cpW_27_1 (d + 3)) ?_
  refine az_sgp rfl rfl rfl rfl ?_
  refine az_cav rfl rfl rfl rfl hc ?_
  refine az_cav rfl rfl rfl rfl (ec_settle (d + 1) hL h4) ?_
  refine az_ret rfl rfl rfl rfl ?_
  exact ⟨rfl, rfl⟩
theorem ec8_take (d : Nat) {z : Int32} {a : Int32} {L : Nat} (hc : az_EX (d + 6) m_X7_takeUp [.ref 1, .int z] (az_hp (cg_cpW M 27 1)) (some (.int a)) (az_hp N)) (hL : N 79 1 = nI L) (h4 : L < 4) : az_EX (d + 7) m_X8_take [.ref 0, .int z] (az_hp M) (some (.int a)) (az_hp (cg_stl N a L)) := by
  refine az_EX.of (az_in0 (code := k_X8_take) (ls := [some (.ref 0), some (.int z)]) rfl rfl rfl ?_)
  refine az_sgp rfl rfl rfl rfl ?_
  refine az_can rfl rfl rfl rfl (ec_cpW_27_1 (d + 3)) ?_
  refine az_sgp rfl rfl rfl rfl ?_
  refine az_cav rfl rfl rfl rfl hc ?_
  refine az_cav rfl rfl rfl rfl (ec_settle (d + 1) hL h4) ?_
  refine az_ret rfl rfl rfl rfl ?_
  exact ⟨rfl, rfl⟩
theorem ec8_put (d : Nat) {z : Int32} {a : Int32} {L : Nat} (hc : az_EX (d + 6) m_X7_putDown [.ref 1, .int z] (az_hp (cg_cpW M 27 1)) (some (.int a)) (az_hp N)) (hL : N 79 1 = nI L) (h4 : L < 4) : az_EX (d + 7) m_X8_put [.ref 0, .int z] (az_hp M) (some (.int a)) (az_hp (cg_stl N a L)) := by
  refine az_EX.of (az_in0 (code := k_X8_put) (ls := [some (.ref 0), some (.int z)]) rfl rfl rfl ?_)
  refine az_sgp rfl rfl rfl rfl ?_
  refine az_can rfl rfl rfl rfl (ec_cpW_27_1 (d + 3)) ?_
  refine az_sgp rfl rfl rfl rfl ?_
  refine az_cav rfl rfl rfl rfl hc ?_
  refine az_cav rfl rfl rfl rfl (ec_settle (d + 1) hL h4) ?_
  refine az_ret rfl rfl rfl rfl ?_
  exact ⟨rfl, rfl⟩
theorem ec8_drop (d : Nat) {z : Int32} {a : Int32} {L : Nat} (hc : az_EX (d + 6) m_X7_giveUp [.ref 1, .int z] (az_hp (cg_cpW M 27 1)) (some (.int a)) (az_hp N)) (hL : N 79 1 = nI L) (h4 : L < 4) : az_EX (d + 7) m_X8_drop [.ref 0, .int z] (az_hp M) (some (.int a)) (az_hp (cg_stl N a L)) := by
  refine az_EX.of (az_in0 (code := k_X8_drop) (ls := [some (.ref 0), some (.int z)]) rfl rfl rfl ?_)
  refine az_sgp rfl rfl rfl rfl ?_
  refine az_can rfl rfl rfl rfl (ec_cpW_27_1 (d + 3)) ?_
  refine az_sgp rfl rfl rfl rfl ?_
  refine az_cav rfl rfl rfl rfl hc ?_
  refine az_cav rfl rfl rfl rfl (ec_settle (d + 1) hL h4) ?_
  refine az_ret rfl rfl rfl rfl ?_
  exact ⟨rfl, rfl⟩
theorem ec8_reset (d : Nat) {a : Int32} {L : Nat} (hc : az_EX (d + 6) m_X7_resetHere [.ref 1] (az_hp (cg_cpW M 27 1)) (some (.int a)) (az_hp N)) (hL : N 79 1 = nI L) (h4 : L < 4) : az_EX (d + 7) m_X8_reset [.ref 0] (az_hp M) (some (.int a)) (az_hp (cg_stl N a L)) := by
  refine az_EX.of (az_in0 (code := k_X8_reset) (ls := [some (.ref 0)]) rfl rfl rfl ?_)
  refine az_sgp rfl rfl rfl rfl ?_
  refine az_can rfl rfl rfl rfl (ec_cpW_27_1 (d + 3)) ?_
  refine az_sgp rfl rfl rfl rfl ?_
  refine az_cav rfl rfl rfl rfl hc ?_
  refine az_cav rfl rfl rfl rfl (ec_settle (d + 1) hL h4) ?_
  refine az_ret rfl rfl rfl rfl ?_
  exact ⟨rfl, rfl⟩
theorem ec8_seal (d : Nat) {a : Int32} {L : Nat} (hc : az_EX (d + 6) m_X7_sealHere [.ref 1] (az_hp (cg_cpW M 27 1)) (some (.int a)) (az_hp N)) (hL : N 79 1 = nI L) (h4 : L < 4) : az_EX (d + 7) m_X8_seal [.ref 0] (az_hp M) (some (.int a)) (az_hp (cg_stl N a L)) := by
  refine az_EX.of (az_in0 (code := k_X8_seal) (ls := [some (.ref 0)]) rfl rfl rfl ?_)
  refine az_sgp rfl rfl rfl rfl ?_
  refine az_can rfl rfl rfl rfl (ec_cpW_27_1 (d + 3)) ?_
  refine az_sgp rfl rfl rfl rfl ?_
  refine az_cav rfl rfl rfl rfl hc ?_
  refine az_cav rfl rfl rfl rfl (ec_settle (d + 1) hL h4) ?_
  refine az_ret rfl rfl rfl rfl ?_
  exact ⟨rfl, rfl⟩
theorem ec8_dusk (d : Nat) {a : Int32} {L : Nat} (hc : az_EX (d + 6) m_X7_endDay [.ref 1] (az_hp (cg_cpW M 27 1)) (some (.int a)) (az_hp N)) (hL : N 79 1 = nI L) (h4 : L < 4) : az_EX (d + 7) m_X8_dusk [.ref 0] (az_hp M) (some (.int a)) (az_hp (cg_stl N a L)) := by
  refine az_EX.of (az_in0 (code := k_X8_dusk) (ls := [some (.ref 0)]) rfl rfl rfl ?_)
  refine az_sgp rfl rfl rfl rfl ?_
  refine az_can rfl rfl rfl rfl (ec_cpW_27_1 (d + 3)) ?_
  refine az_sgp rfl rfl rfl rfl ?_
  refine az_cav rfl rfl rfl rfl hc ?_
  refine az_cav rfl rfl rfl rfl (ec_settle (d + 1) hL h4) ?_
  refine az_ret rfl rfl rfl rfl ?_
  exact ⟨rfl, rfl⟩
end ACTS8
