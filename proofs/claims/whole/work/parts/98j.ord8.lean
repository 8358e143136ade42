/-! CLASS: texts, and an order by its letter -/
section ORD8
variable {M N : Nat → Nat → Int32}
theorem ec8_typeFull (d : Nat) (x : Int32) (h : ¬ M 185 1 < 60) : az_EX (d + 3) m_X8_type [.ref 0, .int x] (az_hp M) (some (.int (-3))) (az_hp M) := by
  refine az_EX.of (az_in0 (code := k_X8_type) (ls := [some (.ref 0), some (.int x)]) rfl rfl rfl ?_)
  refine az_sgp rfl rfl rfl rfl ?_
  refine az_cav rfl rfl rfl rfl (ec_oappFull d x h) ?_
  refine az_ret rfl rfl rfl rfl ?_
  exact ⟨rfl, rfl⟩
theorem ec8_type (d : Nat) (x : Int32) (h : M 185 1 < 60) : az_EX (d + 3) m_X8_type [.ref 0, .int x] (az_hp M) (some (.int (M 185 1 + 1))) (az_hp (az_up (az_wr M 187 60 (M 185 1) x) 185 1 (M 185 1 + 1))) := by
  refine az_EX.of (az_in0 (code := k_X8_type) (ls := [some (.ref 0), some (.int x)]) rfl rfl rfl ?_)
  refine az_sgp rfl rfl rfl rfl ?_
  refine az_cav rfl rfl rfl rfl (ec_oapp d x h) ?_
  refine az_ret rfl rfl rfl rfl ?_
  exact ⟨rfl, rfl⟩
theorem ec8_clear (d : Nat) : az_EX (d + 2) m_X8_clearText [.ref 0] (az_hp M) (some (.int (M 185 1))) (az_hp (az_up M 185 1 0)) := by
  refine az_EX.of (az_in0 (code := k_X8_clearText) (ls := [some (.ref 0)]) rfl rfl rfl ?_)
  refine az_sgp rfl rfl rfl rfl ?_
  refine az_cav rfl rfl rfl rfl (ec_oempty d) ?_
  refine az_ret rfl rfl rfl rfl ?_
  exact ⟨rfl, rfl⟩
theorem ec8_ord_103 (d : Nat) {n a : Int32} (hc : az_EX (d + 6) m_X7_travel [.ref 1, .int n] (az_hp M) (some (.int a)) (az_hp N)) : az_EX (d + 7) m_X8_doOrder [.ref 0, .int 103, .int n] (az_hp M) (some (.int a)) (az_hp N) := by
  refine az_EX.of (az_in0 (code := k_X8_doOrder) (ls := [some (.ref 0), some (.int 103), some (.int n)]) rfl rfl rfl ?_)
  refine az_sg 1 rfl ?_
  refine az_swi rfl rfl rfl ?_
  refine az_sgp rfl rfl rfl rfl ?_
  refine az_cav rfl rfl rfl rfl (hc) ?_
  refine az_ret rfl rfl rfl rfl ?_
  exact ⟨rfl, rfl⟩
theorem ec8_ord_119 (d : Nat) {n a : Int32} (hc : az_EX (d + 6) m_X7_writeAnew [.ref 1, .int n] (az_hp M) (some (.int a)) (az_hp N)) : az_EX (d + 7) m_X8_doOrder [.ref 0, .int 119, .int n] (az_hp M) (some (.int a)) (az_hp N) := by
  refine az_EX.of (az_in0 (code := k_X8_doOrder) (ls := [some (.ref 0), some (.int 119), some (.int n)]) rfl rfl rfl ?_)
  refine az_sg 1 rfl ?_
  refine az_swi rfl rfl rfl ?_
  refine az_sgp rfl rfl rfl rfl ?_
  refine az_cav rfl rfl rfl rfl (hc) ?_
  refine az_ret rfl rfl rfl rfl ?_
  exact ⟨rfl, rfl⟩
theorem ec8_ord_116 (d : Nat) {n a : Int32} (hc : az_EX (d + 6) m_X7_takeUp [.ref 1, .int n] (az_hp M) (some (.int a)) (az_hp N)) : az_EX (d + 7) m_X8_doOrder [.ref 0, .int 116, .int n] (az_hp M) (some (.int a)) (az_hp N) := by
  refine az_EX.of (az_in0 (code := k_X8_doOrder) (ls := [some (.ref 0), some (.int 116), some (.int n)]) rfl rfl rfl ?_)
  refine az_sg 1 rfl ?_
  refine az_swi rfl rfl rfl ?_
  refine az_sgp rfl rfl rfl rfl ?_
  refine az_cav rfl rfl rfl rfl (hc) ?_
  refine az_ret rfl rfl rfl rfl ?_
  exact ⟨rfl, rfl⟩
theorem ec8_ord_112 (d : Nat) {n a : Int32} (hc : az_EX (d + 6) m_X7_putDown [.ref 1, .int n] (az_hp M) (some (.int a)) (az_hp N)) : az_EX (d + 7) m_X8_doOrder [.ref 0, .int 112, .int n] (az_hp M) (some (.int a)) (az_hp N) := by
  refine az_EX.of (az_in0 (code := k_X8_doOrder) (ls := [some (.ref 0), some (.int 112), some (.int n)]) rfl rfl rfl ?_)
  refine az_sg 1 rfl ?_
  refine az_swi rfl rfl rfl ?_
  refine az_sgp rfl rfl rfl rfl ?_
  refine az_cav rfl rfl rfl rfl (hc) ?_
  refine az_ret rfl rfl rfl rfl ?_
  exact ⟨rfl, rfl⟩
theorem ec8_ord_100 (d : Nat) {n a : Int32} (hc : az_EX (d + 6) m_X7_giveUp [.ref 1, .int n] (az_hp M) (some (.int a)) (az_hp N)) : az_EX (d + 7) m_X8_doOrder [.ref 0, .int 100, .int n] (az_hp M) (some (.int a)) (az_hp N) := by
  refine az_EX.of (az_in0 (code := k_X8_doOrder) (ls := [some (.ref 0), some (.int 100), some (.int n)]) rfl rfl rfl ?_)
  refine az_sg 1 rfl ?_
  refine az_swi rfl rfl rfl ?_
  refine az_sgp rfl rfl rfl rfl ?_
  refine az_cav rfl rfl rfl rfl (hc) ?_
  refine az_ret rfl rfl rfl rfl ?_
  exact ⟨rfl, rfl⟩
theorem ec8_ord_114 (d : Nat) {n a : Int32} (hc : az_EX (d + 6) m_X7_resetHere [.ref 1] (az_hp M) (some (.int a)) (az_hp N)) : az_EX (d + 7) m_X8_doOrder [.ref 0, .int 114, .int n] (az_hp M) (some (.int a)) (az_hp N) := by
  refine az_EX.of (az_in0 (code := k_X8_doOrder) (ls := [some (.ref 0), some (.int 114), some (.int n)]) rfl rfl rfl ?_)
  refine az_sg 1 rfl ?_
  refine az_swi rfl rfl rfl ?_
  refine az_sgp rfl rfl rfl rfl ?_
  refine az_cav rfl rfl rfl rfl (hc) ?_
  refine az_ret rfl rfl rfl rfl ?_
  exact ⟨rfl, rfl⟩
theorem ec8_ord_115 (d : Nat) {n a : Int32} (hc : az_EX (d + 6) m_X7_sealHere [.ref 1] (az_hp M) (some (.int a)) (az_hp N)) : az_EX (d + 7) m_X8_doOrder [.ref 0, .int 115, .int n] (az_hp M) (some (.int a)) (az_hp N) := by
  refine az_EX.of (az_in0 (code := k_X8_doOrder) (ls := [some (.ref 0), some (.int 115), some (.int n)]) rfl rfl rfl ?_)
  refine az_sg 1 rfl ?_
  refine az_swi rfl rfl rfl ?_
  refine az_sgp rfl rfl rfl rfl ?_
  refine az_cav rfl rfl rfl rfl (hc) ?_
  refine az_ret rfl rfl rfl rfl ?_
  exact ⟨rfl, rfl⟩
theorem ec8_ord_99 (d : Nat) {n a : Int32} (hc : az_EX (d + 6) m_X7_cleanHere [.ref 1] (az_hp M) (some (.int a)) (az_hp N)) : az_EX (d + 7) m_X8_doOrder [.ref 0, .int 99, .int n] (az_hp M) (some (.int a)) (az_hp N) := by
  refine az_EX.of (az_in0 (code := k_X8_doOrder) (ls := [some (.ref 0), some (.int 99), some (.int n)]) rfl rfl rfl ?_)
  refine az_sg 1 rfl ?_
  refine az_swi rfl rfl rfl ?_
  refine az_sgp rfl rfl rfl rfl ?_
  refine az_cav rfl rfl rfl rfl (hc) ?_
  refine az_ret rfl rfl rfl rfl ?_
  exact ⟨rfl, rfl⟩
end ORD8
