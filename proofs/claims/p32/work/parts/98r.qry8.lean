/-! CLASS: the public queries -/
section QRY8
variable {M : Nat → Nat → Int32}
theorem ec8_zone (d : Nat) {x y : Int32} {a : Int32} (hc : az_EX (d + 6) m_X6_ofZone [.ref 1, .int x, .int y] (az_hp M) (some (.int a)) (az_hp M)) : az_EX (d + 7) m_X8_zone [.ref 0, .int x, .int y] (az_hp M) (some (.int a)) (az_hp M) := by
  refine az_EX.of (az_in0 (code := k_X8_zone) (ls := [some (.ref 0), some (.int x), some (.int y)]) rfl rfl rfl ?_)
  refine az_sgp rfl rfl rfl rfl ?_
  refine az_cav rfl rfl rfl rfl hc ?_
  refine az_ret rfl rfl rfl rfl ?_
  exact ⟨rfl, rfl⟩
theorem ec8_slot (d : Nat) {x y z : Int32} {a : Int32} (hc : az_EX (d + 6) m_X6_ofSlot [.ref 1, .int x, .int y, .int z] (az_hp M) (some (.int a)) (az_hp M)) : az_EX (d + 7) m_X8_slot [.ref 0, .int x, .int y, .int z] (az_hp M) (some (.int a)) (az_hp M) := by
  refine az_EX.of (az_in0 (code := k_X8_slot) (ls := [some (.ref 0), some (.int x), some (.int y), some (.int z)]) rfl rfl rfl ?_)
  refine az_sgp rfl rfl rfl rfl ?_
  refine az_cav rfl rfl rfl rfl hc ?_
  refine az_ret rfl rfl rfl rfl ?_
  exact ⟨rfl, rfl⟩
theorem ec8_load (d : Nat) {x y : Int32} {a : Int32} (hc : az_EX (d + 6) m_X6_ofLoad [.ref 1, .int x, .int y] (az_hp M) (some (.int a)) (az_hp M)) : az_EX (d + 7) m_X8_load [.ref 0, .int x, .int y] (az_hp M) (some (.int a)) (az_hp M) := by
  refine az_EX.of (az_in0 (code := k_X8_load) (ls := [some (.ref 0), some (.int x), some (.int y)]) rfl rfl rfl ?_)
  refine az_sgp rfl rfl rfl rfl ?_
  refine az_cav rfl rfl rfl rfl hc ?_
  refine az_ret rfl rfl rfl rfl ?_
  exact ⟨rfl, rfl⟩
theorem ec8_caravan (d : Nat) {x : Int32} {a : Int32} (hc : az_EX (d + 6) m_X6_ofCaravan [.ref 1, .int x] (az_hp M) (some (.int a)) (az_hp M)) : az_EX (d + 7) m_X8_caravan [.ref 0, .int x] (az_hp M) (some (.int a)) (az_hp M) := by
  refine az_EX.of (az_in0 (code := k_X8_caravan) (ls := [some (.ref 0), some (.int x)]) rfl rfl rfl ?_)
  refine az_sgp rfl rfl rfl rfl ?_
  refine az_cav rfl rfl rfl rfl hc ?_
  refine az_ret rfl rfl rfl rfl ?_
  exact ⟨rfl, rfl⟩
theorem ec8_bagAt (d : Nat) {x : Int32} {a : Int32} (hc : az_EX (d + 6) m_X6_ofBag [.ref 1, .int x] (az_hp M) (some (.int a)) (az_hp M)) : az_EX (d + 7) m_X8_bagAt [.ref 0, .int x] (az_hp M) (some (.int a)) (az_hp M) := by
  refine az_EX.of (az_in0 (code := k_X8_bagAt) (ls := [some (.ref 0), some (.int x)]) rfl rfl rfl ?_)
  refine az_sgp rfl rfl rfl rfl ?_
  refine az_cav rfl rfl rfl rfl hc ?_
  refine az_ret rfl rfl rfl rfl ?_
  exact ⟨rfl, rfl⟩
theorem ec_olen (d : Nat) : az_EX (d + 1) m_X3_length [.ref 185] (az_hp M) (some (.int (M 185 1))) (az_hp M) := by
  refine az_EX.of (az_in0 (code := k_X3_length) (ls := [some (.ref 185)]) rfl rfl rfl ?_)
  refine az_sgp rfl rfl rfl rfl ?_
  refine az_ret rfl rfl rfl rfl ?_
  exact ⟨rfl, rfl⟩
theorem ec8_count (d : Nat) {w a : Int32} (hc : ¬ w = 12 → ¬ w = 13 → az_EX (d + 6) m_X6_ofAll [.ref 1, .int w] (az_hp M) (some (.int a)) (az_hp M)) : az_EX (d + 7) m_X8_count [.ref 0, .int w] (az_hp M) (some (.int (if w = 12 then M 79 2 else if w = 13 then M 185 1 else a))) (az_hp M) := by
  refine az_EX.of (az_in0 (code := k_X8_count) (ls := [some (.ref 0), some (.int w)]) rfl rfl rfl ?_)
  refine az_sg 1 rfl ?_
  refine az_swi rfl rfl rfl ?_
  by_cases h0 : w = 12
  · subst h0
    refine az_sgp rfl rfl rfl rfl ?_
    refine az_cav rfl rfl rfl rfl (ec_hsize (d + 5)) ?_
    refine az_ret rfl rfl rfl rfl ?_
    exact ⟨rfl, rfl⟩
  by_cases h1 : w = 13
  · subst h1
    refine az_sgp rfl rfl rfl rfl ?_
    refine az_cav rfl rfl rfl rfl (ec_olen (d + 5)) ?_
    refine az_ret rfl rfl rfl rfl ?_
    exact ⟨rfl, rfl⟩
  rw [if_neg h0, if_neg h1]
  simp only [az_swt, h0, h1, decide_false, cond_false]
  refine az_sgp rfl rfl rfl rfl ?_
  refine az_cav rfl rfl rfl rfl (hc h0 h1) ?_
  refine az_ret rfl rfl rfl rfl ?_
  exact ⟨rfl, rfl⟩
end QRY8
