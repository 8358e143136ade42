/-! THE ACTS OF THE CLASS, FROM THE LAW -/
def LX (W : az_Mem) : Prop := (∃ Z : Nat, W 2 0 = nI Z ∧ Z ≤ 4) ∧ (∃ S : Nat, W 2 1 = nI S ∧ S ≤ 6) ∧ (∃ b : Nat, W 17 0 = nI b ∧ 1 ≤ b ∧ b ≤ 9) ∧ (∀ z, z < 8 → W 6 z = 0 ∨ W 6 z = 1 ∨ W 6 z = 2) ∧ (∀ c, c < 96 → ∃ l : Nat, l < 12 ∧ W 14 c = nI l) ∧ (∀ l, l < 40 → ∃ z s : Nat, z < 4 ∧ s < 6 ∧ W 21 l = nI (12 * z + s)) ∧ (∀ l, 12 ≤ l → l < 40 → W 19 l = 0 ∧ W 23 l = 0) ∧ (∀ l, l < 40 → W 19 l = 0 ∨ W 19 l = 1 ∨ W 19 l = 2)
section ACTS9
variable {M M1 N W W' : az_Mem} {a : Int32} {m8 : Nat} {args : List Value}
theorem LX.zn (h : LX W) : ∃ Z : Nat, W 2 0 = nI Z ∧ Z ≤ 4 := h.1
theorem LX.sl (h : LX W) : ∃ S : Nat, W 2 1 = nI S ∧ S ≤ 6 := h.2.1
theorem LX.bd (h : LX W) : ∃ b : Nat, W 17 0 = nI b ∧ 1 ≤ b ∧ b ≤ 9 := h.2.2.1
theorem LX.kd (h : LX W) : ∀ z, z < 8 → W 6 z = 0 ∨ W 6 z = 1 ∨ W 6 z = 2 := h.2.2.2.1
theorem LX.ld (h : LX W) : ∀ c, c < 96 → ∃ l : Nat, l < 12 ∧ W 14 c = nI l := h.2.2.2.2.1
theorem LX.ce (h : LX W) : ∀ l, l < 40 → ∃ z s : Nat, z < 4 ∧ s < 6 ∧ W 21 l = nI (12 * z + s) := h.2.2.2.2.2.1
theorem LX.no (h : LX W) : ∀ l, 12 ≤ l → l < 40 → W 19 l = 0 ∧ W 23 l = 0 := h.2.2.2.2.2.2.1
theorem LX.pl (h : LX W) : ∀ l, l < 40 → W 19 l = 0 ∨ W 19 l = 1 ∨ W 19 l = 2 := h.2.2.2.2.2.2.2
theorem LX.cg (h : LX W) (e : sW W W') : LX W' := by
  refine ⟨?_, ?_, ?_, fun z hz => ?_, fun z hz => ?_, fun z hz => ?_, fun z hz h2 => ?_, fun z hz => ?_⟩
  · rw [← e 2 0 (by decide)]; exact h.zn
  · rw [← e 2 1 (by decide)]; exact h.sl
  · rw [← e 17 0 (by decide)]; exact h.bd
  · rw [← e 6 z hz]; exact h.kd z hz
  · rw [← e 14 z hz]; exact h.ld z hz
  · rw [← e 21 z hz]; exact h.ce z hz
  · rw [← e 19 z h2, ← e 23 z h2]; exact h.no z hz h2
  · rw [← e 19 z hz]; exact h.pl z hz
theorem LX.tr (h : LX W) (h2 : W' 2 0 = W 2 0) (h3 : W' 2 1 = W 2 1) (h17 : W' 17 0 = W 17 0) (h6 : W' 6 = W 6) (h14 : W' 14 = W 14) (h21 : W' 21 = W 21) (h19 : W' 19 = W 19) (h23 : W' 23 = W 23) : LX W' := by
  unfold LX
  rw [h2, h3, h17, h6, h14, h21, h19, h23]
  exact h
def HI (M : az_Mem) : Prop := ∃ L : Nat, M 79 1 = nI L ∧ L < 4
/-- what the class keeps, under the law -/
def CI (M : az_Mem) : Prop := IW M ∧ LX M ∧ HI M
def INVL (M : az_Mem) : Prop := LR M M ∧ CI M
def ACT (W : az_Mem) (m8 : Nat) (args : List Value) (a : Int32) (N : az_Mem) : Prop := fW W N ∧ ∀ (d : Nat) (M R : az_Mem) (L : Nat), cg_cpW M 27 1 = mx R W → mx R N 79 1 = nI L → L < 4 → az_EX (d + 7) m8 (.ref 0 :: args) (az_hp M) (some (.int a)) (az_hp (cg_stl (mx R N) a L))
theorem act_run (d : Nat) (hh : HI M) (hA : ACT (cg_cpW M 27 1) m8 args a N) (h1 : ∀ c, c < 192 → M1 c = M c) : ∃ M', az_EX (d + 7) m8 (.ref 0 :: args) (az_hp M1) (some (.int a)) (az_hp M') ∧ (∀ c, 192 ≤ c → M' c = M1 c) ∧ HI M' ∧ (a < 0 → sW M M') ∧ (¬ a < 0 → sW N M') := by
  obtain ⟨L, hL, h4⟩ := hh
  obtain ⟨hf, hE⟩ := hA
  have e0 : M1 = mx M1 M := by
    funext c
    by_cases hc : c < 192
    · rw [mx_lo hc, h1 c hc]
    · rw [mx_hi (by omega)]
  have e1 : cg_cpW M1 27 1 = mx M1 (cg_cpW M 27 1) := by
    have q := mx_cpW (R := M1) (W := M) (a := 27) (b := 1) (by decide) (by decide)
    rw [← e0] at q
    exact q
  have n79 : N 79 = M 79 := by rw [hf 79 (by omega), cg_cpW_out (by omega)]
  have hE1 := hE d M1 M1 L e1 (by rw [mx_lo (by decide), n79]; exact hL) h4
  refine ⟨_, hE1, fun c hc => ?_, ?_, fun ha => ?_, fun ha => ?_⟩
  · rw [cg_stl_row h4 (by omega), mx_hi hc]
  · unfold cg_stl
    split
    · refine ⟨L, ?_, h4⟩
      rw [cg_cpW_out (by omega), mx_lo (by decide), n79]
      exact hL
    · have hn : cg_nxL L < 4 := by unfold cg_nxL; split <;> omega
      have hw := az_hwN hn
      refine ⟨cg_nxL L, ?_, hn⟩
      unfold cg_rem
      rw [cg_cpW_out (by omega)]
      simp [az_up]
  · unfold cg_stl
    rw [if_pos ha]
    have w1 : sW (sh M 1) (sh (cg_cpW M 27 1) 27) := sW.cp (by decide) (by decide) (by decide)
    have w2 : sW (sh (mx M1 N) 27) (sh (cg_cpW (mx M1 N) 1 27) 1) := sW.cp (by decide) (by decide) (by decide)
    have w3 : sW (sh (cg_cpW M 27 1) 27) (sh (mx M1 N) 27) := sh_row (by decide) (fun c g1 g2 => by rw [mx_lo (by omega)]; exact (hf c (by omega)).symm)
    rw [sh1] at w1 w2
    exact (w1.tr w3).tr w2
  · unfold cg_stl
    rw [if_neg ha]
    have hn : cg_nxL L < 4 := by unfold cg_nxL; split <;> omega
    have hw := az_hwN hn
    refine sW.row (fun c g1 g2 => ?_)
    unfold cg_rem
    rw [cg_cpW_out (by omega), az_up_row (by omega), az_up_row (by omega), mx_lo (by omega)]
theorem inv_w (hM : INVL M) : LR (cg_cpW M 27 1) M ∧ IW (cg_cpW M 27 1) ∧ LX (cg_cpW M 27 1) := by
  have e : sW M (cg_cpW M 27 1) := sW.row (fun c g1 g2 => by rw [cg_cpW_out (by omega)])
  exact ⟨hM.1.cg e, hM.2.1.cg e, hM.2.2.1.cg e⟩
theorem act_yes (d : Nat) (hh : HI M) (hA : ACT (cg_cpW M 27 1) m8 args a N) (ha : ¬ a < 0) (h1 : ∀ c, c < 192 → M1 c = M c) (hI : IW N) (hX : LX N) : ∃ M', az_EX (d + 7) m8 (.ref 0 :: args) (az_hp M1) (some (.int a)) (az_hp M') ∧ (∀ c, 192 ≤ c → M' c = M1 c) ∧ CI M' ∧ sW N M' := by
  obtain ⟨M', g1, g2, g3, g4, g5⟩ := act_run d hh hA h1
  exact ⟨M', g1, g2, ⟨hI.cg (g5 ha), hX.cg (g5 ha), g3⟩, g5 ha⟩
theorem act_no (d : Nat) (hC : CI M) (hA : ACT (cg_cpW M 27 1) m8 args a N) (ha : a < 0) (h1 : ∀ c, c < 192 → M1 c = M c) : ∃ M', az_EX (d + 7) m8 (.ref 0 :: args) (az_hp M1) (some (.int a)) (az_hp M') ∧ (∀ c, 192 ≤ c → M' c = M1 c) ∧ CI M' ∧ sW M M' := by
  obtain ⟨M', g1, g2, g3, g4, g5⟩ := act_run d hC.2.2 hA h1
  exact ⟨M', g1, g2, ⟨hC.1.cg (g4 ha), hC.2.1.cg (g4 ha), g3⟩, g4 ha⟩
/-- an act that is refused, from a memory where all holds -/
theorem act_err (d : Nat) (hM : INVL M) (hA : ACT (cg_cpW M 27 1) m8 args a N) (ha : a < 0) : ∃ M', az_EX (d + 7) m8 (.ref 0 :: args) (az_hp M) (some (.int a)) (az_hp M') ∧ INVL M' := by
  obtain ⟨M', g1, g2, g3, g4⟩ := act_no d hM.2 hA ha (fun c _ => rfl)
  exact ⟨M', g1, (hM.1.cg g4).cr g2, g3⟩
theorem A_go (W : az_Mem) (n : Int32) : ACT W m_X8_go [.int n] (cg_go W n).1 (cg_go W n).2 :=
  ⟨fw_go n, fun d M R L e hL h4 => ec8_go d (by have q := ec_go (W := mx R W) (d + 3) n; rw [mx_go] at q; rw [e]; exact q) hL h4⟩
theorem A_write (hI : IW W) (n : Int32) : ACT W m_X8_write [.int n] (cg_write W n).1 (cg_write W n).2 :=
  ⟨fw_write n, fun d M R L e hL h4 => ec8_write d (by have q := ec_writeAnew (M := mx R W) (d + 2) n (hI.mx R).bok; rw [mx_write] at q; rw [e]; exact q) hL h4⟩
theorem A_take (W : az_Mem) (n : Int32) : ACT W m_X8_take [.int n] (cg_tak W n).1 (cg_tak W n).2 :=
  ⟨fw_tak n, fun d M R L e hL h4 => ec8_take d (by have q := ec_tak (W := mx R W) (d + 2) n; rw [mx_tak] at q; rw [e]; exact q) hL h4⟩
theorem A_put (hI : IW W) (n : Int32) : ACT W m_X8_put [.int n] (cg_put W n).1 (cg_put W n).2 :=
  ⟨fw_put n, fun d M R L e hL h4 => ec8_put d (by have q := ec_putDown (M := mx R W) (d + 2) n (hI.mx R).bok; rw [mx_put] at q; rw [e]; exact q) hL h4⟩
theorem A_drop (hI : IW W) (n : Int32) : ACT W m_X8_drop [.int n] (cg_drop W n).1 (cg_drop W n).2 :=
  ⟨fw_drop n, fun d M R L e hL h4 => ec8_drop d (by have q := ec_giveUp (M := mx R W) (d + 2) n (hI.mx R).bok; rw [mx_drop] at q; rw [e]; exact q) hL h4⟩
theorem A_reset (W : az_Mem) {P : Nat} (hP : az_rd (W 4) 8 (W 24 0) = nI P) (h12 : P ≤ 12) : ACT W m_X8_reset [] (cg_reset W P).1 (cg_reset W P).2 :=
  ⟨fw_reset P, fun d M R L e hL h4 => ec8_reset d (by have q := ec_resetHere (M := mx R W) (d + 1) (P := P) (by rw [mx_lo (by decide), mx_lo (by decide)]; exact hP) h12; rw [mx_reset] at q; rw [e]; exact q) hL h4⟩
theorem A_seal (W : az_Mem) : ACT W m_X8_seal [] (cg_seal W).1 (cg_seal W).2 :=
  ⟨fw_seal, fun d M R L e hL h4 => ec8_seal d (by have q := ec_sealHere (M := mx R W) (d + 2); rw [mx_seal] at q; rw [e]; exact q) hL h4⟩
theorem A_kind (W : az_Mem) (z k : Int32) : ACT W m_X8_setKind [.int z, .int k] (cg_kind W z k).1 (cg_kind W z k).2 :=
  ⟨fw_kind z k, fun d M R L e hL h4 => ec8_setKind d (by have q := ec_changeKind (M := mx R W) (d + 2) z k; rw [mx_kind] at q; rw [e]; exact q) hL h4⟩
theorem A_well (W : az_Mem) (z w : Int32) (hw : w = 0 ∨ w = 1) {Z : Nat} (hZ : W 2 0 = nI Z) (h8 : Z ≤ 8) : ACT W m_X8_setWell [.int z, .int w] (cg_swl W z w Z).1 (cg_swl W z w Z).2 :=
  ⟨fw_swl z w Z, fun d M R L e hL h4 => ec8_setWell d (by have q := ec_swl (W := mx R W) (d + 1) z w hw (Z := Z) (by rw [mx_lo (by decide)]; exact hZ) h8; rw [mx_swl] at q; rw [e]; exact q) hL h4⟩
theorem A_set (W : az_Mem) (w v : Int32) : ACT W m_X8_set [.int w, .int v] (cg_set W w v).1 (cg_set W w v).2 :=
  ⟨fw_set w v, fun d M R L e hL h4 => ec8_set d (by have q := ec_changeSetting (M := mx R W) (d + 2) w v; rw [mx_set] at q; rw [e]; exact q) hL h4⟩
theorem A_dusk (W : az_Mem) : ACT W m_X8_dusk [] (nI (cg_hot W) - nI (cg_hot (cg_cool W 40))) (cg_cool W 40) :=
  ⟨fw_cool 40, fun d M R L e hL h4 => ec8_dusk d (by have q := ec_endDay (M := mx R W) (d + 2); rw [mx_cool, mx_hot, mx_hot] at q; rw [e]; exact q) hL h4⟩
theorem A_layBad (W : az_Mem) {z q : Int32} (h : z < 2 ∨ 8 < z ∨ q < 2 ∨ ¬ q ≤ 12) : ACT W m_X8_lay [.int z, .int q] (-2) W :=
  ⟨fW.rf W, fun d M R L e hL h4 => ec8_lay d (by have q := ec_layBad (M := mx R W) (d + 2) h; rw [e]; exact q) hL h4⟩
theorem A_layNot (W : az_Mem) {z q : Int32} (h : ¬ (z < 2 ∨ 8 < z ∨ q < 2 ∨ ¬ q ≤ 12)) (h2 : ∃ j, j < 40 ∧ W 19 j = 1) : ACT W m_X8_lay [.int z, .int q] (-4) W :=
  ⟨fW.rf W, fun d M R L e hL h4 => ec8_lay d (by have q := ec_layNot (M := mx R W) (d + 2) h (by rw [mx_lo (by decide)]; exact h2); rw [e]; exact q) hL h4⟩
theorem A_layOK (W : az_Mem) {z q : Int32} (h : ¬ (z < 2 ∨ 8 < z ∨ q < 2 ∨ ¬ q ≤ 12)) (h2 : ¬ ∃ j, j < 40 ∧ W 19 j = 1) : ACT W m_X8_lay [.int z, .int q] (z * q) (cg_lay W z q) :=
  ⟨fw_lay z q, fun d M R L e hL h4 => ec8_lay d (by have q := ec_layOK (M := mx R W) (d + 2) h (by rw [mx_lo (by decide)]; exact h2); rw [mx_lay] at q; rw [e]; exact q) hL h4⟩
theorem inv_close {M2 M3 : az_Mem} (hc : CI M2) (e : sW N M2) (f : ∀ c, c < 192 → M3 c = M2 c) (hR : LR N M3) : INVL M3 := by
  have w : sW M2 M3 := sW.row (fun c _ h2 => (f c (by omega)).symm)
  obtain ⟨L, h1, h4⟩ := hc.2.2
  exact ⟨hR.cg (e.tr w), hc.1.cg w, hc.2.1.cg w, L, by rw [f 79 (by decide)]; exact h1, h4⟩
/-- a call of the law that answers true -/
def LA (d mid : Nat) (args : List Value) (M : az_Mem) : Prop := ∃ M', INVL M' ∧ az_EX d mid args (az_hp M) (some (.int 1)) (az_hp M')
theorem LA.of {d mid : Nat} {args : List Value} (h : az_EV d mid args (az_hp M) (fun r1 h1 => r1 = some (.int 1) ∧ ∃ M', INVL M' ∧ h1 = az_hp M')) : LA d mid args M := by
  obtain ⟨r, h', ⟨rfl, M', g1, rfl⟩, g3⟩ := h
  exact ⟨M', g1, g3⟩
end ACTS9
