/-! more rules -/
section RR2
variable {d : Nat} {code : Nat → Option az_I} {p : Nat} {ls : List az_V} {stk : List Value} {h : az_H} {Q : Option Value → az_H → Prop}
/-- a straight stretch, of one instruction at least -/
theorem az_sgp {i : az_I} {s0 : az_S} {p' : Nat} {ls' : List az_V} {stk' : List Value} {h' : az_H} (hi : code p = some i) (h1 : az_st1 i ls stk h = some s0) (e : az_adv code 60 s0 = (p', ls', stk', h')) (k : az_RUN d code p' ls' stk' h' Q) : az_RUN d code p ls stk h Q := by
  obtain ⟨p0, ls0, stk0, h0⟩ := s0
  refine az_one hi (fun call kk => ?_) (az_seg e k)
  unfold az_step
  rw [h1]
theorem az_br1 {i : az_I} {t f : Nat} {stk' : List Value} (hi : code p = some i) (ht : (Nat.ble 43 i.1 && Nat.ble i.1 54) = true) (e : az_br i stk = some (true, t, f, stk')) (kt : az_RUN d code t ls stk' h Q) : az_RUN d code p ls stk h Q :=
  az_brn hi ht e (fun _ => kt) (fun z => by cases z)
theorem az_br0 {i : az_I} {t f : Nat} {stk' : List Value} (hi : code p = some i) (ht : (Nat.ble 43 i.1 && Nat.ble i.1 54) = true) (e : az_br i stk = some (false, t, f, stk')) (kf : az_RUN d code f ls stk' h Q) : az_RUN d code p ls stk h Q :=
  az_brn hi ht e (fun z => by cases z) (fun _ => kf)
/-- a call with two ends -/
def az_E2 (C : Prop) (d mid : Nat) (args : List Value) (h : az_H) (r1 : Option Value) (h1 : az_H) (r2 : Option Value) (h2 : az_H) : Prop := (C → az_EX d mid args h r1 h1) ∧ (¬ C → az_EX d mid args h r2 h2)
theorem az_ca2 {i : az_I} {mid : Nat} {as rest : List Value} {nx : Nat} {C : Prop} {r1 r2 : Option Value} {h1 h2 : az_H} (hi : code p = some i) (ht : (Nat.ble 57 i.1 && Nat.ble i.1 61) = true) (e : az_cl i stk h = some (mid, as, rest, nx)) (hr : Nat.ble (az_cat rest) 8 = true) (hE : az_E2 C d mid as h r1 h1 r2 h2) (k1 : C → az_RUN d code nx ls (az_app r1 rest) h1 Q) (k2 : ¬ C → az_RUN d code nx ls (az_app r2 rest) h2 Q) : az_RUN d code p ls stk h Q := by
  by_cases hc : C
  · exact az_cax hi ht e hr (hE.1 hc) (k1 hc)
  · exact az_cax hi ht e hr (hE.2 hc) (k2 hc)
end RR2
theorem az_up_row {M : Nat → Nat → Int32} {a k c : Nat} {x : Int32} (h : c ≠ a) : az_up M a k x c = M c := by
  funext j
  simp [az_up, h]
theorem az_up_self (M : Nat → Nat → Int32) (a k j : Nat) (x : Int32) : az_up M a k x a j = if j = k then x else M a j := by
  simp [az_up]
theorem az_wr_row {M : Nat → Nat → Int32} {b n c : Nat} {i x : Int32} (h : c ≠ b) : az_wr M b n i x c = M c := by
  unfold az_wr
  split
  · exact az_up_row h
  · rfl
theorem az_fl_row {M : Nat → Nat → Int32} {b n c : Nat} {x : Int32} (h : c ≠ b) : az_fl M b n x c = M c := by
  funext j
  simp [az_fl, h]
