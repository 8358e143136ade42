/-! more rules -/
def az_adv2 (code : Nat → Option az_I) : Nat → az_S → az_S
  | 0, s => s
  | n + 1, (p, ls, stk, h) => match code p with
    | none => (p, ls, stk, h)
    | some i => bif (Nat.beq i.1 19 && Nat.ble i.2.1 p) then (p, ls, stk, h) else match az_st1 i ls stk h with
      | some s' => az_adv2 code n s'
      | none => (p, ls, stk, h)
section RR2
variable {d : Nat} {code : Nat → Option az_I} {p : Nat} {ls : List az_V} {stk : List Value} {h : az_H} {Q : Option Value → az_H → Prop}
theorem az_segs2 (n : Nat) : ∀ {s : az_S}, az_RUN d code (az_adv2 code n s).1 (az_adv2 code n s).2.1 (az_adv2 code n s).2.2.1 (az_adv2 code n s).2.2.2 Q → az_RUN d code s.1 s.2.1 s.2.2.1 s.2.2.2 Q := by
  induction n with
  | zero => intro s k; exact k
  | succ n ih =>
    intro s k
    obtain ⟨p, ls, stk, h⟩ := s
    unfold az_adv2 at k
    split at k
    · exact k
    · next i hi =>
      cases hg : (Nat.beq i.1 19 && Nat.ble i.2.1 p) with
      | true => rw [hg] at k; exact k
      | false =>
        rw [hg, cond_false] at k
        split at k
        · next s' hs =>
          refine az_one hi (fun call kk => ?_) (ih k)
          unfold az_step
          rw [hs]
        · exact k
/-- a straight stretch, of one instruction at least, that goes back nowhere -/
theorem az_sgp {i : az_I} {s0 : az_S} {p' : Nat} {ls' : List az_V} {stk' : List Value} {h' : az_H} (hi : code p = some i) (hb : (Nat.beq i.1 19 && Nat.ble i.2.1 p) = false) (h1 : az_st1 i ls stk h = some s0) (e : az_adv2 code 60 s0 = (p', ls', stk', h')) (k : az_RUN d code p' ls' stk' h' Q) : az_RUN d code p ls stk h Q := by
  obtain ⟨p0, ls0, stk0, h0⟩ := s0
  refine az_one hi (fun call kk => ?_) (az_segs2 60 (s := (p0, ls0, stk0, h0)) (by rw [e]; exact k))
  unfold az_step
  rw [h1]
theorem az_br1 {i : az_I} {t f : Nat} {stk' : List Value} (hi : code p = some i) (ht : (Nat.ble 43 i.1 && Nat.ble i.1 54) = true) (e : az_br i stk = some (true, t, f, stk')) (kt : az_RUN d code t ls stk' h Q) : az_RUN d code p ls stk h Q :=
  az_brn hi ht e (fun _ => kt) (fun z => by cases z)
theorem az_br0 {i : az_I} {t f : Nat} {stk' : List Value} (hi : code p = some i) (ht : (Nat.ble 43 i.1 && Nat.ble i.1 54) = true) (e : az_br i stk = some (false, t, f, stk')) (kf : az_RUN d code f ls stk' h Q) : az_RUN d code p ls stk h Q :=
  az_brn hi ht e (fun z => by cases z) (fun _ => kf)
theorem az_ifeqT {a b c nx : Nat} {im : Int32} {sw : List (Int32 × Nat)} {r : List Value} (hi : code p = some (43, a, b, c, im, nx, sw)) (k : az_RUN d code a ls r h Q) : az_RUN d code p ls (.int 0 :: r) h Q := az_br1 hi rfl rfl k
theorem az_ifeqF {a b c nx : Nat} {im : Int32} {sw : List (Int32 × Nat)} {r : List Value} (hi : code p = some (43, a, b, c, im, nx, sw)) (k : az_RUN d code nx ls r h Q) : az_RUN d code p ls (.int 1 :: r) h Q := az_br0 hi rfl rfl k
theorem az_ifneF {a b c nx : Nat} {im : Int32} {sw : List (Int32 × Nat)} {r : List Value} (hi : code p = some (44, a, b, c, im, nx, sw)) (k : az_RUN d code nx ls r h Q) : az_RUN d code p ls (.int 0 :: r) h Q := az_br1 hi rfl rfl k
theorem az_ifneT {a b c nx : Nat} {im : Int32} {sw : List (Int32 × Nat)} {r : List Value} (hi : code p = some (44, a, b, c, im, nx, sw)) (k : az_RUN d code a ls r h Q) : az_RUN d code p ls (.int 1 :: r) h Q := az_br0 hi rfl rfl k
/-- a call with two ends -/
def az_E2 (C : Prop) (d mid : Nat) (args : List Value) (h : az_H) (r1 : Option Value) (h1 : az_H) (r2 : Option Value) (h2 : az_H) : Prop := (C → az_EX d mid args h r1 h1) ∧ (¬ C → az_EX d mid args h r2 h2)
theorem az_ca2 {i : az_I} {mid : Nat} {as rest : List Value} {nx : Nat} {C : Prop} {v1 v2 : Value} {h1 h2 : az_H} (hi : code p = some i) (ht : (Nat.ble 57 i.1 && Nat.ble i.1 61) = true) (e : az_cl i stk h = some (mid, as, rest, nx)) (hr : Nat.ble (az_cat rest) 8 = true) (hE : az_E2 C d mid as h (some v1) h1 (some v2) h2) (k1 : C → az_RUN d code nx ls (v1 :: rest) h1 Q) (k2 : ¬ C → az_RUN d code nx ls (v2 :: rest) h2 Q) : az_RUN d code p ls stk h Q := by
  by_cases hc : C
  · exact az_cax hi ht e hr (hE.1 hc) (k1 hc)
  · exact az_cax hi ht e hr (hE.2 hc) (k2 hc)
theorem az_cav {i : az_I} {mid : Nat} {as rest : List Value} {nx : Nat} {v : Value} {h1 : az_H} (hi : code p = some i) (ht : (Nat.ble 57 i.1 && Nat.ble i.1 61) = true) (e : az_cl i stk h = some (mid, as, rest, nx)) (hr : Nat.ble (az_cat rest) 8 = true) (hE : az_EX d mid as h (some v) h1) (k1 : az_RUN d code nx ls (v :: rest) h1 Q) : az_RUN d code p ls stk h Q := az_cax hi ht e hr hE k1
theorem az_can {i : az_I} {mid : Nat} {as rest : List Value} {nx : Nat} {h1 : az_H} (hi : code p = some i) (ht : (Nat.ble 57 i.1 && Nat.ble i.1 61) = true) (e : az_cl i stk h = some (mid, as, rest, nx)) (hr : Nat.ble (az_cat rest) 8 = true) (hE : az_EX d mid as h none h1) (k1 : az_RUN d code nx ls rest h1 Q) : az_RUN d code p ls stk h Q := az_cax hi ht e hr hE k1
end RR2
theorem az_up_row {M : Nat → Nat → Int32} {a k c : Nat} {x : Int32} (h : c ≠ a) : az_up M a k x c = M c := by
  funext j
  simp [az_up, h]
theorem az_up_self (M : Nat → Nat → Int32) (a k j : Nat) (x : Int32) : az_up M a k x a j = if j = k then x else M a j := by
  simp [az_up]
theorem az_wr_row {M : Nat → Nat → Int32} {b n c : Nat} {i x : Int32} (h : c ≠ b) : az_wr M b n i x c = M c := by
  unfold az_wr
  split
  · exact az_up_row h
  · rfl
theorem az_fl_row {M : Nat → Nat → Int32} {b n c : Nat} {x : Int32} (h : c ≠ b) : az_fl M b n x c = M c := by
  funext j
  simp [az_fl, h]
