/-! RULES: what the abstract machine comes to, with fuel enough: az_RUN from a place in a method, az_EV of a call. -/
def az_RUN (d : Nat) (code : Nat → Option az_I) (p : Nat) (ls : List az_V) (stk : List Value) (h : az_H) (Q : Option Value → az_H → Prop) : Prop :=
  ∃ (r : Option Value) (h' : az_H), Q r h' ∧ ∃ N : Nat, ∀ n, N ≤ n → ∀ n', N ≤ n' → az_run (az_ev d n') code n p ls stk h = some (r, h')
def az_EV (d mid : Nat) (args : List Value) (h : az_H) (Q : Option Value → az_H → Prop) : Prop :=
  ∃ (r : Option Value) (h' : az_H), Q r h' ∧ ∃ N : Nat, ∀ n, N ≤ n → az_ev d n mid args h = some (r, h')
def az_EX (d mid : Nat) (args : List Value) (h : az_H) (r : Option Value) (h' : az_H) : Prop := ∃ N : Nat, ∀ n, N ≤ n → az_ev d n mid args h = some (r, h')
theorem az_EV.of {d mid : Nat} {args : List Value} {h : az_H} {Q : Option Value → az_H → Prop} {r : Option Value} {h' : az_H} (hx : az_EX d mid args h r h') (hq : Q r h') : az_EV d mid args h Q := ⟨r, h', hq, hx⟩
theorem az_EV.mono {d mid : Nat} {args : List Value} {h : az_H} {Q Q' : Option Value → az_H → Prop} (hx : az_EV d mid args h Q) (hq : ∀ r h', Q r h' → Q' r h') : az_EV d mid args h Q' := by
  obtain ⟨r, h', q, N, hn⟩ := hx
  exact ⟨r, h', hq r h' q, N, hn⟩
theorem az_EX.of {d mid : Nat} {args : List Value} {h : az_H} {r : Option Value} {h' : az_H} (hx : az_EV d mid args h (fun r1 h1 => r1 = r ∧ h1 = h')) : az_EX d mid args h r h' := by
  obtain ⟨r1, h1, ⟨rfl, rfl⟩, N, hn⟩ := hx
  exact ⟨N, hn⟩
theorem az_in0 {d mid : Nat} {args : List Value} {h : az_H} {Q : Option Value → az_H → Prop} {code : Nat → Option az_I} {ls : List az_V} (hc : az_code mid = code) (hb : Nat.ble args.length (az_ml mid) = true) (hl : az_lin args (az_ml mid) = ls) (k : az_RUN d code 0 ls [] h Q) : az_EV (d + 1) mid args h Q := by
  obtain ⟨r, h', q, N, hn⟩ := k
  subst hc; subst hl
  refine ⟨r, h', q, N, fun n h1 => ?_⟩
  show (bif Nat.ble args.length (az_ml mid) then az_run (az_ev d n) (az_code mid) n 0 (az_lin args (az_ml mid)) [] h else none) = _
  rw [hb]
  exact hn n h1 n h1
def az_adv (code : Nat → Option az_I) : Nat → az_S → az_S
  | 0, s => s
  | n + 1, (p, ls, stk, h) => match code p with
    | none => (p, ls, stk, h)
    | some i => match az_st1 i ls stk h with
      | some s' => az_adv code n s'
      | none => (p, ls, stk, h)
section RR
variable {d : Nat} {code : Nat → Option az_I} {p : Nat} {ls : List az_V} {stk : List Value} {h : az_H} {Q : Option Value → az_H → Prop}
theorem az_one {p' : Nat} {ls' : List az_V} {stk' : List Value} {h' : az_H} {i : az_I} (hi : code p = some i) (hs : ∀ (call : Nat → List Value → az_H → Option az_R) (k : Nat → List az_V → List Value → az_H → Option az_R), az_step call i ls stk h k = k p' ls' stk' h') (kk : az_RUN d code p' ls' stk' h' Q) : az_RUN d code p ls stk h Q := by
  obtain ⟨r, h1, q, N, hn⟩ := kk
  refine ⟨r, h1, q, N + 1, fun n h2 n' h3 => ?_⟩
  obtain ⟨m, rfl⟩ : ∃ m, n = m + 1 := ⟨n - 1, by omega⟩
  show (match code p with | none => none | some i => az_step (az_ev d n') i ls stk h (az_run (az_ev d n') code m)) = _
  rw [hi]
  show az_step (az_ev d n') i ls stk h (az_run (az_ev d n') code m) = _
  rw [hs]
  exact hn m (by omega) n' (by omega)
theorem az_segs (n : Nat) : ∀ {s : az_S}, az_RUN d code (az_adv code n s).1 (az_adv code n s).2.1 (az_adv code n s).2.2.1 (az_adv code n s).2.2.2 Q → az_RUN d code s.1 s.2.1 s.2.2.1 s.2.2.2 Q := by
  induction n with
  | zero => intro s k; exact k
  | succ n ih =>
    intro s k
    obtain ⟨p, ls, stk, h⟩ := s
    unfold az_adv at k
    split at k
    · exact k
    · next i hi =>
      split at k
      · next s' hs =>
        refine az_one hi (fun call kk => ?_) (ih k)
        unfold az_step
        rw [hs]
      · exact k
/-- a straight stretch, as far as it goes -/
theorem az_seg {p' : Nat} {ls' : List az_V} {stk' : List Value} {h' : az_H} (e : az_adv code 60 (p, ls, stk, h) = (p', ls', stk', h')) (k : az_RUN d code p' ls' stk' h' Q) : az_RUN d code p ls stk h Q := by
  refine az_segs 60 (s := (p, ls, stk, h)) ?_
  rw [e]
  exact k
/-- n straight instructions -/
theorem az_sg (n : Nat) {p' : Nat} {ls' : List az_V} {stk' : List Value} {h' : az_H} (e : az_adv code n (p, ls, stk, h) = (p', ls', stk', h')) (k : az_RUN d code p' ls' stk' h' Q) : az_RUN d code p ls stk h Q := by
  refine az_segs n (s := (p, ls, stk, h)) ?_
  rw [e]
  exact k
theorem az_bF {a b : Nat} (h : b < a) : Nat.ble a b = false := by
  cases e : Nat.ble a b with
  | false => rfl
  | true => exact absurd (Nat.le_of_ble_eq_true e) (by omega)
theorem az_eF {a b : Nat} (h : a ≠ b) : Nat.beq a b = false := by
  cases e : Nat.beq a b with
  | false => rfl
  | true => exact absurd (Nat.eq_of_beq_eq_true e) h
theorem az_st1_hi {i : az_I} (h1 : 31 ≤ i.1) (h2 : i.1 ≤ 65) : az_st1 i ls stk h = none := by
  obtain ⟨t, a, b, c, im, nx, sw⟩ := i
  have h1 : 31 ≤ t := h1
  have h2 : t ≤ 65 := h2
  simp only [az_st1, az_bF (show 10 < t by omega), az_bF (show 15 < t by omega), az_bF (show 20 < t by omega), az_bF (show 25 < t by omega), az_bF (show 30 < t by omega), az_eF (show t ≠ 66 by omega), az_eF (show t ≠ 67 by omega), az_eF (show t ≠ 68 by omega), az_eF (show t ≠ 69 by omega), az_eF (show t ≠ 70 by omega), cond_false]
theorem az_gd_hi {i : az_I} (h1 : 43 ≤ i.1) : az_gd i stk h = none := by
  obtain ⟨t, a, b, c, im, nx, sw⟩ := i
  have h1 : 43 ≤ t := h1
  simp only [az_gd, az_bF (show 32 < t by omega), az_bF (show 41 < t by omega), az_eF (show t ≠ 33 by omega), az_eF (show t ≠ 34 by omega), az_eF (show t ≠ 35 by omega), az_eF (show t ≠ 36 by omega), az_eF (show t ≠ 37 by omega), az_eF (show t ≠ 38 by omega), az_eF (show t ≠ 39 by omega), az_eF (show t ≠ 42 by omega), cond_false]
  cases Nat.ble t 30 <;> rfl
theorem az_br_hi {i : az_I} (h1 : 55 ≤ i.1) : az_br i stk = none := by
  obtain ⟨t, a, b, c, im, nx, sw⟩ := i
  have h1 : 55 ≤ t := h1
  simp only [az_br, az_bF (show 48 < t by omega), az_bF (show 54 < t by omega), cond_false]
  cases Nat.ble t 42 <;> rfl
theorem az_sw_hi {i : az_I} (h1 : 57 ≤ i.1) : az_sw i stk = none := by
  obtain ⟨t, a, b, c, im, nx, sw⟩ := i
  have h1 : 57 ≤ t := h1
  simp only [az_sw, az_bF (show 56 < t by omega), Bool.and_false, cond_false]
theorem az_cl_hi {i : az_I} (h1 : 62 ≤ i.1) : az_cl i stk h = none := by
  obtain ⟨t, a, b, c, im, nx, sw⟩ := i
  have h1 : 62 ≤ t := h1
  simp only [az_cl, az_eF (show t ≠ 57 by omega), az_eF (show t ≠ 59 by omega), az_eF (show t ≠ 60 by omega), az_eF (show t ≠ 61 by omega), Bool.or_false, cond_false]
theorem az_bb {a b x : Nat} (h : (Nat.ble a x && Nat.ble x b) = true) : a ≤ x ∧ x ≤ b := by
  rw [Bool.and_eq_true] at h
  exact ⟨Nat.le_of_ble_eq_true h.1, Nat.le_of_ble_eq_true h.2⟩
/-- a guarded instruction -/
theorem az_grd {i : az_I} {g : Bool} {p' : Nat} {stk' : List Value} {h' : az_H} (hi : code p = some i) (ht : (Nat.ble 31 i.1 && Nat.ble i.1 42) = true) (e : az_gd i stk h = some (g, p', stk', h')) (hg : g = true) (k : az_RUN d code p' ls stk' h' Q) : az_RUN d code p ls stk h Q := by
  obtain ⟨h1, h2⟩ := az_bb ht
  refine az_one hi (fun call kk => ?_) k
  unfold az_step
  rw [az_st1_hi (by omega) (by omega), e, hg]
  rfl
/-- a branch -/
theorem az_brn {i : az_I} {g : Bool} {t f : Nat} {stk' : List Value} (hi : code p = some i) (ht : (Nat.ble 43 i.1 && Nat.ble i.1 54) = true) (e : az_br i stk = some (g, t, f, stk')) (kt : g = true → az_RUN d code t ls stk' h Q) (kf : g = false → az_RUN d code f ls stk' h Q) : az_RUN d code p ls stk h Q := by
  obtain ⟨h1, h2⟩ := az_bb ht
  cases hg : g with
  | true =>
    refine az_one hi (fun call kk => ?_) (kt hg)
    unfold az_step
    rw [az_st1_hi (by omega) (by omega), az_gd_hi (by omega), e, hg]
    rfl
  | false =>
    refine az_one hi (fun call kk => ?_) (kf hg)
    unfold az_step
    rw [az_st1_hi (by omega) (by omega), az_gd_hi (by omega), e, hg]
    rfl
/-- a branch on a condition -/
theorem az_bra {i : az_I} {c : Prop} [Decidable c] {t f : Nat} {stk' : List Value} (hi : code p = some i) (ht : (Nat.ble 43 i.1 && Nat.ble i.1 54) = true) (e : az_br i stk = some (decide c, t, f, stk')) (kt : c → az_RUN d code t ls stk' h Q) (kf : ¬ c → az_RUN d code f ls stk' h Q) : az_RUN d code p ls stk h Q :=
  az_brn hi ht e (fun z => kt (of_decide_eq_true z)) (fun z => kf (of_decide_eq_false z))
theorem az_swi {i : az_I} {x : Int32} {cs : List (Int32 × Nat)} {df : Nat} {stk' : List Value} (hi : code p = some i) (ht : (Nat.ble 55 i.1 && Nat.ble i.1 56) = true) (e : az_sw i stk = some (x, cs, df, stk')) (k : az_RUN d code (az_swt cs df x) ls stk' h Q) : az_RUN d code p ls stk h Q := by
  obtain ⟨h1, h2⟩ := az_bb ht
  refine az_one hi (fun call kk => ?_) k
  unfold az_step
  rw [az_st1_hi (by omega) (by omega), az_gd_hi (by omega), az_br_hi (by omega), e]
theorem az_cal {i : az_I} {mid : Nat} {as rest : List Value} {nx : Nat} {Qc : Option Value → az_H → Prop} (hi : code p = some i) (ht : (Nat.ble 57 i.1 && Nat.ble i.1 61) = true) (e : az_cl i stk h = some (mid, as, rest, nx)) (hr : Nat.ble (az_cat rest) 8 = true) (hE : az_EV d mid as h Qc) (k : ∀ r h', Qc r h' → az_RUN d code nx ls (az_app r rest) h' Q) : az_RUN d code p ls stk h Q := by
  obtain ⟨h1, h2⟩ := az_bb ht
  obtain ⟨rc, hc, qc, N0, hn0⟩ := hE
  obtain ⟨r, h', q, N, hn⟩ := k rc hc qc
  refine ⟨r, h', q, N + N0 + 1, fun n hh n' hh' => ?_⟩
  obtain ⟨m, rfl⟩ : ∃ m, n = m + 1 := ⟨n - 1, by omega⟩
  show (match code p with | none => none | some i => az_step (az_ev d n') i ls stk h (az_run (az_ev d n') code m)) = _
  rw [hi]
  show az_step (az_ev d n') i ls stk h (az_run (az_ev d n') code m) = _
  unfold az_step
  rw [az_st1_hi (by omega) (by omega), az_gd_hi (by omega), az_br_hi (by omega), az_sw_hi (by omega), e]
  show (bif Nat.ble (az_cat rest) 8 then (match az_ev d n' mid as h with | some (r, h') => az_run (az_ev d n') code m nx ls (az_app r rest) h' | none => none) else none) = _
  rw [hr, hn0 n' (by omega)]
  exact hn m (by omega) n' (by omega)
/-- a call whose end is known -/
theorem az_cax {i : az_I} {mid : Nat} {as rest : List Value} {nx : Nat} {rc : Option Value} {hc : az_H} (hi : code p = some i) (ht : (Nat.ble 57 i.1 && Nat.ble i.1 61) = true) (e : az_cl i stk h = some (mid, as, rest, nx)) (hr : Nat.ble (az_cat rest) 8 = true) (hE : az_EX d mid as h rc hc) (k : az_RUN d code nx ls (az_app rc rest) hc Q) : az_RUN d code p ls stk h Q :=
  az_cal hi ht e hr (az_EV.of (Q := fun r1 h1 => r1 = rc ∧ h1 = hc) hE ⟨rfl, rfl⟩) (fun r h' q => by obtain ⟨rfl, rfl⟩ := q; exact k)
theorem az_ret {i : az_I} {g : Bool} {r : Option Value} (hi : code p = some i) (ht : (Nat.ble 62 i.1 && Nat.ble i.1 65) = true) (e : az_rt i stk = some (g, r)) (hg : g = true) (q : Q r h) : az_RUN d code p ls stk h Q := by
  obtain ⟨h1, h2⟩ := az_bb ht
  refine ⟨r, h, q, 1, fun n hh n' hh' => ?_⟩
  obtain ⟨m, rfl⟩ : ∃ m, n = m + 1 := ⟨n - 1, by omega⟩
  show (match code p with | none => none | some i => az_step (az_ev d n') i ls stk h (az_run (az_ev d n') code m)) = _
  rw [hi]
  show az_step (az_ev d n') i ls stk h (az_run (az_ev d n') code m) = _
  unfold az_step
  rw [az_st1_hi (by omega) (by omega), az_gd_hi (by omega), az_br_hi (by omega), az_sw_hi (by omega), az_cl_hi (by omega), e, hg]
  rfl
/-- getfield of a reference, at a cell whose shape is known by a row -/
theorem az_gfr {hz hw : Nat} {hS : Nat → az_Sh} {hM : Nat → Nat → Int32} {t a b c nx : Nat} {im : Int32} {sw : List (Int32 × Nat)} {q q2 : Nat} {ln : Nat} {rs : List (Option (Option Nat))} {rest : List Value} (hs : hS q = (b, ln, rs)) (hi : code p = some (t, a, b, c, im, nx, sw)) (ht : (Nat.ble 21 t && Nat.ble t 22) = true) (hn : az_nth rs c = some (some (some q2))) (k : az_RUN d code nx ls (.ref q2 :: rest) (hz, hS, hM, hw) Q) : az_RUN d code p ls (.ref q :: rest) (hz, hS, hM, hw) Q := by
  obtain ⟨h1, h2⟩ := az_bb ht
  refine az_one hi (fun call kk => ?_) k
  unfold az_step
  have e : az_st1 (t, a, b, c, im, nx, sw) ls (.ref q :: rest) (hz, hS, hM, hw) = some (nx, ls, .ref q2 :: rest, (hz, hS, hM, hw)) := by
    have e1 : Nat.ble t 25 = true := Nat.ble_eq.mpr (by omega)
    have e2 : Nat.ble t 22 = true := Nat.ble_eq.mpr (by omega)
    simp only [az_st1, az_bF (show 10 < t by omega), az_bF (show 15 < t by omega), az_bF (show 20 < t by omega), e1, e2, hs, cond_false, cond_true, hn, Nat.beq_refl]
  rw [e]
/-- arraylength there -/
theorem az_aln {hz hw : Nat} {hS : Nat → az_Sh} {hM : Nat → Nat → Int32} {a b c nx : Nat} {im : Int32} {sw : List (Int32 × Nat)} {q ln kd : Nat} {rs : List (Option (Option Nat))} {rest : List Value} (hs : hS q = (kd, ln, rs)) (hi : code p = some (26, a, b, c, im, nx, sw)) (hk : (Nat.ble 9 kd && Nat.ble kd 11) = true) (k : az_RUN d code nx ls (.int (Int32.ofNat ln) :: rest) (hz, hS, hM, hw) Q) : az_RUN d code p ls (.ref q :: rest) (hz, hS, hM, hw) Q := by
  refine az_one hi (fun call kk => ?_) k
  unfold az_step
  have e : az_st1 (26, a, b, c, im, nx, sw) ls (.ref q :: rest) (hz, hS, hM, hw) = some (nx, ls, .int (Int32.ofNat ln) :: rest, (hz, hS, hM, hw)) := by
    show (match hS q with | (kd, ln, _) => bif Nat.ble 9 kd && Nat.ble kd 11 then some (nx, ls, Value.int (Int32.ofNat ln) :: rest, (hz, hS, hM, hw)) else none) = _
    rw [hs]
    show (bif Nat.ble 9 kd && Nat.ble kd 11 then some (nx, ls, Value.int (Int32.ofNat ln) :: rest, (hz, hS, hM, hw)) else none) = _
    rw [hk]
    rfl
  rw [e]
/-- iaload, iastore there -/
theorem az_ild {hz hw : Nat} {hS : Nat → az_Sh} {hM : Nat → Nat → Int32} {a b c nx : Nat} {im : Int32} {sw : List (Int32 × Nat)} {q ln : Nat} {rs : List (Option (Option Nat))} {rest : List Value} {j : Int32} (hs : hS q = (9, ln, rs)) (hi : code p = some (33, a, b, c, im, nx, sw)) (hg : az_in j ln = true) (k : az_RUN d code nx ls (.int (hM q j.toNatClampNeg) :: rest) (hz, hS, hM, hw) Q) : az_RUN d code p ls (.int j :: .ref q :: rest) (hz, hS, hM, hw) Q := by
  refine az_grd hi rfl (g := az_in j ln) ?_ hg k
  show (match hS q with | (kd, ln, _) => bif Nat.beq kd 9 then some (az_in j ln, nx, Value.int (hM q j.toNatClampNeg) :: rest, (hz, hS, hM, hw)) else none) = _
  rw [hs]
  rfl
theorem az_ist {hz hw : Nat} {hS : Nat → az_Sh} {hM : Nat → Nat → Int32} {a b c nx : Nat} {im : Int32} {sw : List (Int32 × Nat)} {q ln : Nat} {rs : List (Option (Option Nat))} {rest : List Value} {j x : Int32} (hs : hS q = (9, ln, rs)) (hi : code p = some (34, a, b, c, im, nx, sw)) (hg : az_in j ln = true) (k : az_RUN d code nx ls rest (hz, hS, az_up hM q j.toNatClampNeg x, hw) Q) : az_RUN d code p ls (.int x :: .int j :: .ref q :: rest) (hz, hS, hM, hw) Q := by
  refine az_grd hi rfl (g := az_in j ln) ?_ hg k
  show (match hS q with | (kd, ln, _) => bif Nat.beq kd 9 then some (az_in j ln, nx, rest, (hz, hS, az_up hM q j.toNatClampNeg x, hw)) else none) = _
  rw [hs]
  rfl
theorem az_RUN.mono {Q' : Option Value → az_H → Prop} (k : az_RUN d code p ls stk h Q') (hq : ∀ r h', Q' r h' → Q r h') : az_RUN d code p ls stk h Q := by
  obtain ⟨r, h', q, N, hn⟩ := k
  exact ⟨r, h', hq r h' q, N, hn⟩
end RR
