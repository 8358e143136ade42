/-! STEP: an instruction of the abstract machine is the machine's -/
def az_rcP (rc : Nat) (rt : Option FieldType) : Prop := (rc = 0 → rt = none) ∧ (rc = 1 → rt = some .int) ∧ (rc = 2 → rt = some .boolean) ∧ (rc = 3 → rt = some (.object "CaravanZones$World")) ∧ (rc = 4 → rt = none)
def az_CX (p : Program) (s : State) (m : MethodId) (args : Array Value) (meth : Method) (c : Code) (D : va_G) (nL oi rc : Nat) (cc : ByteArray) : Prop :=
  p.tables.exec = Jvm.exec ∧ c.code = cc ∧ c.maxLocals = nL ∧ s.vm.findClass (az_cn oi) = some m.cls ∧ (∀ w ∈ az_W, w.before args s = true) ∧ va_K D vwCl [] s ∧ az_TB s ∧ (rc = 4 → meth.name = "<init>") ∧ meth.locks = false ∧ az_rcP rc meth.sig.returnType
section STEP
variable {p : Program} {l : Launch} {e : Env} {R : Room} {s : State} {m : MethodId} {args : Array Value} {below : List Frame} {meth : Method} {c : Code} {Q : State → Prop}
variable {D : va_G} {nL oi rc z0 : Nat} {cc : ByteArray} {h0 : az_H} {pc : Nat} {ls : List az_V} {stk : List Value} {h : az_H}
/-- the machine stands where the abstract one does -/
def az_MS (p : Program) (l : Launch) (e : Env) (R : Room) (s : State) (m : MethodId) (args : Array Value) (below : List Frame) (meth : Method) (c : Code) (D : va_G) (nL z0 : Nat) (h0 : az_H) (Q : State → Prop) (pc : Nat) (ls : List az_V) (stk : List Value) (h : az_H) : Prop :=
  ∀ (H : Heap) (locs : List Loc) (cells slots : Nat) (la : Array Slot), az_HR s D z0 h H → va_S (fun q => z0 ≤ q) s.heap H locs → az_LR la nL z0 ls → h.1 = h0.1 + cells → h.2.2.2 = h0.2.2.2 + slots → W p l e R s m args below meth c H locs cells slots Q (F0 m pc la (stk.map (az_sv z0)))
theorem az_wd (X : az_CX p s m args meth c D nL oi rc cc) {w : Cond} (hw : w ∈ tables_1) (hg : goodWord w = true) : w.before args s = true := X.2.2.2.2.1 w (az_Wt hw hg)
theorem az_snd_const {v : Int32} {len : Nat} (X : az_CX p s m args meth c D nL oi rc cc) (hd : decode cc pc = .ok (.iconst v.toInt, len) ∧ len = 1 ∨ (decode cc pc = .ok (.bipush v.toInt, len) ∧ len = 2 ∧ (Int8.ofInt v.toInt).toInt32 = v) ∨ (decode cc pc = .ok (.sipush v.toInt, len) ∧ len = 3 ∧ (Int16.ofInt v.toInt).toInt32 = v)) (kk : az_MS p l e R s m args below meth c D nL z0 h0 Q (pc + len) ls (.int v :: stk) h) : az_MS p l e R s m args below meth c D nL z0 h0 Q pc ls stk h := by
  intro H locs cells slots la hH hS hL h1 h2
  have k := kk H locs cells slots la hH hS hL h1 h2
  rcases hd with ⟨hd, rfl⟩ | ⟨hd, rfl, hv⟩ | ⟨hd, rfl, hv⟩
  · exact lv_iconst X.1 X.2.1 hd (Int32.ofInt_toInt v) k
  · exact lv_bipush X.1 X.2.1 hd hv k
  · exact lv_sipush X.1 X.2.1 hd hv k
theorem az_fin {a : Nat} (h : a < 4) : ((Fin.ofNat 4 a : Fin 4) : Nat) = a := Nat.mod_eq_of_lt h
theorem az_or3 {x y z : Bool} {P : Prop} (h : (x || y || z) = true) (h1 : x = true → P) (h2 : y = true → P) (h3 : z = true → P) : P := by
  rw [Bool.or_eq_true, Bool.or_eq_true] at h
  rcases h with (h | h) | h
  · exact h1 h
  · exact h2 h
  · exact h3 h
theorem az_fld {e : Nat × Nat × Nat × Nat × Nat} (h : az_ft.contains e = true) : az_fP e := az_ft_ok e (List.contains_iff_mem.mp h)
theorem az_fP0 {oi a b k : Nat} (h : az_fP (oi, a, b, k, 0)) : ∃ q : vw_C, vwCl[b]? = some q ∧ k < q.2.2 ∧ (q.2.1 k).1 = q.1 ∧ Cond.fieldLink (az_cn oi) a q.1 (q.2.1 k).2.1 (q.2.1 k).2.2.1 ∈ tables_1 ∧ (q.2.1 k).2.2.1 = "I" ∧ (q.2.1 k).2.2.2 = false := by
  obtain ⟨q, h1, h2, h3, h4, h5⟩ := h
  exact ⟨q, h1, h2, h3, (if_pos (show 0 % 2 = 0 from rfl)).mp h4, (if_pos (show 0 / 2 = 0 from rfl)).mp h5⟩
theorem az_fP1 {oi a b k : Nat} (h : az_fP (oi, a, b, k, 1)) : ∃ q : vw_C, vwCl[b]? = some q ∧ k < q.2.2 ∧ (q.2.1 k).1 = q.1 ∧ (∃ host : String, Cond.fieldLinkNest (az_cn oi) a q.1 (q.2.1 k).2.1 (q.2.1 k).2.2.1 host ∈ tables_1) ∧ (q.2.1 k).2.2.1 = "I" ∧ (q.2.1 k).2.2.2 = false := by
  obtain ⟨q, h1, h2, h3, h4, h5⟩ := h
  exact ⟨q, h1, h2, h3, (if_neg (show ¬ 1 % 2 = 0 by decide)).mp h4, (if_pos (show 1 / 2 = 0 from rfl)).mp h5⟩
theorem az_fP2 {oi a b k : Nat} (h : az_fP (oi, a, b, k, 2)) : ∃ q : vw_C, vwCl[b]? = some q ∧ k < q.2.2 ∧ (q.2.1 k).1 = q.1 ∧ Cond.fieldLink (az_cn oi) a q.1 (q.2.1 k).2.1 (q.2.1 k).2.2.1 ∈ tables_1 ∧ (q.2.1 k).2.2.1 = "Z" ∧ (q.2.1 k).2.2.2 = false := by
  obtain ⟨q, h1, h2, h3, h4, h5⟩ := h
  exact ⟨q, h1, h2, h3, (if_pos (show 2 % 2 = 0 from rfl)).mp h4, (if_pos (show 2 / 2 = 1 from rfl)).mp ((if_neg (show ¬ 2 / 2 = 0 by decide)).mp h5)⟩
theorem az_fP4 {oi a b k : Nat} (h : az_fP (oi, a, b, k, 4)) : ∃ q : vw_C, vwCl[b]? = some q ∧ k < q.2.2 ∧ (q.2.1 k).1 = q.1 ∧ Cond.fieldLink (az_cn oi) a q.1 (q.2.1 k).2.1 (q.2.1 k).2.2.1 ∈ tables_1 ∧ (q.2.1 k).2.2.2 = true ∧ az_cn oi = q.1 ∧ ∃ ty, parseFieldDescriptor (q.2.1 k).2.2.1 = some ty ∧ ∀ a, narrow ty (.ref a) = .ref a ∧ fits ty (.ref a) = true := by
  obtain ⟨q, h1, h2, h3, h4, h5⟩ := h
  have h5 := (if_neg (show ¬ 4 / 2 = 1 by decide)).mp ((if_neg (show ¬ 4 / 2 = 0 by decide)).mp h5)
  exact ⟨q, h1, h2, h3, (if_pos (show 4 % 2 = 0 from rfl)).mp h4, h5.1, h5.2.1 rfl, h5.2.2⟩
/-- what a getfield needs -/
def az_gN (oi a b k : Nat) (nest : Bool) : Prop := ∃ q : vw_C, vwCl[b]? = some q ∧ k < q.2.2 ∧ (q.2.1 k).1 = q.1 ∧ (if nest = false then Cond.fieldLink (az_cn oi) a q.1 (q.2.1 k).2.1 (q.2.1 k).2.2.1 ∈ tables_1 else ∃ host : String, Cond.fieldLinkNest (az_cn oi) a q.1 (q.2.1 k).2.1 (q.2.1 k).2.2.1 host ∈ tables_1)
theorem az_gNe {oi a b k x : Nat} (h : az_fP (oi, a, b, k, x)) (hx : x % 2 = 0) : az_gN oi a b k false := by
  obtain ⟨q, h1, h2, h3, h4, -⟩ := h
  exact ⟨q, h1, h2, h3, (if_pos rfl).mpr ((if_pos (show x % 2 = 0 from hx)).mp h4)⟩
theorem az_gNo {oi a b k x : Nat} (h : az_fP (oi, a, b, k, x)) (hx : ¬ x % 2 = 0) : az_gN oi a b k true := by
  obtain ⟨q, h1, h2, h3, h4, -⟩ := h
  exact ⟨q, h1, h2, h3, (if_neg (by decide)).mpr ((if_neg (show ¬ x % 2 = 0 from hx)).mp h4)⟩
theorem az_gN0 {oi a b k : Nat} (h : (az_ft.contains (oi, a, b, k, 0) || az_ft.contains (oi, a, b, k, 2) || az_ft.contains (oi, a, b, k, 4)) = true) : az_gN oi a b k false :=
  az_or3 h (fun h => az_gNe (az_fld h) (by decide)) (fun h => az_gNe (az_fld h) (by decide)) (fun h => az_gNe (az_fld h) (by decide))
theorem az_gN1 {oi a b k : Nat} (h : (az_ft.contains (oi, a, b, k, 1) || az_ft.contains (oi, a, b, k, 3) || az_ft.contains (oi, a, b, k, 5)) = true) : az_gN oi a b k true :=
  az_or3 h (fun h => az_gNo (az_fld h) (by decide)) (fun h => az_gNo (az_fld h) (by decide)) (fun h => az_gNo (az_fld h) (by decide))
theorem az_bit_fit {x : Int32} (h : az_bit x = true) : fits .boolean (.int x) = true := by
  unfold az_bit at h
  rw [Bool.or_eq_true, decide_eq_true_eq, decide_eq_true_eq] at h
  rcases h with rfl | rfl <;> rfl
theorem az_snd_get {a b k q ln hz hw : Nat} {hS : Nat → az_Sh} {hM : Nat → Nat → Int32} {rs : List (Option (Option Nat))} {o : Option (Option Nat)} {v : Value} {rest : List Value} {nest : Bool} (X : az_CX p s m args meth c D nL oi rc cc) (hg : az_gN oi a b k nest) (hs : hS q = (b, ln, rs)) (hn : az_nth rs k = some o) (hv : az_sv z0 v = az_va1 z0 (hM q) k o) (hd : decode cc pc = .ok (.getfield a, 3)) (kk : az_MS p l e R s m args below meth c D nL z0 h0 Q (pc + 3) ls (v :: rest) (hz, hS, hM, hw)) : az_MS p l e R s m args below meth c D nL z0 h0 Q pc ls (.ref q :: rest) (hz, hS, hM, hw) := by
  intro H locs cells slots la hH hS0 hL h1 h2
  have kx := kk H locs cells slots la hH hS0 hL h1 h2
  obtain ⟨hx, hb, hml, hown, hts, hK, hTB, -⟩ := X
  obtain ⟨qc, g1, g2, g3, g4⟩ := hg
  obtain ⟨ty, c1, c2, c3, -⟩ := az_cls g1
  have hb9 : b < 9 := Nat.lt_succ_of_lt (List.getElem?_eq_some_iff.mp g1).1
  obtain ⟨-, hat⟩ := hH.obj hs hb9
  have hP := az_P1 hat
  have hvv : (az_vals z0 rs (hM q) 0)[k]? = some (az_sv z0 v) := by rw [az_vals_get, hn, hv, Nat.zero_add]; rfl
  cases nest with
  | false =>
    refine va_get hx hb hts c1 hown hK hP 0 rfl g1 k g2 (hts _ (az_Wt g4 rfl)) (fun x hx => by rw [g3] at hx; exact hx) hvv hd kx
  | true =>
    obtain ⟨host, g4⟩ := g4
    refine va_getN hx hb hts c1 hown hK hP 0 rfl g1 k g2 (va_Nw.use rfl (hTB.1 _ g4 rfl)) (fun x hx => by rw [g3] at hx; exact hx) hvv hd kx
theorem az_put_fin {b k q ln hz hw : Nat} {hS : Nat → az_Sh} {hM : Nat → Nat → Int32} {rs : List (Option (Option Nat))} {x : Int32} {rest : List Value} {H : Heap} {locs : List Loc} {cells slots : Nat} {la : Array Slot} (hs : hS q = (b, ln, rs)) (hn : az_nth rs k = some none) (hb9 : b < 9) (hq : q < hz) (kk : az_MS p l e R s m args below meth c D nL z0 h0 Q (pc + 3) ls rest (hz, hS, az_up hM q k x, hw)) (hH : az_HR s D z0 (hz, hS, hM, hw) H) (hS0 : va_S (fun q => z0 ≤ q) s.heap H locs) (hL : az_LR la nL z0 ls) (h1 : hz = h0.1 + cells) (h2 : hw = h0.2.2.2 + slots) (H1 : Heap) (locs1 : List Loc) (e1 : va_at D vwCl (z0 + q, .inr (b, (az_vals z0 rs (hM q) 0).set k (.int x))) H1) (e2 : H1.size = H.size) (e3 : ∀ y : Nat, y ≠ z0 + q → H1[y]? = H[y]?) (e4 : az_LL locs locs1 (z0 + q)) : W p l e R s m args below meth c H1 locs1 cells slots Q (F0 m (pc + 3) la (rest.map (az_sv z0))) := by
  have hset : (az_vals z0 rs (hM q) 0).set k (.int x) = az_vals z0 rs (az_up hM q k x q) 0 := az_vals_up z0 rs x _ _ 0 k hn (by simp [az_up]) (fun i hi => by simp [az_up]; intro h; omega)
  rw [hset] at e1
  refine kk H1 locs1 cells slots la (hH.put hq (fun _ _ => rfl) (fun y hy => ?_) (Or.inl ?_) e1 e2 e3) (e4.S hS0 e2 e3 (Nat.le_add_right _ _)) hL h1 h2
  · funext j
    simp [az_up, hy]
  · rw [hs]
    exact ⟨hb9, rfl⟩
theorem az_snd_put {a b k q ln hz hw : Nat} {hS : Nat → az_Sh} {hM : Nat → Nat → Int32} {rs : List (Option (Option Nat))} {x : Int32} {rest : List Value} (X : az_CX p s m args meth c D nL oi rc cc) (hg : az_fP (oi, a, b, k, 0)) (hs : hS q = (b, ln, rs)) (hn : az_nth rs k = some none) (hd : decode cc pc = .ok (.putfield a, 3)) (kk : az_MS p l e R s m args below meth c D nL z0 h0 Q (pc + 3) ls rest (hz, hS, az_up hM q k x, hw)) : az_MS p l e R s m args below meth c D nL z0 h0 Q pc ls (.int x :: .ref q :: rest) (hz, hS, hM, hw) := by
  intro H locs cells slots la hH hS0 hL h1 h2
  obtain ⟨hx, hb, hml, hown, hts, hK, hTB, -⟩ := X
  obtain ⟨qc, g1, g2, g3, g4, g5, g6⟩ := az_fP0 hg
  obtain ⟨ty, c1, c2, c3, -⟩ := az_cls g1
  have hb9 : b < 9 := Nat.lt_succ_of_lt (List.getElem?_eq_some_iff.mp g1).1
  obtain ⟨hq, hat⟩ := hH.obj hs hb9
  have hkl : k < (az_vals z0 rs (hM q) 0).length := by rw [az_vals_len]; exact az_nth_lt hn
  exact az_wput hx hb hts c1 ty c2 c3 hown hK hat g1 k g2 (hts _ (az_Wt g4 rfl)) (fun x hx => by rw [g3] at hx; exact hx) g6 (ty := .int) (by rw [g5]; decide +kernel) (vp_nar_int x) rfl hkl hd (az_put_fin hs hn hb9 hq kk hH hS0 hL h1 h2)
theorem az_snd_putN {a b k q ln hz hw : Nat} {hS : Nat → az_Sh} {hM : Nat → Nat → Int32} {rs : List (Option (Option Nat))} {x : Int32} {rest : List Value} (X : az_CX p s m args meth c D nL oi rc cc) (hg : az_fP (oi, a, b, k, 1)) (hs : hS q = (b, ln, rs)) (hn : az_nth rs k = some none) (hd : decode cc pc = .ok (.putfield a, 3)) (kk : az_MS p l e R s m args below meth c D nL z0 h0 Q (pc + 3) ls rest (hz, hS, az_up hM q k x, hw)) : az_MS p l e R s m args below meth c D nL z0 h0 Q pc ls (.int x :: .ref q :: rest) (hz, hS, hM, hw) := by
  intro H locs cells slots la hH hS0 hL h1 h2
  obtain ⟨hx, hb, hml, hown, hts, hK, hTB, -⟩ := X
  obtain ⟨qc, g1, g2, g3, ⟨host, g4⟩, g5, g6⟩ := az_fP1 hg
  obtain ⟨ty, c1, c2, c3, -⟩ := az_cls g1
  have hb9 : b < 9 := Nat.lt_succ_of_lt (List.getElem?_eq_some_iff.mp g1).1
  obtain ⟨hq, hat⟩ := hH.obj hs hb9
  have hkl : k < (az_vals z0 rs (hM q) 0).length := by rw [az_vals_len]; exact az_nth_lt hn
  exact az_wputN hx hb hts c1 ty c2 c3 hown hK hat g1 k g2 (va_Nw.use rfl (hTB.1 _ g4 rfl)) (fun x hx => by rw [g3] at hx; exact hx) g6 (ty := .int) (by rw [g5]; decide +kernel) (vp_nar_int x) rfl hkl hd (az_put_fin hs hn hb9 hq kk hH hS0 hL h1 h2)
theorem az_snd_putZ {a b k q ln hz hw : Nat} {hS : Nat → az_Sh} {hM : Nat → Nat → Int32} {rs : List (Option (Option Nat))} {x : Int32} {rest : List Value} (X : az_CX p s m args meth c D nL oi rc cc) (hg : az_fP (oi, a, b, k, 2)) (hbx : az_bit x = true) (hs : hS q = (b, ln, rs)) (hn : az_nth rs k = some none) (hd : decode cc pc = .ok (.putfield a, 3)) (kk : az_MS p l e R s m args below meth c D nL z0 h0 Q (pc + 3) ls rest (hz, hS, az_up hM q k x, hw)) : az_MS p l e R s m args below meth c D nL z0 h0 Q pc ls (.int x :: .ref q :: rest) (hz, hS, hM, hw) := by
  intro H locs cells slots la hH hS0 hL h1 h2
  obtain ⟨hx, hb, hml, hown, hts, hK, hTB, -⟩ := X
  obtain ⟨qc, g1, g2, g3, g4, g5, g6⟩ := az_fP2 hg
  obtain ⟨ty, c1, c2, c3, -⟩ := az_cls g1
  have hb9 : b < 9 := Nat.lt_succ_of_lt (List.getElem?_eq_some_iff.mp g1).1
  obtain ⟨hq, hat⟩ := hH.obj hs hb9
  have hkl : k < (az_vals z0 rs (hM q) 0).length := by rw [az_vals_len]; exact az_nth_lt hn
  exact az_wput hx hb hts c1 ty c2 c3 hown hK hat g1 k g2 (hts _ (az_Wt g4 rfl)) (fun x hx => by rw [g3] at hx; exact hx) g6 (ty := .boolean) (by rw [g5]; decide +kernel) (az_bit_nar hbx) (az_bit_fit hbx) hkl hd (az_put_fin hs hn hb9 hq kk hH hS0 hL h1 h2)
theorem az_snd_putF {a b k q v ln hz hw : Nat} {hS : Nat → az_Sh} {hM : Nat → Nat → Int32} {rs : List (Option (Option Nat))} {o : Option Nat} {rest : List Value} (X : az_CX p s m args meth c D nL oi rc cc) (hrc : rc = 4) (hg : az_fP (oi, a, b, k, 4)) (hs : hS q = (b, ln, rs)) (hn : az_nth rs k = some (some o)) (hd : decode cc pc = .ok (.putfield a, 3)) (kk : az_MS p l e R s m args below meth c D nL z0 h0 Q (pc + 3) ls rest (hz, az_put hS q (b, ln, az_sub rs k (some (some v))), hM, hw)) : az_MS p l e R s m args below meth c D nL z0 h0 Q pc ls (.ref v :: .ref q :: rest) (hz, hS, hM, hw) := by
  intro H locs cells slots la hH hS0 hL h1 h2
  obtain ⟨hx, hb, hml, hown, hts, hK, hTB, hin, -⟩ := X
  obtain ⟨qc, g1, g2, g3, g4, g5, g6, tyv, g7, g8⟩ := az_fP4 hg
  obtain ⟨ty, c1, c2, c3, -⟩ := az_cls g1
  have hb9 : b < 9 := Nat.lt_succ_of_lt (List.getElem?_eq_some_iff.mp g1).1
  obtain ⟨hq, hat⟩ := hH.obj hs hb9
  have hkl : k < (az_vals z0 rs (hM q) 0).length := by rw [az_vals_len]; exact az_nth_lt hn
  have fin : ∀ (H1 : Heap) (locs1 : List Loc), va_at D vwCl (z0 + q, .inr (b, (az_vals z0 rs (hM q) 0).set k (.ref (z0 + v)))) H1 → H1.size = H.size → (∀ y : Nat, y ≠ z0 + q → H1[y]? = H[y]?) → az_LL locs locs1 (z0 + q) → W p l e R s m args below meth c H1 locs1 cells slots Q (F0 m (pc + 3) la (rest.map (az_sv z0))) := by
    intro H1 locs1 e1 e2 e3 e4
    rw [az_vals_sub] at e1
    refine kk H1 locs1 cells slots la (hH.put hq (fun y hy => ?_) (fun _ _ => rfl) (Or.inl ?_) e1 e2 e3) (e4.S hS0 e2 e3 (Nat.le_add_right _ _)) hL h1 h2
    · simp [az_put, hy]
    · simp [az_put]
      exact hb9
  exact az_wputF hx hb hts c1 ty c2 c3 hown hK hat g1 k g2 (hts _ (az_Wt g4 rfl)) (fun x hx => by rw [g3] at hx; exact hx) g5 (hin hrc) (by rw [g3, g6]) g7 (g8 _).1 (g8 _).2 hkl hd fin
end STEP
