/-! CALLS: contracts of the abstract machine's methods; a whole run -/
def az_Pc (D : va_G) (z0 : Nat) (as : List Value) (h : az_H) : Array Value → State → Prop := va_Pc (as.map (az_sv z0)) (fun U => az_HR U D z0 h U.heap ∧ va_K D vwCl [] U ∧ az_TB U)
def az_Qc (D : va_G) (z0 : Nat) (r : Option Value) (h' : az_H) : Array Value → State → Outcome → State → Prop := fun _ st o t => (o = .returned (r.map (az_sv z0)) ∧ az_HR t D z0 h' t.heap) ∧ va_F (fun q => z0 ≤ q) st t
def az_rm (d mc ms : Nat) : Room := { frames := d, cells := mc, slots := ms, locals := 33 * d }
def az_CT (l : Launch) (d mid : Nat) (as : List Value) (h : az_H) (r : Option Value) (h' : az_H) : Prop :=
  h.1 ≤ h'.1 ∧ h.2.2.2 ≤ h'.2.2.2 ∧ ∀ (M : az_ME), az_M[mid]? = some M → (∀ v ∈ as, v.category = 1) → ∀ (D : va_G) (z0 : Nat),
    Met l M.1 (.code M.1 M.2.1 M.2.2.1 M.2.2.2.1 :: az_W) (az_rm d (h'.1 - h.1) (h'.2.2.2 - h.2.2.2)) (az_Pc D z0 as h) (az_Qc D z0 r h') (h'.1 - h.1) (h'.2.2.2 - h.2.2.2) (fun q => z0 ≤ q)
/-- what the tables say of a method -/
def az_midP (mid : Nat) (M : az_ME) : Prop := Cond.code M.1 M.2.1 M.2.2.1 M.2.2.2.1 ∈ tables_1 ∧ Cond.initialized M.1.cls ∈ tables_1 ∧ M.1.cls = az_cn M.2.2.2.2.1 ∧ plainName M.1.cls = true ∧ (M.1.cls ≠ "java/lang/invoke/MethodHandle" ∧ M.1.cls ≠ "java/lang/invoke/VarHandle") ∧ M.2.2.1 ≤ 14 ∧ az_ml mid = M.2.2.1 ∧ az_rcP M.2.2.2.2.2 M.2.2.2.1 ∧ (M.2.2.2.2.2 = 4 → M.1.name = "<init>") ∧ ∀ p i, az_code mid p = some i → az_ok M.2.2.2.2.1 M.2.2.2.2.2 M.2.1 p i = true
theorem az_blind (D : va_G) (z0 : Nat) (as : List Value) (h : az_H) : FrameBlind (az_Pc D z0 as h) := by
  intro a U g mk q
  obtain ⟨q0, q1, q2, q3⟩ := q
  have hvm : U.vm.Alike (U.calling g mk a).vm := Vm.Alike.refl U.vm
  refine ⟨q0, q1.moved hvm, va_K.moved (u := U) (U := U.calling g mk a) hvm q2, fun w hw hn => ?_, q3.2.moved hvm⟩
  have h1 := q3.1 w hw hn
  cases w <;> first | exact va_Nw.same rfl rfl h1 | cases hn
theorem az_GI {y : MethodName} {b : ByteArray} {ml : Nat} {rt : Option FieldType} (h : Cond.code y b ml rt ∈ tables_1) : ∀ w ∈ Cond.code y b ml rt :: az_W, w ∈ az_W ∧ ((w.onTables && w.keeps) = true ∨ ∃ ty, w = .arrayClass ty) := by
  intro w hw
  rcases List.mem_cons.mp hw with rfl | hw
  · exact ⟨az_Wt h rfl, good_of_word rfl⟩
  · exact ⟨hw, good_of_word (az_Wgood w hw)⟩
section CAL
variable {p : Program} {l : Launch} {e : Env} {R : Room} {s : State} {m : MethodId} {args : Array Value} {below : List Frame} {meth : Method} {c : Code} {Q : State → Prop}
variable {D : va_G} {nL oi rc z0 : Nat} {cc : ByteArray} {h0 : az_H} {pc : Nat} {ls : List az_V} {stk : List Value} {h : az_H}
theorem az_gorun {H : Heap} {locs : List Loc} {cells slots mc ms : Nat} {la : Array Slot} {st0 rest : List Value} {r : Option Value} {h' : az_H} {a : Array Value} (hr : va_Run p l e R s m args below meth c H locs cells slots mc ms (F0 m pc la st0) rest (az_Qc D z0 r h' a) (fun q => z0 ≤ q)) (hS : va_S (fun q => z0 ≤ q) s.heap H locs)
    (kk : ∀ (H1 : Heap) (locs1 : List Loc), az_HR s D z0 h' H1 → va_S (fun q => z0 ≤ q) s.heap H1 locs1 → W p l e R s m args below meth c H1 locs1 (cells + mc) (slots + ms) Q (F0 m (pc + 3) la ((r.map (az_sv z0)).toList ++ rest))) : W p l e R s m args below meth c H locs cells slots Q (F0 m pc la st0) := by
  intro T hT X
  obtain ⟨v, st₀, t, T', L, e0, X', hL, e1, e2, ⟨⟨hv, hh⟩, hz, hk⟩, st⟩ := hr T hT X
  have hv : v = r.map (az_sv z0) := by cases hv; rfl
  subst hv
  rw [e0] at hz hk
  have hal : s.vm.Alike t.vm := by rw [← e2]; exact X'.warmed.alike
  obtain ⟨t2, a1, b1⟩ := kk T'.heap (locs ++ L) (by rw [e1]; exact hh.moved hal.symm) ⟨Nat.le_trans hS.1 (by rw [e1]; exact hz), fun q h1 h2 => by
      rw [e1, hk q (Nat.lt_of_lt_of_le h1 hS.1) h2]
      exact hS.2.1 q h1 h2, fun q hq => by
      rcases List.mem_append.mp hq with h | h
      · exact hS.2.2 q h
      · exact hL q h⟩ T' rfl X'
  exact ⟨t2, st t2 a1, b1⟩
theorem az_snd_cl {i : az_I} {mid : Nat} {as rest : List Value} {nx : Nat} {d : Nat} {r : Option Value} {h' : az_H} (hmids : ∀ mid M, az_M[mid]? = some M → az_midP mid M) (X : az_CX p s m args meth c D nL oi rc cc) (hok : az_ok oi rc cc pc i = true) (hs : az_cl i stk h = some (mid, as, rest, nx)) (hcat : az_cat rest ≤ 8) (hC : az_CT l d mid as h r h') (hRf : d + 1 ≤ R.frames) (hRl : 33 * (d + 1) ≤ R.locals) (r1 : h'.1 ≤ h0.1 + R.cells) (r2 : h'.2.2.2 ≤ h0.2.2.2 + R.slots) (kk : az_MS p l e R s m args below meth c D nL z0 h0 Q nx ls (az_app r rest) h') : az_MS p l e R s m args below meth c D nL z0 h0 Q pc ls stk h := by
  obtain ⟨t, a, b, k, im, nx0, sw⟩ := i
  obtain ⟨hz1, hz2, hMet⟩ := hC
  have hcat2 : ((rest.map (az_sv z0)).map fun v => v.category).sum ≤ 8 := by rw [az_cat_sum]; exact hcat
  have base : ∀ (M : az_ME), az_M[mid]? = some M → (∀ v ∈ as, v.category = 1) → ∀ (H : Heap), az_HR s D z0 h H → FrameBlind (az_Pc D z0 as h) ∧ ∀ U : State, U.heap = H → s.WarmedH U.vm → az_Pc D z0 as h (as.map (az_sv z0)).toArray U := by
    intro M hM hc H hH
    refine ⟨az_blind D z0 as h, fun U hU hW => ⟨rfl, ?_, va_K.moved hW.alike X.2.2.2.2.2.1, X.2.2.2.2.2.2.1.warm hW⟩⟩
    rw [hU]
    exact hH.moved hW.alike
  have cb : ∀ (M : az_ME) (n : Nat), az_M[mid]? = some M → az_midP mid M → (parseMethodDescriptor M.1.desc).map (fun d => d.parameters.length) = some n → Cond.methodLink (az_cn oi) a M.1 ∈ tables_1 → CallB R s args (az_cn oi) a M.1 M.2.1 M.2.2.1 M.2.2.2.1 (.code M.1 M.2.1 M.2.2.1 M.2.2.2.1 :: az_W) (az_rm d (h'.1 - h.1) (h'.2.2.2 - h.2.2.2)) (h'.1 - h.1) (h'.2.2.2 - h.2.2.2) n := by
    intro M n hM hP hn hl
    obtain ⟨g1, g2, g3, g4, g5, g6, g7, g8, g9, g10⟩ := hP
    refine ⟨rfl, rfl, hRf, ?_, pay_in X.2.2.2.2.1 (az_GI g1), List.mem_cons_self, az_wd X g1 rfl, az_wd X g2 rfl, g5, fun sig hsig => ?_, az_wd X hl rfl⟩
    · show 8 + (M.2.2.1 + 11) + 33 * d ≤ R.locals
      omega
    · rw [hsig] at hn
      exact (Option.some.inj hn).symm
  by_cases h62 : 62 ≤ t
  · rw [az_cl_hi h62] at hs
    cases hs
  by_cases h57 : t = 57
  · subst h57
    obtain ⟨hdg, hnx, hx2⟩ := az_okd hok (show az_exp pc (57, a, b, k, im, nx0, sw) = some (.invokevirtual a, 3) from rfl)
    have hnx : nx0 = pc + 3 := hnx (show 57 ≠ 55 by decide) (show 57 ≠ 56 by decide)
    subst hnx
    have hs : az_pop k stk [] (fun as r => match as, sw with
      | .ref q :: as', (_, kd) :: _ => bif Nat.beq (h.2.1 q).1 kd then some (b, .ref q :: as', r, pc + 3) else none
      | _, _ => none) = some (mid, as, rest, nx) := hs
    obtain ⟨as0, rest0, e1, e2, e3, e4⟩ := az_pop_spec _ _ _ _ _ hs
    rw [List.append_nil] at e4
    rcases as0 with _ | ⟨v, as'⟩
    · cases e4
    · rcases sw with _ | ⟨⟨fs, kd⟩, sw'⟩
      · cases v <;> cases e4
      obtain ⟨q, rfl⟩ : ∃ q, v = .ref q := by
        cases v with
        | ref q => exact ⟨q, rfl⟩
        | _ => cases e4
      have e4 : (bif Nat.beq (h.2.1 q).1 kd then some (b, Value.ref q :: as', rest0, pc + 3) else none) = some (mid, as, rest, nx) := e4
      cases hkd : Nat.beq (h.2.1 q).1 kd with
      | false => rw [hkd] at e4; cases e4
      | true =>
        rw [hkd] at e4
        have e4 : some (b, Value.ref q :: as', rest0, pc + 3) = some (mid, as, rest, nx) := e4
        simp only [Option.some.injEq, Prod.mk.injEq] at e4
        obtain ⟨rfl, rfl, rfl, rfl⟩ := e4
        have hkd := Nat.eq_of_beq_eq_true hkd
        cases k with
        | zero => cases hx2
        | succ n =>
          have hx2 : az_mt.contains (oi, a, b, n, 57, kd) = true := hx2
          obtain ⟨M, g1, g2, g3⟩ := az_mt_ok _ (List.contains_iff_mem.mp hx2)
          have g1 : az_M[b]? = some M := g1
          have g2 : (parseMethodDescriptor M.1.desc).map (fun d => d.parameters.length) = some n := g2
          have g3 := (if_pos (show 57 = 57 from rfl)).mp g3
          obtain ⟨g3, g4, g5, qc, g6, g7⟩ := g3
          have g6 : vwCl[kd]? = some qc := g6
          have hP := hmids b M g1
          have hb9 : kd < 9 := Nat.lt_succ_of_lt (List.getElem?_eq_some_iff.mp g6).1
          intro H locs cells slots la hH hS hL h1 h2
          have k1 := fun H1 locs1 (hH1 : az_HR s D z0 h' H1) hS1 => kk H1 locs1 (cells + (h'.1 - h.1)) (slots + (h'.2.2.2 - h.2.2.2)) la hH1 hS1 hL (by omega) (by omega)
          obtain ⟨hz, hSh, hM, hw⟩ := h
          obtain ⟨hq, hat⟩ := hH.obj (q := q) (b := kd) (ln := (hSh q).2.1) (rs := (hSh q).2.2) (by rw [← hkd]) hb9
          obtain ⟨hb1, hb2⟩ := base M g1 e3 H hH
          have hM := hMet M g1 e3 D z0
          rw [az_app_map] at k1
          have e2 : as'.length = n := by simpa using e2
          refine az_gorun (va_runV (As := as'.map (az_sv z0)) (rest := rest0.map (az_sv z0)) (b := z0 + q) (C := M.1.cls) ⟨X.1, X.2.1, X.2.2.1, X.2.2.2.1, X.2.2.2.2.1⟩ hM ⟨cb M n g1 hP g2 g3, az_wd X g4 rfl, X.2.2.2.2.1 _ g5⟩ ⟨hb1, ?_, hb2⟩ rfl (by rw [List.length_map]; exact e2) hL.1 (by rw [e1]; simp [az_sv]) (lv_room hcat2) hdg ⟨by omega, by omega⟩) hS k1
          rw [← g7]
          exact va_recv X.2.2.2.2.2.1 (az_P1 hat) g6 rfl (q0 := 0)
  by_cases h59 : t = 59
  · subst h59
    obtain ⟨hdg, hnx, hx2⟩ := az_okd hok (show az_exp pc (59, a, b, k, im, nx0, sw) = some (.invokestatic a, 3) from rfl)
    have hnx : nx0 = pc + 3 := hnx (show 59 ≠ 55 by decide) (show 59 ≠ 56 by decide)
    subst hnx
    have hs : az_pop k stk [] (fun as r => some (b, as, r, pc + 3)) = some (mid, as, rest, nx) := hs
    obtain ⟨as0, rest0, e1, e2, e3, e4⟩ := az_pop_spec _ _ _ _ _ hs
    rw [List.append_nil] at e4
    simp only [Option.some.injEq, Prod.mk.injEq] at e4
    obtain ⟨rfl, rfl, rfl, rfl⟩ := e4
    have hx2 : az_mt.contains (oi, a, b, k, 59, 0) = true := hx2
    obtain ⟨M, g1, g2, g3⟩ := az_mt_ok _ (List.contains_iff_mem.mp hx2)
    have g1 : az_M[b]? = some M := g1
    have g2 : (parseMethodDescriptor M.1.desc).map (fun d => d.parameters.length) = some k := g2
    have g3 := (if_pos (show 59 = 59 from rfl)).mp ((if_neg (show ¬ 59 = 57 by decide)).mp g3)
    obtain ⟨g3, g4⟩ := g3
    have hP := hmids b M g1
    intro H locs cells slots la hH hS hL h1 h2
    have k1 := fun H1 locs1 (hH1 : az_HR s D z0 h' H1) hS1 => kk H1 locs1 (cells + (h'.1 - h.1)) (slots + (h'.2.2.2 - h.2.2.2)) la hH1 hS1 hL (by omega) (by omega)
    obtain ⟨hb1, hb2⟩ := base M g1 e3 H hH
    have hM := hMet M g1 e3 D z0
    rw [az_app_map] at k1
    exact az_gorun (va_runS (As := as0.map (az_sv z0)) (rest := rest0.map (az_sv z0)) ⟨X.1, X.2.1, X.2.2.1, X.2.2.2.1, X.2.2.2.2.1⟩ hM ⟨cb M k g1 hP g2 g3, az_wd X g4 rfl⟩ ⟨hb1, hb2⟩ rfl (by rw [List.length_map]; exact e2) hL.1 (by rw [e1]; simp) (lv_room hcat2) hdg ⟨by omega, by omega⟩) hS k1
  by_cases h60 : t = 60
  · subst h60
    obtain ⟨hdg, hnx, hx2⟩ := az_okd hok (show az_exp pc (60, a, b, k, im, nx0, sw) = some (.invokespecial a, 3) from rfl)
    have hnx : nx0 = pc + 3 := hnx (show 60 ≠ 55 by decide) (show 60 ≠ 56 by decide)
    subst hnx
    have hs : az_pop k stk [] (fun as r => match as with
      | .ref q :: as' => some (b, .ref q :: as', r, pc + 3)
      | _ => none) = some (mid, as, rest, nx) := hs
    obtain ⟨as0, rest0, e1, e2, e3, e4⟩ := az_pop_spec _ _ _ _ _ hs
    rw [List.append_nil] at e4
    split at e4
    · next q as' =>
      simp only [Option.some.injEq, Prod.mk.injEq] at e4
      obtain ⟨rfl, rfl, rfl, rfl⟩ := e4
      cases k with
      | zero => cases hx2
      | succ n =>
        have hx2 : az_mt.contains (oi, a, b, n, 60, 0) = true := hx2
        obtain ⟨M, g1, g2, g3⟩ := az_mt_ok _ (List.contains_iff_mem.mp hx2)
        have g1 : az_M[b]? = some M := g1
        have g2 : (parseMethodDescriptor M.1.desc).map (fun d => d.parameters.length) = some n := g2
        have g3 := (if_pos (show 60 = 60 from rfl)).mp ((if_neg (show ¬ 60 = 59 by decide)).mp ((if_neg (show ¬ 60 = 57 by decide)).mp g3))
        obtain ⟨g3, g4, g5, hrt⟩ := g3
        have hP := hmids b M g1
        intro H locs cells slots la hH hS hL h1 h2
        have k1 := fun H1 locs1 (hH1 : az_HR s D z0 h' H1) hS1 => kk H1 locs1 (cells + (h'.1 - h.1)) (slots + (h'.2.2.2 - h.2.2.2)) la hH1 hS1 hL (by omega) (by omega)
        obtain ⟨hb1, hb2⟩ := base M g1 e3 H hH
        have hM := hMet M g1 e3 D z0
        have hcb := cb M n g1 hP g2 g3
        rw [hrt] at hM hcb
        rw [az_app_map] at k1
        have e2 : as'.length = n := by simpa using e2
        exact az_gorun (va_runI (As := as'.map (az_sv z0)) (rest := rest0.map (az_sv z0)) (b := z0 + q) ⟨X.1, X.2.1, X.2.2.1, X.2.2.2.1, X.2.2.2.2.1⟩ hM ⟨hcb, g5, az_wd X g4 rfl⟩ ⟨hb1, hb2⟩ rfl (by rw [List.length_map]; exact e2) hL.1 (by rw [e1]; simp [az_sv]) (lv_room hcat2) hdg ⟨by omega, by omega⟩) hS k1
    · cases e4
  by_cases h61 : t = 61
  · subst h61
    obtain ⟨hdg, hnx, hx2⟩ := az_okd hok (show az_exp pc (61, a, b, k, im, nx0, sw) = some (.invokespecial a, 3) from rfl)
    have hnx : nx0 = pc + 3 := hnx (show 61 ≠ 55 by decide) (show 61 ≠ 56 by decide)
    subst hnx
    have hs : az_pop k stk [] (fun as r => match as with
      | .ref q :: as' => some (b, .ref q :: as', r, pc + 3)
      | _ => none) = some (mid, as, rest, nx) := hs
    obtain ⟨as0, rest0, e1, e2, e3, e4⟩ := az_pop_spec _ _ _ _ _ hs
    rw [List.append_nil] at e4
    split at e4
    · next q as' =>
      simp only [Option.some.injEq, Prod.mk.injEq] at e4
      obtain ⟨rfl, rfl, rfl, rfl⟩ := e4
      cases k with
      | zero => cases hx2
      | succ n =>
        have hx2 : az_mt.contains (oi, a, b, n, 61, 0) = true := hx2
        obtain ⟨M, g1, g2, g3⟩ := az_mt_ok _ (List.contains_iff_mem.mp hx2)
        have g1 : az_M[b]? = some M := g1
        have g2 : (parseMethodDescriptor M.1.desc).map (fun d => d.parameters.length) = some n := g2
        have g3 := (if_neg (show ¬ 61 = 60 by decide)).mp ((if_neg (show ¬ 61 = 59 by decide)).mp ((if_neg (show ¬ 61 = 57 by decide)).mp g3))
        obtain ⟨host, g3, g4, g5, hrt⟩ := g3
        have g3 : Cond.methodLinkNest (az_cn oi) a M.1 host ∈ tables_1 := g3
        have hP := hmids b M g1
        intro H locs cells slots la hH hS hL h1 h2
        have k1 := fun H1 locs1 (hH1 : az_HR s D z0 h' H1) hS1 => kk H1 locs1 (cells + (h'.1 - h.1)) (slots + (h'.2.2.2 - h.2.2.2)) la hH1 hS1 hL (by omega) (by omega)
        obtain ⟨hb1, hb2⟩ := base M g1 e3 H hH
        have hM := hMet M g1 e3 D z0
        obtain ⟨f1, f2, f3, f4, f5, f6, f7, f8, f9, f10⟩ := hP
        have hcn : va_CN R s args (az_cn oi) a M.1 host M.2.1 M.2.2.1 none (.code M.1 M.2.1 M.2.2.1 M.2.2.2.1 :: az_W) (az_rm d (h'.1 - h.1) (h'.2.2.2 - h.2.2.2)) (h'.1 - h.1) (h'.2.2.2 - h.2.2.2) n := by
          refine ⟨⟨rfl, rfl, hRf, ?_, pay_in X.2.2.2.2.1 (az_GI f1), ?_⟩, ?_, az_wd X f2 rfl, f5, fun sig hsig => ?_, va_Nw.use rfl (X.2.2.2.2.2.2.1.1 _ g3 rfl)⟩
          · show 8 + (M.2.2.1 + 11) + 33 * d ≤ R.locals
            omega
          · rw [hrt]; exact List.mem_cons_self
          · rw [← hrt]; exact az_wd X f1 rfl
          · rw [hsig] at g2
            exact (Option.some.inj g2).symm
        rw [az_app_map] at k1
        have e2 : as'.length = n := by simpa using e2
        exact az_gorun (va_runIN (As := as'.map (az_sv z0)) (rest := rest0.map (az_sv z0)) (b := z0 + q) ⟨X.1, X.2.1, X.2.2.1, X.2.2.2.1, X.2.2.2.2.1⟩ hM ⟨hcn, g5, az_wd X g4 rfl⟩ ⟨hb1, hb2⟩ rfl (by rw [List.length_map]; exact e2) hL.1 (by rw [e1]; simp [az_sv]) (lv_room hcat2) hdg ⟨by omega, by omega⟩) hS k1
    · cases e4
  · exfalso
    simp only [az_cl, az_eF h57, az_eF h59, az_eF h60, az_eF h61, Bool.or_false, cond_false] at hs
    cases hs
end CAL
