/-! THE LAW: makings and calls -/
section LAWC
variable {p : Program} {l : Launch} {e : Env} {R : Room} {s : State} {m : MethodId} {args : Array Value} {below : List Frame} {meth : Method} {c : Code} {Q : State → Prop} {D : va_G} {z0 pc : Nat} {H : Heap} {locs : List Loc} {cells slots : Nat} {la : Array Slot} {rest : List Value}
def lz_X (p : Program) (s : State) (m : MethodId) (args : Array Value) (c : Code) (D : va_G) : Prop := p.tables.exec = Jvm.exec ∧ c.code = code ∧ c.maxLocals = 4 ∧ s.vm.findClass RL = some m.cls ∧ (∀ w ∈ az_W, w.before args s = true) ∧ va_K D vwCl [] s ∧ az_TB s
theorem lz_new {a b hz hw : Nat} {hS : Nat → az_Sh} {hM : Nat → Nat → Int32} {qc : vw_C} (X : lz_X p s m args c D) (g1 : vwCl[b]? = some qc) (g3 : Cond.classLink RL a qc.1 ∈ tables_1) (hd : decode code pc = .ok (.new a, 3)) (hH : az_HR s D z0 (hz, hS, hM, hw) H) (hS0 : va_S (fun q => z0 ≤ q) s.heap H locs) (r1 : cells + 1 ≤ R.cells) (r2 : slots + qc.2.2 ≤ R.slots)
    (kk : ∀ H1 : Heap, az_HR s D z0 (hz + 1, az_put hS hz (b, 0, az_dflt b), az_put hM hz (fun _ => 0), hw + qc.2.2) H1 → va_S (fun q => z0 ≤ q) s.heap H1 locs → W p l e R s m args below meth c H1 locs (cells + 1) (slots + qc.2.2) Q (F0 m (pc + 3) la (.ref (z0 + hz) :: rest))) : W p l e R s m args below meth c H locs cells slots Q (F0 m pc la rest) := by
  obtain ⟨hx, hb, hml, hown, hts, hK, hTB⟩ := X
  obtain ⟨ty, c1, c2, c3, c4, c5⟩ := az_cls g1
  have hb9 : b < 9 := (List.getElem?_eq_some_iff.mp g1).1
  have hfs : ∀ j, j < qc.2.2 → defaultValue (ty j) = vp_V (az_vals z0 (az_dflt b) (fun _ => 0) 0) j := by
    intro j hj
    have e1 := c2 j hj
    match b, g1 with
    | 7, g1 => cases g1; have hj : j < 6 := hj; rcases (show j = 0 ∨ j = 1 ∨ j = 2 ∨ j = 3 ∨ j = 4 ∨ j = 5 by omega) with rfl | rfl | rfl | rfl | rfl | rfl <;> (have e2 := tyX8_ok _ hj; rw [e1] at e2; rw [Option.some.inj e2]; rfl)
    | 8, g1 => cases g1; have hj : j < 13 := hj; rcases (show j = 0 ∨ j = 1 ∨ j = 2 ∨ j = 3 ∨ j = 4 ∨ j = 5 ∨ j = 6 ∨ j = 7 ∨ j = 8 ∨ j = 9 ∨ j = 10 ∨ j = 11 ∨ j = 12 by omega) with rfl | rfl | rfl | rfl | rfl | rfl | rfl | rfl | rfl | rfl | rfl | rfl | rfl <;> (have e2 := tyX9_ok _ hj; rw [e1] at e2; rw [Option.some.inj e2]; rfl)
    | 0, g1 => cases g1; have hj : j < 9 := hj; rcases (show j = 0 ∨ j = 1 ∨ j = 2 ∨ j = 3 ∨ j = 4 ∨ j = 5 ∨ j = 6 ∨ j = 7 ∨ j = 8 by omega) with rfl | rfl | rfl | rfl | rfl | rfl | rfl | rfl | rfl <;> (have e2 := tyX0_ok _ hj; rw [e1] at e2; rw [Option.some.inj e2]; rfl)
    | 1, g1 => cases g1; have hj : j < 3 := hj; rcases (show j = 0 ∨ j = 1 ∨ j = 2 by omega) with rfl | rfl | rfl <;> (have e2 := tyX1_ok _ hj; rw [e1] at e2; rw [Option.some.inj e2]; rfl)
    | 2, g1 => cases g1; have hj : j < 4 := hj; rcases (show j = 0 ∨ j = 1 ∨ j = 2 ∨ j = 3 by omega) with rfl | rfl | rfl | rfl <;> (have e2 := tyX2_ok _ hj; rw [e1] at e2; rw [Option.some.inj e2]; rfl)
    | 3, g1 => cases g1; have hj : j < 5 := hj; rcases (show j = 0 ∨ j = 1 ∨ j = 2 ∨ j = 3 ∨ j = 4 by omega) with rfl | rfl | rfl | rfl | rfl <;> (have e2 := tyX3_ok _ hj; rw [e1] at e2; rw [Option.some.inj e2]; rfl)
    | 4, g1 => cases g1; have hj : j < 11 := hj; rcases (show j = 0 ∨ j = 1 ∨ j = 2 ∨ j = 3 ∨ j = 4 ∨ j = 5 ∨ j = 6 ∨ j = 7 ∨ j = 8 ∨ j = 9 ∨ j = 10 by omega) with rfl | rfl | rfl | rfl | rfl | rfl | rfl | rfl | rfl | rfl | rfl <;> (have e2 := tyX4_ok _ hj; rw [e1] at e2; rw [Option.some.inj e2]; rfl)
    | 5, g1 => cases g1; have hj : j < 1 := hj; rcases (show j = 0 by omega) with rfl; (have e2 := tyX5_ok _ hj; rw [e1] at e2; rw [Option.some.inj e2]; rfl)
    | 6, g1 => cases g1; have hj : j < 3 := hj; rcases (show j = 0 ∨ j = 1 ∨ j = 2 by omega) with rfl | rfl | rfl <;> (have e2 := tyX7_ok _ hj; rw [e1] at e2; rw [Option.some.inj e2]; rfl)
    | _ + 9, g1 => omega
  have hsz : H.size = z0 + hz := hH.1
  refine az_wnew hx hb hts c1 ty c2 hown (hts _ (az_Wt g3 rfl)) (hts _ (az_Wt c4 rfl)) (hts _ (az_Wt c5 rfl)) hK g1 hfs (by omega) (by omega) hd fun H1 e1 e2 e3 => ?_
  rw [hsz] at e1 ⊢
  refine kk H1 (hH.push (fun y hy => ?_) (fun y hy => ?_) (Or.inl ?_) e1 e2 e3) ⟨by rw [e2]; exact Nat.le_succ_of_le hS0.1, fun q q1 q2 => ?_, hS0.2.2⟩
  · simp [az_put, hy]
  · simp [az_put, hy]
  · simp [az_put]
    exact hb9
  · rw [e3 q (Nat.lt_of_lt_of_le q1 hS0.1)]
    exact hS0.2.1 q q1 q2
theorem lz_wd (X : lz_X p s m args c D) {w : Cond} (hw : w ∈ tables_1) (hg : goodWord w = true) : w.before args s = true := X.2.2.2.2.1 w (az_Wt hw hg)
theorem lz_base (X : lz_X p s m args c D) {as : List Value} {h : az_H} (hH : az_HR s D z0 h H) : FrameBlind (az_Pc D z0 as h) ∧ ∀ U : State, U.heap = H → s.WarmedH U.vm → az_Pc D z0 as h (as.map (az_sv z0)).toArray U := by
  refine ⟨az_blind D z0 as h, fun U hU hW => ⟨rfl, ?_, va_K.moved hW.alike X.2.2.2.2.2.1, X.2.2.2.2.2.2.warm hW⟩⟩
  rw [hU]
  exact hH.moved hW.alike
theorem lz_cb (X : lz_X p s m args c D) {idx n d mc ms mid : Nat} {M : az_ME} (hM : az_M[mid]? = some M) (hn : (parseMethodDescriptor M.1.desc).map (fun d => d.parameters.length) = some n) (hl : Cond.methodLink RL idx M.1 ∈ tables_1) (hRf : d + 1 ≤ R.frames) (hRl : 28 * (d + 1) ≤ R.locals) : CallB R s args RL idx M.1 M.2.1 M.2.2.1 M.2.2.2.1 (.code M.1 M.2.1 M.2.2.1 M.2.2.2.1 :: az_W) (az_rm d mc ms) mc ms n := by
  obtain ⟨g1, g2, g3, g4, g5, g6, g7, g8, g9, g10⟩ := az_mids mid M hM
  refine ⟨rfl, rfl, hRf, ?_, pay_in X.2.2.2.2.1 (az_GI g1), List.mem_cons_self, lz_wd X g1 rfl, lz_wd X g2 rfl, g5, fun sig hsig => ?_, lz_wd X hl rfl⟩
  · show 8 + (M.2.2.1 + 11) + 28 * d ≤ R.locals
    omega
  · rw [hsig] at hn
    exact (Option.some.inj hn).symm
theorem lz_callI (X : lz_X p s m args c D) {idx n d mid q : Nat} {M : az_ME} {h h' : az_H} (hM : az_M[mid]? = some M) (hn : (parseMethodDescriptor M.1.desc).map (fun d => d.parameters.length) = some n) (hl : Cond.methodLink RL idx M.1 ∈ tables_1) (g4 : Cond.instanceMethod M.1 ∈ tables_1) (g5 : M.1.name = "<init>") (hrt : M.2.2.2.1 = none) (hn0 : n = 0) (hRf : d + 1 ≤ R.frames) (hRl : 28 * (d + 1) ≤ R.locals) (hev : ∃ k, az_ev d k mid [.ref q] h = some (none, h')) (hH : az_HR s D z0 h H) (hS : va_S (fun q => z0 ≤ q) s.heap H locs) (hdg : decode code pc = .ok (.invokespecial idx, 3)) (hla : la.size = 4) (hcat : (rest.map fun v => v.category).sum ≤ 8) (r1 : cells + (h'.1 - h.1) ≤ R.cells) (r2 : slots + (h'.2.2.2 - h.2.2.2) ≤ R.slots)
    (kk : ∀ (H1 : Heap) (locs1 : List Loc), az_HR s D z0 h' H1 → va_S (fun q => z0 ≤ q) s.heap H1 locs1 → W p l e R s m args below meth c H1 locs1 (cells + (h'.1 - h.1)) (slots + (h'.2.2.2 - h.2.2.2)) Q (F0 m (pc + 3) la rest)) : W p l e R s m args below meth c H locs cells slots Q (F0 m pc la (.ref (z0 + q) :: rest)) := by
  obtain ⟨k, hev⟩ := hev
  obtain ⟨hz1, hz2, hMet⟩ := az_sound l d k mid [.ref q] h none h' hev
  have hMt := hMet M hM (fun v hv => by rw [List.mem_singleton.mp hv]; rfl) D z0
  obtain ⟨hb1, hb2⟩ := lz_base X (as := [.ref q]) hH
  have hcb := lz_cb (R := R) (mc := h'.1 - h.1) (ms := h'.2.2.2 - h.2.2.2) X hM hn hl hRf hRl
  rw [hrt] at hMt hcb
  subst hn0
  exact az_gorun (va_runI (As := []) (rest := rest) (b := z0 + q) ⟨X.1, X.2.1, X.2.2.1, X.2.2.2.1, X.2.2.2.2.1⟩ hMt ⟨hcb, g5, lz_wd X g4 rfl⟩ ⟨hb1, hb2⟩ rfl rfl hla rfl (lv_room hcat) hdg ⟨by omega, by omega⟩) hS kk
theorem lz_callV (X : lz_X p s m args c D) {idx n mid q kd : Nat} {M : az_ME} {Mc M' : az_Mem} {as' : List Value} {v : Int32} {qc : vw_C} (hM : az_M[mid]? = some M) (hn : (parseMethodDescriptor M.1.desc).map (fun d => d.parameters.length) = some n) (hl : Cond.methodLink RL idx M.1 ∈ tables_1) (g4 : Cond.instanceMethod M.1 ∈ tables_1) (g5 : Cond.selects M.1.cls M.1 M.1 ∈ az_W) (g6 : vwCl[kd]? = some qc) (g7 : qc.1 = M.1.cls) (hkd : (az_shp q).1 = kd) (hRf : 9 ≤ R.frames) (hRl : 28 * 9 ≤ R.locals) (hev : az_EX 8 mid (.ref q :: as') (az_hp Mc) (some (.int v)) (az_hp M')) (hc1 : ∀ v ∈ as', v.category = 1) (hlen : as'.length = n) (hH : az_HR s D z0 (az_hp Mc) H) (hS : va_S (fun q => z0 ≤ q) s.heap H locs) (hdg : decode code pc = .ok (.invokevirtual idx, 3)) (hla : la.size = 4) (hcat : (rest.map fun v => v.category).sum ≤ 8) {st0 : List Value} (est : st0 = (as'.map (az_sv z0)).reverse ++ .ref (z0 + q) :: rest) (r1 : cells ≤ R.cells) (r2 : slots ≤ R.slots)
    (kk : ∀ (H1 : Heap) (locs1 : List Loc), az_HR s D z0 (az_hp M') H1 → va_S (fun q => z0 ≤ q) s.heap H1 locs1 → W p l e R s m args below meth c H1 locs1 cells slots Q (F0 m (pc + 3) la (.int v :: rest))) : W p l e R s m args below meth c H locs cells slots Q (F0 m pc la st0) := by
  obtain ⟨k, hev⟩ := hev
  obtain ⟨hz1, hz2, hMet⟩ := az_sound l 8 k mid (.ref q :: as') (az_hp Mc) (some (.int v)) (az_hp M') (hev k (Nat.le_refl _))
  have hMt := hMet M hM (fun v hv => by
    rcases List.mem_cons.mp hv with rfl | hv
    · rfl
    · exact hc1 v hv) D z0
  have y1 : (az_hp M').1 - (az_hp Mc).1 = 0 := Nat.sub_self _
  have y2 : (az_hp M').2.2.2 - (az_hp Mc).2.2.2 = 0 := Nat.sub_self _
  rw [y1, y2] at hMt
  obtain ⟨hb1, hb2⟩ := lz_base X (as := .ref q :: as') hH
  have hcb := lz_cb (R := R) (d := 8) (mc := 0) (ms := 0) X hM hn hl hRf hRl
  have hb9 : kd < 9 := (List.getElem?_eq_some_iff.mp g6).1
  obtain ⟨hq, hat⟩ := hH.obj (q := q) (b := kd) (ln := (az_shp q).2.1) (rs := (az_shp q).2.2) (by rw [← hkd]) hb9
  refine az_gorun (va_runV (As := as'.map (az_sv z0)) (rest := rest) (b := z0 + q) (C := M.1.cls) ⟨X.1, X.2.1, X.2.2.1, X.2.2.2.1, X.2.2.2.2.1⟩ hMt ⟨hcb, lz_wd X g4 rfl, X.2.2.2.2.1 _ g5⟩ ⟨hb1, ?_, hb2⟩ rfl (by rw [List.length_map]; exact hlen) hla (by first | exact est | (rw [est]; done) | (rw [est]; simp [az_sv])) (lv_room hcat) hdg ⟨r1, r2⟩) hS kk
  rw [← g7]
  exact va_recv X.2.2.2.2.2.1 (az_P1 hat) g6 rfl (q0 := 0)
end LAWC
