/-! THE LAW: makings and calls -/
section LAWC
variable {p : Program} {l : Launch} {e : Env} {R : Room} {s : State} {m : MethodId} {args : Array Value} {below : List Frame} {meth : Method} {c : Code} {Q : State → Prop} {D : va_G} {z0 pc : Nat} {H : Heap} {locs : List Loc} {cells slots : Nat} {la : Array Slot} {rest : List Value}
def lz_X (p : Program) (s : State) (m : MethodId) (args : Array Value) (c : Code) (D : va_G) : Prop := p.tables.exec = Jvm.exec ∧ c.code = code ∧ c.maxLocals = 9 ∧ s.vm.findClass RL = some m.cls ∧ (∀ w ∈ az_W, w.before args s = true) ∧ va_K D vwCl [] s ∧ az_TB s
theorem lz_new {a b hz hw : Nat} {hS : Nat → az_Sh} {hM : Nat → Nat → Int32} {qc : vw_C} (X : lz_X p s m args c D) (g1 : vwCl[b]? = some qc) (g3 : Cond.classLink RL a qc.1 ∈ tables_1) (hd : decode code pc = .ok (.new a, 3)) (hH : az_HR s D z0 (hz, hS, hM, hw) H) (hS0 : va_S (fun q => z0 ≤ q) s.heap H locs) (r1 : cells + 1 ≤ R.cells) (r2 : slots + qc.2.2 ≤ R.slots)
    (kk : ∀ H1 : Heap, az_HR s D z0 (hz + 1, az_put hS hz (b, 0, az_dflt b), az_put hM hz (fun _ => 0), hw + qc.2.2) H1 → va_S (fun q => z0 ≤ q) s.heap H1 locs → W p l e R s m args below meth c H1 locs (cells + 1) (slots + qc.2.2) Q (F0 m (pc + 3) la (.ref (z0 + hz) :: rest))) : W p l e R s m args below meth c H locs cells slots Q (F0 m pc la rest) := by
  obtain ⟨hx, hb, hml, hown, hts, hK, hTB⟩ := X
  obtain ⟨ty, c1, c2, c3, c4, c5⟩ := az_cls g1
  have hb9 : b < 9 := Nat.lt_succ_of_lt (List.getElem?_eq_some_iff.mp g1).1
  have hfs : ∀ j, j < qc.2.2 → defaultValue (ty j) = vp_V (az_vals z0 (az_dflt b) (fun _ => 0) 0) j := by
    intro j hj
    have e1 := c2 j hj
    match b, g1 with
    | 7, g1 => cases g1; have hj : j < 6 := hj; rcases (show j = 0 ∨ j = 1 ∨ j = 2 ∨ j = 3 ∨ j = 4 ∨ j = 5 by omega) with rfl | rfl | rfl | rfl | rfl | rfl <;> (have e2 := tyX8_ok _ hj; rw [e1] at e2; rw [Option.some.inj e2]; rfl)
    | 0, g1 => cases g1; have hj : j < 9 := hj; rcases (show j = 0 ∨ j = 1 ∨ j = 2 ∨ j = 3 ∨ j = 4 ∨ j = 5 ∨ j = 6 ∨ j = 7 ∨ j = 8 by omega) with rfl | rfl | rfl | rfl | rfl | rfl | rfl | rfl | rfl <;> (have e2 := tyX0_ok _ hj; rw [e1] at e2; rw [Option.some.inj e2]; rfl)
    | 1, g1 => cases g1; have hj : j < 3 := hj; rcases (show j = 0 ∨ j = 1 ∨ j = 2 by omega) with rfl | rfl | rfl <;> (have e2 := tyX1_ok _ hj; rw [e1] at e2; rw [Option.some.inj e2]; rfl)
    | 2, g1 => cases g1; have hj : j < 4 := hj; rcases (show j = 0 ∨ j = 1 ∨ j = 2 ∨ j = 3 by omega) with rfl | rfl | rfl | rfl <;> (have e2 := tyX2_ok _ hj; rw [e1] at e2; rw [Option.some.inj e2]; rfl)
    | 3, g1 => cases g1; have hj : j < 5 := hj; rcases (show j = 0 ∨ j = 1 ∨ j = 2 ∨ j = 3 ∨ j = 4 by omega) with rfl | rfl | rfl | rfl | rfl <;> (have e2 := tyX3_ok _ hj; rw [e1] at e2; rw [Option.some.inj e2]; rfl)
    | 4, g1 => cases g1; have hj : j < 11 := hj; rcases (show j = 0 ∨ j = 1 ∨ j = 2 ∨ j = 3 ∨ j = 4 ∨ j = 5 ∨ j = 6 ∨ j = 7 ∨ j = 8 ∨ j = 9 ∨ j = 10 by omega) with rfl | rfl | rfl | rfl | rfl | rfl | rfl | rfl | rfl | rfl | rfl <;> (have e2 := tyX4_ok _ hj; rw [e1] at e2; rw [Option.some.inj e2]; rfl)
    | 5, g1 => cases g1; have hj : j < 1 := hj; rcases (show j = 0 by omega) with rfl; (have e2 := tyX5_ok _ hj; rw [e1] at e2; rw [Option.some.inj e2]; rfl)
    | 6, g1 => cases g1; have hj : j < 3 := hj; rcases (show j = 0 ∨ j = 1 ∨ j = 2 by omega) with rfl | rfl | rfl <;> (have e2 := tyX7_ok _ hj; rw [e1] at e2; rw [Option.some.inj e2]; rfl)
    | _ + 8, g1 => simp [vwCl] at g1
  have hsz : H.size = z0 + hz := hH.1
  refine az_wnew hx hb hts c1 ty c2 hown (hts _ (az_Wt g3 rfl)) (hts _ (az_Wt c4 rfl)) (hts _ (az_Wt c5 rfl)) hK g1 hfs (by omega) (by omega) hd fun H1 e1 e2 e3 => ?_
  rw [hsz] at e1 ⊢
  refine kk H1 (hH.push (fun y hy => ?_) (fun y hy => ?_) (Or.inl ?_) e1 e2 e3) ⟨by rw [e2]; exact Nat.le_succ_of_le hS0.1, fun q q1 q2 => ?_, hS0.2.2⟩
  · simp [az_put, hy]
  · simp [az_put, hy]
  · simp [az_put]
    exact hb9
  · rw [e3 q (Nat.lt_of_lt_of_le q1 hS0.1)]
    exact hS0.2.1 q q1 q2
theorem lz_wd (X : lz_X p s m args c D) {w : Cond} (hw : w ∈ tables_1) (hg : goodWord w = true) : w.before args s = true := X.2.2.2.2.1 w (az_Wt hw hg)
theorem lz_base (X : lz_X p s m args c D) {as : List Value} {h : az_H} (hH : az_HR s D z0 h H) : FrameBlind (az_Pc D z0 as h) ∧ ∀ U : State, U.heap = H → s.WarmedH U.vm → az_Pc D z0 as h (as.map (az_sv z0)).toArray U := by
  refine ⟨az_blind D z0 as h, fun U hU hW => ⟨rfl, ?_, va_K.moved hW.alike X.2.2.2.2.2.1, X.2.2.2.2.2.2.warm hW⟩⟩
  rw [hU]
  exact hH.moved hW.alike
theorem lz_cb (X : lz_X p s m args c D) {idx n d mc ms mid : Nat} {M : az_ME} (hM : az_M[mid]? = some M) (hn : (parseMethodDescriptor M.1.desc).map (fun d => d.parameters.length) = some n) (hl : Cond.methodLink RL idx M.1 ∈ tables_1) (hRf : d + 1 ≤ R.frames) (hRl : 33 * (d + 1) ≤ R.locals) : CallB R s args RL idx M.1 M.2.1 M.2.2.1 M.2.2.2.1 (.code M.1 M.2.1 M.2.2.1 M.2.2.2.1 :: az_W) (az_rm d mc ms) mc ms n := by
  obtain ⟨g1, g2, g3, g4, g5, g6, g7, g8, g9, g10⟩ := az_mids mid M hM
  refine ⟨rfl, rfl, hRf, ?_, pay_in X.2.2.2.2.1 (az_GI g1), List.mem_cons_self, lz_wd X g1 rfl, lz_wd X g2 rfl, g5, fun sig hsig => ?_, lz_wd X hl rfl⟩
  · show 8 + (M.2.2.1 + 11) + 33 * d ≤ R.locals
    omega
  · rw [hsig] at hn
    exact (Option.some.inj hn).symm
theorem lz_callI (X : lz_X p s m args c D) {idx n d mid q : Nat} {M : az_ME} {h h' : az_H} (hM : az_M[mid]? = some M) (hn : (parseMethodDescriptor M.1.desc).map (fun d => d.parameters.length) = some n) (hl : Cond.methodLink RL idx M.1 ∈ tables_1) (g4 : Cond.instanceMethod M.1 ∈ tables_1) (g5 : M.1.name = "<init>") (hrt : M.2.2.2.1 = none) (hn0 : n = 0) (hRf : d + 1 ≤ R.frames) (hRl : 33 * (d + 1) ≤ R.locals) (hev : ∃ k, az_ev d k mid [.ref q] h = some (none, h')) (hH : az_HR s D z0 h H) (hS : va_S (fun q => z0 ≤ q) s.heap H locs) (hdg : decode code pc = .ok (.invokespecial idx, 3)) (hla : la.size = 9) (hcat : (rest.map fun v => v.category).sum ≤ 8) (r1 : cells + (h'.1 - h.1) ≤ R.cells) (r2 : slots + (h'.2.2.2 - h.2.2.2) ≤ R.slots)
    (kk : ∀ (H1 : Heap) (locs1 : List Loc), az_HR s D z0 h' H1 → va_S (fun q => z0 ≤ q) s.heap H1 locs1 → W p l e R s m args below meth c H1 locs1 (cells + (h'.1 - h.1)) (slots + (h'.2.2.2 - h.2.2.2)) Q (F0 m (pc + 3) la rest)) : W p l e R s m args below meth c H locs cells slots Q (F0 m pc la (.ref (z0 + q) :: rest)) := by
  obtain ⟨k, hev⟩ := hev
  obtain ⟨hz1, hz2, hMet⟩ := az_sound l d k mid [.ref q] h none h' hev
  have hMt := hMet M hM (fun v hv => by rw [List.mem_singleton.mp hv]; rfl) D z0
  obtain ⟨hb1, hb2⟩ := lz_base X (as := [.ref q]) hH
  have hcb := lz_cb (R := R) (mc := h'.1 - h.1) (ms := h'.2.2.2 - h.2.2.2) X hM hn hl hRf hRl
  rw [hrt] at hMt hcb
  subst hn0
  exact az_gorun (va_runI (As := []) (rest := rest) (b := z0 + q) ⟨X.1, X.2.1, X.2.2.1, X.2.2.2.1, X.2.2.2.2.1⟩ hMt ⟨hcb, g5, lz_wd X g4 rfl⟩ ⟨hb1, hb2⟩ rfl rfl hla rfl (lv_room hcat) hdg ⟨by omega, by omega⟩) hS kk
theorem lz_callS (X : lz_X p s m args c D) {idx n d mid : Nat} {M : az_ME} {Mc M' : az_Mem} {as : List Value} {v : Int32} (hM : az_M[mid]? = some M) (hn : (parseMethodDescriptor M.1.desc).map (fun d => d.parameters.length) = some n) (hl : Cond.methodLink RL idx M.1 ∈ tables_1) (g4 : Cond.static M.1 ∈ tables_1) (hRf : d + 1 ≤ R.frames) (hRl : 33 * (d + 1) ≤ R.locals) (hev : az_EX d mid as (az_hp Mc) (some (.int v)) (az_hp M')) (hc1 : ∀ v ∈ as, v.category = 1) (hlen : as.length = n) (hH : az_HR s D z0 (az_hp Mc) H) (hS : va_S (fun q => z0 ≤ q) s.heap H locs) (hdg : decode code pc = .ok (.invokestatic idx, 3)) (hla : la.size = 9) (hcat : (rest.map fun v => v.category).sum ≤ 8) {st0 : List Value} (est : st0 = (as.map (az_sv z0)).reverse ++ rest) (r1 : cells ≤ R.cells) (r2 : slots ≤ R.slots)
    (kk : ∀ (H1 : Heap) (locs1 : List Loc), az_HR s D z0 (az_hp M') H1 → va_S (fun q => z0 ≤ q) s.heap H1 locs1 → W p l e R s m args below meth c H1 locs1 cells slots Q (F0 m (pc + 3) la (.int v :: rest))) : W p l e R s m args below meth c H locs cells slots Q (F0 m pc la st0) := by
  obtain ⟨k, hev⟩ := hev
  obtain ⟨hz1, hz2, hMet⟩ := az_sound l d k mid as (az_hp Mc) (some (.int v)) (az_hp M') (hev k (Nat.le_refl _))
  have hMt := hMet M hM hc1 D z0
  have y1 : (az_hp M').1 - (az_hp Mc).1 = 0 := Nat.sub_self _
  have y2 : (az_hp M').2.2.2 - (az_hp Mc).2.2.2 = 0 := Nat.sub_self _
  rw [y1, y2] at hMt
  have hcb := lz_cb (R := R) (d := d) (mc := 0) (ms := 0) X hM hn hl hRf hRl
  exact az_gorun (va_runS (As := as.map (az_sv z0)) (rest := rest) ⟨X.1, X.2.1, X.2.2.1, X.2.2.2.1, X.2.2.2.2.1⟩ hMt ⟨hcb, lz_wd X g4 rfl⟩ (lz_base X hH) rfl (by rw [List.length_map]; exact hlen) hla est (lv_room hcat) hdg ⟨r1, r2⟩) hS kk
theorem lz_newa {hz hw : Nat} {hS : Nat → az_Sh} {hM : Nat → Nat → Int32} {n : Int32} (X : lz_X p s m args c D) (hn : az_in n 65536 = true) (hd : decode code pc = .ok (.newarray .int, 2)) (hH : az_HR s D z0 (hz, hS, hM, hw) H) (hS0 : va_S (fun q => z0 ≤ q) s.heap H locs) (r1 : cells + 1 ≤ R.cells) (r2 : slots + n.toNatClampNeg ≤ R.slots)
    (kk : ∀ H1 : Heap, az_HR s D z0 (hz + 1, az_put hS hz (9, n.toNatClampNeg, []), az_put hM hz (fun _ => 0), hw + n.toNatClampNeg) H1 → va_S (fun q => z0 ≤ q) s.heap H1 locs → W p l e R s m args below meth c H1 locs (cells + 1) (slots + n.toNatClampNeg) Q (F0 m (pc + 2) la (.ref (z0 + hz) :: rest))) : W p l e R s m args below meth c H locs cells slots Q (F0 m pc la (.int n :: rest)) := by
  obtain ⟨hx, hb, hml, hown, hts, hK, hTB⟩ := X
  obtain ⟨n1, n2⟩ := az_in_nn hn
  have hsz : H.size = z0 + hz := hH.1
  refine az_wnewa (D := D) (cl := vwCl) hx hb (atype := .int) (hts _ (az_Wt az_ai rfl)) (ty := .int) rfl (a0 := (n.toNatClampNeg, .inl (fun _ => 0))) (fun cA => rfl) n1 rfl (by show n.toNatClampNeg * 4 ≤ _; omega) (by omega) (by omega) hd (fun cA H1 hAR e1 e2 e3 => ?_)
  rw [hsz] at e1 ⊢
  refine kk H1 (hH.push (fun y hy => ?_) (fun y hy => ?_) ?_ e1 e2 e3) ⟨by rw [e2]; exact Nat.le_succ_of_le hS0.1, fun q q1 q2 => ?_, hS0.2.2⟩
  · simp [az_put, hy]
  · simp [az_put, hy]
  · exact Or.inr (Or.inl ⟨by simp [az_put], cA, by simp [az_put], hAR⟩)
  · rw [e3 q (Nat.lt_of_lt_of_le q1 hS0.1)]
    exact hS0.2.1 q q1 q2
theorem lz_iast {M : az_Mem} {q n k : Nat} {i x : Int32} (X : lz_X p s m args c D) (hs : az_shp q = (9, n, [])) (ei : i = nI k) (hk : k < n) (hn : n < 2 ^ 31) (hd : decode code pc = .ok (.iastore, 1)) (hH : az_HR s D z0 (az_hp M) H) (hS0 : va_S (fun q => z0 ≤ q) s.heap H locs)
    (kk : ∀ (H1 : Heap) (locs1 : List Loc), az_HR s D z0 (az_hp (az_up M q k x)) H1 → va_S (fun q => z0 ≤ q) s.heap H1 locs1 → W p l e R s m args below meth c H1 locs1 cells slots Q (F0 m (pc + 1) la rest)) : W p l e R s m args below meth c H locs cells slots Q (F0 m pc la (.int x :: .int i :: .ref (z0 + q) :: rest)) := by
  subst ei
  obtain ⟨hx, hb, hml, hown, hts, hK, hTB⟩ := X
  obtain ⟨hq, cA, hat, hAR⟩ := hH.ari hs
  refine az_wiast hx hb hat hAR (az_in_vp (az_inN hk hn)) hd (fun H1 locs1 e1 e2 e3 e4 => ?_)
  rw [nI_clamp (by omega)] at e1
  refine kk H1 locs1 (hH.put hq (fun _ _ => rfl) (fun y hy => ?_) ?_ e1 e2 e3) (e4.S hS0 e2 e3 (Nat.le_add_right _ _))
  · funext j
    simp [az_up, hy]
  · rw [hs]
    refine Or.inr (Or.inl ⟨rfl, cA, ?_, hAR⟩)
    rw [az_upd_up]
end LAWC
/-! THE LAW: cell, which reads the script -/
def cz_Pc (b L : Nat) (xs : Nat → Int32) (k : Int32) : Array Value → State → Prop := va_Pc [.ref b, .int k] (fun U => va_X b L xs U U.heap)
def cz_Qc (v : Int32) : Array Value → State → Outcome → State → Prop := fun _ st o t => o = .returned (some (.int v)) ∧ t.heap = st.heap
theorem cz_met (l : Launch) {b L : Nat} {xs : Nat → Int32} (hL : L ≤ 260) {k : Nat} (hk : k < 56) : ∃ v, Met l yL_cell (.code yL_cell cL_cell 2 (some .int) :: az_W) (az_rm 1 0 0) (cz_Pc b L xs (nI k)) (cz_Qc v) 0 0 (fun _ => False) := by
  refine ⟨if L ≤ k then 1013904223 * (nI k + nI 1) else xs k, ?_⟩
  refine Met.ofW (cc := cL_cell) (maxL := 2) (ret := some .int) az_pn_RL.1 rfl ?_
  intro p e s m args below meth c s₁ B hml hv
  obtain ⟨rfl, hX⟩ := hv
  have hts0 := atoms_spec (ws := .code yL_cell cL_cell 2 (some .int) :: az_W) B.pre
  have hts : ∀ w ∈ az_W, w.before ([Value.ref b, Value.int (nI k)]).toArray s = true := fun w hw => hts0 w (List.mem_cons_of_mem _ hw)
  have hown : s.vm.findClass RL = some m.cls := findClass_of_methodNamed B.named
  have hx := B.exec
  have hb := B.bytes
  have hbl : b < s.heap.size := by
    obtain ⟨scr, h1, -⟩ := hX
    exact (Array.getElem?_eq_some_iff.mp h1).1
  have hS : va_S (fun _ => False) s.heap s.heap [] := va_S.rf
  have hl := lv_entry ([.ref b, .int (nI k)]) (n := 2) (Nat.le_of_ble_eq_true rfl)
  rw [lg_entry_eq]
  generalize (lg_sl ([.ref b, .int (nI k)]) ++ List.replicate (2 - (lg_sl ([.ref b, .int (nI k)])).length) Slot.unset).toArray = ls at hl ⊢
  have hl : lv_has ls 2 [(0, .ref b), (1, .int (nI k))] := hl
  refine lv_iload_n hx hb cz_d_0 rfl (lv_at hl 1 rfl) ?_
  refine lv_aload_n hx hb cz_d_1 rfl (lv_at hl 0 rfl) ?_
  refine va_slen hx hb hX hbl (fun h => h) hS cz_d_2 ?_
  refine lv_icmp_ge (tgt := 12) hx hb cz_d_3 (by decide) (fun q => ?_) (fun q => ?_)
  · have q : L ≤ k := (nI_leI (by omega) (by omega)).mp q
    rw [if_pos q]
    refine lv_ldc hx hb hown (hts _ (az_Wt (az_t2 (List.mem_of_getElem? (i := 24) rfl)) rfl)) cz_d_12 ?_
    refine lv_iload_n hx hb cz_d_14 rfl (lv_at hl 1 rfl) ?_
    refine lv_iconst (v := nI 1) hx hb cz_d_15 (by decide) ?_
    refine lv_iadd hx hb cz_d_16 ?_
    refine lv_imul hx hb cz_d_17 ?_
    exact W.iret hx hb B.returns (fun t ht hW => ⟨rfl, ht⟩) hS.2.2 cz_d_18 B.notSynchronized
  · have q : ¬ L ≤ k := fun z => q (nI_le z (by omega))
    rw [if_neg q]
    refine lv_aload_n hx hb cz_d_6 rfl (lv_at hl 0 rfl) ?_
    refine lv_iload_n hx hb cz_d_7 rfl (lv_at hl 1 rfl) ?_
    refine va_sld hx hb hX hbl (fun h => h) hS (vp_in_nI (show k < L by omega) (by omega)) cz_d_8 ?_
    rw [nI_clamp (show k < 2 ^ 31 by omega)]
    refine lv_goto (tgt := 18) hx hb cz_d_9 (by decide) ?_
    exact W.iret hx hb B.returns (fun t ht hW => ⟨rfl, ht⟩) hS.2.2 cz_d_18 B.notSynchronized
section CELL
variable {p : Program} {l : Launch} {e : Env} {R : Room} {s : State} {m : MethodId} {args : Array Value} {below : List Frame} {meth : Method} {c : Code} {Q : State → Prop} {D : va_G} {z0 pc : Nat} {H : Heap} {locs : List Loc} {cells slots : Nat} {la : Array Slot} {rest : List Value}
theorem lz_cell (X : lz_X p s m args c D) {b L k : Nat} {xs : Nat → Int32} (hX : va_X b L xs s s.heap) (hbl : b < s.heap.size) (hL : L ≤ 260) (hk : k < 56) (hS : va_S (fun q => s.heap.size ≤ q) s.heap H locs) (hRf : 2 ≤ R.frames) (hRl : 66 ≤ R.locals) (hdg : decode code pc = .ok (.invokestatic 111, 3)) (hla : la.size = 9) (hcat : (rest.map fun v => v.category).sum ≤ 8) (r1 : cells ≤ R.cells) (r2 : slots ≤ R.slots)
    (kk : ∀ v : Int32, W p l e R s m args below meth c H locs cells slots Q (F0 m (pc + 3) la (.int v :: rest))) : W p l e R s m args below meth c H locs cells slots Q (F0 m pc la (.int (nI k) :: .ref b :: rest)) := by
  obtain ⟨v, hM⟩ := cz_met l (b := b) (L := L) (xs := xs) hL hk
  have hcode : Cond.code yL_cell cL_cell 2 (some .int) ∈ tables_1 := az_t2 (List.mem_of_getElem? (i := 23) rfl)
  have hcb : CallB R s args RL 111 yL_cell cL_cell 2 (some .int) (.code yL_cell cL_cell 2 (some .int) :: az_W) (az_rm 1 0 0) 0 0 2 := by
    refine ⟨rfl, rfl, hRf, ?_, pay_in X.2.2.2.2.1 (az_GI hcode), List.mem_cons_self, lz_wd X hcode rfl, lz_wd X az_ini_RL rfl, az_pn_RL.2, fun sig hsig => ?_, lz_wd X (az_t2 (List.mem_of_getElem? (i := 21) rfl)) rfl⟩
    · show 8 + (2 + 11) + 33 * 1 ≤ R.locals
      omega
    · have h2 : (parseMethodDescriptor yL_cell.desc).map (fun d => d.parameters.length) = some 2 := by decide +kernel
      rw [hsig] at h2
      exact (Option.some.inj h2).symm
  have hHb : H[b]? = s.heap[b]? := hS.2.1 b hbl (Nat.not_le.mpr hbl)
  have hr := va_runS (H := H) (locs := locs) (cells := cells) (slots := slots) (below := below) (meth := meth) (e := e) (l := l) (g := F0 m pc la (.int (nI k) :: .ref b :: rest)) (As := [.ref b, .int (nI k)]) (rest := rest) ⟨X.1, X.2.1, X.2.2.1, X.2.2.2.1, X.2.2.2.2.1⟩ hM ⟨hcb, lz_wd X (az_t2 (List.mem_of_getElem? (i := 22) rfl)) rfl⟩ ⟨fun a U g mk q => ⟨q.1, va_X.moved (Vm.Alike.refl U.vm) q.2⟩, fun U hU hW => ⟨rfl, by show va_X b L xs U U.heap; rw [hU]; exact (hX.kept hHb).moved hW.alike⟩⟩ rfl rfl hla rfl (lv_room hcat) hdg ⟨r1, r2⟩
  intro T hT X0
  obtain ⟨v1, st₀, t, T', L1, e0, X', hL1, e1, e2, ⟨hv, hh⟩, st⟩ := hr T hT X0
  have hv : v1 = some (.int v) := by cases hv; rfl
  subst hv
  have hn : L1 = [] := by
    cases L1 with
    | nil => rfl
    | cons y r => exact (hL1 y List.mem_cons_self).elim
  subst hn
  rw [List.append_nil] at X'
  obtain ⟨t2, a1, b1⟩ := kk v T' (by rw [e1, hh, e0]) X'
  exact ⟨t2, st t2 a1, b1⟩
end CELL
