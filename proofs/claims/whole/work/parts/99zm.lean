/-! THE LAW: its cases -/
theorem lz_in {L i j : Nat} (hL : L ≤ 2048) (hi : i + 4 ≤ L) (hj : j < 4) : vp_in (nI i + nI j) L ∧ (nI i + nI j).toNatClampNeg = i + j := by
  rw [nI_add]
  exact ⟨vp_in_nI (by omega) (by omega), nI_clamp (by omega)⟩
theorem lz_nz {p : Program} {l : Launch} {e : Env} {R : Room} {s : State} {m : MethodId} {args : Array Value} {below : List Frame} {meth : Method} {c : Code} {Q : State → Prop} {H : Heap} {locs : List Loc} {cells slots pc pc1 pc2 L1 L2 : Nat} {ls : Array Slot} {rest : List Value} {v : Int32} {o1 o2 : Int} (hx : p.tables.exec = Jvm.exec) (hb : c.code = code) (d1 : decode code pc = .ok (.ifCond .eq o1, 3)) (t1 : (pc : Int) + o1 = (L1 : Int)) (d2 : decode code pc1 = .ok (.iconst 1, 1)) (d3 : decode code pc2 = .ok (.goto o2, 3)) (t2 : (pc2 : Int) + o2 = (L2 : Int)) (d4 : decode code L1 = .ok (.iconst 0, 1)) (q1 : pc1 = pc + 3) (q2 : pc2 = pc1 + 1) (q3 : L2 = L1 + 1) (k : W p l e R s m args below meth c H locs cells slots Q (F0 m L2 ls (.int (if v = 0 then 0 else 1) :: rest))) : W p l e R s m args below meth c H locs cells slots Q (F0 m pc ls (.int v :: rest)) := by
  subst q1 q2 q3
  refine lv_if_eq (tgt := L1) hx hb d1 t1 (fun c => ?_) (fun c => ?_)
  · rw [if_pos c] at k
    exact lv_iconst (v := 0) hx hb d4 (by decide) k
  · rw [if_neg c] at k
    refine lv_iconst (v := 1) hx hb d2 (by decide) ?_
    exact lv_goto hx hb d3 t2 k
theorem lz_c0 {p : Program} {l : Launch} {e : Env} {s : State} {m : MethodId} {below : List Frame} {meth : Method} {c : Code} {D : va_G} {b L : Nat} {xs : Nat → Int32} {H : Heap} {locs : List Loc} {sl i : Nat} {ls : Array Slot} {Q : State → Prop} (X : lz_X p s m #[Value.ref b] c D) (hX : va_X b L xs s s.heap) (hbl : b < s.heap.size) (hL : L ≤ 2048) (hi : i + 4 ≤ L) (hsl : sl ≤ 7302250) {M : az_Mem} (hI : INV M) (hH : az_HR s D s.heap.size (az_hp M) H) (hS : va_S (fun q => s.heap.size ≤ q) s.heap H locs) (hl : lv_has ls 4 [(0, .ref b), (1, .ref (s.heap.size + 0)), (2, .ref (s.heap.size + 192)), (3, .int (nI i))])
    (kk : ∀ (M4 : az_Mem) (H1 : Heap) (locs1 : List Loc), INV M4 → az_HR s D s.heap.size (az_hp M4) H1 → va_S (fun q => s.heap.size ≤ q) s.heap H1 locs1 → W p l e room_1 s m #[Value.ref b] below meth c H1 locs1 200 sl Q (F0 m 829 ls [])) : W p l e room_1 s m #[Value.ref b] below meth c H locs 200 sl Q (F0 m 164 ls []) := by
  have hx := X.1
  have hb := X.2.1
  have hbA : ¬ (fun q : Nat => s.heap.size ≤ q) b := Nat.not_le.mpr hbl
  obtain ⟨a, M1, M4, e8, e9, i4⟩ := pair_lay hI (xs (i + 1)) (xs (i + 2))
  refine lv_aload_n hx hb lz_d_164 rfl (lv_at hl 1 rfl) ?_
  refine lv_aload_n hx hb lz_d_165 rfl (lv_at hl 0 rfl) ?_
  refine lv_iload_n hx hb lz_d_166 rfl (lv_at hl 3 rfl) ?_
  refine lv_iconst (v := nI 1) hx hb lz_d_167 (by decide) ?_
  refine lv_iadd hx hb lz_d_168 ?_
  refine va_sld hx hb hX hbl hbA hS (lz_in hL hi (show 1 < 4 by decide)).1 lz_d_169 ?_
  rw [(lz_in hL hi (show 1 < 4 by decide)).2]
  refine lv_aload_n hx hb lz_d_170 rfl (lv_at hl 0 rfl) ?_
  refine lv_iload_n hx hb lz_d_171 rfl (lv_at hl 3 rfl) ?_
  refine lv_iconst (v := nI 2) hx hb lz_d_172 (by decide) ?_
  refine lv_iadd hx hb lz_d_173 ?_
  refine va_sld hx hb hX hbl hbA hS (lz_in hL hi (show 2 < 4 by decide)).1 lz_d_174 ?_
  rw [(lz_in hL hi (show 2 < 4 by decide)).2]
  refine lz_callV (rest := []) (n := 2) (mid := m_X8_lay) (q := 0) (kd := 7) (as' := [.int (xs (i + 1)), .int (xs (i + 2))]) X rfl (by decide +kernel) (az_t2 (List.mem_of_getElem? (i := 27) rfl)) (az_t2 (List.mem_of_getElem? (i := 28) rfl)) (az_Wt (az_t2 (List.mem_of_getElem? (i := 29) rfl)) rfl) rfl rfl rfl (Nat.le_of_ble_eq_true rfl) (Nat.le_of_ble_eq_true rfl) e8 (by intro v hv; simp at hv; rcases hv with rfl | rfl <;> rfl) rfl hH hS lz_d_175 hl.1 (Nat.le_of_ble_eq_true rfl) rfl (Nat.le_of_ble_eq_true rfl) hsl (fun H locs hH hS => ?_)
  refine lv_aload_n hx hb lz_d_178 rfl (lv_at hl 2 rfl) ?_
  refine lv_aload_n hx hb lz_d_179 rfl (lv_at hl 0 rfl) ?_
  refine lv_iload_n hx hb lz_d_180 rfl (lv_at hl 3 rfl) ?_
  refine lv_iconst (v := nI 1) hx hb lz_d_181 (by decide) ?_
  refine lv_iadd hx hb lz_d_182 ?_
  refine va_sld hx hb hX hbl hbA hS (lz_in hL hi (show 1 < 4 by decide)).1 lz_d_183 ?_
  rw [(lz_in hL hi (show 1 < 4 by decide)).2]
  refine lv_aload_n hx hb lz_d_184 rfl (lv_at hl 0 rfl) ?_
  refine lv_iload_n hx hb lz_d_185 rfl (lv_at hl 3 rfl) ?_
  refine lv_iconst (v := nI 2) hx hb lz_d_186 (by decide) ?_
  refine lv_iadd hx hb lz_d_187 ?_
  refine va_sld hx hb hX hbl hbA hS (lz_in hL hi (show 2 < 4 by decide)).1 lz_d_188 ?_
  rw [(lz_in hL hi (show 2 < 4 by decide)).2]
  refine lz_callV (rest := [.int a]) (n := 2) (mid := m_X9_lay) (q := 192) (kd := 8) (as' := [.int (xs (i + 1)), .int (xs (i + 2))]) X rfl (by decide +kernel) (az_t4 (List.mem_of_getElem? (i := 106) rfl)) (az_t4 (List.mem_of_getElem? (i := 107) rfl)) (az_Wt (az_t4 (List.mem_of_getElem? (i := 108) rfl)) rfl) rfl rfl rfl (Nat.le_of_ble_eq_true rfl) (Nat.le_of_ble_eq_true rfl) e9 (by intro v hv; simp at hv; rcases hv with rfl | rfl <;> rfl) rfl hH hS lz_d_189 hl.1 (Nat.le_of_ble_eq_true rfl) rfl (Nat.le_of_ble_eq_true rfl) hsl (fun H locs hH hS => ?_)
  refine lv_icmp_eq (tgt := 829) hx hb lz_d_192 (by decide) (fun _ => ?_) (fun q => absurd rfl q)
  exact kk M4 H locs i4 hH hS
theorem lz_c1 {p : Program} {l : Launch} {e : Env} {s : State} {m : MethodId} {below : List Frame} {meth : Method} {c : Code} {D : va_G} {b L : Nat} {xs : Nat → Int32} {H : Heap} {locs : List Loc} {sl i : Nat} {ls : Array Slot} {Q : State → Prop} (X : lz_X p s m #[Value.ref b] c D) (hX : va_X b L xs s s.heap) (hbl : b < s.heap.size) (hL : L ≤ 2048) (hi : i + 4 ≤ L) (hsl : sl ≤ 7302250) {M : az_Mem} (hI : INV M) (hH : az_HR s D s.heap.size (az_hp M) H) (hS : va_S (fun q => s.heap.size ≤ q) s.heap H locs) (hl : lv_has ls 4 [(0, .ref b), (1, .ref (s.heap.size + 0)), (2, .ref (s.heap.size + 192)), (3, .int (nI i))])
    (kk : ∀ (M4 : az_Mem) (H1 : Heap) (locs1 : List Loc), INV M4 → az_HR s D s.heap.size (az_hp M4) H1 → va_S (fun q => s.heap.size ≤ q) s.heap H1 locs1 → W p l e room_1 s m #[Value.ref b] below meth c H1 locs1 200 sl Q (F0 m 829 ls [])) : W p l e room_1 s m #[Value.ref b] below meth c H locs 200 sl Q (F0 m 197 ls []) := by
  have hx := X.1
  have hb := X.2.1
  have hbA : ¬ (fun q : Nat => s.heap.size ≤ q) b := Nat.not_le.mpr hbl
  obtain ⟨a, M1, M4, e8, e9, i4⟩ := pair_setKind hI (xs (i + 1)) (xs (i + 2))
  refine lv_aload_n hx hb lz_d_197 rfl (lv_at hl 1 rfl) ?_
  refine lv_aload_n hx hb lz_d_198 rfl (lv_at hl 0 rfl) ?_
  refine lv_iload_n hx hb lz_d_199 rfl (lv_at hl 3 rfl) ?_
  refine lv_iconst (v := nI 1) hx hb lz_d_200 (by decide) ?_
  refine lv_iadd hx hb lz_d_201 ?_
  refine va_sld hx hb hX hbl hbA hS (lz_in hL hi (show 1 < 4 by decide)).1 lz_d_202 ?_
  rw [(lz_in hL hi (show 1 < 4 by decide)).2]
  refine lv_aload_n hx hb lz_d_203 rfl (lv_at hl 0 rfl) ?_
  refine lv_iload_n hx hb lz_d_204 rfl (lv_at hl 3 rfl) ?_
  refine lv_iconst (v := nI 2) hx hb lz_d_205 (by decide) ?_
  refine lv_iadd hx hb lz_d_206 ?_
  refine va_sld hx hb hX hbl hbA hS (lz_in hL hi (show 2 < 4 by decide)).1 lz_d_207 ?_
  rw [(lz_in hL hi (show 2 < 4 by decide)).2]
  refine lz_callV (rest := []) (n := 2) (mid := m_X8_setKind) (q := 0) (kd := 7) (as' := [.int (xs (i + 1)), .int (xs (i + 2))]) X rfl (by decide +kernel) (az_t2 (List.mem_of_getElem? (i := 86) rfl)) (az_t2 (List.mem_of_getElem? (i := 87) rfl)) (az_Wt (az_t2 (List.mem_of_getElem? (i := 88) rfl)) rfl) rfl rfl rfl (Nat.le_of_ble_eq_true rfl) (Nat.le_of_ble_eq_true rfl) e8 (by intro v hv; simp at hv; rcases hv with rfl | rfl <;> rfl) rfl hH hS lz_d_208 hl.1 (Nat.le_of_ble_eq_true rfl) rfl (Nat.le_of_ble_eq_true rfl) hsl (fun H locs hH hS => ?_)
  refine lv_aload_n hx hb lz_d_211 rfl (lv_at hl 2 rfl) ?_
  refine lv_aload_n hx hb lz_d_212 rfl (lv_at hl 0 rfl) ?_
  refine lv_iload_n hx hb lz_d_213 rfl (lv_at hl 3 rfl) ?_
  refine lv_iconst (v := nI 1) hx hb lz_d_214 (by decide) ?_
  refine lv_iadd hx hb lz_d_215 ?_
  refine va_sld hx hb hX hbl hbA hS (lz_in hL hi (show 1 < 4 by decide)).1 lz_d_216 ?_
  rw [(lz_in hL hi (show 1 < 4 by decide)).2]
  refine lv_aload_n hx hb lz_d_217 rfl (lv_at hl 0 rfl) ?_
  refine lv_iload_n hx hb lz_d_218 rfl (lv_at hl 3 rfl) ?_
  refine lv_iconst (v := nI 2) hx hb lz_d_219 (by decide) ?_
  refine lv_iadd hx hb lz_d_220 ?_
  refine va_sld hx hb hX hbl hbA hS (lz_in hL hi (show 2 < 4 by decide)).1 lz_d_221 ?_
  rw [(lz_in hL hi (show 2 < 4 by decide)).2]
  refine lz_callV (rest := [.int a]) (n := 2) (mid := m_X9_setKind) (q := 192) (kd := 8) (as' := [.int (xs (i + 1)), .int (xs (i + 2))]) X rfl (by decide +kernel) (az_t4 (List.mem_of_getElem? (i := 125) rfl)) (az_t4 (List.mem_of_getElem? (i := 126) rfl)) (az_Wt (az_t4 (List.mem_of_getElem? (i := 127) rfl)) rfl) rfl rfl rfl (Nat.le_of_ble_eq_true rfl) (Nat.le_of_ble_eq_true rfl) e9 (by intro v hv; simp at hv; rcases hv with rfl | rfl <;> rfl) rfl hH hS lz_d_222 hl.1 (Nat.le_of_ble_eq_true rfl) rfl (Nat.le_of_ble_eq_true rfl) hsl (fun H locs hH hS => ?_)
  refine lv_icmp_eq (tgt := 829) hx hb lz_d_225 (by decide) (fun _ => ?_) (fun q => absurd rfl q)
  exact kk M4 H locs i4 hH hS
theorem lz_c2 {p : Program} {l : Launch} {e : Env} {s : State} {m : MethodId} {below : List Frame} {meth : Method} {c : Code} {D : va_G} {b L : Nat} {xs : Nat → Int32} {H : Heap} {locs : List Loc} {sl i : Nat} {ls : Array Slot} {Q : State → Prop} (X : lz_X p s m #[Value.ref b] c D) (hX : va_X b L xs s s.heap) (hbl : b < s.heap.size) (hL : L ≤ 2048) (hi : i + 4 ≤ L) (hsl : sl ≤ 7302250) {M : az_Mem} (hI : INV M) (hH : az_HR s D s.heap.size (az_hp M) H) (hS : va_S (fun q => s.heap.size ≤ q) s.heap H locs) (hl : lv_has ls 4 [(0, .ref b), (1, .ref (s.heap.size + 0)), (2, .ref (s.heap.size + 192)), (3, .int (nI i))])
    (kk : ∀ (M4 : az_Mem) (H1 : Heap) (locs1 : List Loc), INV M4 → az_HR s D s.heap.size (az_hp M4) H1 → va_S (fun q => s.heap.size ≤ q) s.heap H1 locs1 → W p l e room_1 s m #[Value.ref b] below meth c H1 locs1 200 sl Q (F0 m 829 ls [])) : W p l e room_1 s m #[Value.ref b] below meth c H locs 200 sl Q (F0 m 230 ls []) := by
  have hx := X.1
  have hb := X.2.1
  have hbA : ¬ (fun q : Nat => s.heap.size ≤ q) b := Nat.not_le.mpr hbl
  obtain ⟨a, M1, M4, e8, e9, i4⟩ := pair_setWell hI (xs (i + 1)) ((if xs (i + 2) = 0 then 0 else 1)) (by by_cases q : xs (i + 2) = 0 <;> simp [q])
  refine lv_aload_n hx hb lz_d_230 rfl (lv_at hl 1 rfl) ?_
  refine lv_aload_n hx hb lz_d_231 rfl (lv_at hl 0 rfl) ?_
  refine lv_iload_n hx hb lz_d_232 rfl (lv_at hl 3 rfl) ?_
  refine lv_iconst (v := nI 1) hx hb lz_d_233 (by decide) ?_
  refine lv_iadd hx hb lz_d_234 ?_
  refine va_sld hx hb hX hbl hbA hS (lz_in hL hi (show 1 < 4 by decide)).1 lz_d_235 ?_
  rw [(lz_in hL hi (show 1 < 4 by decide)).2]
  refine lv_aload_n hx hb lz_d_236 rfl (lv_at hl 0 rfl) ?_
  refine lv_iload_n hx hb lz_d_237 rfl (lv_at hl 3 rfl) ?_
  refine lv_iconst (v := nI 2) hx hb lz_d_238 (by decide) ?_
  refine lv_iadd hx hb lz_d_239 ?_
  refine va_sld hx hb hX hbl hbA hS (lz_in hL hi (show 2 < 4 by decide)).1 lz_d_240 ?_
  rw [(lz_in hL hi (show 2 < 4 by decide)).2]
  refine lz_nz (v := xs (i + 2)) (L1 := 248) (L2 := 249) hx hb lz_d_241 (by decide) lz_d_244 lz_d_245 (by decide) lz_d_248 rfl rfl rfl ?_
  refine lz_callV (rest := []) (n := 2) (mid := m_X8_setWell) (q := 0) (kd := 7) (as' := [.int (xs (i + 1)), .int ((if xs (i + 2) = 0 then 0 else 1))]) X rfl (by decide +kernel) (az_t2 (List.mem_of_getElem? (i := 100) rfl)) (az_t2 (List.mem_of_getElem? (i := 101) rfl)) (az_Wt (az_t2 (List.mem_of_getElem? (i := 102) rfl)) rfl) rfl rfl rfl (Nat.le_of_ble_eq_true rfl) (Nat.le_of_ble_eq_true rfl) e8 (by intro v hv; simp at hv; rcases hv with rfl | rfl <;> rfl) rfl hH hS lz_d_249 hl.1 (Nat.le_of_ble_eq_true rfl) rfl (Nat.le_of_ble_eq_true rfl) hsl (fun H locs hH hS => ?_)
  refine lv_aload_n hx hb lz_d_252 rfl (lv_at hl 2 rfl) ?_
  refine lv_aload_n hx hb lz_d_253 rfl (lv_at hl 0 rfl) ?_
  refine lv_iload_n hx hb lz_d_254 rfl (lv_at hl 3 rfl) ?_
  refine lv_iconst (v := nI 1) hx hb lz_d_255 (by decide) ?_
  refine lv_iadd hx hb lz_d_256 ?_
  refine va_sld hx hb hX hbl hbA hS (lz_in hL hi (show 1 < 4 by decide)).1 lz_d_257 ?_
  rw [(lz_in hL hi (show 1 < 4 by decide)).2]
  refine lv_aload_n hx hb lz_d_258 rfl (lv_at hl 0 rfl) ?_
  refine lv_iload_n hx hb lz_d_259 rfl (lv_at hl 3 rfl) ?_
  refine lv_iconst (v := nI 2) hx hb lz_d_260 (by decide) ?_
  refine lv_iadd hx hb lz_d_261 ?_
  refine va_sld hx hb hX hbl hbA hS (lz_in hL hi (show 2 < 4 by decide)).1 lz_d_262 ?_
  rw [(lz_in hL hi (show 2 < 4 by decide)).2]
  refine lz_nz (v := xs (i + 2)) (L1 := 270) (L2 := 271) hx hb lz_d_263 (by decide) lz_d_266 lz_d_267 (by decide) lz_d_270 rfl rfl rfl ?_
  refine lz_callV (rest := [.int a]) (n := 2) (mid := m_X9_setWell) (q := 192) (kd := 8) (as' := [.int (xs (i + 1)), .int ((if xs (i + 2) = 0 then 0 else 1))]) X rfl (by decide +kernel) (az_t4 (List.mem_of_getElem? (i := 141) rfl)) (az_t4 (List.mem_of_getElem? (i := 142) rfl)) (az_Wt (az_t4 (List.mem_of_getElem? (i := 143) rfl)) rfl) rfl rfl rfl (Nat.le_of_ble_eq_true rfl) (Nat.le_of_ble_eq_true rfl) e9 (by intro v hv; simp at hv; rcases hv with rfl | rfl <;> rfl) rfl hH hS lz_d_271 hl.1 (Nat.le_of_ble_eq_true rfl) rfl (Nat.le_of_ble_eq_true rfl) hsl (fun H locs hH hS => ?_)
  refine lv_icmp_eq (tgt := 829) hx hb lz_d_274 (by decide) (fun _ => ?_) (fun q => absurd rfl q)
  exact kk M4 H locs i4 hH hS
theorem lz_c3 {p : Program} {l : Launch} {e : Env} {s : State} {m : MethodId} {below : List Frame} {meth : Method} {c : Code} {D : va_G} {b L : Nat} {xs : Nat → Int32} {H : Heap} {locs : List Loc} {sl i : Nat} {ls : Array Slot} {Q : State → Prop} (X : lz_X p s m #[Value.ref b] c D) (hX : va_X b L xs s s.heap) (hbl : b < s.heap.size) (hL : L ≤ 2048) (hi : i + 4 ≤ L) (hsl : sl ≤ 7302250) {M : az_Mem} (hI : INV M) (hH : az_HR s D s.heap.size (az_hp M) H) (hS : va_S (fun q => s.heap.size ≤ q) s.heap H locs) (hl : lv_has ls 4 [(0, .ref b), (1, .ref (s.heap.size + 0)), (2, .ref (s.heap.size + 192)), (3, .int (nI i))])
    (kk : ∀ (M4 : az_Mem) (H1 : Heap) (locs1 : List Loc), INV M4 → az_HR s D s.heap.size (az_hp M4) H1 → va_S (fun q => s.heap.size ≤ q) s.heap H1 locs1 → W p l e room_1 s m #[Value.ref b] below meth c H1 locs1 200 sl Q (F0 m 829 ls [])) : W p l e room_1 s m #[Value.ref b] below meth c H locs 200 sl Q (F0 m 279 ls []) := by
  have hx := X.1
  have hb := X.2.1
  have hbA : ¬ (fun q : Nat => s.heap.size ≤ q) b := Nat.not_le.mpr hbl
  obtain ⟨a, M1, M4, e8, e9, i4⟩ := pair_set hI (xs (i + 1)) (xs (i + 2))
  refine lv_aload_n hx hb lz_d_279 rfl (lv_at hl 1 rfl) ?_
  refine lv_aload_n hx hb lz_d_280 rfl (lv_at hl 0 rfl) ?_
  refine lv_iload_n hx hb lz_d_281 rfl (lv_at hl 3 rfl) ?_
  refine lv_iconst (v := nI 1) hx hb lz_d_282 (by decide) ?_
  refine lv_iadd hx hb lz_d_283 ?_
  refine va_sld hx hb hX hbl hbA hS (lz_in hL hi (show 1 < 4 by decide)).1 lz_d_284 ?_
  rw [(lz_in hL hi (show 1 < 4 by decide)).2]
  refine lv_aload_n hx hb lz_d_285 rfl (lv_at hl 0 rfl) ?_
  refine lv_iload_n hx hb lz_d_286 rfl (lv_at hl 3 rfl) ?_
  refine lv_iconst (v := nI 2) hx hb lz_d_287 (by decide) ?_
  refine lv_iadd hx hb lz_d_288 ?_
  refine va_sld hx hb hX hbl hbA hS (lz_in hL hi (show 2 < 4 by decide)).1 lz_d_289 ?_
  rw [(lz_in hL hi (show 2 < 4 by decide)).2]
  refine lz_callV (rest := []) (n := 2) (mid := m_X8_set) (q := 0) (kd := 7) (as' := [.int (xs (i + 1)), .int (xs (i + 2))]) X rfl (by decide +kernel) (az_t2 (List.mem_of_getElem? (i := 125) rfl)) (az_t2 (List.mem_of_getElem? (i := 126) rfl)) (az_Wt (az_t2 (List.mem_of_getElem? (i := 127) rfl)) rfl) rfl rfl rfl (Nat.le_of_ble_eq_true rfl) (Nat.le_of_ble_eq_true rfl) e8 (by intro v hv; simp at hv; rcases hv with rfl | rfl <;> rfl) rfl hH hS lz_d_290 hl.1 (Nat.le_of_ble_eq_true rfl) rfl (Nat.le_of_ble_eq_true rfl) hsl (fun H locs hH hS => ?_)
  refine lv_aload_n hx hb lz_d_293 rfl (lv_at hl 2 rfl) ?_
  refine lv_aload_n hx hb lz_d_294 rfl (lv_at hl 0 rfl) ?_
  refine lv_iload_n hx hb lz_d_295 rfl (lv_at hl 3 rfl) ?_
  refine lv_iconst (v := nI 1) hx hb lz_d_296 (by decide) ?_
  refine lv_iadd hx hb lz_d_297 ?_
  refine va_sld hx hb hX hbl hbA hS (lz_in hL hi (show 1 < 4 by decide)).1 lz_d_298 ?_
  rw [(lz_in hL hi (show 1 < 4 by decide)).2]
  refine lv_aload_n hx hb lz_d_299 rfl (lv_at hl 0 rfl) ?_
  refine lv_iload_n hx hb lz_d_300 rfl (lv_at hl 3 rfl) ?_
  refine lv_iconst (v := nI 2) hx hb lz_d_301 (by decide) ?_
  refine lv_iadd hx hb lz_d_302 ?_
  refine va_sld hx hb hX hbl hbA hS (lz_in hL hi (show 2 < 4 by decide)).1 lz_d_303 ?_
  rw [(lz_in hL hi (show 2 < 4 by decide)).2]
  refine lz_callV (rest := [.int a]) (n := 2) (mid := m_X9_set) (q := 192) (kd := 8) (as' := [.int (xs (i + 1)), .int (xs (i + 2))]) X rfl (by decide +kernel) (az_t4 (List.mem_of_getElem? (i := 153) rfl)) (az_t4 (List.mem_of_getElem? (i := 154) rfl)) (az_Wt (az_t4 (List.mem_of_getElem? (i := 155) rfl)) rfl) rfl rfl rfl (Nat.le_of_ble_eq_true rfl) (Nat.le_of_ble_eq_true rfl) e9 (by intro v hv; simp at hv; rcases hv with rfl | rfl <;> rfl) rfl hH hS lz_d_304 hl.1 (Nat.le_of_ble_eq_true rfl) rfl (Nat.le_of_ble_eq_true rfl) hsl (fun H locs hH hS => ?_)
  refine lv_icmp_eq (tgt := 829) hx hb lz_d_307 (by decide) (fun _ => ?_) (fun q => absurd rfl q)
  exact kk M4 H locs i4 hH hS
theorem lz_c4 {p : Program} {l : Launch} {e : Env} {s : State} {m : MethodId} {below : List Frame} {meth : Method} {c : Code} {D : va_G} {b L : Nat} {xs : Nat → Int32} {H : Heap} {locs : List Loc} {sl i : Nat} {ls : Array Slot} {Q : State → Prop} (X : lz_X p s m #[Value.ref b] c D) (hX : va_X b L xs s s.heap) (hbl : b < s.heap.size) (hL : L ≤ 2048) (hi : i + 4 ≤ L) (hsl : sl ≤ 7302250) {M : az_Mem} (hI : INV M) (hH : az_HR s D s.heap.size (az_hp M) H) (hS : va_S (fun q => s.heap.size ≤ q) s.heap H locs) (hl : lv_has ls 4 [(0, .ref b), (1, .ref (s.heap.size + 0)), (2, .ref (s.heap.size + 192)), (3, .int (nI i))])
    (kk : ∀ (M4 : az_Mem) (H1 : Heap) (locs1 : List Loc), INV M4 → az_HR s D s.heap.size (az_hp M4) H1 → va_S (fun q => s.heap.size ≤ q) s.heap H1 locs1 → W p l e room_1 s m #[Value.ref b] below meth c H1 locs1 200 sl Q (F0 m 829 ls [])) : W p l e room_1 s m #[Value.ref b] below meth c H locs 200 sl Q (F0 m 312 ls []) := by
  have hx := X.1
  have hb := X.2.1
  have hbA : ¬ (fun q : Nat => s.heap.size ≤ q) b := Nat.not_le.mpr hbl
  obtain ⟨a, M1, M4, e8, e9, i4⟩ := pair_go hI (xs (i + 1))
  refine lv_aload_n hx hb lz_d_312 rfl (lv_at hl 1 rfl) ?_
  refine lv_aload_n hx hb lz_d_313 rfl (lv_at hl 0 rfl) ?_
  refine lv_iload_n hx hb lz_d_314 rfl (lv_at hl 3 rfl) ?_
  refine lv_iconst (v := nI 1) hx hb lz_d_315 (by decide) ?_
  refine lv_iadd hx hb lz_d_316 ?_
  refine va_sld hx hb hX hbl hbA hS (lz_in hL hi (show 1 < 4 by decide)).1 lz_d_317 ?_
  rw [(lz_in hL hi (show 1 < 4 by decide)).2]
  refine lz_callV (rest := []) (n := 1) (mid := m_X8_go) (q := 0) (kd := 7) (as' := [.int (xs (i + 1))]) X rfl (by decide +kernel) (az_t2 (List.mem_of_getElem? (i := 150) rfl)) (az_t2 (List.mem_of_getElem? (i := 151) rfl)) (az_Wt (az_t2 (List.mem_of_getElem? (i := 152) rfl)) rfl) rfl rfl rfl (Nat.le_of_ble_eq_true rfl) (Nat.le_of_ble_eq_true rfl) e8 (by intro v hv; simp at hv; rcases hv with rfl <;> rfl) rfl hH hS lz_d_318 hl.1 (Nat.le_of_ble_eq_true rfl) rfl (Nat.le_of_ble_eq_true rfl) hsl (fun H locs hH hS => ?_)
  refine lv_aload_n hx hb lz_d_321 rfl (lv_at hl 2 rfl) ?_
  refine lv_aload_n hx hb lz_d_322 rfl (lv_at hl 0 rfl) ?_
  refine lv_iload_n hx hb lz_d_323 rfl (lv_at hl 3 rfl) ?_
  refine lv_iconst (v := nI 1) hx hb lz_d_324 (by decide) ?_
  refine lv_iadd hx hb lz_d_325 ?_
  refine va_sld hx hb hX hbl hbA hS (lz_in hL hi (show 1 < 4 by decide)).1 lz_d_326 ?_
  rw [(lz_in hL hi (show 1 < 4 by decide)).2]
  refine lz_callV (rest := [.int a]) (n := 1) (mid := m_X9_go) (q := 192) (kd := 8) (as' := [.int (xs (i + 1))]) X rfl (by decide +kernel) (az_t4 (List.mem_of_getElem? (i := 157) rfl)) (az_t4 (List.mem_of_getElem? (i := 158) rfl)) (az_Wt (az_t4 (List.mem_of_getElem? (i := 159) rfl)) rfl) rfl rfl rfl (Nat.le_of_ble_eq_true rfl) (Nat.le_of_ble_eq_true rfl) e9 (by intro v hv; simp at hv; rcases hv with rfl <;> rfl) rfl hH hS lz_d_327 hl.1 (Nat.le_of_ble_eq_true rfl) rfl (Nat.le_of_ble_eq_true rfl) hsl (fun H locs hH hS => ?_)
  refine lv_icmp_eq (tgt := 829) hx hb lz_d_330 (by decide) (fun _ => ?_) (fun q => absurd rfl q)
  exact kk M4 H locs i4 hH hS
theorem lz_c5 {p : Program} {l : Launch} {e : Env} {s : State} {m : MethodId} {below : List Frame} {meth : Method} {c : Code} {D : va_G} {b L : Nat} {xs : Nat → Int32} {H : Heap} {locs : List Loc} {sl i : Nat} {ls : Array Slot} {Q : State → Prop} (X : lz_X p s m #[Value.ref b] c D) (hX : va_X b L xs s s.heap) (hbl : b < s.heap.size) (hL : L ≤ 2048) (hi : i + 4 ≤ L) (hsl : sl ≤ 7302250) {M : az_Mem} (hI : INV M) (hH : az_HR s D s.heap.size (az_hp M) H) (hS : va_S (fun q => s.heap.size ≤ q) s.heap H locs) (hl : lv_has ls 4 [(0, .ref b), (1, .ref (s.heap.size + 0)), (2, .ref (s.heap.size + 192)), (3, .int (nI i))])
    (kk : ∀ (M4 : az_Mem) (H1 : Heap) (locs1 : List Loc), INV M4 → az_HR s D s.heap.size (az_hp M4) H1 → va_S (fun q => s.heap.size ≤ q) s.heap H1 locs1 → W p l e room_1 s m #[Value.ref b] below meth c H1 locs1 200 sl Q (F0 m 829 ls [])) : W p l e room_1 s m #[Value.ref b] below meth c H locs 200 sl Q (F0 m 335 ls []) := by
  have hx := X.1
  have hb := X.2.1
  have hbA : ¬ (fun q : Nat => s.heap.size ≤ q) b := Nat.not_le.mpr hbl
  obtain ⟨a, M1, M4, e8, e9, i4⟩ := pair_write hI (xs (i + 1))
  refine lv_aload_n hx hb lz_d_335 rfl (lv_at hl 1 rfl) ?_
  refine lv_aload_n hx hb lz_d_336 rfl (lv_at hl 0 rfl) ?_
  refine lv_iload_n hx hb lz_d_337 rfl (lv_at hl 3 rfl) ?_
  refine lv_iconst (v := nI 1) hx hb lz_d_338 (by decide) ?_
  refine lv_iadd hx hb lz_d_339 ?_
  refine va_sld hx hb hX hbl hbA hS (lz_in hL hi (show 1 < 4 by decide)).1 lz_d_340 ?_
  rw [(lz_in hL hi (show 1 < 4 by decide)).2]
  refine lz_callV (rest := []) (n := 1) (mid := m_X8_write) (q := 0) (kd := 7) (as' := [.int (xs (i + 1))]) X rfl (by decide +kernel) (az_t2 (List.mem_of_getElem? (i := 170) rfl)) (az_t2 (List.mem_of_getElem? (i := 171) rfl)) (az_Wt (az_t2 (List.mem_of_getElem? (i := 172) rfl)) rfl) rfl rfl rfl (Nat.le_of_ble_eq_true rfl) (Nat.le_of_ble_eq_true rfl) e8 (by intro v hv; simp at hv; rcases hv with rfl <;> rfl) rfl hH hS lz_d_341 hl.1 (Nat.le_of_ble_eq_true rfl) rfl (Nat.le_of_ble_eq_true rfl) hsl (fun H locs hH hS => ?_)
  refine lv_aload_n hx hb lz_d_344 rfl (lv_at hl 2 rfl) ?_
  refine lv_aload_n hx hb lz_d_345 rfl (lv_at hl 0 rfl) ?_
  refine lv_iload_n hx hb lz_d_346 rfl (lv_at hl 3 rfl) ?_
  refine lv_iconst (v := nI 1) hx hb lz_d_347 (by decide) ?_
  refine lv_iadd hx hb lz_d_348 ?_
  refine va_sld hx hb hX hbl hbA hS (lz_in hL hi (show 1 < 4 by decide)).1 lz_d_349 ?_
  rw [(lz_in hL hi (show 1 < 4 by decide)).2]
  refine lz_callV (rest := [.int a]) (n := 1) (mid := m_X9_write) (q := 192) (kd := 8) (as' := [.int (xs (i + 1))]) X rfl (by decide +kernel) (az_t4 (List.mem_of_getElem? (i := 173) rfl)) (az_t4 (List.mem_of_getElem? (i := 174) rfl)) (az_Wt (az_t4 (List.mem_of_getElem? (i := 175) rfl)) rfl) rfl rfl rfl (Nat.le_of_ble_eq_true rfl) (Nat.le_of_ble_eq_true rfl) e9 (by intro v hv; simp at hv; rcases hv with rfl <;> rfl) rfl hH hS lz_d_350 hl.1 (Nat.le_of_ble_eq_true rfl) rfl (Nat.le_of_ble_eq_true rfl) hsl (fun H locs hH hS => ?_)
  refine lv_icmp_eq (tgt := 829) hx hb lz_d_353 (by decide) (fun _ => ?_) (fun q => absurd rfl q)
  exact kk M4 H locs i4 hH hS
theorem lz_c6 {p : Program} {l : Launch} {e : Env} {s : State} {m : MethodId} {below : List Frame} {meth : Method} {c : Code} {D : va_G} {b L : Nat} {xs : Nat → Int32} {H : Heap} {locs : List Loc} {sl i : Nat} {ls : Array Slot} {Q : State → Prop} (X : lz_X p s m #[Value.ref b] c D) (hX : va_X b L xs s s.heap) (hbl : b < s.heap.size) (hL : L ≤ 2048) (hi : i + 4 ≤ L) (hsl : sl ≤ 7302250) {M : az_Mem} (hI : INV M) (hH : az_HR s D s.heap.size (az_hp M) H) (hS : va_S (fun q => s.heap.size ≤ q) s.heap H locs) (hl : lv_has ls 4 [(0, .ref b), (1, .ref (s.heap.size + 0)), (2, .ref (s.heap.size + 192)), (3, .int (nI i))])
    (kk : ∀ (M4 : az_Mem) (H1 : Heap) (locs1 : List Loc), INV M4 → az_HR s D s.heap.size (az_hp M4) H1 → va_S (fun q => s.heap.size ≤ q) s.heap H1 locs1 → W p l e room_1 s m #[Value.ref b] below meth c H1 locs1 200 sl Q (F0 m 829 ls [])) : W p l e room_1 s m #[Value.ref b] below meth c H locs 200 sl Q (F0 m 358 ls []) := by
  have hx := X.1
  have hb := X.2.1
  have hbA : ¬ (fun q : Nat => s.heap.size ≤ q) b := Nat.not_le.mpr hbl
  obtain ⟨a, M1, M4, e8, e9, i4⟩ := pair_take hI (xs (i + 1))
  refine lv_aload_n hx hb lz_d_358 rfl (lv_at hl 1 rfl) ?_
  refine lv_aload_n hx hb lz_d_359 rfl (lv_at hl 0 rfl) ?_
  refine lv_iload_n hx hb lz_d_360 rfl (lv_at hl 3 rfl) ?_
  refine lv_iconst (v := nI 1) hx hb lz_d_361 (by decide) ?_
  refine lv_iadd hx hb lz_d_362 ?_
  refine va_sld hx hb hX hbl hbA hS (lz_in hL hi (show 1 < 4 by decide)).1 lz_d_363 ?_
  rw [(lz_in hL hi (show 1 < 4 by decide)).2]
  refine lz_callV (rest := []) (n := 1) (mid := m_X8_take) (q := 0) (kd := 7) (as' := [.int (xs (i + 1))]) X rfl (by decide +kernel) (az_t2 (List.mem_of_getElem? (i := 225) rfl)) (az_t2 (List.mem_of_getElem? (i := 226) rfl)) (az_Wt (az_t2 (List.mem_of_getElem? (i := 227) rfl)) rfl) rfl rfl rfl (Nat.le_of_ble_eq_true rfl) (Nat.le_of_ble_eq_true rfl) e8 (by intro v hv; simp at hv; rcases hv with rfl <;> rfl) rfl hH hS lz_d_364 hl.1 (Nat.le_of_ble_eq_true rfl) rfl (Nat.le_of_ble_eq_true rfl) hsl (fun H locs hH hS => ?_)
  refine lv_aload_n hx hb lz_d_367 rfl (lv_at hl 2 rfl) ?_
  refine lv_aload_n hx hb lz_d_368 rfl (lv_at hl 0 rfl) ?_
  refine lv_iload_n hx hb lz_d_369 rfl (lv_at hl 3 rfl) ?_
  refine lv_iconst (v := nI 1) hx hb lz_d_370 (by decide) ?_
  refine lv_iadd hx hb lz_d_371 ?_
  refine va_sld hx hb hX hbl hbA hS (lz_in hL hi (show 1 < 4 by decide)).1 lz_d_372 ?_
  rw [(lz_in hL hi (show 1 < 4 by decide)).2]
  refine lz_callV (rest := [.int a]) (n := 1) (mid := m_X9_take) (q := 192) (kd := 8) (as' := [.int (xs (i + 1))]) X rfl (by decide +kernel) (az_t4 (List.mem_of_getElem? (i := 199) rfl)) (az_t4 (List.mem_of_getElem? (i := 200) rfl)) (az_Wt (az_t4 (List.mem_of_getElem? (i := 201) rfl)) rfl) rfl rfl rfl (Nat.le_of_ble_eq_true rfl) (Nat.le_of_ble_eq_true rfl) e9 (by intro v hv; simp at hv; rcases hv with rfl <;> rfl) rfl hH hS lz_d_373 hl.1 (Nat.le_of_ble_eq_true rfl) rfl (Nat.le_of_ble_eq_true rfl) hsl (fun H locs hH hS => ?_)
  refine lv_icmp_eq (tgt := 829) hx hb lz_d_376 (by decide) (fun _ => ?_) (fun q => absurd rfl q)
  exact kk M4 H locs i4 hH hS
theorem lz_c7 {p : Program} {l : Launch} {e : Env} {s : State} {m : MethodId} {below : List Frame} {meth : Method} {c : Code} {D : va_G} {b L : Nat} {xs : Nat → Int32} {H : Heap} {locs : List Loc} {sl i : Nat} {ls : Array Slot} {Q : State → Prop} (X : lz_X p s m #[Value.ref b] c D) (hX : va_X b L xs s s.heap) (hbl : b < s.heap.size) (hL : L ≤ 2048) (hi : i + 4 ≤ L) (hsl : sl ≤ 7302250) {M : az_Mem} (hI : INV M) (hH : az_HR s D s.heap.size (az_hp M) H) (hS : va_S (fun q => s.heap.size ≤ q) s.heap H locs) (hl : lv_has ls 4 [(0, .ref b), (1, .ref (s.heap.size + 0)), (2, .ref (s.heap.size + 192)), (3, .int (nI i))])
    (kk : ∀ (M4 : az_Mem) (H1 : Heap) (locs1 : List Loc), INV M4 → az_HR s D s.heap.size (az_hp M4) H1 → va_S (fun q => s.heap.size ≤ q) s.heap H1 locs1 → W p l e room_1 s m #[Value.ref b] below meth c H1 locs1 200 sl Q (F0 m 829 ls [])) : W p l e room_1 s m #[Value.ref b] below meth c H locs 200 sl Q (F0 m 381 ls []) := by
  have hx := X.1
  have hb := X.2.1
  have hbA : ¬ (fun q : Nat => s.heap.size ≤ q) b := Nat.not_le.mpr hbl
  obtain ⟨a, M1, M4, e8, e9, i4⟩ := pair_put hI (xs (i + 1))
  refine lv_aload_n hx hb lz_d_381 rfl (lv_at hl 1 rfl) ?_
  refine lv_aload_n hx hb lz_d_382 rfl (lv_at hl 0 rfl) ?_
  refine lv_iload_n hx hb lz_d_383 rfl (lv_at hl 3 rfl) ?_
  refine lv_iconst (v := nI 1) hx hb lz_d_384 (by decide) ?_
  refine lv_iadd hx hb lz_d_385 ?_
  refine va_sld hx hb hX hbl hbA hS (lz_in hL hi (show 1 < 4 by decide)).1 lz_d_386 ?_
  rw [(lz_in hL hi (show 1 < 4 by decide)).2]
  refine lz_callV (rest := []) (n := 1) (mid := m_X8_put) (q := 0) (kd := 7) (as' := [.int (xs (i + 1))]) X rfl (by decide +kernel) (az_t3 (List.mem_of_getElem? (i := 13) rfl)) (az_t3 (List.mem_of_getElem? (i := 14) rfl)) (az_Wt (az_t3 (List.mem_of_getElem? (i := 15) rfl)) rfl) rfl rfl rfl (Nat.le_of_ble_eq_true rfl) (Nat.le_of_ble_eq_true rfl) e8 (by intro v hv; simp at hv; rcases hv with rfl <;> rfl) rfl hH hS lz_d_387 hl.1 (Nat.le_of_ble_eq_true rfl) rfl (Nat.le_of_ble_eq_true rfl) hsl (fun H locs hH hS => ?_)
  refine lv_aload_n hx hb lz_d_390 rfl (lv_at hl 2 rfl) ?_
  refine lv_aload_n hx hb lz_d_391 rfl (lv_at hl 0 rfl) ?_
  refine lv_iload_n hx hb lz_d_392 rfl (lv_at hl 3 rfl) ?_
  refine lv_iconst (v := nI 1) hx hb lz_d_393 (by decide) ?_
  refine lv_iadd hx hb lz_d_394 ?_
  refine va_sld hx hb hX hbl hbA hS (lz_in hL hi (show 1 < 4 by decide)).1 lz_d_395 ?_
  rw [(lz_in hL hi (show 1 < 4 by decide)).2]
  refine lz_callV (rest := [.int a]) (n := 1) (mid := m_X9_put) (q := 192) (kd := 8) (as' := [.int (xs (i + 1))]) X rfl (by decide +kernel) (az_t4 (List.mem_of_getElem? (i := 211) rfl)) (az_t4 (List.mem_of_getElem? (i := 212) rfl)) (az_Wt (az_t4 (List.mem_of_getElem? (i := 213) rfl)) rfl) rfl rfl rfl (Nat.le_of_ble_eq_true rfl) (Nat.le_of_ble_eq_true rfl) e9 (by intro v hv; simp at hv; rcases hv with rfl <;> rfl) rfl hH hS lz_d_396 hl.1 (Nat.le_of_ble_eq_true rfl) rfl (Nat.le_of_ble_eq_true rfl) hsl (fun H locs hH hS => ?_)
  refine lv_icmp_eq (tgt := 829) hx hb lz_d_399 (by decide) (fun _ => ?_) (fun q => absurd rfl q)
  exact kk M4 H locs i4 hH hS
theorem lz_c8 {p : Program} {l : Launch} {e : Env} {s : State} {m : MethodId} {below : List Frame} {meth : Method} {c : Code} {D : va_G} {b L : Nat} {xs : Nat → Int32} {H : Heap} {locs : List Loc} {sl i : Nat} {ls : Array Slot} {Q : State → Prop} (X : lz_X p s m #[Value.ref b] c D) (hX : va_X b L xs s s.heap) (hbl : b < s.heap.size) (hL : L ≤ 2048) (hi : i + 4 ≤ L) (hsl : sl ≤ 7302250) {M : az_Mem} (hI : INV M) (hH : az_HR s D s.heap.size (az_hp M) H) (hS : va_S (fun q => s.heap.size ≤ q) s.heap H locs) (hl : lv_has ls 4 [(0, .ref b), (1, .ref (s.heap.size + 0)), (2, .ref (s.heap.size + 192)), (3, .int (nI i))])
    (kk : ∀ (M4 : az_Mem) (H1 : Heap) (locs1 : List Loc), INV M4 → az_HR s D s.heap.size (az_hp M4) H1 → va_S (fun q => s.heap.size ≤ q) s.heap H1 locs1 → W p l e room_1 s m #[Value.ref b] below meth c H1 locs1 200 sl Q (F0 m 829 ls [])) : W p l e room_1 s m #[Value.ref b] below meth c H locs 200 sl Q (F0 m 404 ls []) := by
  have hx := X.1
  have hb := X.2.1
  have hbA : ¬ (fun q : Nat => s.heap.size ≤ q) b := Nat.not_le.mpr hbl
  obtain ⟨a, M1, M4, e8, e9, i4⟩ := pair_drop hI (xs (i + 1))
  refine lv_aload_n hx hb lz_d_404 rfl (lv_at hl 1 rfl) ?_
  refine lv_aload_n hx hb lz_d_405 rfl (lv_at hl 0 rfl) ?_
  refine lv_iload_n hx hb lz_d_406 rfl (lv_at hl 3 rfl) ?_
  refine lv_iconst (v := nI 1) hx hb lz_d_407 (by decide) ?_
  refine lv_iadd hx hb lz_d_408 ?_
  refine va_sld hx hb hX hbl hbA hS (lz_in hL hi (show 1 < 4 by decide)).1 lz_d_409 ?_
  rw [(lz_in hL hi (show 1 < 4 by decide)).2]
  refine lz_callV (rest := []) (n := 1) (mid := m_X8_drop) (q := 0) (kd := 7) (as' := [.int (xs (i + 1))]) X rfl (by decide +kernel) (az_t3 (List.mem_of_getElem? (i := 21) rfl)) (az_t3 (List.mem_of_getElem? (i := 22) rfl)) (az_Wt (az_t3 (List.mem_of_getElem? (i := 23) rfl)) rfl) rfl rfl rfl (Nat.le_of_ble_eq_true rfl) (Nat.le_of_ble_eq_true rfl) e8 (by intro v hv; simp at hv; rcases hv with rfl <;> rfl) rfl hH hS lz_d_410 hl.1 (Nat.le_of_ble_eq_true rfl) rfl (Nat.le_of_ble_eq_true rfl) hsl (fun H locs hH hS => ?_)
  refine lv_aload_n hx hb lz_d_413 rfl (lv_at hl 2 rfl) ?_
  refine lv_aload_n hx hb lz_d_414 rfl (lv_at hl 0 rfl) ?_
  refine lv_iload_n hx hb lz_d_415 rfl (lv_at hl 3 rfl) ?_
  refine lv_iconst (v := nI 1) hx hb lz_d_416 (by decide) ?_
  refine lv_iadd hx hb lz_d_417 ?_
  refine va_sld hx hb hX hbl hbA hS (lz_in hL hi (show 1 < 4 by decide)).1 lz_d_418 ?_
  rw [(lz_in hL hi (show 1 < 4 by decide)).2]
  refine lz_callV (rest := [.int a]) (n := 1) (mid := m_X9_drop) (q := 192) (kd := 8) (as' := [.int (xs (i + 1))]) X rfl (by decide +kernel) (az_t4 (List.mem_of_getElem? (i := 227) rfl)) (az_t4 (List.mem_of_getElem? (i := 228) rfl)) (az_Wt (az_t4 (List.mem_of_getElem? (i := 229) rfl)) rfl) rfl rfl rfl (Nat.le_of_ble_eq_true rfl) (Nat.le_of_ble_eq_true rfl) e9 (by intro v hv; simp at hv; rcases hv with rfl <;> rfl) rfl hH hS lz_d_419 hl.1 (Nat.le_of_ble_eq_true rfl) rfl (Nat.le_of_ble_eq_true rfl) hsl (fun H locs hH hS => ?_)
  refine lv_icmp_eq (tgt := 829) hx hb lz_d_422 (by decide) (fun _ => ?_) (fun q => absurd rfl q)
  exact kk M4 H locs i4 hH hS
theorem lz_c9 {p : Program} {l : Launch} {e : Env} {s : State} {m : MethodId} {below : List Frame} {meth : Method} {c : Code} {D : va_G} {b L : Nat} {xs : Nat → Int32} {H : Heap} {locs : List Loc} {sl i : Nat} {ls : Array Slot} {Q : State → Prop} (X : lz_X p s m #[Value.ref b] c D) (hX : va_X b L xs s s.heap) (hbl : b < s.heap.size) (hL : L ≤ 2048) (hi : i + 4 ≤ L) (hsl : sl ≤ 7302250) {M : az_Mem} (hI : INV M) (hH : az_HR s D s.heap.size (az_hp M) H) (hS : va_S (fun q => s.heap.size ≤ q) s.heap H locs) (hl : lv_has ls 4 [(0, .ref b), (1, .ref (s.heap.size + 0)), (2, .ref (s.heap.size + 192)), (3, .int (nI i))])
    (kk : ∀ (M4 : az_Mem) (H1 : Heap) (locs1 : List Loc), INV M4 → az_HR s D s.heap.size (az_hp M4) H1 → va_S (fun q => s.heap.size ≤ q) s.heap H1 locs1 → W p l e room_1 s m #[Value.ref b] below meth c H1 locs1 200 sl Q (F0 m 829 ls [])) : W p l e room_1 s m #[Value.ref b] below meth c H locs 200 sl Q (F0 m 427 ls []) := by
  have hx := X.1
  have hb := X.2.1
  have hbA : ¬ (fun q : Nat => s.heap.size ≤ q) b := Nat.not_le.mpr hbl
  obtain ⟨a, M1, M4, e8, e9, i4⟩ := pair_reset hI
  refine lv_aload_n hx hb lz_d_427 rfl (lv_at hl 1 rfl) ?_
  refine lz_callV (rest := []) (n := 0) (mid := m_X8_reset) (q := 0) (kd := 7) (as' := []) X rfl (by decide +kernel) (az_t3 (List.mem_of_getElem? (i := 33) rfl)) (az_t3 (List.mem_of_getElem? (i := 34) rfl)) (az_Wt (az_t3 (List.mem_of_getElem? (i := 35) rfl)) rfl) rfl rfl rfl (Nat.le_of_ble_eq_true rfl) (Nat.le_of_ble_eq_true rfl) e8 (by intro v hv; simp at hv; done) rfl hH hS lz_d_428 hl.1 (Nat.le_of_ble_eq_true rfl) rfl (Nat.le_of_ble_eq_true rfl) hsl (fun H locs hH hS => ?_)
  refine lv_aload_n hx hb lz_d_431 rfl (lv_at hl 2 rfl) ?_
  refine lz_callV (rest := [.int a]) (n := 0) (mid := m_X9_reset) (q := 192) (kd := 8) (as' := []) X rfl (by decide +kernel) (az_t4 (List.mem_of_getElem? (i := 235) rfl)) (az_t4 (List.mem_of_getElem? (i := 236) rfl)) (az_Wt (az_t4 (List.mem_of_getElem? (i := 237) rfl)) rfl) rfl rfl rfl (Nat.le_of_ble_eq_true rfl) (Nat.le_of_ble_eq_true rfl) e9 (by intro v hv; simp at hv; done) rfl hH hS lz_d_432 hl.1 (Nat.le_of_ble_eq_true rfl) rfl (Nat.le_of_ble_eq_true rfl) hsl (fun H locs hH hS => ?_)
  refine lv_icmp_eq (tgt := 829) hx hb lz_d_435 (by decide) (fun _ => ?_) (fun q => absurd rfl q)
  exact kk M4 H locs i4 hH hS
theorem lz_c10 {p : Program} {l : Launch} {e : Env} {s : State} {m : MethodId} {below : List Frame} {meth : Method} {c : Code} {D : va_G} {b L : Nat} {xs : Nat → Int32} {H : Heap} {locs : List Loc} {sl i : Nat} {ls : Array Slot} {Q : State → Prop} (X : lz_X p s m #[Value.ref b] c D) (hX : va_X b L xs s s.heap) (hbl : b < s.heap.size) (hL : L ≤ 2048) (hi : i + 4 ≤ L) (hsl : sl ≤ 7302250) {M : az_Mem} (hI : INV M) (hH : az_HR s D s.heap.size (az_hp M) H) (hS : va_S (fun q => s.heap.size ≤ q) s.heap H locs) (hl : lv_has ls 4 [(0, .ref b), (1, .ref (s.heap.size + 0)), (2, .ref (s.heap.size + 192)), (3, .int (nI i))])
    (kk : ∀ (M4 : az_Mem) (H1 : Heap) (locs1 : List Loc), INV M4 → az_HR s D s.heap.size (az_hp M4) H1 → va_S (fun q => s.heap.size ≤ q) s.heap H1 locs1 → W p l e room_1 s m #[Value.ref b] below meth c H1 locs1 200 sl Q (F0 m 829 ls [])) : W p l e room_1 s m #[Value.ref b] below meth c H locs 200 sl Q (F0 m 440 ls []) := by
  have hx := X.1
  have hb := X.2.1
  have hbA : ¬ (fun q : Nat => s.heap.size ≤ q) b := Nat.not_le.mpr hbl
  obtain ⟨a, M1, M4, e8, e9, i4⟩ := pair_seal hI
  refine lv_aload_n hx hb lz_d_440 rfl (lv_at hl 1 rfl) ?_
  refine lz_callV (rest := []) (n := 0) (mid := m_X8_seal) (q := 0) (kd := 7) (as' := []) X rfl (by decide +kernel) (az_t3 (List.mem_of_getElem? (i := 57) rfl)) (az_t3 (List.mem_of_getElem? (i := 58) rfl)) (az_Wt (az_t3 (List.mem_of_getElem? (i := 59) rfl)) rfl) rfl rfl rfl (Nat.le_of_ble_eq_true rfl) (Nat.le_of_ble_eq_true rfl) e8 (by intro v hv; simp at hv; done) rfl hH hS lz_d_441 hl.1 (Nat.le_of_ble_eq_true rfl) rfl (Nat.le_of_ble_eq_true rfl) hsl (fun H locs hH hS => ?_)
  refine lv_aload_n hx hb lz_d_444 rfl (lv_at hl 2 rfl) ?_
  refine lz_callV (rest := [.int a]) (n := 0) (mid := m_X9_seal) (q := 192) (kd := 8) (as' := []) X rfl (by decide +kernel) (az_t5 (List.mem_of_getElem? (i := 15) rfl)) (az_t5 (List.mem_of_getElem? (i := 16) rfl)) (az_Wt (az_t5 (List.mem_of_getElem? (i := 17) rfl)) rfl) rfl rfl rfl (Nat.le_of_ble_eq_true rfl) (Nat.le_of_ble_eq_true rfl) e9 (by intro v hv; simp at hv; done) rfl hH hS lz_d_445 hl.1 (Nat.le_of_ble_eq_true rfl) rfl (Nat.le_of_ble_eq_true rfl) hsl (fun H locs hH hS => ?_)
  refine lv_icmp_eq (tgt := 829) hx hb lz_d_448 (by decide) (fun _ => ?_) (fun q => absurd rfl q)
  exact kk M4 H locs i4 hH hS
theorem lz_c11 {p : Program} {l : Launch} {e : Env} {s : State} {m : MethodId} {below : List Frame} {meth : Method} {c : Code} {D : va_G} {b L : Nat} {xs : Nat → Int32} {H : Heap} {locs : List Loc} {sl i : Nat} {ls : Array Slot} {Q : State → Prop} (X : lz_X p s m #[Value.ref b] c D) (hX : va_X b L xs s s.heap) (hbl : b < s.heap.size) (hL : L ≤ 2048) (hi : i + 4 ≤ L) (hsl : sl ≤ 7302250) {M : az_Mem} (hI : INV M) (hH : az_HR s D s.heap.size (az_hp M) H) (hS : va_S (fun q => s.heap.size ≤ q) s.heap H locs) (hl : lv_has ls 4 [(0, .ref b), (1, .ref (s.heap.size + 0)), (2, .ref (s.heap.size + 192)), (3, .int (nI i))])
    (kk : ∀ (M4 : az_Mem) (H1 : Heap) (locs1 : List Loc), INV M4 → az_HR s D s.heap.size (az_hp M4) H1 → va_S (fun q => s.heap.size ≤ q) s.heap H1 locs1 → W p l e room_1 s m #[Value.ref b] below meth c H1 locs1 200 sl Q (F0 m 829 ls [])) : W p l e room_1 s m #[Value.ref b] below meth c H locs 200 sl Q (F0 m 453 ls []) := by
  have hx := X.1
  have hb := X.2.1
  have hbA : ¬ (fun q : Nat => s.heap.size ≤ q) b := Nat.not_le.mpr hbl
  obtain ⟨a, M1, M4, e8, e9, i4⟩ := pair_clean hI
  refine lv_aload_n hx hb lz_d_453 rfl (lv_at hl 1 rfl) ?_
  refine lz_callV (rest := []) (n := 0) (mid := m_X8_clean) (q := 0) (kd := 7) (as' := []) X rfl (by decide +kernel) (az_t3 (List.mem_of_getElem? (i := 69) rfl)) (az_t3 (List.mem_of_getElem? (i := 70) rfl)) (az_Wt (az_t3 (List.mem_of_getElem? (i := 71) rfl)) rfl) rfl rfl rfl (Nat.le_of_ble_eq_true rfl) (Nat.le_of_ble_eq_true rfl) e8 (by intro v hv; simp at hv; done) rfl hH hS lz_d_454 hl.1 (Nat.le_of_ble_eq_true rfl) rfl (Nat.le_of_ble_eq_true rfl) hsl (fun H locs hH hS => ?_)
  refine lv_aload_n hx hb lz_d_457 rfl (lv_at hl 2 rfl) ?_
  refine lz_callV (rest := [.int a]) (n := 0) (mid := m_X9_clean) (q := 192) (kd := 8) (as' := []) X rfl (by decide +kernel) (az_t5 (List.mem_of_getElem? (i := 23) rfl)) (az_t5 (List.mem_of_getElem? (i := 24) rfl)) (az_Wt (az_t5 (List.mem_of_getElem? (i := 25) rfl)) rfl) rfl rfl rfl (Nat.le_of_ble_eq_true rfl) (Nat.le_of_ble_eq_true rfl) e9 (by intro v hv; simp at hv; done) rfl hH hS lz_d_458 hl.1 (Nat.le_of_ble_eq_true rfl) rfl (Nat.le_of_ble_eq_true rfl) hsl (fun H locs hH hS => ?_)
  refine lv_icmp_eq (tgt := 829) hx hb lz_d_461 (by decide) (fun _ => ?_) (fun q => absurd rfl q)
  exact kk M4 H locs i4 hH hS
theorem lz_c12 {p : Program} {l : Launch} {e : Env} {s : State} {m : MethodId} {below : List Frame} {meth : Method} {c : Code} {D : va_G} {b L : Nat} {xs : Nat → Int32} {H : Heap} {locs : List Loc} {sl i : Nat} {ls : Array Slot} {Q : State → Prop} (X : lz_X p s m #[Value.ref b] c D) (hX : va_X b L xs s s.heap) (hbl : b < s.heap.size) (hL : L ≤ 2048) (hi : i + 4 ≤ L) (hsl : sl ≤ 7302250) {M : az_Mem} (hI : INV M) (hH : az_HR s D s.heap.size (az_hp M) H) (hS : va_S (fun q => s.heap.size ≤ q) s.heap H locs) (hl : lv_has ls 4 [(0, .ref b), (1, .ref (s.heap.size + 0)), (2, .ref (s.heap.size + 192)), (3, .int (nI i))])
    (kk : ∀ (M4 : az_Mem) (H1 : Heap) (locs1 : List Loc), INV M4 → az_HR s D s.heap.size (az_hp M4) H1 → va_S (fun q => s.heap.size ≤ q) s.heap H1 locs1 → W p l e room_1 s m #[Value.ref b] below meth c H1 locs1 200 sl Q (F0 m 829 ls [])) : W p l e room_1 s m #[Value.ref b] below meth c H locs 200 sl Q (F0 m 466 ls []) := by
  have hx := X.1
  have hb := X.2.1
  have hbA : ¬ (fun q : Nat => s.heap.size ≤ q) b := Nat.not_le.mpr hbl
  obtain ⟨a, M1, M4, e8, e9, i4⟩ := pair_dusk hI
  refine lv_aload_n hx hb lz_d_466 rfl (lv_at hl 1 rfl) ?_
  refine lz_callV (rest := []) (n := 0) (mid := m_X8_dusk) (q := 0) (kd := 7) (as' := []) X rfl (by decide +kernel) (az_t3 (List.mem_of_getElem? (i := 85) rfl)) (az_t3 (List.mem_of_getElem? (i := 86) rfl)) (az_Wt (az_t3 (List.mem_of_getElem? (i := 87) rfl)) rfl) rfl rfl rfl (Nat.le_of_ble_eq_true rfl) (Nat.le_of_ble_eq_true rfl) e8 (by intro v hv; simp at hv; done) rfl hH hS lz_d_467 hl.1 (Nat.le_of_ble_eq_true rfl) rfl (Nat.le_of_ble_eq_true rfl) hsl (fun H locs hH hS => ?_)
  refine lv_aload_n hx hb lz_d_470 rfl (lv_at hl 2 rfl) ?_
  refine lz_callV (rest := [.int a]) (n := 0) (mid := m_X9_dusk) (q := 192) (kd := 8) (as' := []) X rfl (by decide +kernel) (az_t5 (List.mem_of_getElem? (i := 35) rfl)) (az_t5 (List.mem_of_getElem? (i := 36) rfl)) (az_Wt (az_t5 (List.mem_of_getElem? (i := 37) rfl)) rfl) rfl rfl rfl (Nat.le_of_ble_eq_true rfl) (Nat.le_of_ble_eq_true rfl) e9 (by intro v hv; simp at hv; done) rfl hH hS lz_d_471 hl.1 (Nat.le_of_ble_eq_true rfl) rfl (Nat.le_of_ble_eq_true rfl) hsl (fun H locs hH hS => ?_)
  refine lv_icmp_eq (tgt := 829) hx hb lz_d_474 (by decide) (fun _ => ?_) (fun q => absurd rfl q)
  exact kk M4 H locs i4 hH hS
theorem lz_c13 {p : Program} {l : Launch} {e : Env} {s : State} {m : MethodId} {below : List Frame} {meth : Method} {c : Code} {D : va_G} {b L : Nat} {xs : Nat → Int32} {H : Heap} {locs : List Loc} {sl i : Nat} {ls : Array Slot} {Q : State → Prop} (X : lz_X p s m #[Value.ref b] c D) (hX : va_X b L xs s s.heap) (hbl : b < s.heap.size) (hL : L ≤ 2048) (hi : i + 4 ≤ L) (hsl : sl ≤ 7302250) {M : az_Mem} (hI : INV M) (hH : az_HR s D s.heap.size (az_hp M) H) (hS : va_S (fun q => s.heap.size ≤ q) s.heap H locs) (hl : lv_has ls 4 [(0, .ref b), (1, .ref (s.heap.size + 0)), (2, .ref (s.heap.size + 192)), (3, .int (nI i))])
    (kk : ∀ (M4 : az_Mem) (H1 : Heap) (locs1 : List Loc), INV M4 → az_HR s D s.heap.size (az_hp M4) H1 → va_S (fun q => s.heap.size ≤ q) s.heap H1 locs1 → W p l e room_1 s m #[Value.ref b] below meth c H1 locs1 200 sl Q (F0 m 829 ls [])) : W p l e room_1 s m #[Value.ref b] below meth c H locs 200 sl Q (F0 m 479 ls []) := by
  have hx := X.1
  have hb := X.2.1
  have hbA : ¬ (fun q : Nat => s.heap.size ≤ q) b := Nat.not_le.mpr hbl
  obtain ⟨a, M1, M4, e8, e9, i4⟩ := pair_type hI (((xs (i + 1)).toUInt32 % 65536).toInt32)
  refine lv_aload_n hx hb lz_d_479 rfl (lv_at hl 1 rfl) ?_
  refine lv_aload_n hx hb lz_d_480 rfl (lv_at hl 0 rfl) ?_
  refine lv_iload_n hx hb lz_d_481 rfl (lv_at hl 3 rfl) ?_
  refine lv_iconst (v := nI 1) hx hb lz_d_482 (by decide) ?_
  refine lv_iadd hx hb lz_d_483 ?_
  refine va_sld hx hb hX hbl hbA hS (lz_in hL hi (show 1 < 4 by decide)).1 lz_d_484 ?_
  rw [(lz_in hL hi (show 1 < 4 by decide)).2]
  refine lv_i2c (v := ((xs (i + 1)).toUInt32 % 65536).toInt32) hx hb lz_d_485 rfl ?_
  refine lz_callV (rest := []) (n := 1) (mid := m_X8_type) (q := 0) (kd := 7) (as' := [.int (((xs (i + 1)).toUInt32 % 65536).toInt32)]) X rfl (by decide +kernel) (az_t3 (List.mem_of_getElem? (i := 102) rfl)) (az_t3 (List.mem_of_getElem? (i := 103) rfl)) (az_Wt (az_t3 (List.mem_of_getElem? (i := 104) rfl)) rfl) rfl rfl rfl (Nat.le_of_ble_eq_true rfl) (Nat.le_of_ble_eq_true rfl) e8 (by intro v hv; simp at hv; rcases hv with rfl <;> rfl) rfl hH hS lz_d_486 hl.1 (Nat.le_of_ble_eq_true rfl) rfl (Nat.le_of_ble_eq_true rfl) hsl (fun H locs hH hS => ?_)
  refine lv_aload_n hx hb lz_d_489 rfl (lv_at hl 2 rfl) ?_
  refine lv_aload_n hx hb lz_d_490 rfl (lv_at hl 0 rfl) ?_
  refine lv_iload_n hx hb lz_d_491 rfl (lv_at hl 3 rfl) ?_
  refine lv_iconst (v := nI 1) hx hb lz_d_492 (by decide) ?_
  refine lv_iadd hx hb lz_d_493 ?_
  refine va_sld hx hb hX hbl hbA hS (lz_in hL hi (show 1 < 4 by decide)).1 lz_d_494 ?_
  rw [(lz_in hL hi (show 1 < 4 by decide)).2]
  refine lv_i2c (v := ((xs (i + 1)).toUInt32 % 65536).toInt32) hx hb lz_d_495 rfl ?_
  refine lz_callV (rest := [.int a]) (n := 1) (mid := m_X9_type) (q := 192) (kd := 8) (as' := [.int (((xs (i + 1)).toUInt32 % 65536).toInt32)]) X rfl (by decide +kernel) (az_t5 (List.mem_of_getElem? (i := 39) rfl)) (az_t5 (List.mem_of_getElem? (i := 40) rfl)) (az_Wt (az_t5 (List.mem_of_getElem? (i := 41) rfl)) rfl) rfl rfl rfl (Nat.le_of_ble_eq_true rfl) (Nat.le_of_ble_eq_true rfl) e9 (by intro v hv; simp at hv; rcases hv with rfl <;> rfl) rfl hH hS lz_d_496 hl.1 (Nat.le_of_ble_eq_true rfl) rfl (Nat.le_of_ble_eq_true rfl) hsl (fun H locs hH hS => ?_)
  refine lv_icmp_eq (tgt := 829) hx hb lz_d_499 (by decide) (fun _ => ?_) (fun q => absurd rfl q)
  exact kk M4 H locs i4 hH hS
theorem lz_c14 {p : Program} {l : Launch} {e : Env} {s : State} {m : MethodId} {below : List Frame} {meth : Method} {c : Code} {D : va_G} {b L : Nat} {xs : Nat → Int32} {H : Heap} {locs : List Loc} {sl i : Nat} {ls : Array Slot} {Q : State → Prop} (X : lz_X p s m #[Value.ref b] c D) (hX : va_X b L xs s s.heap) (hbl : b < s.heap.size) (hL : L ≤ 2048) (hi : i + 4 ≤ L) (hsl : sl ≤ 7302250) {M : az_Mem} (hI : INV M) (hH : az_HR s D s.heap.size (az_hp M) H) (hS : va_S (fun q => s.heap.size ≤ q) s.heap H locs) (hl : lv_has ls 4 [(0, .ref b), (1, .ref (s.heap.size + 0)), (2, .ref (s.heap.size + 192)), (3, .int (nI i))])
    (kk : ∀ (M4 : az_Mem) (H1 : Heap) (locs1 : List Loc), INV M4 → az_HR s D s.heap.size (az_hp M4) H1 → va_S (fun q => s.heap.size ≤ q) s.heap H1 locs1 → W p l e room_1 s m #[Value.ref b] below meth c H1 locs1 200 sl Q (F0 m 829 ls [])) : W p l e room_1 s m #[Value.ref b] below meth c H locs 200 sl Q (F0 m 504 ls []) := by
  have hx := X.1
  have hb := X.2.1
  have hbA : ¬ (fun q : Nat => s.heap.size ≤ q) b := Nat.not_le.mpr hbl
  obtain ⟨a, M1, M4, e8, e9, i4⟩ := pair_clearText hI
  refine lv_aload_n hx hb lz_d_504 rfl (lv_at hl 1 rfl) ?_
  refine lz_callV (rest := []) (n := 0) (mid := m_X8_clearText) (q := 0) (kd := 7) (as' := []) X rfl (by decide +kernel) (az_t3 (List.mem_of_getElem? (i := 111) rfl)) (az_t3 (List.mem_of_getElem? (i := 112) rfl)) (az_Wt (az_t3 (List.mem_of_getElem? (i := 113) rfl)) rfl) rfl rfl rfl (Nat.le_of_ble_eq_true rfl) (Nat.le_of_ble_eq_true rfl) e8 (by intro v hv; simp at hv; done) rfl hH hS lz_d_505 hl.1 (Nat.le_of_ble_eq_true rfl) rfl (Nat.le_of_ble_eq_true rfl) hsl (fun H locs hH hS => ?_)
  refine lv_aload_n hx hb lz_d_508 rfl (lv_at hl 2 rfl) ?_
  refine lz_callV (rest := [.int a]) (n := 0) (mid := m_X9_clearText) (q := 192) (kd := 8) (as' := []) X rfl (by decide +kernel) (az_t5 (List.mem_of_getElem? (i := 43) rfl)) (az_t5 (List.mem_of_getElem? (i := 44) rfl)) (az_Wt (az_t5 (List.mem_of_getElem? (i := 45) rfl)) rfl) rfl rfl rfl (Nat.le_of_ble_eq_true rfl) (Nat.le_of_ble_eq_true rfl) e9 (by intro v hv; simp at hv; done) rfl hH hS lz_d_509 hl.1 (Nat.le_of_ble_eq_true rfl) rfl (Nat.le_of_ble_eq_true rfl) hsl (fun H locs hH hS => ?_)
  refine lv_icmp_eq (tgt := 829) hx hb lz_d_512 (by decide) (fun _ => ?_) (fun q => absurd rfl q)
  exact kk M4 H locs i4 hH hS
theorem lz_c15 {p : Program} {l : Launch} {e : Env} {s : State} {m : MethodId} {below : List Frame} {meth : Method} {c : Code} {D : va_G} {b L : Nat} {xs : Nat → Int32} {H : Heap} {locs : List Loc} {sl i : Nat} {ls : Array Slot} {Q : State → Prop} (X : lz_X p s m #[Value.ref b] c D) (hX : va_X b L xs s s.heap) (hbl : b < s.heap.size) (hL : L ≤ 2048) (hi : i + 4 ≤ L) (hsl : sl ≤ 7302250) {M : az_Mem} (hI : INV M) (hH : az_HR s D s.heap.size (az_hp M) H) (hS : va_S (fun q => s.heap.size ≤ q) s.heap H locs) (hl : lv_has ls 4 [(0, .ref b), (1, .ref (s.heap.size + 0)), (2, .ref (s.heap.size + 192)), (3, .int (nI i))])
    (kk : ∀ (M4 : az_Mem) (H1 : Heap) (locs1 : List Loc), INV M4 → az_HR s D s.heap.size (az_hp M4) H1 → va_S (fun q => s.heap.size ≤ q) s.heap H1 locs1 → W p l e room_1 s m #[Value.ref b] below meth c H1 locs1 200 sl Q (F0 m 829 ls [])) : W p l e room_1 s m #[Value.ref b] below meth c H locs 200 sl Q (F0 m 517 ls []) := by
  have hx := X.1
  have hb := X.2.1
  have hbA : ¬ (fun q : Nat => s.heap.size ≤ q) b := Nat.not_le.mpr hbl
  obtain ⟨a, M1, M4, e8, e9, i4⟩ := pair_perform hI
  refine lv_aload_n hx hb lz_d_517 rfl (lv_at hl 1 rfl) ?_
  refine lz_callV (rest := []) (n := 0) (mid := m_X8_perform) (q := 0) (kd := 7) (as' := []) X rfl (by decide +kernel) (az_t3 (List.mem_of_getElem? (i := 119) rfl)) (az_t3 (List.mem_of_getElem? (i := 120) rfl)) (az_Wt (az_t3 (List.mem_of_getElem? (i := 121) rfl)) rfl) rfl rfl rfl (Nat.le_of_ble_eq_true rfl) (Nat.le_of_ble_eq_true rfl) e8 (by intro v hv; simp at hv; done) rfl hH hS lz_d_518 hl.1 (Nat.le_of_ble_eq_true rfl) rfl (Nat.le_of_ble_eq_true rfl) hsl (fun H locs hH hS => ?_)
  refine lv_aload_n hx hb lz_d_521 rfl (lv_at hl 2 rfl) ?_
  refine lz_callV (rest := [.int a]) (n := 0) (mid := m_X9_perform) (q := 192) (kd := 8) (as' := []) X rfl (by decide +kernel) (az_t5 (List.mem_of_getElem? (i := 47) rfl)) (az_t5 (List.mem_of_getElem? (i := 48) rfl)) (az_Wt (az_t5 (List.mem_of_getElem? (i := 49) rfl)) rfl) rfl rfl rfl (Nat.le_of_ble_eq_true rfl) (Nat.le_of_ble_eq_true rfl) e9 (by intro v hv; simp at hv; done) rfl hH hS lz_d_522 hl.1 (Nat.le_of_ble_eq_true rfl) rfl (Nat.le_of_ble_eq_true rfl) hsl (fun H locs hH hS => ?_)
  refine lv_icmp_eq (tgt := 829) hx hb lz_d_525 (by decide) (fun _ => ?_) (fun q => absurd rfl q)
  exact kk M4 H locs i4 hH hS
theorem lz_c16 {p : Program} {l : Launch} {e : Env} {s : State} {m : MethodId} {below : List Frame} {meth : Method} {c : Code} {D : va_G} {b L : Nat} {xs : Nat → Int32} {H : Heap} {locs : List Loc} {sl i : Nat} {ls : Array Slot} {Q : State → Prop} (X : lz_X p s m #[Value.ref b] c D) (hX : va_X b L xs s s.heap) (hbl : b < s.heap.size) (hL : L ≤ 2048) (hi : i + 4 ≤ L) (hsl : sl ≤ 7302250) {M : az_Mem} (hI : INV M) (hH : az_HR s D s.heap.size (az_hp M) H) (hS : va_S (fun q => s.heap.size ≤ q) s.heap H locs) (hl : lv_has ls 4 [(0, .ref b), (1, .ref (s.heap.size + 0)), (2, .ref (s.heap.size + 192)), (3, .int (nI i))])
    (kk : ∀ (M4 : az_Mem) (H1 : Heap) (locs1 : List Loc), INV M4 → az_HR s D s.heap.size (az_hp M4) H1 → va_S (fun q => s.heap.size ≤ q) s.heap H1 locs1 → W p l e room_1 s m #[Value.ref b] below meth c H1 locs1 200 sl Q (F0 m 829 ls [])) : W p l e room_1 s m #[Value.ref b] below meth c H locs 200 sl Q (F0 m 530 ls []) := by
  have hx := X.1
  have hb := X.2.1
  have hbA : ¬ (fun q : Nat => s.heap.size ≤ q) b := Nat.not_le.mpr hbl
  obtain ⟨a, M1, M4, e8, e9, i4⟩ := pair_undo hI
  refine lv_aload_n hx hb lz_d_530 rfl (lv_at hl 1 rfl) ?_
  refine lz_callV (rest := []) (n := 0) (mid := m_X8_undo) (q := 0) (kd := 7) (as' := []) X rfl (by decide +kernel) (az_t3 (List.mem_of_getElem? (i := 159) rfl)) (az_t3 (List.mem_of_getElem? (i := 160) rfl)) (az_Wt (az_t3 (List.mem_of_getElem? (i := 161) rfl)) rfl) rfl rfl rfl (Nat.le_of_ble_eq_true rfl) (Nat.le_of_ble_eq_true rfl) e8 (by intro v hv; simp at hv; done) rfl hH hS lz_d_531 hl.1 (Nat.le_of_ble_eq_true rfl) rfl (Nat.le_of_ble_eq_true rfl) hsl (fun H locs hH hS => ?_)
  refine lv_aload_n hx hb lz_d_534 rfl (lv_at hl 2 rfl) ?_
  refine lz_callV (rest := [.int a]) (n := 0) (mid := m_X9_undo) (q := 192) (kd := 8) (as' := []) X rfl (by decide +kernel) (az_t5 (List.mem_of_getElem? (i := 71) rfl)) (az_t5 (List.mem_of_getElem? (i := 72) rfl)) (az_Wt (az_t5 (List.mem_of_getElem? (i := 73) rfl)) rfl) rfl rfl rfl (Nat.le_of_ble_eq_true rfl) (Nat.le_of_ble_eq_true rfl) e9 (by intro v hv; simp at hv; done) rfl hH hS lz_d_535 hl.1 (Nat.le_of_ble_eq_true rfl) rfl (Nat.le_of_ble_eq_true rfl) hsl (fun H locs hH hS => ?_)
  refine lv_icmp_eq (tgt := 829) hx hb lz_d_538 (by decide) (fun _ => ?_) (fun q => absurd rfl q)
  exact kk M4 H locs i4 hH hS
theorem lz_c17 {p : Program} {l : Launch} {e : Env} {s : State} {m : MethodId} {below : List Frame} {meth : Method} {c : Code} {D : va_G} {b L : Nat} {xs : Nat → Int32} {H : Heap} {locs : List Loc} {sl i : Nat} {ls : Array Slot} {Q : State → Prop} (X : lz_X p s m #[Value.ref b] c D) (hX : va_X b L xs s s.heap) (hbl : b < s.heap.size) (hL : L ≤ 2048) (hi : i + 4 ≤ L) (hsl : sl ≤ 7302250) {M : az_Mem} (hI : INV M) (hH : az_HR s D s.heap.size (az_hp M) H) (hS : va_S (fun q => s.heap.size ≤ q) s.heap H locs) (hl : lv_has ls 4 [(0, .ref b), (1, .ref (s.heap.size + 0)), (2, .ref (s.heap.size + 192)), (3, .int (nI i))])
    (kk : ∀ (M4 : az_Mem) (H1 : Heap) (locs1 : List Loc), INV M4 → az_HR s D s.heap.size (az_hp M4) H1 → va_S (fun q => s.heap.size ≤ q) s.heap H1 locs1 → W p l e room_1 s m #[Value.ref b] below meth c H1 locs1 200 sl Q (F0 m 829 ls [])) : W p l e room_1 s m #[Value.ref b] below meth c H locs 200 sl Q (F0 m 543 ls []) := by
  have hx := X.1
  have hb := X.2.1
  have hbA : ¬ (fun q : Nat => s.heap.size ≤ q) b := Nat.not_le.mpr hbl
  obtain ⟨a, M1, M4, e8, e9, i4⟩ := pair_keep hI
  refine lv_aload_n hx hb lz_d_543 rfl (lv_at hl 1 rfl) ?_
  refine lz_callV (rest := []) (n := 0) (mid := m_X8_keep) (q := 0) (kd := 7) (as' := []) X rfl (by decide +kernel) (az_t3 (List.mem_of_getElem? (i := 171) rfl)) (az_t3 (List.mem_of_getElem? (i := 172) rfl)) (az_Wt (az_t3 (List.mem_of_getElem? (i := 173) rfl)) rfl) rfl rfl rfl (Nat.le_of_ble_eq_true rfl) (Nat.le_of_ble_eq_true rfl) e8 (by intro v hv; simp at hv; done) rfl hH hS lz_d_544 hl.1 (Nat.le_of_ble_eq_true rfl) rfl (Nat.le_of_ble_eq_true rfl) hsl (fun H locs hH hS => ?_)
  refine lv_aload_n hx hb lz_d_547 rfl (lv_at hl 2 rfl) ?_
  refine lz_callV (rest := [.int a]) (n := 0) (mid := m_X9_keep) (q := 192) (kd := 8) (as' := []) X rfl (by decide +kernel) (az_t5 (List.mem_of_getElem? (i := 75) rfl)) (az_t5 (List.mem_of_getElem? (i := 76) rfl)) (az_Wt (az_t5 (List.mem_of_getElem? (i := 77) rfl)) rfl) rfl rfl rfl (Nat.le_of_ble_eq_true rfl) (Nat.le_of_ble_eq_true rfl) e9 (by intro v hv; simp at hv; done) rfl hH hS lz_d_548 hl.1 (Nat.le_of_ble_eq_true rfl) rfl (Nat.le_of_ble_eq_true rfl) hsl (fun H locs hH hS => ?_)
  refine lv_icmp_eq (tgt := 829) hx hb lz_d_551 (by decide) (fun _ => ?_) (fun q => absurd rfl q)
  exact kk M4 H locs i4 hH hS
theorem lz_c18 {p : Program} {l : Launch} {e : Env} {s : State} {m : MethodId} {below : List Frame} {meth : Method} {c : Code} {D : va_G} {b L : Nat} {xs : Nat → Int32} {H : Heap} {locs : List Loc} {sl i : Nat} {ls : Array Slot} {Q : State → Prop} (X : lz_X p s m #[Value.ref b] c D) (hX : va_X b L xs s s.heap) (hbl : b < s.heap.size) (hL : L ≤ 2048) (hi : i + 4 ≤ L) (hsl : sl ≤ 7302250) {M : az_Mem} (hI : INV M) (hH : az_HR s D s.heap.size (az_hp M) H) (hS : va_S (fun q => s.heap.size ≤ q) s.heap H locs) (hl : lv_has ls 4 [(0, .ref b), (1, .ref (s.heap.size + 0)), (2, .ref (s.heap.size + 192)), (3, .int (nI i))])
    (kk : ∀ (M4 : az_Mem) (H1 : Heap) (locs1 : List Loc), INV M4 → az_HR s D s.heap.size (az_hp M4) H1 → va_S (fun q => s.heap.size ≤ q) s.heap H1 locs1 → W p l e room_1 s m #[Value.ref b] below meth c H1 locs1 200 sl Q (F0 m 829 ls [])) : W p l e room_1 s m #[Value.ref b] below meth c H locs 200 sl Q (F0 m 556 ls []) := by
  have hx := X.1
  have hb := X.2.1
  have hbA : ¬ (fun q : Nat => s.heap.size ≤ q) b := Nat.not_le.mpr hbl
  obtain ⟨a, M1, M4, e8, e9, i4⟩ := pair_restore hI
  refine lv_aload_n hx hb lz_d_556 rfl (lv_at hl 1 rfl) ?_
  refine lz_callV (rest := []) (n := 0) (mid := m_X8_restore) (q := 0) (kd := 7) (as' := []) X rfl (by decide +kernel) (az_t3 (List.mem_of_getElem? (i := 175) rfl)) (az_t3 (List.mem_of_getElem? (i := 176) rfl)) (az_Wt (az_t3 (List.mem_of_getElem? (i := 177) rfl)) rfl) rfl rfl rfl (Nat.le_of_ble_eq_true rfl) (Nat.le_of_ble_eq_true rfl) e8 (by intro v hv; simp at hv; done) rfl hH hS lz_d_557 hl.1 (Nat.le_of_ble_eq_true rfl) rfl (Nat.le_of_ble_eq_true rfl) hsl (fun H locs hH hS => ?_)
  refine lv_aload_n hx hb lz_d_560 rfl (lv_at hl 2 rfl) ?_
  refine lz_callV (rest := [.int a]) (n := 0) (mid := m_X9_restore) (q := 192) (kd := 8) (as' := []) X rfl (by decide +kernel) (az_t5 (List.mem_of_getElem? (i := 79) rfl)) (az_t5 (List.mem_of_getElem? (i := 80) rfl)) (az_Wt (az_t5 (List.mem_of_getElem? (i := 81) rfl)) rfl) rfl rfl rfl (Nat.le_of_ble_eq_true rfl) (Nat.le_of_ble_eq_true rfl) e9 (by intro v hv; simp at hv; done) rfl hH hS lz_d_561 hl.1 (Nat.le_of_ble_eq_true rfl) rfl (Nat.le_of_ble_eq_true rfl) hsl (fun H locs hH hS => ?_)
  refine lv_icmp_eq (tgt := 829) hx hb lz_d_564 (by decide) (fun _ => ?_) (fun q => absurd rfl q)
  exact kk M4 H locs i4 hH hS
theorem lz_c19 {p : Program} {l : Launch} {e : Env} {s : State} {m : MethodId} {below : List Frame} {meth : Method} {c : Code} {D : va_G} {b L : Nat} {xs : Nat → Int32} {H : Heap} {locs : List Loc} {sl i : Nat} {ls : Array Slot} {Q : State → Prop} (X : lz_X p s m #[Value.ref b] c D) (hX : va_X b L xs s s.heap) (hbl : b < s.heap.size) (hL : L ≤ 2048) (hi : i + 4 ≤ L) (hsl : sl ≤ 7302250) {M : az_Mem} (hI : INV M) (hH : az_HR s D s.heap.size (az_hp M) H) (hS : va_S (fun q => s.heap.size ≤ q) s.heap H locs) (hl : lv_has ls 4 [(0, .ref b), (1, .ref (s.heap.size + 0)), (2, .ref (s.heap.size + 192)), (3, .int (nI i))])
    (kk : ∀ (M4 : az_Mem) (H1 : Heap) (locs1 : List Loc), INV M4 → az_HR s D s.heap.size (az_hp M4) H1 → va_S (fun q => s.heap.size ≤ q) s.heap H1 locs1 → W p l e room_1 s m #[Value.ref b] below meth c H1 locs1 200 sl Q (F0 m 829 ls [])) : W p l e room_1 s m #[Value.ref b] below meth c H locs 200 sl Q (F0 m 569 ls []) := by
  have hx := X.1
  have hb := X.2.1
  have hbA : ¬ (fun q : Nat => s.heap.size ≤ q) b := Nat.not_le.mpr hbl
  obtain ⟨a, M1, M4, e8, e9, i4⟩ := pair_zone hI (xs (i + 1)) (xs (i + 2))
  refine lv_aload_n hx hb lz_d_569 rfl (lv_at hl 1 rfl) ?_
  refine lv_aload_n hx hb lz_d_570 rfl (lv_at hl 0 rfl) ?_
  refine lv_iload_n hx hb lz_d_571 rfl (lv_at hl 3 rfl) ?_
  refine lv_iconst (v := nI 1) hx hb lz_d_572 (by decide) ?_
  refine lv_iadd hx hb lz_d_573 ?_
  refine va_sld hx hb hX hbl hbA hS (lz_in hL hi (show 1 < 4 by decide)).1 lz_d_574 ?_
  rw [(lz_in hL hi (show 1 < 4 by decide)).2]
  refine lv_aload_n hx hb lz_d_575 rfl (lv_at hl 0 rfl) ?_
  refine lv_iload_n hx hb lz_d_576 rfl (lv_at hl 3 rfl) ?_
  refine lv_iconst (v := nI 2) hx hb lz_d_577 (by decide) ?_
  refine lv_iadd hx hb lz_d_578 ?_
  refine va_sld hx hb hX hbl hbA hS (lz_in hL hi (show 2 < 4 by decide)).1 lz_d_579 ?_
  rw [(lz_in hL hi (show 2 < 4 by decide)).2]
  refine lz_callV (rest := []) (n := 2) (mid := m_X8_zone) (q := 0) (kd := 7) (as' := [.int (xs (i + 1)), .int (xs (i + 2))]) X rfl (by decide +kernel) (az_t3 (List.mem_of_getElem? (i := 179) rfl)) (az_t3 (List.mem_of_getElem? (i := 180) rfl)) (az_Wt (az_t3 (List.mem_of_getElem? (i := 181) rfl)) rfl) rfl rfl rfl (Nat.le_of_ble_eq_true rfl) (Nat.le_of_ble_eq_true rfl) e8 (by intro v hv; simp at hv; rcases hv with rfl | rfl <;> rfl) rfl hH hS lz_d_580 hl.1 (Nat.le_of_ble_eq_true rfl) rfl (Nat.le_of_ble_eq_true rfl) hsl (fun H locs hH hS => ?_)
  refine lv_aload_n hx hb lz_d_583 rfl (lv_at hl 2 rfl) ?_
  refine lv_aload_n hx hb lz_d_584 rfl (lv_at hl 0 rfl) ?_
  refine lv_iload_n hx hb lz_d_585 rfl (lv_at hl 3 rfl) ?_
  refine lv_iconst (v := nI 1) hx hb lz_d_586 (by decide) ?_
  refine lv_iadd hx hb lz_d_587 ?_
  refine va_sld hx hb hX hbl hbA hS (lz_in hL hi (show 1 < 4 by decide)).1 lz_d_588 ?_
  rw [(lz_in hL hi (show 1 < 4 by decide)).2]
  refine lv_aload_n hx hb lz_d_589 rfl (lv_at hl 0 rfl) ?_
  refine lv_iload_n hx hb lz_d_590 rfl (lv_at hl 3 rfl) ?_
  refine lv_iconst (v := nI 2) hx hb lz_d_591 (by decide) ?_
  refine lv_iadd hx hb lz_d_592 ?_
  refine va_sld hx hb hX hbl hbA hS (lz_in hL hi (show 2 < 4 by decide)).1 lz_d_593 ?_
  rw [(lz_in hL hi (show 2 < 4 by decide)).2]
  refine lz_callV (rest := [.int a]) (n := 2) (mid := m_X9_zone) (q := 192) (kd := 8) (as' := [.int (xs (i + 1)), .int (xs (i + 2))]) X rfl (by decide +kernel) (az_t5 (List.mem_of_getElem? (i := 83) rfl)) (az_t5 (List.mem_of_getElem? (i := 84) rfl)) (az_Wt (az_t5 (List.mem_of_getElem? (i := 85) rfl)) rfl) rfl rfl rfl (Nat.le_of_ble_eq_true rfl) (Nat.le_of_ble_eq_true rfl) e9 (by intro v hv; simp at hv; rcases hv with rfl | rfl <;> rfl) rfl hH hS lz_d_594 hl.1 (Nat.le_of_ble_eq_true rfl) rfl (Nat.le_of_ble_eq_true rfl) hsl (fun H locs hH hS => ?_)
  refine lv_icmp_eq (tgt := 829) hx hb lz_d_597 (by decide) (fun _ => ?_) (fun q => absurd rfl q)
  exact kk M4 H locs i4 hH hS
theorem lz_c20 {p : Program} {l : Launch} {e : Env} {s : State} {m : MethodId} {below : List Frame} {meth : Method} {c : Code} {D : va_G} {b L : Nat} {xs : Nat → Int32} {H : Heap} {locs : List Loc} {sl i : Nat} {ls : Array Slot} {Q : State → Prop} (X : lz_X p s m #[Value.ref b] c D) (hX : va_X b L xs s s.heap) (hbl : b < s.heap.size) (hL : L ≤ 2048) (hi : i + 4 ≤ L) (hsl : sl ≤ 7302250) {M : az_Mem} (hI : INV M) (hH : az_HR s D s.heap.size (az_hp M) H) (hS : va_S (fun q => s.heap.size ≤ q) s.heap H locs) (hl : lv_has ls 4 [(0, .ref b), (1, .ref (s.heap.size + 0)), (2, .ref (s.heap.size + 192)), (3, .int (nI i))])
    (kk : ∀ (M4 : az_Mem) (H1 : Heap) (locs1 : List Loc), INV M4 → az_HR s D s.heap.size (az_hp M4) H1 → va_S (fun q => s.heap.size ≤ q) s.heap H1 locs1 → W p l e room_1 s m #[Value.ref b] below meth c H1 locs1 200 sl Q (F0 m 829 ls [])) : W p l e room_1 s m #[Value.ref b] below meth c H locs 200 sl Q (F0 m 602 ls []) := by
  have hx := X.1
  have hb := X.2.1
  have hbA : ¬ (fun q : Nat => s.heap.size ≤ q) b := Nat.not_le.mpr hbl
  obtain ⟨a, M1, M4, e8, e9, i4⟩ := pair_slot hI (xs (i + 1)) (xs (i + 2)) (xs (i + 3))
  refine lv_aload_n hx hb lz_d_602 rfl (lv_at hl 1 rfl) ?_
  refine lv_aload_n hx hb lz_d_603 rfl (lv_at hl 0 rfl) ?_
  refine lv_iload_n hx hb lz_d_604 rfl (lv_at hl 3 rfl) ?_
  refine lv_iconst (v := nI 1) hx hb lz_d_605 (by decide) ?_
  refine lv_iadd hx hb lz_d_606 ?_
  refine va_sld hx hb hX hbl hbA hS (lz_in hL hi (show 1 < 4 by decide)).1 lz_d_607 ?_
  rw [(lz_in hL hi (show 1 < 4 by decide)).2]
  refine lv_aload_n hx hb lz_d_608 rfl (lv_at hl 0 rfl) ?_
  refine lv_iload_n hx hb lz_d_609 rfl (lv_at hl 3 rfl) ?_
  refine lv_iconst (v := nI 2) hx hb lz_d_610 (by decide) ?_
  refine lv_iadd hx hb lz_d_611 ?_
  refine va_sld hx hb hX hbl hbA hS (lz_in hL hi (show 2 < 4 by decide)).1 lz_d_612 ?_
  rw [(lz_in hL hi (show 2 < 4 by decide)).2]
  refine lv_aload_n hx hb lz_d_613 rfl (lv_at hl 0 rfl) ?_
  refine lv_iload_n hx hb lz_d_614 rfl (lv_at hl 3 rfl) ?_
  refine lv_iconst (v := nI 3) hx hb lz_d_615 (by decide) ?_
  refine lv_iadd hx hb lz_d_616 ?_
  refine va_sld hx hb hX hbl hbA hS (lz_in hL hi (show 3 < 4 by decide)).1 lz_d_617 ?_
  rw [(lz_in hL hi (show 3 < 4 by decide)).2]
  refine lz_callV (rest := []) (n := 3) (mid := m_X8_slot) (q := 0) (kd := 7) (as' := [.int (xs (i + 1)), .int (xs (i + 2)), .int (xs (i + 3))]) X rfl (by decide +kernel) (az_t3 (List.mem_of_getElem? (i := 197) rfl)) (az_t3 (List.mem_of_getElem? (i := 198) rfl)) (az_Wt (az_t3 (List.mem_of_getElem? (i := 199) rfl)) rfl) rfl rfl rfl (Nat.le_of_ble_eq_true rfl) (Nat.le_of_ble_eq_true rfl) e8 (by intro v hv; simp at hv; rcases hv with rfl | rfl | rfl <;> rfl) rfl hH hS lz_d_618 hl.1 (Nat.le_of_ble_eq_true rfl) rfl (Nat.le_of_ble_eq_true rfl) hsl (fun H locs hH hS => ?_)
  refine lv_aload_n hx hb lz_d_621 rfl (lv_at hl 2 rfl) ?_
  refine lv_aload_n hx hb lz_d_622 rfl (lv_at hl 0 rfl) ?_
  refine lv_iload_n hx hb lz_d_623 rfl (lv_at hl 3 rfl) ?_
  refine lv_iconst (v := nI 1) hx hb lz_d_624 (by decide) ?_
  refine lv_iadd hx hb lz_d_625 ?_
  refine va_sld hx hb hX hbl hbA hS (lz_in hL hi (show 1 < 4 by decide)).1 lz_d_626 ?_
  rw [(lz_in hL hi (show 1 < 4 by decide)).2]
  refine lv_aload_n hx hb lz_d_627 rfl (lv_at hl 0 rfl) ?_
  refine lv_iload_n hx hb lz_d_628 rfl (lv_at hl 3 rfl) ?_
  refine lv_iconst (v := nI 2) hx hb lz_d_629 (by decide) ?_
  refine lv_iadd hx hb lz_d_630 ?_
  refine va_sld hx hb hX hbl hbA hS (lz_in hL hi (show 2 < 4 by decide)).1 lz_d_631 ?_
  rw [(lz_in hL hi (show 2 < 4 by decide)).2]
  refine lv_aload_n hx hb lz_d_632 rfl (lv_at hl 0 rfl) ?_
  refine lv_iload_n hx hb lz_d_633 rfl (lv_at hl 3 rfl) ?_
  refine lv_iconst (v := nI 3) hx hb lz_d_634 (by decide) ?_
  refine lv_iadd hx hb lz_d_635 ?_
  refine va_sld hx hb hX hbl hbA hS (lz_in hL hi (show 3 < 4 by decide)).1 lz_d_636 ?_
  rw [(lz_in hL hi (show 3 < 4 by decide)).2]
  refine lz_callV (rest := [.int a]) (n := 3) (mid := m_X9_slot) (q := 192) (kd := 8) (as' := [.int (xs (i + 1)), .int (xs (i + 2)), .int (xs (i + 3))]) X rfl (by decide +kernel) (az_t5 (List.mem_of_getElem? (i := 91) rfl)) (az_t5 (List.mem_of_getElem? (i := 92) rfl)) (az_Wt (az_t5 (List.mem_of_getElem? (i := 93) rfl)) rfl) rfl rfl rfl (Nat.le_of_ble_eq_true rfl) (Nat.le_of_ble_eq_true rfl) e9 (by intro v hv; simp at hv; rcases hv with rfl | rfl | rfl <;> rfl) rfl hH hS lz_d_637 hl.1 (Nat.le_of_ble_eq_true rfl) rfl (Nat.le_of_ble_eq_true rfl) hsl (fun H locs hH hS => ?_)
  refine lv_icmp_eq (tgt := 829) hx hb lz_d_640 (by decide) (fun _ => ?_) (fun q => absurd rfl q)
  exact kk M4 H locs i4 hH hS
theorem lz_c21 {p : Program} {l : Launch} {e : Env} {s : State} {m : MethodId} {below : List Frame} {meth : Method} {c : Code} {D : va_G} {b L : Nat} {xs : Nat → Int32} {H : Heap} {locs : List Loc} {sl i : Nat} {ls : Array Slot} {Q : State → Prop} (X : lz_X p s m #[Value.ref b] c D) (hX : va_X b L xs s s.heap) (hbl : b < s.heap.size) (hL : L ≤ 2048) (hi : i + 4 ≤ L) (hsl : sl ≤ 7302250) {M : az_Mem} (hI : INV M) (hH : az_HR s D s.heap.size (az_hp M) H) (hS : va_S (fun q => s.heap.size ≤ q) s.heap H locs) (hl : lv_has ls 4 [(0, .ref b), (1, .ref (s.heap.size + 0)), (2, .ref (s.heap.size + 192)), (3, .int (nI i))])
    (kk : ∀ (M4 : az_Mem) (H1 : Heap) (locs1 : List Loc), INV M4 → az_HR s D s.heap.size (az_hp M4) H1 → va_S (fun q => s.heap.size ≤ q) s.heap H1 locs1 → W p l e room_1 s m #[Value.ref b] below meth c H1 locs1 200 sl Q (F0 m 829 ls [])) : W p l e room_1 s m #[Value.ref b] below meth c H locs 200 sl Q (F0 m 645 ls []) := by
  have hx := X.1
  have hb := X.2.1
  have hbA : ¬ (fun q : Nat => s.heap.size ≤ q) b := Nat.not_le.mpr hbl
  obtain ⟨a, M1, M4, e8, e9, i4⟩ := pair_load hI (xs (i + 1)) (xs (i + 2))
  refine lv_aload_n hx hb lz_d_645 rfl (lv_at hl 1 rfl) ?_
  refine lv_aload_n hx hb lz_d_646 rfl (lv_at hl 0 rfl) ?_
  refine lv_iload_n hx hb lz_d_647 rfl (lv_at hl 3 rfl) ?_
  refine lv_iconst (v := nI 1) hx hb lz_d_648 (by decide) ?_
  refine lv_iadd hx hb lz_d_649 ?_
  refine va_sld hx hb hX hbl hbA hS (lz_in hL hi (show 1 < 4 by decide)).1 lz_d_650 ?_
  rw [(lz_in hL hi (show 1 < 4 by decide)).2]
  refine lv_aload_n hx hb lz_d_651 rfl (lv_at hl 0 rfl) ?_
  refine lv_iload_n hx hb lz_d_652 rfl (lv_at hl 3 rfl) ?_
  refine lv_iconst (v := nI 2) hx hb lz_d_653 (by decide) ?_
  refine lv_iadd hx hb lz_d_654 ?_
  refine va_sld hx hb hX hbl hbA hS (lz_in hL hi (show 2 < 4 by decide)).1 lz_d_655 ?_
  rw [(lz_in hL hi (show 2 < 4 by decide)).2]
  refine lz_callV (rest := []) (n := 2) (mid := m_X8_load) (q := 0) (kd := 7) (as' := [.int (xs (i + 1)), .int (xs (i + 2))]) X rfl (by decide +kernel) (az_t3 (List.mem_of_getElem? (i := 210) rfl)) (az_t3 (List.mem_of_getElem? (i := 211) rfl)) (az_Wt (az_t3 (List.mem_of_getElem? (i := 212) rfl)) rfl) rfl rfl rfl (Nat.le_of_ble_eq_true rfl) (Nat.le_of_ble_eq_true rfl) e8 (by intro v hv; simp at hv; rcases hv with rfl | rfl <;> rfl) rfl hH hS lz_d_656 hl.1 (Nat.le_of_ble_eq_true rfl) rfl (Nat.le_of_ble_eq_true rfl) hsl (fun H locs hH hS => ?_)
  refine lv_aload_n hx hb lz_d_659 rfl (lv_at hl 2 rfl) ?_
  refine lv_aload_n hx hb lz_d_660 rfl (lv_at hl 0 rfl) ?_
  refine lv_iload_n hx hb lz_d_661 rfl (lv_at hl 3 rfl) ?_
  refine lv_iconst (v := nI 1) hx hb lz_d_662 (by decide) ?_
  refine lv_iadd hx hb lz_d_663 ?_
  refine va_sld hx hb hX hbl hbA hS (lz_in hL hi (show 1 < 4 by decide)).1 lz_d_664 ?_
  rw [(lz_in hL hi (show 1 < 4 by decide)).2]
  refine lv_aload_n hx hb lz_d_665 rfl (lv_at hl 0 rfl) ?_
  refine lv_iload_n hx hb lz_d_666 rfl (lv_at hl 3 rfl) ?_
  refine lv_iconst (v := nI 2) hx hb lz_d_667 (by decide) ?_
  refine lv_iadd hx hb lz_d_668 ?_
  refine va_sld hx hb hX hbl hbA hS (lz_in hL hi (show 2 < 4 by decide)).1 lz_d_669 ?_
  rw [(lz_in hL hi (show 2 < 4 by decide)).2]
  refine lz_callV (rest := [.int a]) (n := 2) (mid := m_X9_load) (q := 192) (kd := 8) (as' := [.int (xs (i + 1)), .int (xs (i + 2))]) X rfl (by decide +kernel) (az_t5 (List.mem_of_getElem? (i := 95) rfl)) (az_t5 (List.mem_of_getElem? (i := 96) rfl)) (az_Wt (az_t5 (List.mem_of_getElem? (i := 97) rfl)) rfl) rfl rfl rfl (Nat.le_of_ble_eq_true rfl) (Nat.le_of_ble_eq_true rfl) e9 (by intro v hv; simp at hv; rcases hv with rfl | rfl <;> rfl) rfl hH hS lz_d_670 hl.1 (Nat.le_of_ble_eq_true rfl) rfl (Nat.le_of_ble_eq_true rfl) hsl (fun H locs hH hS => ?_)
  refine lv_icmp_eq (tgt := 829) hx hb lz_d_673 (by decide) (fun _ => ?_) (fun q => absurd rfl q)
  exact kk M4 H locs i4 hH hS
theorem lz_c22 {p : Program} {l : Launch} {e : Env} {s : State} {m : MethodId} {below : List Frame} {meth : Method} {c : Code} {D : va_G} {b L : Nat} {xs : Nat → Int32} {H : Heap} {locs : List Loc} {sl i : Nat} {ls : Array Slot} {Q : State → Prop} (X : lz_X p s m #[Value.ref b] c D) (hX : va_X b L xs s s.heap) (hbl : b < s.heap.size) (hL : L ≤ 2048) (hi : i + 4 ≤ L) (hsl : sl ≤ 7302250) {M : az_Mem} (hI : INV M) (hH : az_HR s D s.heap.size (az_hp M) H) (hS : va_S (fun q => s.heap.size ≤ q) s.heap H locs) (hl : lv_has ls 4 [(0, .ref b), (1, .ref (s.heap.size + 0)), (2, .ref (s.heap.size + 192)), (3, .int (nI i))])
    (kk : ∀ (M4 : az_Mem) (H1 : Heap) (locs1 : List Loc), INV M4 → az_HR s D s.heap.size (az_hp M4) H1 → va_S (fun q => s.heap.size ≤ q) s.heap H1 locs1 → W p l e room_1 s m #[Value.ref b] below meth c H1 locs1 200 sl Q (F0 m 829 ls [])) : W p l e room_1 s m #[Value.ref b] below meth c H locs 200 sl Q (F0 m 678 ls []) := by
  have hx := X.1
  have hb := X.2.1
  have hbA : ¬ (fun q : Nat => s.heap.size ≤ q) b := Nat.not_le.mpr hbl
  obtain ⟨a, M1, M4, e8, e9, i4⟩ := pair_scan hI (xs (i + 1))
  refine lv_aload_n hx hb lz_d_678 rfl (lv_at hl 1 rfl) ?_
  refine lv_aload_n hx hb lz_d_679 rfl (lv_at hl 0 rfl) ?_
  refine lv_iload_n hx hb lz_d_680 rfl (lv_at hl 3 rfl) ?_
  refine lv_iconst (v := nI 1) hx hb lz_d_681 (by decide) ?_
  refine lv_iadd hx hb lz_d_682 ?_
  refine va_sld hx hb hX hbl hbA hS (lz_in hL hi (show 1 < 4 by decide)).1 lz_d_683 ?_
  rw [(lz_in hL hi (show 1 < 4 by decide)).2]
  refine lz_callV (rest := []) (n := 1) (mid := m_X8_scan) (q := 0) (kd := 7) (as' := [.int (xs (i + 1))]) X rfl (by decide +kernel) (az_t3 (List.mem_of_getElem? (i := 227) rfl)) (az_t3 (List.mem_of_getElem? (i := 228) rfl)) (az_Wt (az_t3 (List.mem_of_getElem? (i := 229) rfl)) rfl) rfl rfl rfl (Nat.le_of_ble_eq_true rfl) (Nat.le_of_ble_eq_true rfl) e8 (by intro v hv; simp at hv; rcases hv with rfl <;> rfl) rfl hH hS lz_d_684 hl.1 (Nat.le_of_ble_eq_true rfl) rfl (Nat.le_of_ble_eq_true rfl) hsl (fun H locs hH hS => ?_)
  refine lv_aload_n hx hb lz_d_687 rfl (lv_at hl 2 rfl) ?_
  refine lv_aload_n hx hb lz_d_688 rfl (lv_at hl 0 rfl) ?_
  refine lv_iload_n hx hb lz_d_689 rfl (lv_at hl 3 rfl) ?_
  refine lv_iconst (v := nI 1) hx hb lz_d_690 (by decide) ?_
  refine lv_iadd hx hb lz_d_691 ?_
  refine va_sld hx hb hX hbl hbA hS (lz_in hL hi (show 1 < 4 by decide)).1 lz_d_692 ?_
  rw [(lz_in hL hi (show 1 < 4 by decide)).2]
  refine lz_callV (rest := [.int a]) (n := 1) (mid := m_X9_scan) (q := 192) (kd := 8) (as' := [.int (xs (i + 1))]) X rfl (by decide +kernel) (az_t5 (List.mem_of_getElem? (i := 99) rfl)) (az_t5 (List.mem_of_getElem? (i := 100) rfl)) (az_Wt (az_t5 (List.mem_of_getElem? (i := 101) rfl)) rfl) rfl rfl rfl (Nat.le_of_ble_eq_true rfl) (Nat.le_of_ble_eq_true rfl) e9 (by intro v hv; simp at hv; rcases hv with rfl <;> rfl) rfl hH hS lz_d_693 hl.1 (Nat.le_of_ble_eq_true rfl) rfl (Nat.le_of_ble_eq_true rfl) hsl (fun H locs hH hS => ?_)
  refine lv_icmp_eq (tgt := 829) hx hb lz_d_696 (by decide) (fun _ => ?_) (fun q => absurd rfl q)
  exact kk M4 H locs i4 hH hS
theorem lz_c23 {p : Program} {l : Launch} {e : Env} {s : State} {m : MethodId} {below : List Frame} {meth : Method} {c : Code} {D : va_G} {b L : Nat} {xs : Nat → Int32} {H : Heap} {locs : List Loc} {sl i : Nat} {ls : Array Slot} {Q : State → Prop} (X : lz_X p s m #[Value.ref b] c D) (hX : va_X b L xs s s.heap) (hbl : b < s.heap.size) (hL : L ≤ 2048) (hi : i + 4 ≤ L) (hsl : sl ≤ 7302250) {M : az_Mem} (hI : INV M) (hH : az_HR s D s.heap.size (az_hp M) H) (hS : va_S (fun q => s.heap.size ≤ q) s.heap H locs) (hl : lv_has ls 4 [(0, .ref b), (1, .ref (s.heap.size + 0)), (2, .ref (s.heap.size + 192)), (3, .int (nI i))])
    (kk : ∀ (M4 : az_Mem) (H1 : Heap) (locs1 : List Loc), INV M4 → az_HR s D s.heap.size (az_hp M4) H1 → va_S (fun q => s.heap.size ≤ q) s.heap H1 locs1 → W p l e room_1 s m #[Value.ref b] below meth c H1 locs1 200 sl Q (F0 m 829 ls [])) : W p l e room_1 s m #[Value.ref b] below meth c H locs 200 sl Q (F0 m 701 ls []) := by
  have hx := X.1
  have hb := X.2.1
  have hbA : ¬ (fun q : Nat => s.heap.size ≤ q) b := Nat.not_le.mpr hbl
  obtain ⟨a, M1, M4, e8, e9, i4⟩ := pair_caravan hI (xs (i + 1))
  refine lv_aload_n hx hb lz_d_701 rfl (lv_at hl 1 rfl) ?_
  refine lv_aload_n hx hb lz_d_702 rfl (lv_at hl 0 rfl) ?_
  refine lv_iload_n hx hb lz_d_703 rfl (lv_at hl 3 rfl) ?_
  refine lv_iconst (v := nI 1) hx hb lz_d_704 (by decide) ?_
  refine lv_iadd hx hb lz_d_705 ?_
  refine va_sld hx hb hX hbl hbA hS (lz_in hL hi (show 1 < 4 by decide)).1 lz_d_706 ?_
  rw [(lz_in hL hi (show 1 < 4 by decide)).2]
  refine lz_callV (rest := []) (n := 1) (mid := m_X8_caravan) (q := 0) (kd := 7) (as' := [.int (xs (i + 1))]) X rfl (by decide +kernel) (az_t3 (List.mem_of_getElem? (i := 234) rfl)) (az_t3 (List.mem_of_getElem? (i := 235) rfl)) (az_Wt (az_t3 (List.mem_of_getElem? (i := 236) rfl)) rfl) rfl rfl rfl (Nat.le_of_ble_eq_true rfl) (Nat.le_of_ble_eq_true rfl) e8 (by intro v hv; simp at hv; rcases hv with rfl <;> rfl) rfl hH hS lz_d_707 hl.1 (Nat.le_of_ble_eq_true rfl) rfl (Nat.le_of_ble_eq_true rfl) hsl (fun H locs hH hS => ?_)
  refine lv_aload_n hx hb lz_d_710 rfl (lv_at hl 2 rfl) ?_
  refine lv_aload_n hx hb lz_d_711 rfl (lv_at hl 0 rfl) ?_
  refine lv_iload_n hx hb lz_d_712 rfl (lv_at hl 3 rfl) ?_
  refine lv_iconst (v := nI 1) hx hb lz_d_713 (by decide) ?_
  refine lv_iadd hx hb lz_d_714 ?_
  refine va_sld hx hb hX hbl hbA hS (lz_in hL hi (show 1 < 4 by decide)).1 lz_d_715 ?_
  rw [(lz_in hL hi (show 1 < 4 by decide)).2]
  refine lz_callV (rest := [.int a]) (n := 1) (mid := m_X9_caravan) (q := 192) (kd := 8) (as' := [.int (xs (i + 1))]) X rfl (by decide +kernel) (az_t5 (List.mem_of_getElem? (i := 103) rfl)) (az_t5 (List.mem_of_getElem? (i := 104) rfl)) (az_Wt (az_t5 (List.mem_of_getElem? (i := 105) rfl)) rfl) rfl rfl rfl (Nat.le_of_ble_eq_true rfl) (Nat.le_of_ble_eq_true rfl) e9 (by intro v hv; simp at hv; rcases hv with rfl <;> rfl) rfl hH hS lz_d_716 hl.1 (Nat.le_of_ble_eq_true rfl) rfl (Nat.le_of_ble_eq_true rfl) hsl (fun H locs hH hS => ?_)
  refine lv_icmp_eq (tgt := 829) hx hb lz_d_719 (by decide) (fun _ => ?_) (fun q => absurd rfl q)
  exact kk M4 H locs i4 hH hS
theorem lz_c24 {p : Program} {l : Launch} {e : Env} {s : State} {m : MethodId} {below : List Frame} {meth : Method} {c : Code} {D : va_G} {b L : Nat} {xs : Nat → Int32} {H : Heap} {locs : List Loc} {sl i : Nat} {ls : Array Slot} {Q : State → Prop} (X : lz_X p s m #[Value.ref b] c D) (hX : va_X b L xs s s.heap) (hbl : b < s.heap.size) (hL : L ≤ 2048) (hi : i + 4 ≤ L) (hsl : sl ≤ 7302250) {M : az_Mem} (hI : INV M) (hH : az_HR s D s.heap.size (az_hp M) H) (hS : va_S (fun q => s.heap.size ≤ q) s.heap H locs) (hl : lv_has ls 4 [(0, .ref b), (1, .ref (s.heap.size + 0)), (2, .ref (s.heap.size + 192)), (3, .int (nI i))])
    (kk : ∀ (M4 : az_Mem) (H1 : Heap) (locs1 : List Loc), INV M4 → az_HR s D s.heap.size (az_hp M4) H1 → va_S (fun q => s.heap.size ≤ q) s.heap H1 locs1 → W p l e room_1 s m #[Value.ref b] below meth c H1 locs1 200 sl Q (F0 m 829 ls [])) : W p l e room_1 s m #[Value.ref b] below meth c H locs 200 sl Q (F0 m 724 ls []) := by
  have hx := X.1
  have hb := X.2.1
  have hbA : ¬ (fun q : Nat => s.heap.size ≤ q) b := Nat.not_le.mpr hbl
  obtain ⟨a, M1, M4, e8, e9, i4⟩ := pair_bagAt hI (xs (i + 1))
  refine lv_aload_n hx hb lz_d_724 rfl (lv_at hl 1 rfl) ?_
  refine lv_aload_n hx hb lz_d_725 rfl (lv_at hl 0 rfl) ?_
  refine lv_iload_n hx hb lz_d_726 rfl (lv_at hl 3 rfl) ?_
  refine lv_iconst (v := nI 1) hx hb lz_d_727 (by decide) ?_
  refine lv_iadd hx hb lz_d_728 ?_
  refine va_sld hx hb hX hbl hbA hS (lz_in hL hi (show 1 < 4 by decide)).1 lz_d_729 ?_
  rw [(lz_in hL hi (show 1 < 4 by decide)).2]
  refine lz_callV (rest := []) (n := 1) (mid := m_X8_bagAt) (q := 0) (kd := 7) (as' := [.int (xs (i + 1))]) X rfl (by decide +kernel) (az_t4 (List.mem_of_getElem? (i := 1) rfl)) (az_t4 (List.mem_of_getElem? (i := 2) rfl)) (az_Wt (az_t4 (List.mem_of_getElem? (i := 3) rfl)) rfl) rfl rfl rfl (Nat.le_of_ble_eq_true rfl) (Nat.le_of_ble_eq_true rfl) e8 (by intro v hv; simp at hv; rcases hv with rfl <;> rfl) rfl hH hS lz_d_730 hl.1 (Nat.le_of_ble_eq_true rfl) rfl (Nat.le_of_ble_eq_true rfl) hsl (fun H locs hH hS => ?_)
  refine lv_aload_n hx hb lz_d_733 rfl (lv_at hl 2 rfl) ?_
  refine lv_aload_n hx hb lz_d_734 rfl (lv_at hl 0 rfl) ?_
  refine lv_iload_n hx hb lz_d_735 rfl (lv_at hl 3 rfl) ?_
  refine lv_iconst (v := nI 1) hx hb lz_d_736 (by decide) ?_
  refine lv_iadd hx hb lz_d_737 ?_
  refine va_sld hx hb hX hbl hbA hS (lz_in hL hi (show 1 < 4 by decide)).1 lz_d_738 ?_
  rw [(lz_in hL hi (show 1 < 4 by decide)).2]
  refine lz_callV (rest := [.int a]) (n := 1) (mid := m_X9_bagAt) (q := 192) (kd := 8) (as' := [.int (xs (i + 1))]) X rfl (by decide +kernel) (az_t5 (List.mem_of_getElem? (i := 107) rfl)) (az_t5 (List.mem_of_getElem? (i := 108) rfl)) (az_Wt (az_t5 (List.mem_of_getElem? (i := 109) rfl)) rfl) rfl rfl rfl (Nat.le_of_ble_eq_true rfl) (Nat.le_of_ble_eq_true rfl) e9 (by intro v hv; simp at hv; rcases hv with rfl <;> rfl) rfl hH hS lz_d_739 hl.1 (Nat.le_of_ble_eq_true rfl) rfl (Nat.le_of_ble_eq_true rfl) hsl (fun H locs hH hS => ?_)
  refine lv_icmp_eq (tgt := 829) hx hb lz_d_742 (by decide) (fun _ => ?_) (fun q => absurd rfl q)
  exact kk M4 H locs i4 hH hS
theorem lz_c25 {p : Program} {l : Launch} {e : Env} {s : State} {m : MethodId} {below : List Frame} {meth : Method} {c : Code} {D : va_G} {b L : Nat} {xs : Nat → Int32} {H : Heap} {locs : List Loc} {sl i : Nat} {ls : Array Slot} {Q : State → Prop} (X : lz_X p s m #[Value.ref b] c D) (hX : va_X b L xs s s.heap) (hbl : b < s.heap.size) (hL : L ≤ 2048) (hi : i + 4 ≤ L) (hsl : sl ≤ 7302250) {M : az_Mem} (hI : INV M) (hH : az_HR s D s.heap.size (az_hp M) H) (hS : va_S (fun q => s.heap.size ≤ q) s.heap H locs) (hl : lv_has ls 4 [(0, .ref b), (1, .ref (s.heap.size + 0)), (2, .ref (s.heap.size + 192)), (3, .int (nI i))])
    (kk : ∀ (M4 : az_Mem) (H1 : Heap) (locs1 : List Loc), INV M4 → az_HR s D s.heap.size (az_hp M4) H1 → va_S (fun q => s.heap.size ≤ q) s.heap H1 locs1 → W p l e room_1 s m #[Value.ref b] below meth c H1 locs1 200 sl Q (F0 m 829 ls [])) : W p l e room_1 s m #[Value.ref b] below meth c H locs 200 sl Q (F0 m 747 ls []) := by
  have hx := X.1
  have hb := X.2.1
  have hbA : ¬ (fun q : Nat => s.heap.size ≤ q) b := Nat.not_le.mpr hbl
  obtain ⟨a, M1, M4, e8, e9, i4⟩ := pair_waterTo hI (xs (i + 1))
  refine lv_aload_n hx hb lz_d_747 rfl (lv_at hl 1 rfl) ?_
  refine lv_aload_n hx hb lz_d_748 rfl (lv_at hl 0 rfl) ?_
  refine lv_iload_n hx hb lz_d_749 rfl (lv_at hl 3 rfl) ?_
  refine lv_iconst (v := nI 1) hx hb lz_d_750 (by decide) ?_
  refine lv_iadd hx hb lz_d_751 ?_
  refine va_sld hx hb hX hbl hbA hS (lz_in hL hi (show 1 < 4 by decide)).1 lz_d_752 ?_
  rw [(lz_in hL hi (show 1 < 4 by decide)).2]
  refine lz_callV (rest := []) (n := 1) (mid := m_X8_waterTo) (q := 0) (kd := 7) (as' := [.int (xs (i + 1))]) X rfl (by decide +kernel) (az_t4 (List.mem_of_getElem? (i := 8) rfl)) (az_t4 (List.mem_of_getElem? (i := 9) rfl)) (az_Wt (az_t4 (List.mem_of_getElem? (i := 10) rfl)) rfl) rfl rfl rfl (Nat.le_of_ble_eq_true rfl) (Nat.le_of_ble_eq_true rfl) e8 (by intro v hv; simp at hv; rcases hv with rfl <;> rfl) rfl hH hS lz_d_753 hl.1 (Nat.le_of_ble_eq_true rfl) rfl (Nat.le_of_ble_eq_true rfl) hsl (fun H locs hH hS => ?_)
  refine lv_aload_n hx hb lz_d_756 rfl (lv_at hl 2 rfl) ?_
  refine lv_aload_n hx hb lz_d_757 rfl (lv_at hl 0 rfl) ?_
  refine lv_iload_n hx hb lz_d_758 rfl (lv_at hl 3 rfl) ?_
  refine lv_iconst (v := nI 1) hx hb lz_d_759 (by decide) ?_
  refine lv_iadd hx hb lz_d_760 ?_
  refine va_sld hx hb hX hbl hbA hS (lz_in hL hi (show 1 < 4 by decide)).1 lz_d_761 ?_
  rw [(lz_in hL hi (show 1 < 4 by decide)).2]
  refine lz_callV (rest := [.int a]) (n := 1) (mid := m_X9_waterTo) (q := 192) (kd := 8) (as' := [.int (xs (i + 1))]) X rfl (by decide +kernel) (az_t5 (List.mem_of_getElem? (i := 111) rfl)) (az_t5 (List.mem_of_getElem? (i := 112) rfl)) (az_Wt (az_t5 (List.mem_of_getElem? (i := 113) rfl)) rfl) rfl rfl rfl (Nat.le_of_ble_eq_true rfl) (Nat.le_of_ble_eq_true rfl) e9 (by intro v hv; simp at hv; rcases hv with rfl <;> rfl) rfl hH hS lz_d_762 hl.1 (Nat.le_of_ble_eq_true rfl) rfl (Nat.le_of_ble_eq_true rfl) hsl (fun H locs hH hS => ?_)
  refine lv_icmp_eq (tgt := 829) hx hb lz_d_765 (by decide) (fun _ => ?_) (fun q => absurd rfl q)
  exact kk M4 H locs i4 hH hS
theorem lz_c26 {p : Program} {l : Launch} {e : Env} {s : State} {m : MethodId} {below : List Frame} {meth : Method} {c : Code} {D : va_G} {b L : Nat} {xs : Nat → Int32} {H : Heap} {locs : List Loc} {sl i : Nat} {ls : Array Slot} {Q : State → Prop} (X : lz_X p s m #[Value.ref b] c D) (hX : va_X b L xs s s.heap) (hbl : b < s.heap.size) (hL : L ≤ 2048) (hi : i + 4 ≤ L) (hsl : sl ≤ 7302250) {M : az_Mem} (hI : INV M) (hH : az_HR s D s.heap.size (az_hp M) H) (hS : va_S (fun q => s.heap.size ≤ q) s.heap H locs) (hl : lv_has ls 4 [(0, .ref b), (1, .ref (s.heap.size + 0)), (2, .ref (s.heap.size + 192)), (3, .int (nI i))])
    (kk : ∀ (M4 : az_Mem) (H1 : Heap) (locs1 : List Loc), INV M4 → az_HR s D s.heap.size (az_hp M4) H1 → va_S (fun q => s.heap.size ≤ q) s.heap H1 locs1 → W p l e room_1 s m #[Value.ref b] below meth c H1 locs1 200 sl Q (F0 m 829 ls [])) : W p l e room_1 s m #[Value.ref b] below meth c H locs 200 sl Q (F0 m 770 ls []) := by
  have hx := X.1
  have hb := X.2.1
  have hbA : ¬ (fun q : Nat => s.heap.size ≤ q) b := Nat.not_le.mpr hbl
  obtain ⟨a, M1, M4, e8, e9, i4⟩ := pair_worst hI
  refine lv_aload_n hx hb lz_d_770 rfl (lv_at hl 1 rfl) ?_
  refine lz_callV (rest := []) (n := 0) (mid := m_X8_worst) (q := 0) (kd := 7) (as' := []) X rfl (by decide +kernel) (az_t4 (List.mem_of_getElem? (i := 17) rfl)) (az_t4 (List.mem_of_getElem? (i := 18) rfl)) (az_Wt (az_t4 (List.mem_of_getElem? (i := 19) rfl)) rfl) rfl rfl rfl (Nat.le_of_ble_eq_true rfl) (Nat.le_of_ble_eq_true rfl) e8 (by intro v hv; simp at hv; done) rfl hH hS lz_d_771 hl.1 (Nat.le_of_ble_eq_true rfl) rfl (Nat.le_of_ble_eq_true rfl) hsl (fun H locs hH hS => ?_)
  refine lv_aload_n hx hb lz_d_774 rfl (lv_at hl 2 rfl) ?_
  refine lz_callV (rest := [.int a]) (n := 0) (mid := m_X9_worst) (q := 192) (kd := 8) (as' := []) X rfl (by decide +kernel) (az_t5 (List.mem_of_getElem? (i := 115) rfl)) (az_t5 (List.mem_of_getElem? (i := 116) rfl)) (az_Wt (az_t5 (List.mem_of_getElem? (i := 117) rfl)) rfl) rfl rfl rfl (Nat.le_of_ble_eq_true rfl) (Nat.le_of_ble_eq_true rfl) e9 (by intro v hv; simp at hv; done) rfl hH hS lz_d_775 hl.1 (Nat.le_of_ble_eq_true rfl) rfl (Nat.le_of_ble_eq_true rfl) hsl (fun H locs hH hS => ?_)
  refine lv_icmp_eq (tgt := 829) hx hb lz_d_778 (by decide) (fun _ => ?_) (fun q => absurd rfl q)
  exact kk M4 H locs i4 hH hS
theorem lz_c27 {p : Program} {l : Launch} {e : Env} {s : State} {m : MethodId} {below : List Frame} {meth : Method} {c : Code} {D : va_G} {b L : Nat} {xs : Nat → Int32} {H : Heap} {locs : List Loc} {sl i : Nat} {ls : Array Slot} {Q : State → Prop} (X : lz_X p s m #[Value.ref b] c D) (hX : va_X b L xs s s.heap) (hbl : b < s.heap.size) (hL : L ≤ 2048) (hi : i + 4 ≤ L) (hsl : sl ≤ 7302250) {M : az_Mem} (hI : INV M) (hH : az_HR s D s.heap.size (az_hp M) H) (hS : va_S (fun q => s.heap.size ≤ q) s.heap H locs) (hl : lv_has ls 4 [(0, .ref b), (1, .ref (s.heap.size + 0)), (2, .ref (s.heap.size + 192)), (3, .int (nI i))])
    (kk : ∀ (M4 : az_Mem) (H1 : Heap) (locs1 : List Loc), INV M4 → az_HR s D s.heap.size (az_hp M4) H1 → va_S (fun q => s.heap.size ≤ q) s.heap H1 locs1 → W p l e room_1 s m #[Value.ref b] below meth c H1 locs1 200 sl Q (F0 m 829 ls [])) : W p l e room_1 s m #[Value.ref b] below meth c H locs 200 sl Q (F0 m 783 ls []) := by
  have hx := X.1
  have hb := X.2.1
  have hbA : ¬ (fun q : Nat => s.heap.size ≤ q) b := Nat.not_le.mpr hbl
  obtain ⟨a, M1, M4, e8, e9, i4⟩ := pair_nearestFor hI (xs (i + 1))
  refine lv_aload_n hx hb lz_d_783 rfl (lv_at hl 1 rfl) ?_
  refine lv_aload_n hx hb lz_d_784 rfl (lv_at hl 0 rfl) ?_
  refine lv_iload_n hx hb lz_d_785 rfl (lv_at hl 3 rfl) ?_
  refine lv_iconst (v := nI 1) hx hb lz_d_786 (by decide) ?_
  refine lv_iadd hx hb lz_d_787 ?_
  refine va_sld hx hb hX hbl hbA hS (lz_in hL hi (show 1 < 4 by decide)).1 lz_d_788 ?_
  rw [(lz_in hL hi (show 1 < 4 by decide)).2]
  refine lz_callV (rest := []) (n := 1) (mid := m_X8_nearestFor) (q := 0) (kd := 7) (as' := [.int (xs (i + 1))]) X rfl (by decide +kernel) (az_t4 (List.mem_of_getElem? (i := 24) rfl)) (az_t4 (List.mem_of_getElem? (i := 25) rfl)) (az_Wt (az_t4 (List.mem_of_getElem? (i := 26) rfl)) rfl) rfl rfl rfl (Nat.le_of_ble_eq_true rfl) (Nat.le_of_ble_eq_true rfl) e8 (by intro v hv; simp at hv; rcases hv with rfl <;> rfl) rfl hH hS lz_d_789 hl.1 (Nat.le_of_ble_eq_true rfl) rfl (Nat.le_of_ble_eq_true rfl) hsl (fun H locs hH hS => ?_)
  refine lv_aload_n hx hb lz_d_792 rfl (lv_at hl 2 rfl) ?_
  refine lv_aload_n hx hb lz_d_793 rfl (lv_at hl 0 rfl) ?_
  refine lv_iload_n hx hb lz_d_794 rfl (lv_at hl 3 rfl) ?_
  refine lv_iconst (v := nI 1) hx hb lz_d_795 (by decide) ?_
  refine lv_iadd hx hb lz_d_796 ?_
  refine va_sld hx hb hX hbl hbA hS (lz_in hL hi (show 1 < 4 by decide)).1 lz_d_797 ?_
  rw [(lz_in hL hi (show 1 < 4 by decide)).2]
  refine lz_callV (rest := [.int a]) (n := 1) (mid := m_X9_nearestFor) (q := 192) (kd := 8) (as' := [.int (xs (i + 1))]) X rfl (by decide +kernel) (az_t5 (List.mem_of_getElem? (i := 119) rfl)) (az_t5 (List.mem_of_getElem? (i := 120) rfl)) (az_Wt (az_t5 (List.mem_of_getElem? (i := 121) rfl)) rfl) rfl rfl rfl (Nat.le_of_ble_eq_true rfl) (Nat.le_of_ble_eq_true rfl) e9 (by intro v hv; simp at hv; rcases hv with rfl <;> rfl) rfl hH hS lz_d_798 hl.1 (Nat.le_of_ble_eq_true rfl) rfl (Nat.le_of_ble_eq_true rfl) hsl (fun H locs hH hS => ?_)
  refine lv_icmp_eq (tgt := 829) hx hb lz_d_801 (by decide) (fun _ => ?_) (fun q => absurd rfl q)
  exact kk M4 H locs i4 hH hS
theorem lz_c28 {p : Program} {l : Launch} {e : Env} {s : State} {m : MethodId} {below : List Frame} {meth : Method} {c : Code} {D : va_G} {b L : Nat} {xs : Nat → Int32} {H : Heap} {locs : List Loc} {sl i : Nat} {ls : Array Slot} {Q : State → Prop} (X : lz_X p s m #[Value.ref b] c D) (hX : va_X b L xs s s.heap) (hbl : b < s.heap.size) (hL : L ≤ 2048) (hi : i + 4 ≤ L) (hsl : sl ≤ 7302250) {M : az_Mem} (hI : INV M) (hH : az_HR s D s.heap.size (az_hp M) H) (hS : va_S (fun q => s.heap.size ≤ q) s.heap H locs) (hl : lv_has ls 4 [(0, .ref b), (1, .ref (s.heap.size + 0)), (2, .ref (s.heap.size + 192)), (3, .int (nI i))])
    (kk : ∀ (M4 : az_Mem) (H1 : Heap) (locs1 : List Loc), INV M4 → az_HR s D s.heap.size (az_hp M4) H1 → va_S (fun q => s.heap.size ≤ q) s.heap H1 locs1 → W p l e room_1 s m #[Value.ref b] below meth c H1 locs1 200 sl Q (F0 m 829 ls [])) : W p l e room_1 s m #[Value.ref b] below meth c H locs 200 sl Q (F0 m 806 ls []) := by
  have hx := X.1
  have hb := X.2.1
  have hbA : ¬ (fun q : Nat => s.heap.size ≤ q) b := Nat.not_le.mpr hbl
  obtain ⟨a, M1, M4, e8, e9, i4⟩ := pair_count hI (xs (i + 1))
  refine lv_aload_n hx hb lz_d_806 rfl (lv_at hl 1 rfl) ?_
  refine lv_aload_n hx hb lz_d_807 rfl (lv_at hl 0 rfl) ?_
  refine lv_iload_n hx hb lz_d_808 rfl (lv_at hl 3 rfl) ?_
  refine lv_iconst (v := nI 1) hx hb lz_d_809 (by decide) ?_
  refine lv_iadd hx hb lz_d_810 ?_
  refine va_sld hx hb hX hbl hbA hS (lz_in hL hi (show 1 < 4 by decide)).1 lz_d_811 ?_
  rw [(lz_in hL hi (show 1 < 4 by decide)).2]
  refine lz_callV (rest := []) (n := 1) (mid := m_X8_count) (q := 0) (kd := 7) (as' := [.int (xs (i + 1))]) X rfl (by decide +kernel) (az_t4 (List.mem_of_getElem? (i := 32) rfl)) (az_t4 (List.mem_of_getElem? (i := 33) rfl)) (az_Wt (az_t4 (List.mem_of_getElem? (i := 34) rfl)) rfl) rfl rfl rfl (Nat.le_of_ble_eq_true rfl) (Nat.le_of_ble_eq_true rfl) e8 (by intro v hv; simp at hv; rcases hv with rfl <;> rfl) rfl hH hS lz_d_812 hl.1 (Nat.le_of_ble_eq_true rfl) rfl (Nat.le_of_ble_eq_true rfl) hsl (fun H locs hH hS => ?_)
  refine lv_aload_n hx hb lz_d_815 rfl (lv_at hl 2 rfl) ?_
  refine lv_aload_n hx hb lz_d_816 rfl (lv_at hl 0 rfl) ?_
  refine lv_iload_n hx hb lz_d_817 rfl (lv_at hl 3 rfl) ?_
  refine lv_iconst (v := nI 1) hx hb lz_d_818 (by decide) ?_
  refine lv_iadd hx hb lz_d_819 ?_
  refine va_sld hx hb hX hbl hbA hS (lz_in hL hi (show 1 < 4 by decide)).1 lz_d_820 ?_
  rw [(lz_in hL hi (show 1 < 4 by decide)).2]
  refine lz_callV (rest := [.int a]) (n := 1) (mid := m_X9_count) (q := 192) (kd := 8) (as' := [.int (xs (i + 1))]) X rfl (by decide +kernel) (az_t5 (List.mem_of_getElem? (i := 123) rfl)) (az_t5 (List.mem_of_getElem? (i := 124) rfl)) (az_Wt (az_t5 (List.mem_of_getElem? (i := 125) rfl)) rfl) rfl rfl rfl (Nat.le_of_ble_eq_true rfl) (Nat.le_of_ble_eq_true rfl) e9 (by intro v hv; simp at hv; rcases hv with rfl <;> rfl) rfl hH hS lz_d_821 hl.1 (Nat.le_of_ble_eq_true rfl) rfl (Nat.le_of_ble_eq_true rfl) hsl (fun H locs hH hS => ?_)
  refine lv_icmp_eq (tgt := 829) hx hb lz_d_824 (by decide) (fun _ => ?_) (fun q => absurd rfl q)
  exact kk M4 H locs i4 hH hS
