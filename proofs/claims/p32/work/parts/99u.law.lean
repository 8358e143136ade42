/-! THE LAW: its loop, its start -/
section LOOP
variable {p : Program} {l : Launch} {e : Env} {s : State} {m : MethodId} {below : List Frame} {meth : Method} {c : Code} {D : va_G} {b L : Nat} {xs : Nat → Int32}
set_option maxHeartbeats 4000000 in
theorem lz_turn (X : lz_X p s m #[Value.ref b] c D) {i : Nat} {v : Int32} {M : az_Mem} {H : Heap} {locs : List Loc} {ls : Array Slot} (hI : INVL M) (hH : az_HR s D s.heap.size (az_hp M) H) (hS : va_S (fun q => s.heap.size ≤ q) s.heap H locs) (hl : lv_has ls 9 [(8, .int 1), (7, .int v), (0, .ref b), (1, .ref (s.heap.size + 0)), (2, .ref (s.heap.size + 192)), (3, .ref (s.heap.size + 193)), (4, .ref (s.heap.size + 194)), (5, .ref (s.heap.size + 195)), (6, .int (nI i))])
    (kk : ∀ (H1 : Heap) (locs1 : List Loc) (ls : Array Slot), az_HR s D s.heap.size (az_hp M) H1 → va_S (fun q => s.heap.size ≤ q) s.heap H1 locs1 → lv_has ls 9 [(0, .ref b), (1, .ref (s.heap.size + 0)), (2, .ref (s.heap.size + 192)), (3, .ref (s.heap.size + 193)), (4, .ref (s.heap.size + 194)), (5, .ref (s.heap.size + 195)), (6, .int (nI (i + 1)))] → W p l e room_1 s m #[Value.ref b] below meth c H1 locs1 196 7302250 (lw_Z below #[Value.ref b] s) (F0 m 65 ls [])) : W p l e room_1 s m #[Value.ref b] below meth c H locs 196 7302250 (lw_Z below #[Value.ref b] s) (F0 m 263 ls []) := by
  have hx := X.1
  have hb := X.2.1
  refine lv_iload hx hb lz_d_263 (lv_at hl 0 rfl) ?_
  refine lv_if_eq (tgt := 293) hx hb lz_d_265 (by decide) (fun q => absurd q (by decide)) (fun _ => ?_)
  refine lv_aload_n hx hb lz_d_268 rfl (lv_at hl 3 rfl) ?_
  refine lv_aload_n hx hb lz_d_269 rfl (lv_at hl 4 rfl) ?_
  refine lv_aload_n hx hb lz_d_270 rfl (lv_at hl 5 rfl) ?_
  refine lv_aload hx hb lz_d_271 (lv_at hl 6 rfl) ?_
  refine lv_aload hx hb lz_d_273 (lv_at hl 7 rfl) ?_
  refine lz_callS (rest := []) (n := 5) (d := 8) (mid := m_L_areZones) (as := [.ref 0, .ref 192, .ref 193, .ref 194, .ref 195]) X rfl (by decide +kernel) (az_t2 (List.mem_of_getElem? (i := 29) rfl)) (az_t2 (List.mem_of_getElem? (i := 30) rfl)) (Nat.le_of_ble_eq_true rfl) (Nat.le_of_ble_eq_true rfl) (la_areZones 0 hI) (by intro v hv; simp at hv; rcases hv with rfl | rfl | rfl | rfl | rfl <;> rfl) rfl hH hS lz_d_275 hl.1 (Nat.le_of_ble_eq_true rfl) rfl (Nat.le_of_ble_eq_true rfl) (Nat.le_refl _) (fun H locs hH hS => ?_)
  refine lv_if_eq (tgt := 293) hx hb lz_d_278 (by decide) (fun q => absurd q (by decide)) (fun _ => ?_)
  refine lv_aload_n hx hb lz_d_281 rfl (lv_at hl 3 rfl) ?_
  refine lv_aload_n hx hb lz_d_282 rfl (lv_at hl 4 rfl) ?_
  refine lv_aload hx hb lz_d_283 (lv_at hl 6 rfl) ?_
  refine lv_aload hx hb lz_d_285 (lv_at hl 7 rfl) ?_
  refine lz_callS (rest := []) (n := 4) (d := 8) (mid := m_L_areLoads) (as := [.ref 0, .ref 192, .ref 194, .ref 195]) X rfl (by decide +kernel) (az_t2 (List.mem_of_getElem? (i := 138) rfl)) (az_t2 (List.mem_of_getElem? (i := 139) rfl)) (Nat.le_of_ble_eq_true rfl) (Nat.le_of_ble_eq_true rfl) (la_areLoads 0 hI) (by intro v hv; simp at hv; rcases hv with rfl | rfl | rfl | rfl <;> rfl) rfl hH hS lz_d_287 hl.1 (Nat.le_of_ble_eq_true rfl) rfl (Nat.le_of_ble_eq_true rfl) (Nat.le_refl _) (fun H locs hH hS => ?_)
  refine lv_if_ne (tgt := 295) hx hb lz_d_290 (by decide) (fun _ => ?_) (fun q => absurd q (by decide))
  refine lv_iinc (v := nI (i + 1)) (lv' := [(6, .int (nI (i + 1))), (8, .int 1), (7, .int v), (0, .ref b), (1, .ref (s.heap.size + 0)), (2, .ref (s.heap.size + 192)), (3, .ref (s.heap.size + 193)), (4, .ref (s.heap.size + 194)), (5, .ref (s.heap.size + 195))]) hx hb lz_d_295 hl (k := 8) rfl (nI_add i 1) (by decide) rfl (fun ls hl => ?_)
  refine lv_goto (tgt := 65) hx hb lz_d_298 (by decide) ?_
  exact kk H locs ls hH hS (lv_sub hl [3, 4, 5, 6, 7, 8, 0] rfl)
set_option maxHeartbeats 4000000 in
theorem lz_gone (X : lz_X p s m #[Value.ref b] c D) {i : Nat} {v : Int32} {M : az_Mem} {H : Heap} {locs : List Loc} {ls : Array Slot} (hI : INVL M) (hH : az_HR s D s.heap.size (az_hp M) H) (hS : va_S (fun q => s.heap.size ≤ q) s.heap H locs) (hl : lv_has ls 9 [(7, .int v), (0, .ref b), (1, .ref (s.heap.size + 0)), (2, .ref (s.heap.size + 192)), (3, .ref (s.heap.size + 193)), (4, .ref (s.heap.size + 194)), (5, .ref (s.heap.size + 195)), (6, .int (nI i))])
    (kk : ∀ (M2 : az_Mem) (H1 : Heap) (locs1 : List Loc) (ls : Array Slot), INVL M2 → az_HR s D s.heap.size (az_hp M2) H1 → va_S (fun q => s.heap.size ≤ q) s.heap H1 locs1 → lv_has ls 9 [(8, .int 1), (7, .int v), (0, .ref b), (1, .ref (s.heap.size + 0)), (2, .ref (s.heap.size + 192)), (3, .ref (s.heap.size + 193)), (4, .ref (s.heap.size + 194)), (5, .ref (s.heap.size + 195)), (6, .int (nI i))] → W p l e room_1 s m #[Value.ref b] below meth c H1 locs1 196 7302250 (lw_Z below #[Value.ref b] s) (F0 m 263 ls [])) : W p l e room_1 s m #[Value.ref b] below meth c H locs 196 7302250 (lw_Z below #[Value.ref b] s) (F0 m 140 ls []) := by
  have hx := X.1
  have hb := X.2.1
  obtain ⟨M2, i2, x2⟩ := la_isGone 0 hI v
  refine lv_aload_n hx hb lz_d_140 rfl (lv_at hl 2 rfl) ?_
  refine lv_aload_n hx hb lz_d_141 rfl (lv_at hl 3 rfl) ?_
  refine lv_aload_n hx hb lz_d_142 rfl (lv_at hl 4 rfl) ?_
  refine lv_iload hx hb lz_d_143 (lv_at hl 0 rfl) ?_
  refine lz_callS (rest := []) (n := 4) (d := 8) (mid := m_L_isGone) (as := [.ref 0, .ref 192, .ref 193, .int v]) X rfl (by decide +kernel) (az_t2 (List.mem_of_getElem? (i := 182) rfl)) (az_t2 (List.mem_of_getElem? (i := 183) rfl)) (Nat.le_of_ble_eq_true rfl) (Nat.le_of_ble_eq_true rfl) x2 (by intro v hv; simp at hv; rcases hv with rfl | rfl | rfl | rfl <;> rfl) rfl hH hS lz_d_145 hl.1 (Nat.le_of_ble_eq_true rfl) rfl (Nat.le_of_ble_eq_true rfl) (Nat.le_refl _) (fun H locs hH hS => ?_)
  refine lv_istore (lv' := [(8, .int 1), (7, .int v), (0, .ref b), (1, .ref (s.heap.size + 0)), (2, .ref (s.heap.size + 192)), (3, .ref (s.heap.size + 193)), (4, .ref (s.heap.size + 194)), (5, .ref (s.heap.size + 195)), (6, .int (nI i))]) hx hb lz_d_148 hl (by decide) rfl (fun ls hl => ?_)
  refine lv_goto (tgt := 263) hx hb lz_d_150 (by decide) ?_
  exact kk M2 H locs ls i2 hH hS hl
set_option maxHeartbeats 4000000 in
theorem lz_taken (X : lz_X p s m #[Value.ref b] c D) {i : Nat} {v : Int32} {M : az_Mem} {H : Heap} {locs : List Loc} {ls : Array Slot} (hI : INVL M) (hH : az_HR s D s.heap.size (az_hp M) H) (hS : va_S (fun q => s.heap.size ≤ q) s.heap H locs) (hl : lv_has ls 9 [(7, .int v), (0, .ref b), (1, .ref (s.heap.size + 0)), (2, .ref (s.heap.size + 192)), (3, .ref (s.heap.size + 193)), (4, .ref (s.heap.size + 194)), (5, .ref (s.heap.size + 195)), (6, .int (nI i))])
    (kk : ∀ (M2 : az_Mem) (H1 : Heap) (locs1 : List Loc) (ls : Array Slot), INVL M2 → az_HR s D s.heap.size (az_hp M2) H1 → va_S (fun q => s.heap.size ≤ q) s.heap H1 locs1 → lv_has ls 9 [(8, .int 1), (7, .int v), (0, .ref b), (1, .ref (s.heap.size + 0)), (2, .ref (s.heap.size + 192)), (3, .ref (s.heap.size + 193)), (4, .ref (s.heap.size + 194)), (5, .ref (s.heap.size + 195)), (6, .int (nI i))] → W p l e room_1 s m #[Value.ref b] below meth c H1 locs1 196 7302250 (lw_Z below #[Value.ref b] s) (F0 m 263 ls [])) : W p l e room_1 s m #[Value.ref b] below meth c H locs 196 7302250 (lw_Z below #[Value.ref b] s) (F0 m 153 ls []) := by
  have hx := X.1
  have hb := X.2.1
  obtain ⟨M2, i2, x2⟩ := la_isTaken 0 hI v
  refine lv_aload_n hx hb lz_d_153 rfl (lv_at hl 2 rfl) ?_
  refine lv_aload_n hx hb lz_d_154 rfl (lv_at hl 3 rfl) ?_
  refine lv_aload_n hx hb lz_d_155 rfl (lv_at hl 4 rfl) ?_
  refine lv_aload hx hb lz_d_156 (lv_at hl 6 rfl) ?_
  refine lv_iload hx hb lz_d_158 (lv_at hl 0 rfl) ?_
  refine lz_callS (rest := []) (n := 5) (d := 8) (mid := m_L_isTaken) (as := [.ref 0, .ref 192, .ref 193, .ref 195, .int v]) X rfl (by decide +kernel) (az_t3 (List.mem_of_getElem? (i := 64) rfl)) (az_t3 (List.mem_of_getElem? (i := 65) rfl)) (Nat.le_of_ble_eq_true rfl) (Nat.le_of_ble_eq_true rfl) x2 (by intro v hv; simp at hv; rcases hv with rfl | rfl | rfl | rfl | rfl <;> rfl) rfl hH hS lz_d_160 hl.1 (Nat.le_of_ble_eq_true rfl) rfl (Nat.le_of_ble_eq_true rfl) (Nat.le_refl _) (fun H locs hH hS => ?_)
  refine lv_istore (lv' := [(8, .int 1), (7, .int v), (0, .ref b), (1, .ref (s.heap.size + 0)), (2, .ref (s.heap.size + 192)), (3, .ref (s.heap.size + 193)), (4, .ref (s.heap.size + 194)), (5, .ref (s.heap.size + 195)), (6, .int (nI i))]) hx hb lz_d_163 hl (by decide) rfl (fun ls hl => ?_)
  refine lv_goto (tgt := 263) hx hb lz_d_165 (by decide) ?_
  exact kk M2 H locs ls i2 hH hS hl
set_option maxHeartbeats 4000000 in
theorem lz_put (X : lz_X p s m #[Value.ref b] c D) {i : Nat} {v : Int32} {M : az_Mem} {H : Heap} {locs : List Loc} {ls : Array Slot} (hI : INVL M) (hH : az_HR s D s.heap.size (az_hp M) H) (hS : va_S (fun q => s.heap.size ≤ q) s.heap H locs) (hl : lv_has ls 9 [(7, .int v), (0, .ref b), (1, .ref (s.heap.size + 0)), (2, .ref (s.heap.size + 192)), (3, .ref (s.heap.size + 193)), (4, .ref (s.heap.size + 194)), (5, .ref (s.heap.size + 195)), (6, .int (nI i))])
    (kk : ∀ (M2 : az_Mem) (H1 : Heap) (locs1 : List Loc) (ls : Array Slot), INVL M2 → az_HR s D s.heap.size (az_hp M2) H1 → va_S (fun q => s.heap.size ≤ q) s.heap H1 locs1 → lv_has ls 9 [(8, .int 1), (7, .int v), (0, .ref b), (1, .ref (s.heap.size + 0)), (2, .ref (s.heap.size + 192)), (3, .ref (s.heap.size + 193)), (4, .ref (s.heap.size + 194)), (5, .ref (s.heap.size + 195)), (6, .int (nI i))] → W p l e room_1 s m #[Value.ref b] below meth c H1 locs1 196 7302250 (lw_Z below #[Value.ref b] s) (F0 m 263 ls [])) : W p l e room_1 s m #[Value.ref b] below meth c H locs 196 7302250 (lw_Z below #[Value.ref b] s) (F0 m 168 ls []) := by
  have hx := X.1
  have hb := X.2.1
  obtain ⟨M2, i2, x2⟩ := la_isPut 0 hI v
  refine lv_aload_n hx hb lz_d_168 rfl (lv_at hl 2 rfl) ?_
  refine lv_aload_n hx hb lz_d_169 rfl (lv_at hl 3 rfl) ?_
  refine lv_aload_n hx hb lz_d_170 rfl (lv_at hl 4 rfl) ?_
  refine lv_aload hx hb lz_d_171 (lv_at hl 5 rfl) ?_
  refine lv_aload hx hb lz_d_173 (lv_at hl 6 rfl) ?_
  refine lv_iload hx hb lz_d_175 (lv_at hl 0 rfl) ?_
  refine lz_callS (rest := []) (n := 6) (d := 8) (mid := m_L_isPut) (as := [.ref 0, .ref 192, .ref 193, .ref 194, .ref 195, .int v]) X rfl (by decide +kernel) (az_t3 (List.mem_of_getElem? (i := 110) rfl)) (az_t3 (List.mem_of_getElem? (i := 111) rfl)) (Nat.le_of_ble_eq_true rfl) (Nat.le_of_ble_eq_true rfl) x2 (by intro v hv; simp at hv; rcases hv with rfl | rfl | rfl | rfl | rfl | rfl <;> rfl) rfl hH hS lz_d_177 hl.1 (Nat.le_of_ble_eq_true rfl) rfl (Nat.le_of_ble_eq_true rfl) (Nat.le_refl _) (fun H locs hH hS => ?_)
  refine lv_istore (lv' := [(8, .int 1), (7, .int v), (0, .ref b), (1, .ref (s.heap.size + 0)), (2, .ref (s.heap.size + 192)), (3, .ref (s.heap.size + 193)), (4, .ref (s.heap.size + 194)), (5, .ref (s.heap.size + 195)), (6, .int (nI i))]) hx hb lz_d_180 hl (by decide) rfl (fun ls hl => ?_)
  refine lv_goto (tgt := 263) hx hb lz_d_182 (by decide) ?_
  exact kk M2 H locs ls i2 hH hS hl
set_option maxHeartbeats 4000000 in
theorem lz_reset (X : lz_X p s m #[Value.ref b] c D) {i : Nat} {v : Int32} {M : az_Mem} {H : Heap} {locs : List Loc} {ls : Array Slot} (hI : INVL M) (hH : az_HR s D s.heap.size (az_hp M) H) (hS : va_S (fun q => s.heap.size ≤ q) s.heap H locs) (hl : lv_has ls 9 [(7, .int v), (0, .ref b), (1, .ref (s.heap.size + 0)), (2, .ref (s.heap.size + 192)), (3, .ref (s.heap.size + 193)), (4, .ref (s.heap.size + 194)), (5, .ref (s.heap.size + 195)), (6, .int (nI i))])
    (kk : ∀ (M2 : az_Mem) (H1 : Heap) (locs1 : List Loc) (ls : Array Slot), INVL M2 → az_HR s D s.heap.size (az_hp M2) H1 → va_S (fun q => s.heap.size ≤ q) s.heap H1 locs1 → lv_has ls 9 [(8, .int 1), (7, .int v), (0, .ref b), (1, .ref (s.heap.size + 0)), (2, .ref (s.heap.size + 192)), (3, .ref (s.heap.size + 193)), (4, .ref (s.heap.size + 194)), (5, .ref (s.heap.size + 195)), (6, .int (nI i))] → W p l e room_1 s m #[Value.ref b] below meth c H1 locs1 196 7302250 (lw_Z below #[Value.ref b] s) (F0 m 263 ls [])) : W p l e room_1 s m #[Value.ref b] below meth c H locs 196 7302250 (lw_Z below #[Value.ref b] s) (F0 m 185 ls []) := by
  have hx := X.1
  have hb := X.2.1
  obtain ⟨M2, i2, x2⟩ := la_isReset 0 hI v
  refine lv_aload_n hx hb lz_d_185 rfl (lv_at hl 2 rfl) ?_
  refine lv_aload_n hx hb lz_d_186 rfl (lv_at hl 3 rfl) ?_
  refine lv_aload_n hx hb lz_d_187 rfl (lv_at hl 4 rfl) ?_
  refine lv_aload hx hb lz_d_188 (lv_at hl 5 rfl) ?_
  refine lv_aload hx hb lz_d_190 (lv_at hl 6 rfl) ?_
  refine lv_iload hx hb lz_d_192 (lv_at hl 0 rfl) ?_
  refine lz_callS (rest := []) (n := 6) (d := 8) (mid := m_L_isReset) (as := [.ref 0, .ref 192, .ref 193, .ref 194, .ref 195, .int v]) X rfl (by decide +kernel) (az_t3 (List.mem_of_getElem? (i := 121) rfl)) (az_t3 (List.mem_of_getElem? (i := 122) rfl)) (Nat.le_of_ble_eq_true rfl) (Nat.le_of_ble_eq_true rfl) x2 (by intro v hv; simp at hv; rcases hv with rfl | rfl | rfl | rfl | rfl | rfl <;> rfl) rfl hH hS lz_d_194 hl.1 (Nat.le_of_ble_eq_true rfl) rfl (Nat.le_of_ble_eq_true rfl) (Nat.le_refl _) (fun H locs hH hS => ?_)
  refine lv_istore (lv' := [(8, .int 1), (7, .int v), (0, .ref b), (1, .ref (s.heap.size + 0)), (2, .ref (s.heap.size + 192)), (3, .ref (s.heap.size + 193)), (4, .ref (s.heap.size + 194)), (5, .ref (s.heap.size + 195)), (6, .int (nI i))]) hx hb lz_d_197 hl (by decide) rfl (fun ls hl => ?_)
  refine lv_goto (tgt := 263) hx hb lz_d_199 (by decide) ?_
  exact kk M2 H locs ls i2 hH hS hl
set_option maxHeartbeats 4000000 in
theorem lz_set (X : lz_X p s m #[Value.ref b] c D) {i : Nat} {v : Int32} {M : az_Mem} {H : Heap} {locs : List Loc} {ls : Array Slot} (hI : INVL M) (hH : az_HR s D s.heap.size (az_hp M) H) (hS : va_S (fun q => s.heap.size ≤ q) s.heap H locs) (hl : lv_has ls 9 [(7, .int v), (0, .ref b), (1, .ref (s.heap.size + 0)), (2, .ref (s.heap.size + 192)), (3, .ref (s.heap.size + 193)), (4, .ref (s.heap.size + 194)), (5, .ref (s.heap.size + 195)), (6, .int (nI i))])
    (kk : ∀ (M2 : az_Mem) (H1 : Heap) (locs1 : List Loc) (ls : Array Slot), INVL M2 → az_HR s D s.heap.size (az_hp M2) H1 → va_S (fun q => s.heap.size ≤ q) s.heap H1 locs1 → lv_has ls 9 [(8, .int 1), (7, .int v), (0, .ref b), (1, .ref (s.heap.size + 0)), (2, .ref (s.heap.size + 192)), (3, .ref (s.heap.size + 193)), (4, .ref (s.heap.size + 194)), (5, .ref (s.heap.size + 195)), (6, .int (nI i))] → W p l e room_1 s m #[Value.ref b] below meth c H1 locs1 196 7302250 (lw_Z below #[Value.ref b] s) (F0 m 263 ls [])) : W p l e room_1 s m #[Value.ref b] below meth c H locs 196 7302250 (lw_Z below #[Value.ref b] s) (F0 m 202 ls []) := by
  have hx := X.1
  have hb := X.2.1
  obtain ⟨M2, i2, x2⟩ := la_isSet 0 hI v
  refine lv_aload_n hx hb lz_d_202 rfl (lv_at hl 2 rfl) ?_
  refine lv_aload_n hx hb lz_d_203 rfl (lv_at hl 3 rfl) ?_
  refine lv_aload_n hx hb lz_d_204 rfl (lv_at hl 4 rfl) ?_
  refine lv_iload hx hb lz_d_205 (lv_at hl 0 rfl) ?_
  refine lz_callS (rest := []) (n := 4) (d := 9) (mid := m_L_isSet) (as := [.ref 0, .ref 192, .ref 193, .int v]) X rfl (by decide +kernel) (az_t3 (List.mem_of_getElem? (i := 152) rfl)) (az_t3 (List.mem_of_getElem? (i := 153) rfl)) (Nat.le_of_ble_eq_true rfl) (Nat.le_of_ble_eq_true rfl) x2 (by intro v hv; simp at hv; rcases hv with rfl | rfl | rfl | rfl <;> rfl) rfl hH hS lz_d_207 hl.1 (Nat.le_of_ble_eq_true rfl) rfl (Nat.le_of_ble_eq_true rfl) (Nat.le_refl _) (fun H locs hH hS => ?_)
  refine lv_istore (lv' := [(8, .int 1), (7, .int v), (0, .ref b), (1, .ref (s.heap.size + 0)), (2, .ref (s.heap.size + 192)), (3, .ref (s.heap.size + 193)), (4, .ref (s.heap.size + 194)), (5, .ref (s.heap.size + 195)), (6, .int (nI i))]) hx hb lz_d_210 hl (by decide) rfl (fun ls hl => ?_)
  refine lv_goto (tgt := 263) hx hb lz_d_212 (by decide) ?_
  exact kk M2 H locs ls i2 hH hS hl
set_option maxHeartbeats 4000000 in
theorem lz_written (X : lz_X p s m #[Value.ref b] c D) {i : Nat} {v : Int32} {M : az_Mem} {H : Heap} {locs : List Loc} {ls : Array Slot} (hI : INVL M) (hH : az_HR s D s.heap.size (az_hp M) H) (hS : va_S (fun q => s.heap.size ≤ q) s.heap H locs) (hl : lv_has ls 9 [(7, .int v), (0, .ref b), (1, .ref (s.heap.size + 0)), (2, .ref (s.heap.size + 192)), (3, .ref (s.heap.size + 193)), (4, .ref (s.heap.size + 194)), (5, .ref (s.heap.size + 195)), (6, .int (nI i))])
    (kk : ∀ (M2 : az_Mem) (H1 : Heap) (locs1 : List Loc) (ls : Array Slot), INVL M2 → az_HR s D s.heap.size (az_hp M2) H1 → va_S (fun q => s.heap.size ≤ q) s.heap H1 locs1 → lv_has ls 9 [(8, .int 1), (7, .int v), (0, .ref b), (1, .ref (s.heap.size + 0)), (2, .ref (s.heap.size + 192)), (3, .ref (s.heap.size + 193)), (4, .ref (s.heap.size + 194)), (5, .ref (s.heap.size + 195)), (6, .int (nI i))] → W p l e room_1 s m #[Value.ref b] below meth c H1 locs1 196 7302250 (lw_Z below #[Value.ref b] s) (F0 m 263 ls [])) : W p l e room_1 s m #[Value.ref b] below meth c H locs 196 7302250 (lw_Z below #[Value.ref b] s) (F0 m 249 ls []) := by
  have hx := X.1
  have hb := X.2.1
  obtain ⟨M2, i2, x2⟩ := la_isWritten 0 hI v
  refine lv_aload_n hx hb lz_d_249 rfl (lv_at hl 2 rfl) ?_
  refine lv_aload_n hx hb lz_d_250 rfl (lv_at hl 3 rfl) ?_
  refine lv_aload_n hx hb lz_d_251 rfl (lv_at hl 4 rfl) ?_
  refine lv_aload hx hb lz_d_252 (lv_at hl 5 rfl) ?_
  refine lv_aload hx hb lz_d_254 (lv_at hl 6 rfl) ?_
  refine lv_iload hx hb lz_d_256 (lv_at hl 0 rfl) ?_
  refine lz_callS (rest := []) (n := 6) (d := 8) (mid := m_L_isWritten) (as := [.ref 0, .ref 192, .ref 193, .ref 194, .ref 195, .int v]) X rfl (by decide +kernel) (az_t3 (List.mem_of_getElem? (i := 11) rfl)) (az_t3 (List.mem_of_getElem? (i := 12) rfl)) (Nat.le_of_ble_eq_true rfl) (Nat.le_of_ble_eq_true rfl) x2 (by intro v hv; simp at hv; rcases hv with rfl | rfl | rfl | rfl | rfl | rfl <;> rfl) rfl hH hS lz_d_258 hl.1 (Nat.le_of_ble_eq_true rfl) rfl (Nat.le_of_ble_eq_true rfl) (Nat.le_refl _) (fun H locs hH hS => ?_)
  refine lv_istore (lv' := [(8, .int 1), (7, .int v), (0, .ref b), (1, .ref (s.heap.size + 0)), (2, .ref (s.heap.size + 192)), (3, .ref (s.heap.size + 193)), (4, .ref (s.heap.size + 194)), (5, .ref (s.heap.size + 195)), (6, .int (nI i))]) hx hb lz_d_261 hl (by decide) rfl (fun ls hl => ?_)
  exact kk M2 H locs ls i2 hH hS hl
set_option maxHeartbeats 4000000 in
theorem lz_dusk (X : lz_X p s m #[Value.ref b] c D) {i : Nat} {v : Int32} {M : az_Mem} {H : Heap} {locs : List Loc} {ls : Array Slot} (hI : INVL M) (hH : az_HR s D s.heap.size (az_hp M) H) (hS : va_S (fun q => s.heap.size ≤ q) s.heap H locs) (hl : lv_has ls 9 [(7, .int v), (0, .ref b), (1, .ref (s.heap.size + 0)), (2, .ref (s.heap.size + 192)), (3, .ref (s.heap.size + 193)), (4, .ref (s.heap.size + 194)), (5, .ref (s.heap.size + 195)), (6, .int (nI i))])
    (kk : ∀ (M2 : az_Mem) (H1 : Heap) (locs1 : List Loc) (ls : Array Slot), INVL M2 → az_HR s D s.heap.size (az_hp M2) H1 → va_S (fun q => s.heap.size ≤ q) s.heap H1 locs1 → lv_has ls 9 [(8, .int 1), (7, .int v), (0, .ref b), (1, .ref (s.heap.size + 0)), (2, .ref (s.heap.size + 192)), (3, .ref (s.heap.size + 193)), (4, .ref (s.heap.size + 194)), (5, .ref (s.heap.size + 195)), (6, .int (nI i))] → W p l e room_1 s m #[Value.ref b] below meth c H1 locs1 196 7302250 (lw_Z below #[Value.ref b] s) (F0 m 263 ls [])) : W p l e room_1 s m #[Value.ref b] below meth c H locs 196 7302250 (lw_Z below #[Value.ref b] s) (F0 m 215 ls []) := by
  have hx := X.1
  have hb := X.2.1
  refine lv_iload hx hb lz_d_215 (lv_at hl 0 rfl) ?_
  refine lv_iconst (v := nI 3) hx hb lz_d_217 (by decide) ?_
  refine lz_callS (rest := []) (n := 2) (d := 1) (mid := m_L_low) (as := [.int v, .int (nI 3)]) X rfl (by decide +kernel) (az_t2 (List.mem_of_getElem? (i := 25) rfl)) (az_t2 (List.mem_of_getElem? (i := 26) rfl)) (Nat.le_of_ble_eq_true rfl) (Nat.le_of_ble_eq_true rfl) (el_low 0 v (n := 3) (by decide) (by decide)) (by intro v hv; simp at hv; rcases hv with rfl | rfl <;> rfl) rfl hH hS lz_d_218 hl.1 (Nat.le_of_ble_eq_true rfl) rfl (Nat.le_of_ble_eq_true rfl) (Nat.le_refl _) (fun H locs hH hS => ?_)
  refine lv_if_le (tgt := 234) hx hb lz_d_221 (by decide) (fun _ => ?_) (fun _ => ?_)
  · skip
    obtain ⟨M2, i2, x2⟩ := la_isLaid 0 hI v
    refine lv_aload_n hx hb lz_d_234 rfl (lv_at hl 2 rfl) ?_
    refine lv_aload_n hx hb lz_d_235 rfl (lv_at hl 3 rfl) ?_
    refine lv_aload_n hx hb lz_d_236 rfl (lv_at hl 4 rfl) ?_
    refine lv_aload hx hb lz_d_237 (lv_at hl 6 rfl) ?_
    refine lv_iload hx hb lz_d_239 (lv_at hl 0 rfl) ?_
    refine lz_callS (rest := []) (n := 5) (d := 8) (mid := m_L_isLaid) (as := [.ref 0, .ref 192, .ref 193, .ref 195, .int v]) X rfl (by decide +kernel) (az_t3 (List.mem_of_getElem? (i := 217) rfl)) (az_t3 (List.mem_of_getElem? (i := 218) rfl)) (Nat.le_of_ble_eq_true rfl) (Nat.le_of_ble_eq_true rfl) x2 (by intro v hv; simp at hv; rcases hv with rfl | rfl | rfl | rfl | rfl <;> rfl) rfl hH hS lz_d_241 hl.1 (Nat.le_of_ble_eq_true rfl) rfl (Nat.le_of_ble_eq_true rfl) (Nat.le_refl _) (fun H locs hH hS => ?_)
    refine lv_istore (lv' := [(8, .int 1), (7, .int v), (0, .ref b), (1, .ref (s.heap.size + 0)), (2, .ref (s.heap.size + 192)), (3, .ref (s.heap.size + 193)), (4, .ref (s.heap.size + 194)), (5, .ref (s.heap.size + 195)), (6, .int (nI i))]) hx hb lz_d_244 hl (by decide) rfl (fun ls hl => ?_)
    refine lv_goto (tgt := 263) hx hb lz_d_246 (by decide) ?_
    exact kk M2 H locs ls i2 hH hS hl
  · skip
    obtain ⟨M2, i2, x2⟩ := la_isDusk 0 hI
    refine lv_aload_n hx hb lz_d_224 rfl (lv_at hl 2 rfl) ?_
    refine lv_aload_n hx hb lz_d_225 rfl (lv_at hl 3 rfl) ?_
    refine lv_aload hx hb lz_d_226 (lv_at hl 6 rfl) ?_
    refine lz_callS (rest := []) (n := 3) (d := 8) (mid := m_L_isDusk) (as := [.ref 0, .ref 192, .ref 195]) X rfl (by decide +kernel) (az_t3 (List.mem_of_getElem? (i := 201) rfl)) (az_t3 (List.mem_of_getElem? (i := 202) rfl)) (Nat.le_of_ble_eq_true rfl) (Nat.le_of_ble_eq_true rfl) x2 (by intro v hv; simp at hv; rcases hv with rfl | rfl | rfl <;> rfl) rfl hH hS lz_d_228 hl.1 (Nat.le_of_ble_eq_true rfl) rfl (Nat.le_of_ble_eq_true rfl) (Nat.le_refl _) (fun H locs hH hS => ?_)
    refine lv_goto (tgt := 244) hx hb lz_d_231 (by decide) ?_
    refine lv_istore (lv' := [(8, .int 1), (7, .int v), (0, .ref b), (1, .ref (s.heap.size + 0)), (2, .ref (s.heap.size + 192)), (3, .ref (s.heap.size + 193)), (4, .ref (s.heap.size + 194)), (5, .ref (s.heap.size + 195)), (6, .int (nI i))]) hx hb lz_d_244 hl (by decide) rfl (fun ls hl => ?_)
    refine lv_goto (tgt := 263) hx hb lz_d_246 (by decide) ?_
    exact kk M2 H locs ls i2 hH hS hl
set_option maxHeartbeats 4000000 in
theorem lz_loop (X : lz_X p s m #[Value.ref b] c D) (hX : va_X b L xs s s.heap) (hbl : b < s.heap.size) (hL : L ≤ 260) (hr : meth.sig.returnType = ret) (hlocks : meth.locks = false) :
    ∀ (n i : Nat), i + n = 56 → ∀ (M : az_Mem) (H : Heap) (locs : List Loc) (ls : Array Slot), INVL M → az_HR s D s.heap.size (az_hp M) H → va_S (fun q => s.heap.size ≤ q) s.heap H locs → lv_has ls 9 [(0, .ref b), (1, .ref (s.heap.size + 0)), (2, .ref (s.heap.size + 192)), (3, .ref (s.heap.size + 193)), (4, .ref (s.heap.size + 194)), (5, .ref (s.heap.size + 195)), (6, .int (nI i))] → W p l e room_1 s m #[Value.ref b] below meth c H locs 196 7302250 (lw_Z below #[Value.ref b] s) (F0 m 65 ls []) := by
  have hx := X.1
  have hb := X.2.1
  intro n
  induction n with
  | zero =>
    intro i hi M H locs ls hI hH hS hl
    have e : i = 56 := by omega
    subst e
    refine lv_iload hx hb lz_d_65 (lv_at hl 6 rfl) ?_
    refine lv_bipush (v := nI 56) hx hb lz_d_67 (by decide) ?_
    refine lv_icmp_ge (tgt := 301) hx hb lz_d_69 (by decide) (fun _ => ?_) (fun q => absurd (nI_le (Nat.le_refl 56) (by decide)) q)
    refine lv_iconst (v := 1) hx hb lz_d_301 (by decide) ?_
    refine va_forget (fun q hq => hS.2.2 q hq) ?_
    refine W.widen (k := 600000) (n := 7302250) (Nat.le_of_ble_eq_true rfl) (Nat.le_refl _) ?_
    exact lw_ret hx hb hr hlocks lz_d_302
  | succ n ih =>
    intro i hi M H locs ls hI hH hS hl
    refine lv_iload hx hb lz_d_65 (lv_at hl 6 rfl) ?_
    refine lv_bipush (v := nI 56) hx hb lz_d_67 (by decide) ?_
    refine lv_icmp_ge (tgt := 301) hx hb lz_d_69 (by decide) (fun q => absurd q (nI_ge (by omega) (by decide))) (fun _ => ?_)
    refine lv_aload_n hx hb lz_d_72 rfl (lv_at hl 0 rfl) ?_
    refine lv_iload hx hb lz_d_73 (lv_at hl 6 rfl) ?_
    refine lz_cell X hX hbl hL (show i < 56 by omega) hS (Nat.le_of_ble_eq_true rfl) (Nat.le_of_ble_eq_true rfl) lz_d_75 hl.1 (Nat.le_of_ble_eq_true rfl) (Nat.le_of_ble_eq_true rfl) (Nat.le_refl _) (fun v => ?_)
    refine lv_istore (lv' := [(7, .int v), (0, .ref b), (1, .ref (s.heap.size + 0)), (2, .ref (s.heap.size + 192)), (3, .ref (s.heap.size + 193)), (4, .ref (s.heap.size + 194)), (5, .ref (s.heap.size + 195)), (6, .int (nI i))]) hx hb lz_d_78 hl (by decide) rfl (fun ls hl => ?_)
    refine lv_iload hx hb lz_d_80 (lv_at hl 0 rfl) ?_
    refine lv_bipush (v := 26) hx hb lz_d_82 (by decide) ?_
    refine lv_ishr hx hb lz_d_84 ?_
    refine lv_bipush (v := nI 14) hx hb lz_d_85 (by decide) ?_
    refine lz_callS (rest := []) (n := 2) (d := 1) (mid := m_L_low) (as := [.int (v >>> (26 &&& 31)), .int (nI 14)]) X rfl (by decide +kernel) (az_t2 (List.mem_of_getElem? (i := 25) rfl)) (az_t2 (List.mem_of_getElem? (i := 26) rfl)) (Nat.le_of_ble_eq_true rfl) (Nat.le_of_ble_eq_true rfl) (el_low 0 (v >>> (26 &&& 31)) (n := 14) (by decide) (by decide)) (by intro v hv; simp at hv; rcases hv with rfl | rfl <;> rfl) rfl hH hS lz_d_87 hl.1 (Nat.le_of_ble_eq_true rfl) rfl (Nat.le_of_ble_eq_true rfl) (Nat.le_refl _) (fun H locs hH hS => ?_)
    have ht : lw (v >>> (26 &&& 31)) 14 < 14 := lw_lt _ (by decide)
    generalize lw (v >>> (26 &&& 31)) 14 = t at ht ⊢
    have kk : ∀ (M2 : az_Mem) (H1 : Heap) (locs1 : List Loc) (ls : Array Slot), INVL M2 → az_HR s D s.heap.size (az_hp M2) H1 → va_S (fun q => s.heap.size ≤ q) s.heap H1 locs1 → lv_has ls 9 [(8, .int 1), (7, .int v), (0, .ref b), (1, .ref (s.heap.size + 0)), (2, .ref (s.heap.size + 192)), (3, .ref (s.heap.size + 193)), (4, .ref (s.heap.size + 194)), (5, .ref (s.heap.size + 195)), (6, .int (nI i))] → W p l e room_1 s m #[Value.ref b] below meth c H1 locs1 196 7302250 (lw_Z below #[Value.ref b] s) (F0 m 263 ls []) := by
      intro M2 H1 locs1 ls hI2 hH1 hS1 hl1
      exact lz_turn X hI2 hH1 hS1 hl1 (fun H2 locs2 ls hH2 hS2 hl2 => ih (i + 1) (by omega) M2 H2 locs2 ls hI2 hH2 hS2 hl2)
    rcases (show t = 0 ∨ t = 1 ∨ t = 2 ∨ t = 3 ∨ t = 4 ∨ t = 5 ∨ t = 6 ∨ t = 7 ∨ t = 8 ∨ t = 9 ∨ t = 10 ∨ t = 11 ∨ t = 12 ∨ t = 13 by omega) with rfl | rfl | rfl | rfl | rfl | rfl | rfl | rfl | rfl | rfl | rfl | rfl | rfl | rfl
    · refine lv_tableIn (tgt := 140) hx hb lz_d_90 (by decide) (by decide) (show _ = some 50 from by decide) (by decide) ?_
      exact lz_gone X hI hH hS hl kk
    · refine lv_tableIn (tgt := 140) hx hb lz_d_90 (by decide) (by decide) (show _ = some 50 from by decide) (by decide) ?_
      exact lz_gone X hI hH hS hl kk
    · refine lv_tableIn (tgt := 153) hx hb lz_d_90 (by decide) (by decide) (show _ = some 63 from by decide) (by decide) ?_
      exact lz_taken X hI hH hS hl kk
    · refine lv_tableIn (tgt := 153) hx hb lz_d_90 (by decide) (by decide) (show _ = some 63 from by decide) (by decide) ?_
      exact lz_taken X hI hH hS hl kk
    · refine lv_tableIn (tgt := 168) hx hb lz_d_90 (by decide) (by decide) (show _ = some 78 from by decide) (by decide) ?_
      exact lz_put X hI hH hS hl kk
    · refine lv_tableIn (tgt := 168) hx hb lz_d_90 (by decide) (by decide) (show _ = some 78 from by decide) (by decide) ?_
      exact lz_put X hI hH hS hl kk
    · refine lv_tableIn (tgt := 185) hx hb lz_d_90 (by decide) (by decide) (show _ = some 95 from by decide) (by decide) ?_
      exact lz_reset X hI hH hS hl kk
    · refine lv_tableIn (tgt := 202) hx hb lz_d_90 (by decide) (by decide) (show _ = some 112 from by decide) (by decide) ?_
      exact lz_set X hI hH hS hl kk
    · refine lv_tableIn (tgt := 215) hx hb lz_d_90 (by decide) (by decide) (show _ = some 125 from by decide) (by decide) ?_
      exact lz_dusk X hI hH hS hl kk
    · refine lv_tableOut (tgt := 249) hx hb lz_d_90 (Or.inr (by decide)) (by decide) ?_
      exact lz_written X hI hH hS hl kk
    · refine lv_tableOut (tgt := 249) hx hb lz_d_90 (Or.inr (by decide)) (by decide) ?_
      exact lz_written X hI hH hS hl kk
    · refine lv_tableOut (tgt := 249) hx hb lz_d_90 (Or.inr (by decide)) (by decide) ?_
      exact lz_written X hI hH hS hl kk
    · refine lv_tableOut (tgt := 249) hx hb lz_d_90 (Or.inr (by decide)) (by decide) ?_
      exact lz_written X hI hH hS hl kk
    · refine lv_tableOut (tgt := 249) hx hb lz_d_90 (Or.inr (by decide)) (by decide) ?_
      exact lz_written X hI hH hS hl kk
end LOOP
set_option maxHeartbeats 4000000 in
theorem whole_start {p : Program} {e : Env} {s : State} {m : MethodId} {below : List Frame} {meth : Method} {c : Code} (l : Launch) (hflags : l.flags = flags0) {b L : Nat} {xs : Nat → Int32} (hL : L ≤ 260) (C0 : lw_At p s m meth c b L xs) : W p l e room_1 s m #[Value.ref b] below meth c s.heap [] 0 0 (lw_Z below #[Value.ref b] s) (entryFrame m ([Value.ref b] : List Value).toArray 9) := by
  obtain ⟨hx, hb, hr, hml, hown, hts, hX, hbl, hlocks, hgv⟩ := id C0
  have hT : ∀ w ∈ tables_1, w.before #[Value.ref b] s = true := fun w hw => hts w (List.mem_append_right _ hw)
  have htsW : ∀ w ∈ az_W, w.before #[Value.ref b] s = true := fun w hw => by
    rcases List.mem_append.mp hw with q | q
    · exact hts w (List.mem_append_left _ q)
    · exact hT w (List.mem_filter.mp q).1
  have known : ∀ k : Nat, ∃ cC : ClassId, ∃ iS : Nat → Nat, ∀ q, vwCl[k]? = some q → u_Kn s q.1 q.2.1 q.2.2 cC iS := by
    intro k
    cases hq : vwCl[k]? with
    | none => exact ⟨m.cls, fun _ => 0, fun q h => by cases h⟩
    | some q =>
      obtain ⟨ty, c1, c2, c3, c4, c5⟩ := az_cls hq
      obtain ⟨cC, iS, hKn⟩ := u_known htsW c1 (htsW _ (az_Wt c4 rfl))
      exact ⟨cC, iS, fun q' h => by cases h; exact hKn⟩
  obtain ⟨dC, known⟩ := Classical.axiomOfChoice known
  obtain ⟨dI, known⟩ := Classical.axiomOfChoice known
  have hK : va_K (dC, dI) vwCl [] s := ⟨fun k q h => known k q h, fun k q h => by simp at h⟩
  have hTB : az_TB s := ⟨fun w hw hn => va_Nw.of (A := #[Value.ref b]) (by cases w <;> first | rfl | cases hn) (hT w hw), va_AO.of (hT _ az_ao)⟩
  have X : lz_X p s m #[Value.ref b] c (dC, dI) := ⟨hx, hb, hml, hown, htsW, hK, hTB⟩
  have hS : va_S (fun q : Nat => s.heap.size ≤ q) s.heap s.heap [] := va_S.rf
  have hE : az_HR s (dC, dI) s.heap.size (0, zi_none, fun _ _ => 0, 0) s.heap := ⟨rfl, fun k hk => absurd hk (show ¬ (99 : Nat) ≤ 11 by decide), fun k hk => absurd hk (Nat.not_lt_zero k)⟩
  obtain ⟨h1, e1, z1, w1, hsh, hck⟩ := zi_ev
  obtain ⟨n1, S1, M1, v1⟩ := h1
  have z1 : n1 = 192 := z1
  subst z1
  have w1 : v1 ≤ 6000 := w1
  have hsh : ∀ k, k < 192 → S1 k = az_shp k := hsh
  have hck : zi_ckM M1 = true := hck
  have e20 : (20 : Int32).toNatClampNeg = 20 := by decide
  have e48 : (48 : Int32).toNatClampNeg = 48 := by decide
  have hl := lv_entry ([.ref b]) (n := 9) (Nat.le_of_ble_eq_true rfl)
  rw [lg_entry_eq]
  generalize (lg_sl ([.ref b]) ++ List.replicate (9 - (lg_sl ([.ref b])).length) Slot.unset).toArray = ls at hl ⊢
  have hl : lv_has ls 9 [(0, .ref b)] := hl
  refine lz_new (a := 24) (b := 7) X rfl (az_t1 (List.mem_of_getElem? (i := 11) rfl)) lz_d_0 hE hS (Nat.le_of_ble_eq_true rfl) (Nat.le_of_ble_eq_true rfl) (fun H hH hS => ?_)
  have hH : az_HR s (dC, dI) s.heap.size zi_h00 H := hH
  refine lv_dup hx hb lz_d_3 rfl ?_
  refine lz_callI (d := 7) (n := 0) (mid := m_X8_init) (q := 0) (rest := [.ref (s.heap.size + 0)]) X rfl (by decide +kernel) (az_t1 (List.mem_of_getElem? (i := 13) rfl)) (az_t1 (List.mem_of_getElem? (i := 14) rfl)) rfl rfl rfl (Nat.le_of_ble_eq_true rfl) (Nat.le_of_ble_eq_true rfl) ⟨_, e1⟩ hH hS lz_d_4 hl.1 (Nat.le_of_ble_eq_true rfl) (by show 0 + 1 + (192 - 1) ≤ 600000; omega) (by show 0 + 6 + (v1 - 6) ≤ 7302250; omega) (fun H locs hH hS => ?_)
  refine W.widen (k := 192) (n := 7000) (by show 0 + 1 + (192 - 1) ≤ 192; omega) (by show 0 + 6 + (v1 - 6) ≤ 7000; omega) ?_
  refine lv_astore_n (lv' := [(1, .ref (s.heap.size + 0)), (0, .ref b)]) hx hb lz_d_7 rfl hl (by decide) rfl (fun ls hl => ?_)
  refine lv_bipush (v := 20) hx hb lz_d_8 (by decide) ?_
  refine lz_newa X (by decide) lz_d_10 hH hS (Nat.le_of_ble_eq_true rfl) (by show 7000 + (20 : Int32).toNatClampNeg ≤ 7302250; omega) (fun H hH hS => ?_)
  refine lv_astore_n (lv' := [(2, .ref (s.heap.size + 192)), (1, .ref (s.heap.size + 0)), (0, .ref b)]) hx hb lz_d_12 rfl hl (by decide) rfl (fun ls hl => ?_)
  refine lv_bipush (v := 20) hx hb lz_d_13 (by decide) ?_
  refine lz_newa X (by decide) lz_d_15 hH hS (Nat.le_of_ble_eq_true rfl) (by show 7000 + (20 : Int32).toNatClampNeg + (20 : Int32).toNatClampNeg ≤ 7302250; omega) (fun H hH hS => ?_)
  refine lv_astore_n (lv' := [(3, .ref (s.heap.size + 193)), (2, .ref (s.heap.size + 192)), (1, .ref (s.heap.size + 0)), (0, .ref b)]) hx hb lz_d_17 rfl hl (by decide) rfl (fun ls hl => ?_)
  refine lv_bipush (v := 48) hx hb lz_d_18 (by decide) ?_
  refine lz_newa X (by decide) lz_d_20 hH hS (Nat.le_of_ble_eq_true rfl) (by show 7000 + (20 : Int32).toNatClampNeg + (20 : Int32).toNatClampNeg + (48 : Int32).toNatClampNeg ≤ 7302250; omega) (fun H hH hS => ?_)
  refine lv_astore (lv' := [(4, .ref (s.heap.size + 194)), (3, .ref (s.heap.size + 193)), (2, .ref (s.heap.size + 192)), (1, .ref (s.heap.size + 0)), (0, .ref b)]) hx hb lz_d_22 hl (by decide) rfl (fun ls hl => ?_)
  refine lv_bipush (v := 48) hx hb lz_d_24 (by decide) ?_
  refine lz_newa X (by decide) lz_d_26 hH hS (Nat.le_of_ble_eq_true rfl) (by show 7000 + (20 : Int32).toNatClampNeg + (20 : Int32).toNatClampNeg + (48 : Int32).toNatClampNeg + (48 : Int32).toNatClampNeg ≤ 7302250; omega) (fun H hH hS => ?_)
  refine lv_astore (lv' := [(5, .ref (s.heap.size + 195)), (4, .ref (s.heap.size + 194)), (3, .ref (s.heap.size + 193)), (2, .ref (s.heap.size + 192)), (1, .ref (s.heap.size + 0)), (0, .ref b)]) hx hb lz_d_28 hl (by decide) rfl (fun ls hl => ?_)
  have hH := zi_HR hH rfl (fun k hk => by
    show az_put (az_put (az_put (az_put S1 192 (9, (20 : Int32).toNatClampNeg, [])) 193 (9, (20 : Int32).toNatClampNeg, [])) 194 (9, (48 : Int32).toNatClampNeg, [])) 195 (9, (48 : Int32).toNatClampNeg, []) k = az_shp k
    rw [e20, e48]
    by_cases k5 : k = 195
    · subst k5; rfl
    by_cases k4 : k = 194
    · subst k4; rfl
    by_cases k3 : k = 193
    · subst k3; rfl
    by_cases k2 : k = 192
    · subst k2; rfl
    unfold az_put
    rw [if_neg k5, if_neg k4, if_neg k3, if_neg k2]
    exact hsh k (by omega))
  have hH : az_HR s (dC, dI) s.heap.size (az_hp (zi_m4 M1)) H := hH
  refine W.widen (k := 196) (n := 7302250) (Nat.le_of_ble_eq_true rfl) (by show 7000 + (20 : Int32).toNatClampNeg + (20 : Int32).toNatClampNeg + (48 : Int32).toNatClampNeg + (48 : Int32).toNatClampNeg ≤ 7302250; omega) ?_
  refine lv_aload_n hx hb lz_d_30 rfl (lv_at hl 3 rfl) ?_
  refine lv_iconst (v := 0) hx hb lz_d_31 (by decide) ?_
  refine lv_iconst (v := 4) hx hb lz_d_32 (by decide) ?_
  refine lz_iast (q := 192) (k := 0) X rfl rfl (by decide) (by decide) lz_d_33 hH hS (fun H locs hH hS => ?_)
  refine lv_aload_n hx hb lz_d_34 rfl (lv_at hl 3 rfl) ?_
  refine lv_iconst (v := 1) hx hb lz_d_35 (by decide) ?_
  refine lv_bipush (v := 6) hx hb lz_d_36 (by decide) ?_
  refine lz_iast (q := 192) (k := 1) X rfl rfl (by decide) (by decide) lz_d_38 hH hS (fun H locs hH hS => ?_)
  refine lv_aload_n hx hb lz_d_39 rfl (lv_at hl 3 rfl) ?_
  refine lv_iconst (v := 3) hx hb lz_d_40 (by decide) ?_
  refine lv_bipush (v := 60) hx hb lz_d_41 (by decide) ?_
  refine lz_iast (q := 192) (k := 3) X rfl rfl (by decide) (by decide) lz_d_43 hH hS (fun H locs hH hS => ?_)
  refine lv_aload_n hx hb lz_d_44 rfl (lv_at hl 3 rfl) ?_
  refine lv_iconst (v := 4) hx hb lz_d_45 (by decide) ?_
  refine lv_bipush (v := 60) hx hb lz_d_46 (by decide) ?_
  refine lz_iast (q := 192) (k := 4) X rfl rfl (by decide) (by decide) lz_d_48 hH hS (fun H locs hH hS => ?_)
  refine lv_aload_n hx hb lz_d_49 rfl (lv_at hl 3 rfl) ?_
  refine lv_iconst (v := 5) hx hb lz_d_50 (by decide) ?_
  refine lv_iconst (v := 3) hx hb lz_d_51 (by decide) ?_
  refine lz_iast (q := 192) (k := 5) X rfl rfl (by decide) (by decide) lz_d_52 hH hS (fun H locs hH hS => ?_)
  refine lv_aload_n hx hb lz_d_53 rfl (lv_at hl 3 rfl) ?_
  refine lv_bipush (v := 6) hx hb lz_d_54 (by decide) ?_
  refine lv_iconst (v := 3) hx hb lz_d_56 (by decide) ?_
  refine lz_iast (q := 192) (k := 6) X rfl rfl (by decide) (by decide) lz_d_57 hH hS (fun H locs hH hS => ?_)
  refine lv_aload_n hx hb lz_d_58 rfl (lv_at hl 2 rfl) ?_
  refine lv_iconst (v := 3) hx hb lz_d_59 (by decide) ?_
  refine lv_iconst (v := 1) hx hb lz_d_60 (by decide) ?_
  refine lz_iast (q := 193) (k := 3) X rfl rfl (by decide) (by decide) lz_d_61 hH hS (fun H locs hH hS => ?_)
  refine lv_iconst (v := nI 0) hx hb lz_d_62 (by decide) ?_
  refine lv_istore (lv' := [(6, .int (nI 0)), (5, .ref (s.heap.size + 195)), (4, .ref (s.heap.size + 194)), (3, .ref (s.heap.size + 193)), (2, .ref (s.heap.size + 192)), (1, .ref (s.heap.size + 0)), (0, .ref b)]) hx hb lz_d_63 hl (by decide) rfl (fun ls hl => ?_)
  exact lz_loop X hX hbl hL hr hlocks 56 0 (by omega) (zi_m5 M1) H locs ls (zi_INVL hck) hH hS (lv_sub hl [6, 5, 4, 3, 2, 1, 0] rfl)
