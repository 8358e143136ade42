/-! THE LAW: its loop, its start -/
theorem lz_cmp {L i : Nat} (hL : L ≤ 2048) (hi : i ≤ 2048) : (Int32.ofNat L - nI 4 < nI i) ↔ L < i + 4 := by
  show nI L - nI 4 < nI i ↔ _
  rw [Int32.lt_iff_toInt_lt, Int32.toInt_sub, nI_toInt (by omega), nI_toInt (by omega), nI_toInt (by omega)]
  rw [Int.bmod_eq_of_le (by omega) (by omega)]
  omega
set_option maxHeartbeats 4000000 in
theorem lz_loop {p : Program} {l : Launch} {e : Env} {s : State} {m : MethodId} {below : List Frame} {meth : Method} {c : Code} {D : va_G} {b L : Nat} {xs : Nat → Int32} (X : lz_X p s m #[Value.ref b] c D) (hX : va_X b L xs s s.heap) (hbl : b < s.heap.size) (hL : L ≤ 2048) (hr : meth.sig.returnType = ret) (hlocks : meth.locks = false) :
    ∀ (n i : Nat), i ≤ L → L + 1 ≤ i + n → ∀ (M : az_Mem) (H : Heap) (locs : List Loc) (ls : Array Slot), INV M → az_HR s D s.heap.size (az_hp M) H → va_S (fun q => s.heap.size ≤ q) s.heap H locs → lv_has ls 4 [(0, .ref b), (1, .ref (s.heap.size + 0)), (2, .ref (s.heap.size + 192)), (3, .int (nI i))] → W p l e room_1 s m #[Value.ref b] below meth c H locs 200 7302250 (lw_Z below #[Value.ref b] s) (F0 m 18 ls []) := by
  have hx := X.1
  have hb := X.2.1
  have hbA : ¬ (fun q : Nat => s.heap.size ≤ q) b := Nat.not_le.mpr hbl
  intro n
  induction n with
  | zero => intro i h1 h2; exact absurd h2 (by omega)
  | succ n ih =>
    intro i hiL hin M H locs ls hI hH hS hl
    refine lv_iload_n hx hb lz_d_18 rfl (lv_at hl 3 rfl) ?_
    refine lv_aload_n hx hb lz_d_19 rfl (lv_at hl 0 rfl) ?_
    refine va_slen hx hb hX hbl hbA hS lz_d_20 ?_
    refine lv_iconst (v := nI 4) hx hb lz_d_21 (by decide) ?_
    refine lv_isub hx hb lz_d_22 ?_
    refine lv_icmp_gt (tgt := 835) hx hb lz_d_23 (by decide) (fun c1 => ?_) (fun c1 => ?_)
    · refine lv_iconst (v := 1) hx hb lz_d_835 (by decide) ?_
      refine va_forget (fun q hq => hS.2.2 q hq) ?_
      refine W.widen (k := 600000) (n := 7302250) (Nat.le_of_ble_eq_true rfl) (Nat.le_refl _) ?_
      exact lw_ret hx hb hr hlocks lz_d_836
    have hi4 : i + 4 ≤ L := by
      rw [lz_cmp hL (by omega)] at c1
      omega
    -- the end of a case
    have kk : ∀ (M4 : az_Mem) (H1 : Heap) (locs1 : List Loc), INV M4 → az_HR s D s.heap.size (az_hp M4) H1 → va_S (fun q => s.heap.size ≤ q) s.heap H1 locs1 → W p l e room_1 s m #[Value.ref b] below meth c H1 locs1 200 7302250 (lw_Z below #[Value.ref b] s) (F0 m 829 ls []) := by
      intro M4 H1 locs1 hI4 hH1 hS1
      refine lv_iinc (v := nI (i + 4)) (lv' := [(3, .int (nI (i + 4))), (0, .ref b), (1, .ref (s.heap.size + 0)), (2, .ref (s.heap.size + 192))]) hx hb lz_d_829 hl (k := 3) rfl (nI_add i 4) (by decide) rfl (fun ls hl => ?_)
      refine lv_goto (tgt := 18) hx hb lz_d_832 (by decide) ?_
      exact ih (i + 4) hi4 (by omega) M4 H1 locs1 ls hI4 hH1 hS1 (lv_sub hl [1, 2, 3, 0] rfl)
    refine lv_aload_n hx hb lz_d_26 rfl (lv_at hl 0 rfl) ?_
    refine lv_iload_n hx hb lz_d_27 rfl (lv_at hl 3 rfl) ?_
    refine va_sld hx hb hX hbl hbA hS (vp_in_nI (show i < L by omega) (by omega)) lz_d_28 ?_
    refine lv_bipush (v := 31) hx hb lz_d_29 (by decide) ?_
    refine lv_iand hx hb lz_d_31 ?_
    refine lv_topi (fun x _ => ?_)
    by_cases hout : x.toInt < 0 ∨ 28 < x.toInt
    · refine lv_tableOut (tgt := 829) hx hb lz_d_32 hout (by decide) ?_
      exact kk M H locs hI hH hS
    obtain ⟨k, hk, rfl⟩ : ∃ k : Nat, k ≤ 28 ∧ x = nI k := by
      refine ⟨x.toInt.toNat, by omega, ?_⟩
      apply Int32.toInt_inj.mp
      rw [nI_toInt (by omega)]
      omega
    rcases (show k = 0 ∨ k = 1 ∨ k = 2 ∨ k = 3 ∨ k = 4 ∨ k = 5 ∨ k = 6 ∨ k = 7 ∨ k = 8 ∨ k = 9 ∨ k = 10 ∨ k = 11 ∨ k = 12 ∨ k = 13 ∨ k = 14 ∨ k = 15 ∨ k = 16 ∨ k = 17 ∨ k = 18 ∨ k = 19 ∨ k = 20 ∨ k = 21 ∨ k = 22 ∨ k = 23 ∨ k = 24 ∨ k = 25 ∨ k = 26 ∨ k = 27 ∨ k = 28 by omega) with rfl | rfl | rfl | rfl | rfl | rfl | rfl | rfl | rfl | rfl | rfl | rfl | rfl | rfl | rfl | rfl | rfl | rfl | rfl | rfl | rfl | rfl | rfl | rfl | rfl | rfl | rfl | rfl | rfl
    · refine lv_tableIn (tgt := 164) hx hb lz_d_32 (by decide) (by decide) (show _ = some 132 from by decide) (by decide) ?_
      exact lz_c0 X hX hbl hL hi4 (Nat.le_refl _) hI hH hS hl kk
    · refine lv_tableIn (tgt := 197) hx hb lz_d_32 (by decide) (by decide) (show _ = some 165 from by decide) (by decide) ?_
      exact lz_c1 X hX hbl hL hi4 (Nat.le_refl _) hI hH hS hl kk
    · refine lv_tableIn (tgt := 230) hx hb lz_d_32 (by decide) (by decide) (show _ = some 198 from by decide) (by decide) ?_
      exact lz_c2 X hX hbl hL hi4 (Nat.le_refl _) hI hH hS hl kk
    · refine lv_tableIn (tgt := 279) hx hb lz_d_32 (by decide) (by decide) (show _ = some 247 from by decide) (by decide) ?_
      exact lz_c3 X hX hbl hL hi4 (Nat.le_refl _) hI hH hS hl kk
    · refine lv_tableIn (tgt := 312) hx hb lz_d_32 (by decide) (by decide) (show _ = some 280 from by decide) (by decide) ?_
      exact lz_c4 X hX hbl hL hi4 (Nat.le_refl _) hI hH hS hl kk
    · refine lv_tableIn (tgt := 335) hx hb lz_d_32 (by decide) (by decide) (show _ = some 303 from by decide) (by decide) ?_
      exact lz_c5 X hX hbl hL hi4 (Nat.le_refl _) hI hH hS hl kk
    · refine lv_tableIn (tgt := 358) hx hb lz_d_32 (by decide) (by decide) (show _ = some 326 from by decide) (by decide) ?_
      exact lz_c6 X hX hbl hL hi4 (Nat.le_refl _) hI hH hS hl kk
    · refine lv_tableIn (tgt := 381) hx hb lz_d_32 (by decide) (by decide) (show _ = some 349 from by decide) (by decide) ?_
      exact lz_c7 X hX hbl hL hi4 (Nat.le_refl _) hI hH hS hl kk
    · refine lv_tableIn (tgt := 404) hx hb lz_d_32 (by decide) (by decide) (show _ = some 372 from by decide) (by decide) ?_
      exact lz_c8 X hX hbl hL hi4 (Nat.le_refl _) hI hH hS hl kk
    · refine lv_tableIn (tgt := 427) hx hb lz_d_32 (by decide) (by decide) (show _ = some 395 from by decide) (by decide) ?_
      exact lz_c9 X hX hbl hL hi4 (Nat.le_refl _) hI hH hS hl kk
    · refine lv_tableIn (tgt := 440) hx hb lz_d_32 (by decide) (by decide) (show _ = some 408 from by decide) (by decide) ?_
      exact lz_c10 X hX hbl hL hi4 (Nat.le_refl _) hI hH hS hl kk
    · refine lv_tableIn (tgt := 453) hx hb lz_d_32 (by decide) (by decide) (show _ = some 421 from by decide) (by decide) ?_
      exact lz_c11 X hX hbl hL hi4 (Nat.le_refl _) hI hH hS hl kk
    · refine lv_tableIn (tgt := 466) hx hb lz_d_32 (by decide) (by decide) (show _ = some 434 from by decide) (by decide) ?_
      exact lz_c12 X hX hbl hL hi4 (Nat.le_refl _) hI hH hS hl kk
    · refine lv_tableIn (tgt := 479) hx hb lz_d_32 (by decide) (by decide) (show _ = some 447 from by decide) (by decide) ?_
      exact lz_c13 X hX hbl hL hi4 (Nat.le_refl _) hI hH hS hl kk
    · refine lv_tableIn (tgt := 504) hx hb lz_d_32 (by decide) (by decide) (show _ = some 472 from by decide) (by decide) ?_
      exact lz_c14 X hX hbl hL hi4 (Nat.le_refl _) hI hH hS hl kk
    · refine lv_tableIn (tgt := 517) hx hb lz_d_32 (by decide) (by decide) (show _ = some 485 from by decide) (by decide) ?_
      exact lz_c15 X hX hbl hL hi4 (Nat.le_refl _) hI hH hS hl kk
    · refine lv_tableIn (tgt := 530) hx hb lz_d_32 (by decide) (by decide) (show _ = some 498 from by decide) (by decide) ?_
      exact lz_c16 X hX hbl hL hi4 (Nat.le_refl _) hI hH hS hl kk
    · refine lv_tableIn (tgt := 543) hx hb lz_d_32 (by decide) (by decide) (show _ = some 511 from by decide) (by decide) ?_
      exact lz_c17 X hX hbl hL hi4 (Nat.le_refl _) hI hH hS hl kk
    · refine lv_tableIn (tgt := 556) hx hb lz_d_32 (by decide) (by decide) (show _ = some 524 from by decide) (by decide) ?_
      exact lz_c18 X hX hbl hL hi4 (Nat.le_refl _) hI hH hS hl kk
    · refine lv_tableIn (tgt := 569) hx hb lz_d_32 (by decide) (by decide) (show _ = some 537 from by decide) (by decide) ?_
      exact lz_c19 X hX hbl hL hi4 (Nat.le_refl _) hI hH hS hl kk
    · refine lv_tableIn (tgt := 602) hx hb lz_d_32 (by decide) (by decide) (show _ = some 570 from by decide) (by decide) ?_
      exact lz_c20 X hX hbl hL hi4 (Nat.le_refl _) hI hH hS hl kk
    · refine lv_tableIn (tgt := 645) hx hb lz_d_32 (by decide) (by decide) (show _ = some 613 from by decide) (by decide) ?_
      exact lz_c21 X hX hbl hL hi4 (Nat.le_refl _) hI hH hS hl kk
    · refine lv_tableIn (tgt := 678) hx hb lz_d_32 (by decide) (by decide) (show _ = some 646 from by decide) (by decide) ?_
      exact lz_c22 X hX hbl hL hi4 (Nat.le_refl _) hI hH hS hl kk
    · refine lv_tableIn (tgt := 701) hx hb lz_d_32 (by decide) (by decide) (show _ = some 669 from by decide) (by decide) ?_
      exact lz_c23 X hX hbl hL hi4 (Nat.le_refl _) hI hH hS hl kk
    · refine lv_tableIn (tgt := 724) hx hb lz_d_32 (by decide) (by decide) (show _ = some 692 from by decide) (by decide) ?_
      exact lz_c24 X hX hbl hL hi4 (Nat.le_refl _) hI hH hS hl kk
    · refine lv_tableIn (tgt := 747) hx hb lz_d_32 (by decide) (by decide) (show _ = some 715 from by decide) (by decide) ?_
      exact lz_c25 X hX hbl hL hi4 (Nat.le_refl _) hI hH hS hl kk
    · refine lv_tableIn (tgt := 770) hx hb lz_d_32 (by decide) (by decide) (show _ = some 738 from by decide) (by decide) ?_
      exact lz_c26 X hX hbl hL hi4 (Nat.le_refl _) hI hH hS hl kk
    · refine lv_tableIn (tgt := 783) hx hb lz_d_32 (by decide) (by decide) (show _ = some 751 from by decide) (by decide) ?_
      exact lz_c27 X hX hbl hL hi4 (Nat.le_refl _) hI hH hS hl kk
    · refine lv_tableIn (tgt := 806) hx hb lz_d_32 (by decide) (by decide) (show _ = some 774 from by decide) (by decide) ?_
      exact lz_c28 X hX hbl hL hi4 (Nat.le_refl _) hI hH hS hl kk
set_option maxHeartbeats 4000000 in
theorem whole_start {p : Program} {e : Env} {s : State} {m : MethodId} {below : List Frame} {meth : Method} {c : Code} (l : Launch) (hflags : l.flags = flags0) {b L : Nat} {xs : Nat → Int32} (hL : L ≤ 2048) (C0 : lw_At p s m meth c b L xs) : W p l e room_1 s m #[Value.ref b] below meth c s.heap [] 0 0 (lw_Z below #[Value.ref b] s) (entryFrame m ([Value.ref b] : List Value).toArray 4) := by
  obtain ⟨hx, hb, hr, hml, hown, hts, hX, hbl, hlocks, hgv⟩ := id C0
  have hT : ∀ w ∈ tables_1, w.before #[Value.ref b] s = true := fun w hw => hts w (List.mem_append_right _ hw)
  have htsW : ∀ w ∈ az_W, w.before #[Value.ref b] s = true := fun w hw => by
    rcases List.mem_append.mp hw with q | q
    · exact hts w (List.mem_append_left _ q)
    · exact hT w (List.mem_filter.mp q).1
  have known : ∀ k : Nat, ∃ cC : ClassId, ∃ iS : Nat → Nat, ∀ q, vwCl[k]? = some q → u_Kn s q.1 q.2.1 q.2.2 cC iS := by
    intro k
    cases hq : vwCl[k]? with
    | none => exact ⟨m.cls, fun _ => 0, fun q h => by cases h⟩
    | some q =>
      obtain ⟨ty, c1, c2, c3, c4, c5⟩ := az_cls hq
      obtain ⟨cC, iS, hKn⟩ := u_known htsW c1 (htsW _ (az_Wt c4 rfl))
      exact ⟨cC, iS, fun q' h => by cases h; exact hKn⟩
  obtain ⟨dC, known⟩ := Classical.axiomOfChoice known
  obtain ⟨dI, known⟩ := Classical.axiomOfChoice known
  have hK : va_K (dC, dI) vwCl [] s := ⟨fun k q h => known k q h, fun k q h => by simp at h⟩
  have hTB : az_TB s := ⟨fun w hw hn => va_Nw.of (A := #[Value.ref b]) (by cases w <;> first | rfl | cases hn) (hT w hw), va_AO.of (hT _ az_ao)⟩
  have X : lz_X p s m #[Value.ref b] c (dC, dI) := ⟨hx, hb, hml, hown, htsW, hK, hTB⟩
  have hS : va_S (fun q : Nat => s.heap.size ≤ q) s.heap s.heap [] := va_S.rf
  have hE : az_HR s (dC, dI) s.heap.size (0, zi_none, fun _ _ => 0, 0) s.heap := ⟨rfl, fun k hk => absurd hk (show ¬ (99 : Nat) ≤ 11 by decide), fun k hk => absurd hk (Nat.not_lt_zero k)⟩
  obtain ⟨h1, h2, e1, z1, w1, e2, z2, w2, hsh, hI⟩ := zi_both
  obtain ⟨n1, S1, M1, v1⟩ := h1
  have z1 : n1 = 192 := z1
  subst z1
  have w1 : v1 ≤ 6000 := w1
  have hl := lv_entry ([.ref b]) (n := 4) (Nat.le_of_ble_eq_true rfl)
  rw [lg_entry_eq]
  generalize (lg_sl ([.ref b]) ++ List.replicate (4 - (lg_sl ([.ref b])).length) Slot.unset).toArray = ls at hl ⊢
  have hl : lv_has ls 4 [(0, .ref b)] := hl
  refine lz_new (a := 7) (b := 7) X rfl (az_t1 (List.mem_of_getElem? (i := 12) rfl)) lz_d_0 hE hS (Nat.le_of_ble_eq_true rfl) (Nat.le_of_ble_eq_true rfl) (fun H hH hS => ?_)
  have hH : az_HR s (dC, dI) s.heap.size zi_h00 H := hH
  refine lv_dup hx hb lz_d_3 rfl ?_
  refine lz_callI (d := 7) (n := 0) (mid := m_X8_init) (q := 0) (rest := [.ref (s.heap.size + 0)]) X rfl (by decide +kernel) (az_t1 (List.mem_of_getElem? (i := 14) rfl)) (az_t1 (List.mem_of_getElem? (i := 15) rfl)) rfl rfl rfl (Nat.le_of_ble_eq_true rfl) (Nat.le_of_ble_eq_true rfl) ⟨_, e1⟩ hH hS lz_d_4 hl.1 (Nat.le_of_ble_eq_true rfl) (by show 0 + 1 + (192 - 1) ≤ 600000; omega) (by show 0 + 6 + (v1 - 6) ≤ 7302250; omega) (fun H locs hH hS => ?_)
  refine lv_astore_n (lv' := [(1, .ref (s.heap.size + 0)), (0, .ref b)]) hx hb lz_d_7 rfl hl (by decide) rfl (fun ls hl => ?_)
  refine lz_new (a := 10) (b := 8) X rfl (az_t4 (List.mem_of_getElem? (i := 55) rfl)) lz_d_8 hH hS (by show 0 + 1 + (192 - 1) + 1 ≤ 600000; omega) (by show 0 + 6 + (v1 - 6) + 13 ≤ 7302250; omega) (fun H hH hS => ?_)
  have hH : az_HR s (dC, dI) s.heap.size (zi_nx (192, S1, M1, v1)) H := hH
  refine lv_dup hx hb lz_d_11 rfl ?_
  refine lz_callI (d := 7) (n := 0) (mid := m_X9_init) (q := 192) (rest := [.ref (s.heap.size + 192)]) X rfl (by decide +kernel) (az_t4 (List.mem_of_getElem? (i := 57) rfl)) (az_t4 (List.mem_of_getElem? (i := 58) rfl)) rfl rfl rfl (Nat.le_of_ble_eq_true rfl) (Nat.le_of_ble_eq_true rfl) ⟨_, e2⟩ hH hS lz_d_12 hl.1 (Nat.le_of_ble_eq_true rfl) (by show 0 + 1 + (192 - 1) + 1 + (h2.1 - 193) ≤ 600000; omega) (by show 0 + 6 + (v1 - 6) + 13 + (h2.2.2.2 - (v1 + 13)) ≤ 7302250; omega) (fun H locs hH hS => ?_)
  refine W.widen (k := 200) (n := 7302250) (by show 0 + 1 + (192 - 1) + 1 + (h2.1 - 193) ≤ 200; omega) (by show 0 + 6 + (v1 - 6) + 13 + (h2.2.2.2 - (v1 + 13)) ≤ 7302250; omega) ?_
  refine lv_astore_n (lv' := [(2, .ref (s.heap.size + 192)), (1, .ref (s.heap.size + 0)), (0, .ref b)]) hx hb lz_d_15 rfl hl (by decide) rfl (fun ls hl => ?_)
  refine lv_iconst (v := nI 0) hx hb lz_d_16 (by decide) ?_
  refine lv_istore_n (lv' := [(3, .int (nI 0)), (2, .ref (s.heap.size + 192)), (1, .ref (s.heap.size + 0)), (0, .ref b)]) hx hb lz_d_17 rfl hl (by decide) rfl (fun ls hl => ?_)
  exact lz_loop X hX hbl hL hr hlocks (L + 1) 0 (Nat.zero_le L) (by omega) _ H locs ls hI (zi_HR hH z2 hsh) hS (lv_sub hl [3, 2, 1, 0] rfl)
