/-! CLASS AND REFERENCE: texts, undo, keep, restore -/
section PAIRT
variable {M N W : az_Mem} {a : Int32}
/-- only other places change -/
theorem INV.tr {M M' : az_Mem} (h : INV M) (hc : ∀ c, c < 192 → M' c = M c) (h3 : M' 193 = M 193) (h5 : M' 195 = M 195) (h6 : M' 196 = M 196) (h7 : M' 197 = M 197) (f4 : M' 192 4 = M 192 4) (f6 : M' 192 6 = M 192 6) (f8 : M' 192 8 = M 192 8) : INV M' := by
  obtain ⟨h1, h2, hk, ⟨L, n, hH⟩, ht⟩ := h
  have w : sW M M' := sW.row (fun c _ _ => (hc c (by omega)).symm)
  refine ⟨by rw [h3]; exact h1.cg w, h2.cg w, hk.tr (by rw [hc 0 (by omega)]) f4 h5 (fun c _ _ => hc c (by omega)), ⟨L, n, hH.tr (hc 79 (by omega)) f6 h6 (fun c _ _ => hc c (by omega))⟩, ht.tr (by rw [hc 185 (by omega)]) f8 (hc 187 (by omega)) h7⟩
theorem pair_clearText (hM : INV M) : PAIR M m_X8_clearText m_X9_clearText [] := by
  obtain ⟨h1, h2, hk, ⟨L, n, hH⟩, ⟨t, ht, t1, t2, t3⟩⟩ := hM
  refine ⟨M 185 1, _, az_up (az_up (az_up M 185 1 0) 192 0 0) 192 8 0, ec8_clear 6, ?_, ?_⟩
  · refine az_EX.of (az_in0 (code := k_X9_clearText) (ls := [some (.ref 192), none]) rfl rfl rfl ?_)
    refine az_sgp rfl rfl rfl rfl ?_
    refine az_ret rfl rfl rfl rfl ?_
    refine ⟨?_, rfl⟩
    show some (Value.int (M 192 8)) = _
    rw [t1, t2]
  · have w : sW M (az_up (az_up (az_up M 185 1 0) 192 0 0) 192 8 0) := sW.row (fun c _ _ => by rw [az_up_row (by omega), az_up_row (by omega), az_up_row (by omega)])
    exact ⟨h1.cg w, h2.cg w, hk.tr rfl rfl rfl (fun c _ _ => by rw [az_up_row (by omega), az_up_row (by omega), az_up_row (by omega)]), ⟨L, n, hH.tr rfl rfl rfl (fun c _ _ => by rw [az_up_row (by omega), az_up_row (by omega), az_up_row (by omega)])⟩, ⟨0, by omega, rfl, rfl, fun i hi => absurd hi (by omega)⟩⟩
theorem pair_type (hM : INV M) (x : Int32) : PAIR M m_X8_type m_X9_type [.int x] := by
  have hM0 := hM
  obtain ⟨h1, h2, hk, ⟨L, n, hH⟩, ⟨t, ht, t1, t2, t3⟩⟩ := hM
  by_cases hf : t = 60
  · subst hf
    refine ⟨-3, _, az_up M 192 0 0, ec8_typeFull 5 x (by rw [t1]; decide), ?_, ?_⟩
    · refine az_EX.of (az_in0 (code := k_X9_type) (ls := [some (.ref 192), some (.int x)]) rfl rfl rfl ?_)
      refine az_sgp rfl rfl rfl rfl ?_
      have e : az_up M 192 0 0 192 8 = nI 60 := t2
      rw [e]
      refine az_bra rfl rfl rfl (fun _ => ?_) (fun q => absurd rfl q)
      refine az_sgp rfl rfl rfl rfl ?_
      refine az_ret rfl rfl rfl rfl ?_
      exact ⟨rfl, rfl⟩
    · exact hM0.tr (fun c hc => by rw [az_up_row (by omega)]) rfl rfl rfl rfl rfl rfl rfl
  · have hlt : M 185 1 < 60 := by
      rw [t1]
      exact nI_lt (a := t) (b := 60) (by omega) (by omega)
    have e187 : az_wr M 187 60 (M 185 1) x = az_up M 187 t x := by
      rw [t1, az_wrN (by omega) (by decide)]
    have e8 := ec8_type (M := M) 5 x hlt
    rw [e187, t1, nI_1] at e8
    refine ⟨nI (t + 1), _, az_up (az_up (az_up (az_up (az_up M 187 t x) 185 1 (nI (t + 1))) 192 0 0) 197 t x) 192 8 (nI (t + 1)), e8, ?_, ?_⟩
    · refine az_EX.of (az_in0 (code := k_X9_type) (ls := [some (.ref 192), some (.int x)]) rfl rfl rfl ?_)
      refine az_sgp rfl rfl rfl rfl ?_
      have e : az_up (az_up (az_up M 187 t x) 185 1 (nI (t + 1))) 192 0 0 192 8 = nI t := t2
      rw [e]
      refine az_bra rfl rfl rfl (fun q => ?_) (fun _ => ?_)
      · have q : nI t = nI 60 := q
        rw [nI_eq (by omega) (by omega)] at q
        exact absurd q hf
      refine az_sgp rfl rfl rfl rfl ?_
      refine az_ast rfl rfl (k := t) e (by omega) (by decide) ?_
      refine az_sgp rfl rfl rfl rfl ?_
      refine az_ret rfl rfl rfl rfl ?_
      have e2 : az_up (az_up (az_up (az_up M 187 t x) 185 1 (nI (t + 1))) 192 0 0) 197 t x 192 8 = nI t := t2
      rw [e2, nI_1]
      exact ⟨rfl, rfl⟩
    · have hrow : ∀ c, c ≠ 187 → c ≠ 185 → c ≠ 192 → c ≠ 197 → az_up (az_up (az_up (az_up (az_up M 187 t x) 185 1 (nI (t + 1))) 192 0 0) 197 t x) 192 8 (nI (t + 1)) c = M c := fun c g1 g2 g3 g4 => by
        rw [az_up_row g3, az_up_row g4, az_up_row g3, az_up_row g2, az_up_row g1]
      have w : sW M (az_up (az_up (az_up (az_up (az_up M 187 t x) 185 1 (nI (t + 1))) 192 0 0) 197 t x) 192 8 (nI (t + 1))) := sW.row (fun c _ _ => (hrow c (by omega) (by omega) (by omega) (by omega)).symm)
      refine ⟨?_, h2.cg w, hk.tr (by rw [hrow 0 (by omega) (by omega) (by omega) (by omega)]) rfl (hrow 195 (by omega) (by omega) (by omega) (by omega)) (fun c _ _ => hrow c (by omega) (by omega) (by omega) (by omega)), ⟨L, n, hH.tr (hrow 79 (by omega) (by omega) (by omega) (by omega)) rfl (hrow 196 (by omega) (by omega) (by omega) (by omega)) (fun c _ _ => hrow c (by omega) (by omega) (by omega) (by omega))⟩, ⟨t + 1, by omega, rfl, rfl, fun i hi => ?_⟩⟩
      · rw [hrow 193 (by omega) (by omega) (by omega) (by omega)]
        exact h1.cg w
      · by_cases hit : i = t
        · subst hit
          simp [az_up]
        · simp [az_up, hit]
          exact t3 i (by omega)
theorem pair_keep (hM : INV M) : PAIR M m_X8_keep m_X9_keep [] := by
  obtain ⟨h1, h2, hk, ⟨L, n, hH⟩, ht⟩ := hM
  have hrow : ∀ c, c ≠ 0 → (c < 53 ∨ 79 ≤ c) → az_up (cg_cpW M 53 1) 0 3 1 c = M c := fun c g1 g2 => by
    rw [az_up_row g1, cg_cpW_out (by omega)]
  generalize hX : az_up (cg_cpW M 53 1) 0 3 1 = X at hrow
  have K : ∀ (m i : Nat), i + m = 411 → az_RUN 7 k_X9_keep 7 [some (.ref 192), some (.int (nI i))] [] (az_hp (az_cp (az_up X 192 0 0) 195 193 i)) (fun r1 h1 => r1 = some (.int (M 2 2)) ∧ h1 = az_hp (az_up (az_cp (az_up X 192 0 0) 195 193 411) 192 4 1)) := by
    intro m
    induction m with
    | zero =>
      intro i hs
      have ei : i = 411 := (by omega)
      subst ei
      refine az_sgp rfl rfl rfl rfl ?_
      refine az_bra rfl rfl rfl (fun q => ?_) (fun q => ?_)
      · refine az_sgp rfl rfl rfl rfl ?_
        refine az_grd rfl rfl rfl rfl ?_
        refine az_sgp rfl rfl rfl rfl ?_
        refine az_ald rfl rfl (k := 7) rfl (by decide) (by decide) (x := M 2 2) ?_ ?_
        · show az_cp (az_up X 192 0 0) 195 193 411 193 7 = M 2 2
          rw [az_cp_row (by decide), az_up_row (by decide), hrow 193 (by omega) (by omega)]
          exact h1.mark
        refine az_ret rfl rfl rfl rfl ?_
        exact ⟨rfl, rfl⟩
      · exact absurd (nI_le (a := 411) (b := 411) (by omega) (by omega)) q
    | succ m ih =>
      intro i hs
      refine az_sgp rfl rfl rfl rfl ?_
      refine az_bra rfl rfl rfl (fun q => ?_) (fun q => ?_)
      · exact absurd q (nI_ge (a := i) (b := 411) (by omega) (by omega))
      refine az_sgp rfl rfl rfl rfl ?_
      refine az_ald rfl rfl (k := i) rfl (by omega) (by decide) rfl ?_
      refine az_ast rfl rfl (k := i) rfl (by omega) (by decide) ?_
      refine az_sg 2 rfl ?_
      rw [nI_1, az_cpS]
      exact ih (i + 1) (by omega)
  refine ⟨M 2 2, X, az_up (az_cp (az_up X 192 0 0) 195 193 411) 192 4 1, ?_, ?_, ?_⟩
  · rw [← hX]
    exact ec8_keep 3
  · refine az_EX.of (az_in0 (code := k_X9_keep) (ls := [some (.ref 192), none]) rfl rfl rfl ?_)
    refine az_sg 5 rfl ?_
    have k := K 411 0 (by omega)
    rw [az_cp0] at k
    exact k
  · have g : ∀ c, c ≠ 0 → (c < 53 ∨ 79 ≤ c) → c ≠ 192 → c ≠ 195 → az_up (az_cp (az_up X 192 0 0) 195 193 411) 192 4 1 c = M c := fun c g1 g2 g3 g4 => by
      rw [az_up_row g3, az_cp_row g4, az_up_row g3, hrow c g1 g2]
    have w : sW M (az_up (az_cp (az_up X 192 0 0) 195 193 411) 192 4 1) := sW.row (fun c _ _ => (g c (by omega) (by omega) (by omega) (by omega)).symm)
    have x0 : X 0 3 = 1 := by rw [← hX]; exact az_up_same _ _ _ _
    have f92 : ∀ j, j ≠ 0 → j ≠ 4 → az_up (az_cp (az_up X 192 0 0) 195 193 411) 192 4 1 192 j = M 192 j := fun j g1 g2 => by
      rw [az_up_self, if_neg g2, az_cp_row (by decide), az_up_self, if_neg g1, hrow 192 (by omega) (by omega)]
    have wk : sW M (sh (az_up (az_cp (az_up X 192 0 0) 195 193 411) 192 4 1) 53) := by
      have w1 : sW (sh M 1) (sh (cg_cpW M 53 1) 53) := sW.cp (by decide) (by decide) (by decide)
      have w2 : sW (sh (cg_cpW M 53 1) 53) (sh (az_up (az_cp (az_up X 192 0 0) 195 193 411) 192 4 1) 53) := sh_row (by decide) (fun c g1 g2 => by
        rw [az_up_row (by omega), az_cp_row (by omega), az_up_row (by omega), ← hX, az_up_row (by omega)])
      rw [sh1] at w1
      exact w1.tr w2
    refine ⟨?_, h2.cg w, Or.inr ⟨?_, ?_, ?_, h2.cg wk⟩, ⟨L, n, hH.tr (g 79 (by omega) (by omega) (by omega) (by omega)) (f92 6 (by omega) (by omega)) (g 196 (by omega) (by omega) (by omega) (by omega)) (fun c _ _ => g c (by omega) (by omega) (by omega) (by omega))⟩, ht.tr (by rw [g 185 (by omega) (by omega) (by omega) (by omega)]) (f92 8 (by omega) (by omega)) (g 187 (by omega) (by omega) (by omega) (by omega)) (g 197 (by omega) (by omega) (by omega) (by omega))⟩
    · rw [g 193 (by omega) (by omega) (by omega) (by omega)]
      exact h1.cg w
    · rw [az_up_row (by decide), az_cp_row (by decide), az_up_row (by decide)]
      exact x0
    · rw [az_up_self, if_pos rfl]
    · refine (h1.cg wk).cr (fun j hj => ?_)
      rw [az_up_row (by decide), az_cp_self, if_pos hj, az_up_row (by decide), hrow 193 (by omega) (by omega)]
theorem pair_restore (hM : INV M) : PAIR M m_X8_restore m_X9_restore [] := by
  have hM0 := hM
  obtain ⟨h1, h2, hk, ⟨L, n, hH⟩, ht⟩ := hM
  rcases hk with ⟨k0, k4⟩ | ⟨k0, k4, kR, kI⟩
  · refine ⟨-5, M, rg_as M, ec8_restore0 1 k0, ?_, ?_⟩
    · refine az_EX.of (az_in0 (code := k_X9_restore) (ls := [some (.ref 192), none]) rfl rfl rfl ?_)
      refine az_sgp rfl rfl rfl rfl ?_
      refine az_can rfl rfl rfl rfl (ex_aside 6) ?_
      refine az_sgp rfl rfl rfl rfl ?_
      have e : az_cp (az_up M 192 0 0) 194 193 411 192 4 = 0 := k4
      rw [e]
      (with_reducible apply az_ifneF); rfl
      refine az_sgp rfl rfl rfl rfl ?_
      refine az_ret rfl rfl rfl rfl ?_
      exact ⟨rfl, rfl⟩
    · exact hM0.tr (fun c hc => rg_as_row (by omega) (by omega)) (rg_as_row (by decide) (by decide)) (rg_as_row (by decide) (by decide)) (rg_as_row (by decide) (by decide)) (rg_as_row (by decide) (by decide)) (rg_as_92 (by decide)) (rg_as_92 (by decide)) (rg_as_92 (by decide))
  · have w : sW (sh M 53) (cg_cpW (cg_cpW M 27 1) 1 53) := by
      have w1 : sW (sh M 53) (sh (cg_cpW M 27 1) 53) := sh_row (by decide) (fun c g1 g2 => by rw [cg_cpW_out (by omega)])
      have w2 : sW (sh (cg_cpW M 27 1) 53) (sh (cg_cpW (cg_cpW M 27 1) 1 53) 1) := sW.cp (by decide) (by decide) (by decide)
      rw [sh1] at w2
      exact w1.tr w2
    have hRN := kR.cg w
    refine pair_act hM0 (a := cg_cpW (cg_cpW M 27 1) 1 53 2 2) (fun c hc => cg_cpW_out (by omega)) (fun _ => kI.cg w) (fun L' e1 e2 => ?_) (fun M1 n' r hrow hn h4 => ?_)
    · have e3 : M 79 1 = nI L' := by
        rw [← e1, cg_cpW_out (by omega), cg_cpW_out (by omega)]
      exact ec8_restore 1 (by rw [k0]; decide) e3 e2
    · have r2 : RR (cg_cpW (cg_cpW M 27 1) 1 53) (az_cp (rg_as M1) 193 195 411 193) := by
        refine hRN.cr (fun j hj => ?_)
        rw [az_cp_self, if_pos hj, rg_as_row (by decide) (by decide), hrow 195 (by omega)]
      obtain ⟨M4, e4, p4⟩ := ex_end (M1 := M1) (M3 := az_cp (rg_as M1) 193 195 411) (a := cg_cpW (cg_cpW M 27 1) 1 53 2 2) (N := cg_cpW (cg_cpW M 27 1) 1 53) 6 hn h4 (fr2.w (fun c g1 g2 => az_cp_row g1)) (fun _ => r2)
      refine ⟨M4, ?_, p4⟩
      have K : ∀ (m i : Nat), i + m = 411 → az_RUN 7 k_X9_restore 16 [some (.ref 192), some (.int (nI i))] [] (az_hp (az_cp (rg_as M1) 193 195 i)) (fun r1 h1 => r1 = some (.int (cg_cpW (cg_cpW M 27 1) 1 53 2 2)) ∧ h1 = az_hp M4) := by
        intro m
        induction m with
        | zero =>
          intro i hs
          have ei : i = 411 := (by omega)
          subst ei
          refine az_sgp rfl rfl rfl rfl ?_
          refine az_bra rfl rfl rfl (fun q => ?_) (fun q => ?_)
          · refine az_sgp rfl rfl rfl rfl ?_
            refine az_ald rfl rfl (k := 7) rfl (by decide) (by decide) r2.mark ?_
            refine az_cav rfl rfl rfl rfl e4 ?_
            refine az_ret rfl rfl rfl rfl ?_
            exact ⟨rfl, rfl⟩
          · exact absurd (nI_le (a := 411) (b := 411) (by omega) (by omega)) q
        | succ m ih =>
          intro i hs
          refine az_sgp rfl rfl rfl rfl ?_
          refine az_bra rfl rfl rfl (fun q => ?_) (fun q => ?_)
          · exact absurd q (nI_ge (a := i) (b := 411) (by omega) (by omega))
          refine az_sgp rfl rfl rfl rfl ?_
          refine az_ald rfl rfl (k := i) rfl (by omega) (by decide) rfl ?_
          refine az_ast rfl rfl (k := i) rfl (by omega) (by decide) ?_
          refine az_sg 2 rfl ?_
          rw [nI_1, az_cpS]
          exact ih (i + 1) (by omega)
      refine az_EX.of (az_in0 (code := k_X9_restore) (ls := [some (.ref 192), none]) rfl rfl rfl ?_)
      refine az_sgp rfl rfl rfl rfl ?_
      refine az_can rfl rfl rfl rfl (ex_aside 6) ?_
      refine az_sgp rfl rfl rfl rfl ?_
      have e : az_cp (az_up M1 192 0 0) 194 193 411 192 4 = 1 := by
        show M1 192 4 = 1
        rw [hrow 192 (by omega), k4]
      rw [e]
      (with_reducible apply az_ifneT); rfl
      refine az_sg 2 rfl ?_
      have k := K 411 0 (by omega)
      rw [az_cp0] at k
      exact k
def rg_un (M : az_Mem) (n k : Nat) : az_Mem := fun c j => if c = 193 ∧ j < k then M 196 (411 * n + j) else M c j
theorem rg_unS (M : az_Mem) (n k : Nat) : az_up (rg_un M n k) 193 k (rg_un M n k 196 (411 * n + k)) = rg_un M n (k + 1) := by
  funext c j
  simp only [az_up, rg_un]
  by_cases h1 : c = 193
  · subst h1
    by_cases h2 : j = k
    · subst h2
      rw [if_pos ⟨rfl, rfl⟩, if_neg (by omega), if_pos ⟨rfl, by omega⟩]
    · rw [if_neg (by omega)]
      by_cases h3 : j < k
      · rw [if_pos ⟨rfl, h3⟩, if_pos ⟨rfl, by omega⟩]
      · rw [if_neg (by omega), if_neg (by omega)]
  · rw [if_neg (by omega), if_neg (by omega), if_neg (by omega)]
theorem pair_undo (hM : INV M) : PAIR M m_X8_undo m_X9_undo [] := by
  have hM0 := hM
  obtain ⟨h1, h2, hk, ⟨L, n, hH⟩, ht⟩ := hM
  obtain ⟨a1, a2, a3, a4, a5, a6⟩ := hH
  by_cases hn : n = 0
  · subst hn
    refine ⟨-5, M, az_up M 192 0 0, ec8_undo0 3 a3 a1 (by rw [a4]; decide), ?_, ?_⟩
    · refine az_EX.of (az_in0 (code := k_X9_undo) (ls := [some (.ref 192), none]) rfl rfl rfl ?_)
      refine az_sgp rfl rfl rfl rfl ?_
      have e : az_up M 192 0 0 192 6 = 0 := a5
      rw [e]
      (with_reducible apply az_ifneF); rfl
      refine az_sgp rfl rfl rfl rfl ?_
      refine az_ret rfl rfl rfl rfl ?_
      exact ⟨rfl, rfl⟩
    · exact hM0.tr (fun c hc => by rw [az_up_row (by omega)]) rfl rfl rfl rfl rfl rfl rfl
  obtain ⟨k, rfl⟩ : ∃ k, n = k + 1 := ⟨n - 1, by omega⟩
  have hw := az_hwN a1
  have e8 := ec8_undo (M := M) 3 a3 a1 (by rw [a4]; exact nI_nlt (a := k + 1) (b := 1) (by omega) (by omega))
  rw [a4, nI_pred] at e8
  generalize hX : cg_tkH M L = X at e8
  have hrow : ∀ c, c ≠ 79 → (c < 1 ∨ 27 ≤ c) → X c = M c := fun c g1 g2 => by
    rw [← hX]
    unfold cg_tkH
    rw [az_up_row g1, az_up_row g1, cg_cpW_out (by omega)]
  have hk6 : ∀ i, rg_un (az_up (az_up X 192 0 0) 192 6 (nI k)) k i 192 6 = nI k := fun i => by
    simp [rg_un, az_up]
  have K : ∀ (m i : Nat), i + m = 411 → az_RUN 7 k_X9_undo 27 [some (.ref 192), some (.int (nI i))] [] (az_hp (rg_un (az_up (az_up X 192 0 0) 192 6 (nI k)) k i)) (fun r1 h1 => r1 = some (.int (nI k)) ∧ h1 = az_hp (rg_un (az_up (az_up X 192 0 0) 192 6 (nI k)) k 411)) := by
    intro m
    induction m with
    | zero =>
      intro i hs
      have ei : i = 411 := (by omega)
      subst ei
      refine az_sgp rfl rfl rfl rfl ?_
      refine az_bra rfl rfl rfl (fun q => ?_) (fun q => ?_)
      · refine az_sgp rfl rfl rfl rfl ?_
        refine az_ret rfl rfl rfl rfl ?_
        rw [hk6]
        exact ⟨rfl, rfl⟩
      · exact absurd (nI_le (a := 411) (b := 411) (by omega) (by omega)) q
    | succ m ih =>
      intro i hs
      refine az_sgp rfl rfl rfl rfl ?_
      refine az_bra rfl rfl rfl (fun q => ?_) (fun q => ?_)
      · exact absurd q (nI_ge (a := i) (b := 411) (by omega) (by omega))
      refine az_sgp rfl rfl rfl rfl ?_
      rw [hk6]
      refine az_ald rfl rfl (k := 411 * k + i) (by show nI 411 * nI k + nI i = _; rw [nI_mul, nI_add]) (by omega) (by decide) rfl ?_
      refine az_ast rfl rfl (k := i) rfl (by omega) (by decide) ?_
      refine az_sg 2 rfl ?_
      rw [nI_1, rg_unS]
      exact ih (i + 1) (by omega)
  refine ⟨nI k, X, rg_un (az_up (az_up X 192 0 0) 192 6 (nI k)) k 411, e8, ?_, ?_⟩
  · refine az_EX.of (az_in0 (code := k_X9_undo) (ls := [some (.ref 192), none]) rfl rfl rfl ?_)
    refine az_sgp rfl rfl rfl rfl ?_
    have e : az_up X 192 0 0 192 6 = nI (k + 1) := by
      show X 192 6 = _
      rw [hrow 192 (by omega) (by omega), a5]
    rw [e]
    refine az_bra rfl rfl rfl (fun q => absurd q (nI_ne0 (by omega) (by omega))) (fun _ => ?_)
    refine az_sg 8 rfl ?_
    have k0 := K 411 0 (by omega)
    have e0 : ∀ Y : az_Mem, rg_un Y k 0 = Y := fun Y => by
      funext c j
      simp only [rg_un]
      rw [if_neg (by omega)]
    rw [e0] at k0
    rw [e, nI_pred]
    exact k0
  · have g : ∀ c, c ≠ 79 → (c < 1 ∨ 27 ≤ c) → c ≠ 192 → c ≠ 193 → rg_un (az_up (az_up X 192 0 0) 192 6 (nI k)) k 411 c = M c := fun c g1 g2 g3 g4 => by
      have : rg_un (az_up (az_up X 192 0 0) 192 6 (nI k)) k 411 c = X c := by
        funext j
        simp [rg_un, az_up, g3, g4]
      rw [this, hrow c g1 g2]
    have gX : ∀ c, c ≠ 192 → c ≠ 193 → rg_un (az_up (az_up X 192 0 0) 192 6 (nI k)) k 411 c = X c := fun c g3 g4 => by
      funext j
      simp [rg_un, az_up, g3, g4]
    have f92 : ∀ j, j ≠ 0 → j ≠ 6 → rg_un (az_up (az_up X 192 0 0) 192 6 (nI k)) k 411 192 j = M 192 j := fun j g1 g2 => by
      rw [← hrow 192 (by omega) (by omega)]
      simp [rg_un, az_up, g1, g2]
    obtain ⟨b1, b2⟩ := a6 0 (by omega)
    have eL : (L + 4 - 0) % 4 = L := by omega
    rw [eL] at b1 b2
    have w : sW (sh M (az_hw L)) (rg_un (az_up (az_up X 192 0 0) 192 6 (nI k)) k 411) := by
      have w1 : sW (sh M (az_hw L)) (sh (cg_cpW M 1 (az_hw L)) 1) := sW.cp (by decide) (by rw [hw]; omega) (by rw [hw]; omega)
      rw [sh1] at w1
      refine w1.tr (sW.row (fun c g1 g2 => ?_))
      rw [gX c (by omega) (by omega), ← hX]
      unfold cg_tkH
      rw [az_up_row (by omega), az_up_row (by omega)]
    have f79 : ∀ j, X 79 j = az_up (az_up M 79 1 (nI (cg_pvL L))) 79 2 (nI k) 79 j := fun j => by
      have e792 : cg_cpW M 1 (az_hw L) 79 = M 79 := cg_cpW_out (by omega)
      rw [← hX]
      unfold cg_tkH
      rw [e792, a4, nI_pred]
      simp only [az_up]
      rw [e792]
    have hp : cg_pvL L < 4 := by unfold cg_pvL; split <;> omega
    refine ⟨?_, b2.cg w, hk.tr (by rw [g 0 (by omega) (by omega) (by omega) (by omega)]) (f92 4 (by omega) (by omega)) (g 195 (by omega) (by omega) (by omega) (by omega)) (fun c _ _ => g c (by omega) (by omega) (by omega) (by omega)), ⟨cg_pvL L, k, hp, by omega, ?_, ?_, hk6 411, fun j hj => ?_⟩, ht.tr (by rw [g 185 (by omega) (by omega) (by omega) (by omega)]) (f92 8 (by omega) (by omega)) (g 187 (by omega) (by omega) (by omega) (by omega)) (g 197 (by omega) (by omega) (by omega) (by omega))⟩
    · refine (b1.cg w).cr (fun j hj => ?_)
      show rg_un (az_up (az_up X 192 0 0) 192 6 (nI k)) k 411 193 j = M 196 (411 * (k + 1 - 1 - 0) + j)
      simp only [rg_un]
      rw [if_pos (by simp; exact hj), az_up_row (by decide), az_up_row (by decide), hrow 196 (by omega) (by omega)]
      rfl
    · rw [gX 79 (by omega) (by omega), f79]
      simp [az_up]
    · rw [gX 79 (by omega) (by omega), f79]
      simp [az_up]
    · obtain ⟨c1, c2⟩ := a6 (j + 1) (by omega)
      have ei : (L + 4 - (j + 1)) % 4 = (cg_pvL L + 4 - j) % 4 := by
        unfold cg_pvL
        split <;> omega
      rw [ei] at c1 c2
      have hm : (cg_pvL L + 4 - j) % 4 < 4 := Nat.mod_lt _ (by decide)
      generalize (cg_pvL L + 4 - j) % 4 = x at c1 c2 hm ⊢
      have hwx := az_hwN hm
      have w5 : sW (sh M (az_hw x)) (sh (rg_un (az_up (az_up X 192 0 0) 192 6 (nI k)) k 411) (az_hw x)) := sh_row (by rw [hwx]; omega) (fun c g1 g2 => by
        rw [hwx] at g1 g2
        rw [g c (by omega) (by omega) (by omega) (by omega)])
      refine ⟨(c1.cg w5).cr (fun i hi => ?_), c2.cg w5⟩
      show rg_un (az_up (az_up X 192 0 0) 192 6 (nI k)) k 411 196 (411 * (k - 1 - j) + i) = M 196 (411 * (k + 1 - 1 - (j + 1)) + i)
      rw [g 196 (by omega) (by omega) (by omega) (by omega), show k + 1 - 1 - (j + 1) = k - 1 - j by omega]
end PAIRT
