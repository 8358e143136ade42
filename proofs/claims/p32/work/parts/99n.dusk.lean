/-! THE LAW: isDusk, isLaid -/
theorem az_cnt_tail (P : Nat → Bool) {n : Nat} : ∀ m, (∀ l, n ≤ l → l < n + m → P l = false) → az_cnt P (n + m) = az_cnt P n := by
  intro m
  induction m with
  | zero => intro _; rfl
  | succ m ih =>
    intro h
    show az_cnt P (n + m) + (if P (n + m) = true then 1 else 0) = _
    rw [ih (fun l h1 h2 => h l h1 (by omega)), h (n + m) (by omega) (by omega)]
    rfl
def rz (M : az_Mem) (k : Nat) : az_Mem := fun c j => if c = 193 ∧ j < k then (if j = 3 then 1 else 0) else M c j
theorem rz0 (M : az_Mem) : rz M 0 = M := by
  funext c j
  unfold rz
  rw [if_neg (by omega)]
theorem rzS (M : az_Mem) (k : Nat) : az_up (rz M k) 193 k (if k = 3 then 1 else 0) = rz M (k + 1) := by
  funext c j
  simp only [rz, az_up]
  by_cases h : c = 193 ∧ j = k
  · rw [if_pos h, if_pos (show c = 193 ∧ j < k + 1 from ⟨h.1, by omega⟩), h.2]
  · rw [if_neg h]
    by_cases h2 : c = 193 ∧ j < k
    · rw [if_pos h2, if_pos (show c = 193 ∧ j < k + 1 from ⟨h2.1, by omega⟩)]
    · rw [if_neg h2, if_neg (by omega)]
section DSK
variable {M M1 W X N : az_Mem} {a : Int32} {m8 : Nat} {args : List Value}
theorem LX.cool (h : LX W) (k : Nat) : LX (cg_cool W k) := by
  have e : ∀ c, c ≠ 23 → cg_cool W k c = W c := fun c h1 => by
    funext j
    simp [cg_cool, h1]
  unfold LX
  rw [e 2 (by decide), e 17 (by decide), e 6 (by decide), e 14 (by decide), e 21 (by decide), e 19 (by decide)]
  refine ⟨h.zn, h.sl, h.bd, h.kd, h.ld, h.ce, fun l h1 h2 => ⟨(h.no l h1 h2).1, ?_⟩, h.pl⟩
  unfold cg_cool
  split
  · rw [(h.no l h1 h2).2]
    decide
  · exact (h.no l h1 h2).2
theorem la_isDusk (d : Nat) (hM : INVL M) : LA (d + 8) m_L_isDusk [.ref 0, .ref 192, .ref 195] M := by
  obtain ⟨hR, hI, hX⟩ := inv_w hM
  generalize hWW : cg_cpW M 27 1 = W at hR hI hX
  have hA := A_dusk W
  rw [cg_dkA hI] at hA
  have e12 : cg_dk W 40 = cg_dk W 12 := by
    unfold cg_dk
    refine az_cnt_tail _ (n := 12) 28 (fun l h1 h2 => ?_)
    obtain ⟨b, hb, b1, b9⟩ := hX.bd
    rw [(hX.no l h1 (by omega)).2, hb, decide_eq_false (show ¬ nI b ≤ 0 from nI_nle (by omega) (by omega)), Bool.false_and]
  rw [e12] at hA
  have w12 : sW (cg_cool W 12) (cg_cool W 40) := by
    intro c k hk
    unfold cg_cool
    by_cases h : c = 23
    · subst h
      have hk : k < 40 := hk
      by_cases h2 : k < 12
      · rw [if_pos ⟨rfl, h2⟩, if_pos ⟨rfl, by omega⟩]
      · rw [if_neg (by omega), if_pos ⟨rfl, hk⟩, (hX.no k (by omega) hk).2]
        decide
    · rw [if_neg (by omega), if_neg (by omega)]
  have K : ∀ (m i : Nat) (Mi : az_Mem), i + m = 12 → frL M Mi → LR (cg_cool W i) Mi → az_RUN (d + 7) k_L_isDusk 5 [some (.ref 0), some (.ref 192), some (.ref 195), some (.int (nI (cg_dk W i))), some (.int (nI i))] [] (az_hp Mi) (fun r1 h1 => r1 = some (.int 1) ∧ ∃ M', INVL M' ∧ h1 = az_hp M') := by
    intro m
    induction m with
    | zero =>
      intro i Mi hi fx rx
      have e : i = 12 := by omega
      subst e
      have hdk : cg_dk W 12 ≤ 12 := az_cnt_le _ 12
      obtain ⟨M2, x2, g2, c2, w2⟩ := act_y (M1 := Mi) d hWW hM.2.2.2 hA (nI_pos (by omega)) fx (iw_cool hI) (hX.cool 40)
      have i2 : INVL M2 := inv_close c2 w2 (fun _ _ => rfl) ((rx.cg w12).cr g2)
      refine az_sgp rfl rfl rfl rfl ?_
      refine az_bra rfl rfl rfl (fun q => ?_) (fun q => ?_)
      rotate_left
      · exact absurd (nI_le (a := 12) (b := 12) (Nat.le_refl _) (by decide)) q
      refine az_sgp rfl rfl rfl rfl ?_
      refine az_cav rfl rfl rfl rfl (x2) ?_
      refine az_sgp rfl rfl rfl rfl ?_
      refine az_bra rfl rfl rfl (fun q => ?_) (fun q => ?_)
      · refine az_sgp rfl rfl rfl rfl ?_
        refine az_ret rfl rfl rfl rfl ?_
        exact ⟨rfl, M2, i2, rfl⟩
      · exact absurd rfl q
    | succ m ih =>
      intro i Mi hi fx rx
      have hi12 : i < 12 := by omega
      have ev : cg_cool W i 23 i = W 23 i := by
        unfold cg_cool
        rw [if_neg (by omega)]
      have eb : cg_cool W i 17 0 = W 17 0 := cg_cool17 W i
      have b50 : ∀ v : Int32, nI (cg_dk W i) + v = nI (cg_dk W (i + 1)) → az_RUN (d + 7) k_L_isDusk 50 [some (.ref 0), some (.ref 192), some (.ref 195), some (.int (nI (cg_dk W i))), some (.int (nI i))] [.int v, .int (nI (cg_dk W i))] (az_hp Mi) (fun r1 h1 => r1 = some (.int 1) ∧ ∃ M', INVL M' ∧ h1 = az_hp M') := by
        intro v hv
        have r1 := rx.m_lh hi12 (W 23 i / 2)
        rw [cg_coolS W i (by omega)] at r1
        have i1 := ih (i + 1) (az_up Mi 195 (4 * i + 3) (W 23 i / 2)) (by omega) (fun c hc => by rw [az_up_row (by omega)]; exact fx c hc) r1
        rw [← nI_1 i] at i1
        refine az_sgp rfl rfl rfl rfl ?_
        refine az_ald rfl rfl (k := 4 * i + 3) (ix4c i 3) (by omega) (by decide) ((rx.lh hi12).trans ev) ?_
        refine az_sgp rfl rfl rfl rfl ?_
        refine az_grd rfl rfl rfl rfl ?_
        rw [show (bif Nat.beq 31 31 then W 23 i / 2 else W 23 i - W 23 i / 2 * 2) = W 23 i / 2 from rfl]
        refine az_ast rfl rfl (k := 4 * i + 3) (ix4c i 3) (by omega) (by decide) ?_
        refine az_sg 2 rfl ?_
        rw [hv]
        exact i1
      refine az_sgp rfl rfl rfl rfl ?_
      refine az_bra rfl rfl rfl (fun q0 => ?_) (fun q0 => ?_)
      · exact absurd q0 (nI_ge (a := i) (b := 12) (by omega) (by decide))
      refine az_sgp rfl rfl rfl rfl ?_
      refine az_ald rfl rfl (k := 4 * i + 3) (ix4c i 3) (by omega) (by decide) ((rx.lh hi12).trans ev) ?_
      refine az_sgp rfl rfl rfl rfl ?_
      refine az_ald rfl rfl (k := 6) (rfl) (by omega) (by decide) (rx.bound.trans eb) ?_
      have no : ¬ (decide (W 17 0 ≤ W 23 i) && !decide (W 17 0 ≤ W 23 i / 2)) = true → nI (cg_dk W i) + 0 = nI (cg_dk W (i + 1)) := fun c => by
        rw [cg_dkS, if_neg c]
        exact nI_add _ 0
      refine az_bra rfl rfl rfl (fun q1 => ?_) (fun q1 => ?_)
      · have c : ¬ (decide (W 17 0 ≤ W 23 i) && !decide (W 17 0 ≤ W 23 i / 2)) = true := by
          rw [decide_eq_false (Int32.not_le.mpr q1), Bool.false_and]
          decide
        refine az_sg 1 rfl ?_
        exact b50 0 (no c)
      refine az_sgp rfl rfl rfl rfl ?_
      refine az_ald rfl rfl (k := 4 * i + 3) (ix4c i 3) (by omega) (by decide) ((rx.lh hi12).trans ev) ?_
      refine az_sgp rfl rfl rfl rfl ?_
      refine az_grd rfl rfl rfl rfl ?_
      rw [show (bif Nat.beq 31 31 then W 23 i / 2 else W 23 i - W 23 i / 2 * 2) = W 23 i / 2 from rfl]
      refine az_sgp rfl rfl rfl rfl ?_
      refine az_ald rfl rfl (k := 6) (rfl) (by omega) (by decide) (rx.bound.trans eb) ?_
      refine az_bra rfl rfl rfl (fun q2 => ?_) (fun q2 => ?_)
      · have c : ¬ (decide (W 17 0 ≤ W 23 i) && !decide (W 17 0 ≤ W 23 i / 2)) = true := by
          rw [decide_eq_true q2, Bool.not_true, Bool.and_false]
          decide
        refine az_sg 1 rfl ?_
        exact b50 0 (no c)
      · refine az_sg 2 rfl ?_
        refine b50 1 ?_
        rw [cg_dkS, if_pos (by rw [decide_eq_true (Int32.not_lt.mp q1), decide_eq_false q2]; rfl)]
        exact nI_1 _
  refine LA.of (az_in0 (code := k_L_isDusk) (ls := [some (.ref 0), some (.ref 192), some (.ref 195), none, none]) rfl rfl rfl ?_)
  refine az_sg 4 rfl ?_
  have k0 := K 12 0 M (by omega) (frL.rf M) (by
    have e : cg_cool W 0 = W := by
      funext c j
      unfold cg_cool
      rw [if_neg (by omega)]
    rw [e]
    exact hR)
  exact k0
theorem A_layX (W : az_Mem) {z q : Nat} (h : z < 2 ∨ 8 < z ∨ q < 2 ∨ ¬ q ≤ 12) (hz : z < 100) (hq : q < 100) : ACT W m_X8_lay [.int (nI z), .int (nI q)] (-2) W := by
  refine A_layBad W ?_
  rcases h with c | c | c | c
  · exact Or.inl (nI_lt (b := 2) c (by decide))
  · exact Or.inr (Or.inl (nI_lt (a := 8) c (by omega)))
  · exact Or.inr (Or.inr (Or.inl (nI_lt (b := 2) c (by decide))))
  · exact Or.inr (Or.inr (Or.inr (nI_ge (a := 12) (by omega) (by omega))))
theorem LX.lay (h : LX W) {z q : Nat} (hz : z ≤ 4) (hq : q ≤ 6) : LX (cg_lay W (nI z) (nI q)) := by
  refine ⟨⟨z, ?_, hz⟩, ⟨q, ?_, hq⟩, ?_, fun k hk => Or.inl ?_, fun c hc => ?_, fun l hl => ?_, fun l h1 h2 => ?_, fun l hl => ?_⟩
  all_goals simp only [cg_layV]
  · rfl
  · rfl
  · exact h.bd
  · simp [hk]
  · exact h.ld c hc
  · exact h.ce l hl
  · exact h.no l h1 h2
  · exact h.pl l hl
theorem LR.lay (hR : LR W M) (z q : Int32) : LR (cg_lay W z q) (rz (az_up (az_up (az_up M 192 0 z) 192 1 q) 192 2 0) 20) := by
  have low : ∀ c j, c ≠ 193 → (c ≠ 192 ∨ 3 ≤ j) → rz (az_up (az_up (az_up M 192 0 z) 192 1 q) 192 2 0) 20 c j = M c j := by
    intro c j h1 h2
    unfold rz az_up
    rw [if_neg (by omega), if_neg (by omega), if_neg (by omega), if_neg (by omega)]
  refine ⟨fun a k hd => ?_, fun l hl => ?_⟩
  · rw [cg_layV]
    have hb := hd
    rcases hd with ⟨rfl, h⟩ | ⟨rfl, h⟩ | ⟨rfl, rfl⟩ | ⟨rfl, h⟩ | ⟨h1, h⟩ | ⟨h1, h, h2⟩ | ⟨h1, h⟩
    · rcases (show k = 0 ∨ k = 1 ∨ k = 2 ∨ k = 3 by omega) with rfl | rfl | rfl | rfl
      · rfl
      · rfl
      · rw [low _ _ (by decide) (Or.inr (by decide))]
        exact hR.mark
      · rw [low _ _ (by decide) (Or.inr (by decide))]
        exact hR.resets
    · rcases (show k = 0 ∨ k = 1 ∨ k = 2 ∨ k = 3 ∨ k = 4 ∨ k = 5 ∨ k = 6 ∨ k = 7 by omega) with rfl | rfl | rfl | rfl | rfl | rfl | rfl | rfl
      · rfl
      all_goals
        rw [low _ _ (by decide) (Or.inr (by decide)), hR.1 _ _ hb]
        rfl
    · rw [low _ _ (by decide) (Or.inr (by decide)), hR.1 _ _ hb]
      rfl
    · rw [low _ _ (by decide) (Or.inr (by show 3 ≤ 13 + k; omega)), hR.1 _ _ hb]
      simp
    · rcases (show k = 0 ∨ k = 1 ∨ k = 2 ∨ k = 3 by omega) with rfl | rfl | rfl | rfl <;> rcases h1 with rfl | rfl | rfl | rfl | rfl <;> rfl
    · rcases h1 with rfl | rfl
      · rw [low _ _ (by decide) (Or.inl (by decide)), hR.1 _ _ hb]
        simp
      · rw [low _ _ (by decide) (Or.inl (by decide)), hR.1 _ _ hb]
        simp
    · rcases h1 with rfl | rfl
      · rw [low _ _ (by decide) (Or.inl (by decide)), hR.1 _ _ hb]
        simp
      · rw [low _ _ (by decide) (Or.inl (by decide)), hR.1 _ _ hb]
        simp
  · have e : cg_lay W z q 21 l = W 21 l := by
      rw [cg_layV]
      simp
    rw [e, low _ _ (by decide) (Or.inl (by decide)), low _ _ (by decide) (Or.inl (by decide))]
    exact hR.2 l hl
theorem la_isLaid (d : Nat) (hM : INVL M) (x : Int32) : LA (d + 8) m_L_isLaid [.ref 0, .ref 192, .ref 193, .ref 195, .int x] M := by
  obtain ⟨hR, hI, hX⟩ := inv_w hM
  generalize hWW : cg_cpW M 27 1 = W at hR hI hX
  have hz : lw x 3 < 3 := lw_lt _ (by decide)
  have hq : lw (x >>> (2 &&& 31)) 5 < 5 := lw_lt _ (by decide)
  generalize hze : 2 + lw x 3 = z
  generalize hqe : 2 + lw (x >>> (2 &&& 31)) 5 = s
  have z2 : 2 ≤ z := by omega
  have z4 : z ≤ 4 := by omega
  have s2 : 2 ≤ s := by omega
  have s6 : s ≤ 6 := by omega
  have bnd : ¬ (nI z < 2 ∨ 8 < nI z ∨ nI s < 2 ∨ ¬ nI s ≤ 12) := by
    rintro (c | c | c | c)
    · exact absurd c (show ¬ nI z < nI 2 from nI_nlt z2 (by omega))
    · exact absurd c (show ¬ nI 8 < nI z from nI_nlt (by omega) (by omega))
    · exact absurd c (show ¬ nI s < nI 2 from nI_nlt s2 (by omega))
    · exact c (nI_le (b := 12) (by omega) (by decide))
  have hcl : ∀ n, az_cnt (fun l => decide (W 19 l = 1)) n ≤ n := az_cnt_le _
  have hpos : 0 < az_cnt (fun l => decide (W 19 l = 1)) 12 ↔ ∃ j, j < 40 ∧ W 19 j = 1 := by
    have : ∀ n, 0 < az_cnt (fun l => decide (W 19 l = 1)) n ↔ ∃ j, j < n ∧ W 19 j = 1 := by
      intro n
      induction n with
      | zero => exact ⟨fun c => absurd c (by show ¬ 0 < 0; omega), fun ⟨j, c, _⟩ => absurd c (Nat.not_lt_zero j)⟩
      | succ n ih =>
        show 0 < az_cnt (fun l => decide (W 19 l = 1)) n + (if decide (W 19 n = 1) = true then 1 else 0) ↔ _
        by_cases c : W 19 n = 1
        · rw [if_pos (decide_eq_true c)]
          exact ⟨fun _ => ⟨n, by omega, c⟩, fun _ => by omega⟩
        · rw [if_neg (by simp [c]), Nat.add_zero, ih]
          exact ⟨fun ⟨j, h1, h2⟩ => ⟨j, by omega, h2⟩, fun ⟨j, h1, h2⟩ => ⟨j, by
            by_cases e : j = n
            · subst e; exact absurd h2 c
            · omega, h2⟩⟩
    rw [this]
    constructor
    · rintro ⟨j, h1, h2⟩
      exact ⟨j, by omega, h2⟩
    · rintro ⟨j, h1, h2⟩
      refine ⟨j, ?_, h2⟩
      by_cases c : j < 12
      · exact c
      · have := (hX.no j (by omega) h1).1
        rw [h2] at this
        exact absurd this (by decide)
  have b39 : az_RUN (d + 7) k_L_isLaid 39 [some (.ref 0), some (.ref 192), some (.ref 193), some (.ref 195), some (.int x), some (.int (nI (az_cnt (fun l => decide (W 19 l = 1)) 12))), some (.int 12), none, none] [] (az_hp M) (fun r1 h1 => r1 = some (.int 1) ∧ ∃ M', INVL M' ∧ h1 = az_hp M') := by
    refine az_sgp rfl rfl rfl rfl ?_
    refine az_cav rfl rfl rfl rfl (el_low (d + 6) x (n := 3) (by decide) (by decide)) ?_
    rw [show (Value.int (nI (lw x 3)) :: Value.int 2 :: ([] : List Value)) = [Value.int (nI (lw x 3)), Value.int (nI 2)] from rfl]
    refine az_sg 2 rfl ?_
    rw [nI_add, hze]
    refine az_sgp rfl rfl rfl rfl ?_
    refine az_cav rfl rfl rfl rfl (el_low (d + 6) (x >>> (2 &&& 31)) (n := 5) (by decide) (by decide)) ?_
    rw [show (Value.int (nI (lw (x >>> (2 &&& 31)) 5)) :: Value.int 2 :: ([] : List Value)) = [Value.int (nI (lw (x >>> (2 &&& 31)) 5)), Value.int (nI 2)] from rfl]
    refine az_sg 2 rfl ?_
    rw [nI_add, hqe]
    refine az_sgp rfl rfl rfl rfl ?_
    refine az_bra rfl rfl rfl (fun ql => ?_) (fun ql => ?_)
    · have hn : ¬ ∃ j, j < 40 ∧ W 19 j = 1 := fun c => absurd ql (nI_nle (hpos.mpr c) (by have := hcl 12; omega))
      have hA := A_layOK W bnd hn
      have hr := hR.lay (nI z) (nI s)
      have ea : nI z * nI s = nI (z * s) := nI_mul z s
      have hzs : z * s ≤ 4 * 6 := Nat.mul_le_mul z4 s6
      obtain ⟨M2, x2, g2, c2, w2⟩ := act_y (M1 := rz (az_up (az_up (az_up M 192 0 (nI z)) 192 1 (nI s)) 192 2 0) 20) d hWW hM.2.2.2 hA (by rw [ea]; exact nI_pos (by omega)) (fun c hc => by
        funext j
        unfold rz az_up
        rw [if_neg (by omega), if_neg (by omega), if_neg (by omega), if_neg (by omega)]) (iw_lay hI z2 (by omega) s2 (by omega)) (hX.lay z4 s6)
      have i2 : INVL M2 := inv_close c2 w2 (fun _ _ => rfl) (hr.cr g2)
      generalize hMx : az_up (az_up (az_up M 192 0 (nI z)) 192 1 (nI s)) 192 2 0 = Mx at x2
      have K : ∀ (m k : Nat), k + m = 20 → az_RUN (d + 7) k_L_isLaid 128 [some (.ref 0), some (.ref 192), some (.ref 193), some (.ref 195), some (.int x), some (.int (nI (az_cnt (fun l => decide (W 19 l = 1)) 12))), some (.int (nI z)), some (.int (nI s)), some (.int (nI k))] [] (az_hp (rz Mx k)) (fun r1 h1 => r1 = some (.int 1) ∧ ∃ M', INVL M' ∧ h1 = az_hp M') := by
        intro m
        induction m with
        | zero =>
          intro k hk
          have e : k = 20 := by omega
          subst e
          refine az_sgp rfl rfl rfl rfl ?_
          refine az_bra rfl rfl rfl (fun q => ?_) (fun q => ?_)
          rotate_left
          · exact absurd (nI_le (a := 20) (b := 20) (Nat.le_refl _) (by decide)) q
          refine az_sgp rfl rfl rfl rfl ?_
          refine az_cav rfl rfl rfl rfl (x2) ?_
          refine az_sgp rfl rfl rfl rfl ?_
          refine az_bra rfl rfl rfl (fun q => ?_) (fun q => ?_)
          · refine az_sgp rfl rfl rfl rfl ?_
            refine az_ret rfl rfl rfl rfl ?_
            exact ⟨rfl, M2, i2, rfl⟩
          · exact absurd rfl q
        | succ m ih =>
          intro k hk
          have i1 := ih (k + 1) (by omega)
          rw [← rzS, ← nI_1 k] at i1
          refine az_sgp rfl rfl rfl rfl ?_
          refine az_bra rfl rfl rfl (fun q0 => ?_) (fun q0 => ?_)
          · exact absurd q0 (nI_ge (a := k) (b := 20) (by omega) (by decide))
          refine az_sgp rfl rfl rfl rfl ?_
          refine az_bra rfl rfl rfl (fun q3 => ?_) (fun q3 => ?_)
          · have e3 : k = 3 := (nI_eq (a := k) (b := 3) (by omega) (by decide)).mp q3
            rw [if_pos e3] at i1
            refine az_sgp rfl rfl rfl rfl ?_
            refine az_ast rfl rfl (k := k) (rfl) (by omega) (by decide) ?_
            refine az_sg 2 rfl ?_
            exact i1
          · have e3 : ¬ k = 3 := fun c => q3 (by rw [c]; rfl)
            rw [if_neg e3] at i1
            refine az_sgp rfl rfl rfl rfl ?_
            refine az_ast rfl rfl (k := k) (rfl) (by omega) (by decide) ?_
            refine az_sg 2 rfl ?_
            exact i1
      refine az_sgp rfl rfl rfl rfl ?_
      refine az_ast rfl rfl (k := 0) (rfl) (by omega) (by decide) ?_
      refine az_sgp rfl rfl rfl rfl ?_
      refine az_ast rfl rfl (k := 1) (rfl) (by omega) (by decide) ?_
      refine az_sgp rfl rfl rfl rfl ?_
      refine az_ast rfl rfl (k := 2) (rfl) (by omega) (by decide) ?_
      refine az_sg 2 rfl ?_
      have k0 := K 20 0 (by omega)
      rw [rz0] at k0
      rw [hMx]
      exact k0
    · have hy : ∃ j, j < 40 ∧ W 19 j = 1 := hpos.mp (by
        by_cases c : az_cnt (fun l => decide (W 19 l = 1)) 12 = 0
        · rw [c] at ql
          exact absurd (by decide) ql
        · omega)
      obtain ⟨M2, x2, i2⟩ := act_e d hWW hM (A_layNot W bnd hy) (by decide)
      obtain ⟨M3, x3, i3⟩ := act_e d rfl i2 (A_layX (cg_cpW M2 27 1) (z := 9) (q := s) (Or.inr (Or.inl (by decide))) (by decide) (by omega)) (by decide)
      obtain ⟨M4, x4, i4⟩ := act_e d rfl i3 (A_layX (cg_cpW M3 27 1) (z := z) (q := 13) (Or.inr (Or.inr (Or.inr (by decide)))) (by omega) (by decide)) (by decide)
      refine az_sgp rfl rfl rfl rfl ?_
      refine az_cav rfl rfl rfl rfl (x2) ?_
      refine az_sgp rfl rfl rfl rfl ?_
      refine az_bra rfl rfl rfl (fun q => ?_) (fun q => ?_)
      · refine az_sgp rfl rfl rfl rfl ?_
        refine az_cav rfl rfl rfl rfl (x3) ?_
        refine az_sgp rfl rfl rfl rfl ?_
        refine az_bra rfl rfl rfl (fun q => ?_) (fun q => ?_)
        · refine az_sgp rfl rfl rfl rfl ?_
          refine az_cav rfl rfl rfl rfl (x4) ?_
          refine az_sgp rfl rfl rfl rfl ?_
          refine az_bra rfl rfl rfl (fun q => ?_) (fun q => ?_)
          · refine az_sgp rfl rfl rfl rfl ?_
            refine az_ret rfl rfl rfl rfl ?_
            exact ⟨rfl, M4, i4, rfl⟩
          · exact absurd rfl q
        · exact absurd rfl q
      · exact absurd rfl q
  have K : ∀ (m k : Nat), k + m = 12 → az_RUN (d + 7) k_L_isLaid 6 [some (.ref 0), some (.ref 192), some (.ref 193), some (.ref 195), some (.int x), some (.int (nI (az_cnt (fun l => decide (W 19 l = 1)) k))), some (.int (nI k)), none, none] [] (az_hp M) (fun r1 h1 => r1 = some (.int 1) ∧ ∃ M', INVL M' ∧ h1 = az_hp M') := by
    intro m
    induction m with
    | zero =>
      intro k hk
      have e : k = 12 := by omega
      subst e
      refine az_sgp rfl rfl rfl rfl ?_
      refine az_bra rfl rfl rfl (fun q => ?_) (fun q => ?_)
      · exact b39
      · exact absurd (nI_le (a := 12) (b := 12) (Nat.le_refl _) (by decide)) q
    | succ m ih =>
      intro k hk
      have i1 := ih (k + 1) (by omega)
      rw [← nI_1 k] at i1
      refine az_sgp rfl rfl rfl rfl ?_
      refine az_bra rfl rfl rfl (fun q0 => ?_) (fun q0 => ?_)
      · exact absurd q0 (nI_ge (a := k) (b := 12) (by omega) (by decide))
      refine az_sgp rfl rfl rfl rfl ?_
      refine az_ald rfl rfl (k := 4 * k) (ix4 k) (by omega) (by decide) (hR.lw (by omega)) ?_
      refine az_sgp rfl rfl rfl rfl ?_
      refine az_bra rfl rfl rfl (fun q1 => ?_) (fun q1 => ?_)
      · have e : az_cnt (fun l => decide (W 19 l = 1)) (k + 1) = az_cnt (fun l => decide (W 19 l = 1)) k + 1 := by
          show az_cnt _ k + (if decide (W 19 k = 1) = true then 1 else 0) = _
          rw [if_pos (decide_eq_true q1)]
        rw [e, ← nI_1] at i1
        refine az_sgp rfl rfl rfl rfl ?_
        refine az_sg 1 rfl ?_
        exact i1
      · have e : az_cnt (fun l => decide (W 19 l = 1)) (k + 1) = az_cnt (fun l => decide (W 19 l = 1)) k + 0 := by
          show az_cnt _ k + (if decide (W 19 k = 1) = true then 1 else 0) = _
          rw [if_neg (by simp [q1])]
        rw [e, ← nI_add] at i1
        refine az_sgp rfl rfl rfl rfl ?_
        refine az_sg 1 rfl ?_
        exact i1
  refine LA.of (az_in0 (code := k_L_isLaid) (ls := [some (.ref 0), some (.ref 192), some (.ref 193), some (.ref 195), some (.int x), none, none, none, none]) rfl rfl rfl ?_)
  refine az_sg 4 rfl ?_
  exact K 12 0 (by omega)
end DSK
