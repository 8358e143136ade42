/-! THE LAW: isWritten, isPut -/
section WRI
variable {M M1 W X N : az_Mem} {a : Int32} {m8 : Nat} {args : List Value}
theorem act_y (d : Nat) (hW : cg_cpW M 27 1 = W) (hh : HI M) (hA : ACT W m8 args a N) (ha : ¬ a < 0) (h1 : ∀ c, c < 192 → M1 c = M c) (hI : IW N) (hX : LX N) : ∃ M', az_EX (d + 7) m8 (.ref 0 :: args) (az_hp M1) (some (.int a)) (az_hp M') ∧ (∀ c, 192 ≤ c → M' c = M1 c) ∧ CI M' ∧ sW N M' := by
  subst hW
  exact act_yes d hh hA ha h1 hI hX
theorem act_e (d : Nat) (hW : cg_cpW M 27 1 = W) (hM : INVL M) (hA : ACT W m8 args a N) (ha : a < 0) : ∃ M', az_EX (d + 7) m8 (.ref 0 :: args) (az_hp M) (some (.int a)) (az_hp M') ∧ INVL M' := by
  subst hW
  exact act_err d hM hA ha
theorem LX.oth (h : LX W) (b k : Nat) (x : Int32) (hb : b ≠ 2 ∧ b ≠ 17 ∧ b ≠ 6 ∧ b ≠ 14 ∧ b ≠ 21 ∧ b ≠ 19 ∧ b ≠ 23) : LX (az_up W b k x) := by
  obtain ⟨b1, b2, b3, b4, b5, b6, b7⟩ := hb
  exact h.tr (by rw [az_up_row b1.symm]) (by rw [az_up_row b1.symm]) (by rw [az_up_row b2.symm]) (az_up_row b3.symm) (az_up_row b4.symm) (az_up_row b5.symm) (az_up_row b6.symm) (az_up_row b7.symm)
theorem LX.mark (h : LX W) (k : Nat) (x : Int32) (hk : 2 ≤ k) : LX (az_up W 2 k x) :=
  h.tr (by unfold az_up; rw [if_neg (by omega)]) (by unfold az_up; rw [if_neg (by omega)]) (by rw [az_up_row (by decide)]) (az_up_row (by decide)) (az_up_row (by decide)) (az_up_row (by decide)) (az_up_row (by decide)) (az_up_row (by decide))
theorem LX.load (h : LX W) (k : Nat) {l : Nat} (hl : l < 12) : LX (az_up W 14 k (nI l)) := by
  refine ⟨h.zn, h.sl, h.bd, h.kd, fun c hc => ?_, h.ce, h.no, h.pl⟩
  unfold az_up
  split
  · exact ⟨l, hl, rfl⟩
  · exact h.ld c hc
theorem LX.cell (h : LX W) (k : Nat) {z s : Nat} (hz : z < 4) (hs : s < 6) : LX (az_up W 21 k (nI (12 * z + s))) := by
  refine ⟨h.zn, h.sl, h.bd, h.kd, h.ld, fun l hl => ?_, h.no, h.pl⟩
  unfold az_up
  split
  · exact ⟨z, s, hz, hs, rfl⟩
  · exact h.ce l hl
theorem LX.heat (h : LX W) {k : Nat} (hk : k < 12) (x : Int32) : LX (az_up W 23 k x) := by
  refine ⟨h.zn, h.sl, h.bd, h.kd, h.ld, h.ce, fun l h1 h2 => ⟨(h.no l h1 h2).1, ?_⟩, h.pl⟩
  unfold az_up
  rw [if_neg (by omega)]
  exact (h.no l h1 h2).2
theorem LX.place (h : LX W) {k : Nat} (hk : k < 12) {x : Int32} (hx : x = 0 ∨ x = 1 ∨ x = 2) : LX (az_up W 19 k x) := by
  refine ⟨h.zn, h.sl, h.bd, h.kd, h.ld, h.ce, fun l h1 h2 => ⟨?_, (h.no l h1 h2).2⟩, fun l hl => ?_⟩
  · unfold az_up
    rw [if_neg (by omega)]
    exact (h.no l h1 h2).1
  · unfold az_up
    split
    · exact hx
    · exact h.pl l hl
theorem LX.pay (h : LX W) (c : Int32) : LX (cg_pay W c) := (h.oth 24 1 _ (by decide)).oth 24 6 _ (by decide)
theorem LX.ub (h : LX W) (q B : Nat) : LX (cg_ub W q B) := by
  have e : ∀ c, c ≠ 26 → c ≠ 24 → cg_ub W q B c = W c := fun c h1 h2 => by
    funext j
    simp [cg_ub, h1, h2]
  exact h.tr (by rw [e 2 (by decide) (by decide)]) (by rw [e 2 (by decide) (by decide)]) (by rw [e 17 (by decide) (by decide)]) (e 6 (by decide) (by decide)) (e 14 (by decide) (by decide)) (e 21 (by decide) (by decide)) (e 19 (by decide) (by decide)) (e 23 (by decide) (by decide))
theorem LX.cm (h : LX X) {a S p l : Nat} (ha : X 24 0 = nI a) (h4 : a < 4) (hS : X 2 1 = nI S) (h6 : S ≤ 6) (hp : X 4 a = nI p) (hpS : p < S) (hl : l < 12) : LX (cg_cm X (nI l)) := by
  rw [cg_cmN ha (by omega) hS (by omega) hp hpS (by omega)]
  have h1 : LX (az_up (az_up (az_up (az_up X 14 (12 * a + p) (nI l)) 16 (12 * a + p) (X 2 2)) 2 2 (X 2 2 + 1)) 4 a (nI p + 1)) := (((h.load _ hl).oth 16 _ _ (by decide)).mark 2 _ (by decide)).oth 4 _ _ (by decide)
  by_cases q : p + 1 = S
  · simp only [if_pos q]
    exact ((h1.oth 8 _ _ (by decide)).place hl (Or.inr (Or.inl rfl))).cell _ h4 (by omega)
  · simp only [if_neg q]
    exact (h1.place hl (Or.inr (Or.inl rfl))).cell _ h4 (by omega)
/-- where the caravan is, as law and class have it -/
theorem pts (hI : IW W) (hX : LX W) : ∃ Z a S p : Nat, W 2 0 = nI Z ∧ W 24 0 = nI a ∧ 2 ≤ Z ∧ Z ≤ 4 ∧ a < Z ∧ a < 4 ∧ W 2 1 = nI S ∧ 2 ≤ S ∧ S ≤ 6 ∧ W 4 a = nI p ∧ p ≤ S ∧ (W 8 a = 0 → p < S) := by
  obtain ⟨Z, a, S, p, hZ, ha, h2, h8, haZ, ha8, hS, h2S, h12, hp, hpS, hps⟩ := hI.pt
  obtain ⟨Z', hZ', h4⟩ := hX.zn
  obtain ⟨S', hS', h6⟩ := hX.sl
  have eZ : Z = Z' := (nI_eq (by omega) (by omega)).mp (hZ.symm.trans hZ')
  have eS : S = S' := (nI_eq (by omega) (by omega)).mp (hS.symm.trans hS')
  subst eZ eS
  exact ⟨Z, a, S, p, hZ, ha, h2, h4, haZ, by omega, hS, h2S, h6, hp, hpS, hps⟩
theorem A_writeX (hI : IW W) {n : Int32} (h : ¬ cg_known n) : ACT W m_X8_write [.int n] (-1) W := by
  have q := A_write hI n
  rw [show cg_write W n = (-1, W) from if_pos h] at q
  exact q
theorem A_putX (hI : IW W) {n : Int32} (h : ¬ cg_known n) : ACT W m_X8_put [.int n] (-1) W := by
  have q := A_put hI n
  rw [show cg_put W n = (-1, W) from if_pos h] at q
  exact q
theorem cg_cm_eq {l : Nat} {h : Int32} : cg_pay (az_up W 23 l h) 1 = az_up (cg_pay W 1) 23 l h := by
  unfold cg_pay
  rw [az_up_comm (a := 23) (b := 24) (Or.inl (by decide)), az_up_comm (a := 23) (b := 24) (Or.inl (by decide))]
  rfl
theorem cg_put_eq {q B : Nat} : cg_pay (az_up (cg_ub W q B) 24 7 (W 24 7 + 1)) 1 = az_up (cg_ub (cg_pay W 1) q B) 24 7 (W 24 7 + 1) := by
  funext c j
  simp only [cg_pay, az_up, cg_ub]
  by_cases hc : c = 24
  · subst hc
    by_cases j1 : j = 1
    · subst j1; simp
    by_cases j4 : j = 4
    · subst j4; simp
    by_cases j6 : j = 6
    · subst j6; simp
    by_cases j7 : j = 7
    · subst j7; simp
    simp [j1, j4, j6, j7]
  · simp [hc]
theorem la_isWritten (d : Nat) (hM : INVL M) (x : Int32) : LA (d + 8) m_L_isWritten [.ref 0, .ref 192, .ref 193, .ref 194, .ref 195, .int x] M := by
  obtain ⟨hR, hI, hX⟩ := inv_w hM
  generalize hWW : cg_cpW M 27 1 = W at hR hI hX
  obtain ⟨Z, a, S, p, hZ, ha, h2, h4Z, haZ, h4, hS, h2S, h6, hp, hpS, hps⟩ := pts hI hX
  have hl : lw x 12 < 12 := lw_lt x (by decide)
  refine LA.of (az_in0 (code := k_L_isWritten) (ls := [some (.ref 0), some (.ref 192), some (.ref 193), some (.ref 194), some (.ref 195), some (.int x), none, none]) rfl rfl rfl ?_)
  refine az_sgp rfl rfl rfl rfl ?_
  refine az_cav rfl rfl rfl rfl (el_low (d + 6) x (n := 12) (by decide) (by decide)) ?_
  generalize lw x 12 = l at hl ⊢
  obtain ⟨h, h99, eh⟩ := hI.heat l (by omega)
  have hA := A_write hI (nI l)
  rw [cg_writeN (by omega) eh h99 ha (by omega) hp] at hA
  have bot : az_RUN (d + 7) k_L_isWritten 41 [some (.ref 0), some (.ref 192), some (.ref 193), some (.ref 194), some (.ref 195), some (.int x), some (.int (nI l)), none] [.int (nI (cg_hb h))] (az_hp M) (fun r1 h1 => r1 = some (.int 1) ∧ ∃ M', INVL M' ∧ h1 = az_hp M') := by
    have err : ∀ (N : az_Mem), ACT W m_X8_write [.int (nI l)] (-4) N → az_RUN (d + 7) k_L_isWritten 67 [some (.ref 0), some (.ref 192), some (.ref 193), some (.ref 194), some (.ref 195), some (.int x), some (.int (nI l)), some (.int (nI (cg_hb h)))] [] (az_hp M) (fun r1 h1 => r1 = some (.int 1) ∧ ∃ M', INVL M' ∧ h1 = az_hp M') := by
      intro N hA
      obtain ⟨M2, x2, i2⟩ := act_e d hWW hM hA (by decide)
      obtain ⟨M3, x3, i3⟩ := act_e d rfl i2 (A_writeX (W := cg_cpW M2 27 1) (inv_w i2).2.1 (n := 40) (by decide)) (by decide)
      refine az_sgp rfl rfl rfl rfl ?_
      refine az_cav rfl rfl rfl rfl (x2) ?_
      refine az_sgp rfl rfl rfl rfl ?_
      refine az_bra rfl rfl rfl (fun q => ?_) (fun q => ?_)
      · refine az_sgp rfl rfl rfl rfl ?_
        refine az_cav rfl rfl rfl rfl (x3) ?_
        refine az_sgp rfl rfl rfl rfl ?_
        refine az_bra rfl rfl rfl (fun q => ?_) (fun q => ?_)
        · refine az_sgp rfl rfl rfl rfl ?_
          refine az_ret rfl rfl rfl rfl ?_
          exact ⟨rfl, M3, i3, rfl⟩
        · exact absurd rfl q
      · exact absurd rfl q
    refine az_sgp rfl rfl rfl rfl ?_
    refine az_ald rfl rfl (k := 4 * l) (ix4 l) (by omega) (by decide) (hR.lw hl) ?_
    refine az_sgp rfl rfl rfl rfl ?_
    refine az_bra rfl rfl rfl (fun q2 => ?_) (fun q2 => ?_)
    · rw [if_pos q2] at hA
      exact err _ hA
    rw [if_neg q2] at hA
    refine az_sgp rfl rfl rfl rfl ?_
    refine az_ald rfl rfl (k := 2) (rfl) (by omega) (by decide) (hR.at_.trans ha) ?_
    refine az_sgp rfl rfl rfl rfl ?_
    refine az_ca2 rfl rfl rfl rfl (el_mayBe (d + 6) hR hX h4 (nI (cg_hb h))) (fun q3 => ?_) (fun q3 => ?_)
    rotate_left
    · rw [if_pos q3] at hA
      refine az_ifneF rfl ?_
      exact err _ hA
    rw [if_neg (not_not_intro q3)] at hA
    refine az_ifneT rfl ?_
    refine az_sgp rfl rfl rfl rfl ?_
    refine az_ald rfl rfl (k := 3) (rfl) (by omega) (by decide) (hR.water) ?_
    obtain ⟨w, sk, hw, hsk, hwk, hk2⟩ := hI.water
    refine az_sgp rfl rfl rfl rfl ?_
    refine az_bra rfl rfl rfl (fun q5 => ?_) (fun q5 => ?_)
    rotate_left
    · rw [if_pos q5] at hA
      obtain ⟨M2, x2, i2⟩ := act_e d hWW hM hA (show (-6 : Int32) < 0 by decide)
      refine az_sgp rfl rfl rfl rfl ?_
      refine az_cav rfl rfl rfl rfl (x2) ?_
      refine az_sgp rfl rfl rfl rfl ?_
      refine az_bra rfl rfl rfl (fun q => ?_) (fun q => ?_)
      · refine az_sgp rfl rfl rfl rfl ?_
        refine az_ret rfl rfl rfl rfl ?_
        exact ⟨rfl, M2, i2, rfl⟩
      · exact absurd rfl q
    · rw [if_neg (not_not_intro q5)] at hA
      have hpl : p < S := hps (by
        have := q3.1
        rw [az_rdN (by omega) (by decide)] at this
        exact this)
      have hx1 := (hX.heat hl (nI (cg_hb h)))
      have hlx : LX (cg_cm (az_up (cg_pay W 1) 23 l (nI (cg_hb h))) (nI l)) := LX.cm ((hX.pay 1).heat hl _) (a := a) ha h4 hS h6 hp hpl hl
      have hiw : IW (cg_cm (az_up (cg_pay W 1) 23 l (nI (cg_hb h))) (nI l)) := by
        have e := cg_writeN (W := W) (l := l) (by omega) eh h99 ha (by omega) hp
        rw [if_neg q2, if_neg (not_not_intro q3), if_neg (not_not_intro q5)] at e
        have := iw_write hI (nI l) (by rw [e]; exact Or.inl (nI_pos' (by omega)))
        rw [e] at this
        exact this
      obtain ⟨M2, x2, g2, c2, w2⟩ := act_y (M1 := az_up M 195 (4 * l + 3) (nI (cg_hb h))) d hWW hM.2.2.2 hA (nI_pos (by omega)) (fun c hc => az_up_row (by omega)) hiw hlx
      have r2 : LR (az_up W 23 l (nI (cg_hb h))) M2 := (hR.m_lh hl (nI (cg_hb h))).cr g2
      obtain ⟨M3, f3, r3, x3⟩ := el_comes (d + 6) r2 (a := a) (S := S) (p := p) (l := l) ha h4 hS h6 hp hpl hl
      rw [cg_cm_eq] at r3
      refine az_sgp rfl rfl rfl rfl ?_
      refine az_ast rfl rfl (k := 4 * l + 3) (ix4c l 3) (by omega) (by decide) ?_
      refine az_sgp rfl rfl rfl rfl ?_
      refine az_cav rfl rfl rfl rfl (x2) ?_
      refine az_sgp rfl rfl rfl rfl ?_
      refine az_cav rfl rfl rfl rfl (x3) ?_
      refine az_bra rfl rfl rfl (fun q => ?_) (fun q => ?_)
      · refine az_sgp rfl rfl rfl rfl ?_
        refine az_ret rfl rfl rfl rfl ?_
        exact ⟨rfl, M3, inv_close c2 w2 f3 r3, rfl⟩
      · exact absurd rfl q
  refine az_sgp rfl rfl rfl rfl ?_
  refine az_ald rfl rfl (k := 4 * l + 3) (ix4c l 3) (by omega) (by decide) ((hR.lh hl).trans eh) ?_
  refine az_sgp rfl rfl rfl rfl ?_
  refine az_bra rfl rfl rfl (fun q => ?_) (fun q => ?_)
  · have hh : h < 99 := by
      rw [nI_1] at q
      have := (nI_leI (a := h + 1) (b := 99) (by omega) (by decide)).mp q
      omega
    refine az_sgp rfl rfl rfl rfl ?_
    refine az_ald rfl rfl (k := 4 * l + 3) (ix4c l 3) (by omega) (by decide) ((hR.lh hl).trans eh) ?_
    have e : cg_hb h = h + 1 := if_pos hh
    rw [e, ← nI_1] at bot
    refine az_sg 2 rfl ?_
    exact bot
  · have hh : ¬ h < 99 := by
      intro c
      exact q (by rw [nI_1]; exact nI_le (b := 99) (by omega) (by decide))
    have e : cg_hb h = 99 := if_neg hh
    rw [e] at bot
    refine az_sg 2 rfl ?_
    exact bot
theorem la_isPut (d : Nat) (hM : INVL M) (x : Int32) : LA (d + 8) m_L_isPut [.ref 0, .ref 192, .ref 193, .ref 194, .ref 195, .int x] M := by
  obtain ⟨hR, hI, hX⟩ := inv_w hM
  generalize hWW : cg_cpW M 27 1 = W at hR hI hX
  obtain ⟨Z, a, S, p, hZ, ha, h2, h4Z, haZ, h4, hS, h2S, h6, hp, hpS, hps⟩ := pts hI hX
  refine LA.of ?_
  have bot : ∀ l, l < 12 → az_RUN (d + 7) k_L_isPut 31 [some (.ref 0), some (.ref 192), some (.ref 193), some (.ref 194), some (.ref 195), some (.int x), none] [.int (nI l)] (az_hp M) (fun r1 h1 => r1 = some (.int 1) ∧ ∃ M', INVL M' ∧ h1 = az_hp M') := by
    intro l hl
    have hA := A_put hI (nI l)
    rw [cg_putN (by omega) ha (by omega) hp hI] at hA
    have err : ∀ (N : az_Mem), ACT W m_X8_put [.int (nI l)] (-4) N → az_RUN (d + 7) k_L_isPut 64 [some (.ref 0), some (.ref 192), some (.ref 193), some (.ref 194), some (.ref 195), some (.int x), some (.int (nI l))] [] (az_hp M) (fun r1 h1 => r1 = some (.int 1) ∧ ∃ M', INVL M' ∧ h1 = az_hp M') := by
      intro N hA
      obtain ⟨M2, x2, i2⟩ := act_e d hWW hM hA (by decide)
      obtain ⟨M3, x3, i3⟩ := act_e d rfl i2 (A_putX (W := cg_cpW M2 27 1) (inv_w i2).2.1 (n := 40) (by decide)) (by decide)
      refine az_sgp rfl rfl rfl rfl ?_
      refine az_cav rfl rfl rfl rfl (x2) ?_
      refine az_sgp rfl rfl rfl rfl ?_
      refine az_bra rfl rfl rfl (fun q => ?_) (fun q => ?_)
      · refine az_sgp rfl rfl rfl rfl ?_
        refine az_cav rfl rfl rfl rfl (x3) ?_
        refine az_sgp rfl rfl rfl rfl ?_
        refine az_bra rfl rfl rfl (fun q => ?_) (fun q => ?_)
        · refine az_sgp rfl rfl rfl rfl ?_
          refine az_ret rfl rfl rfl rfl ?_
          exact ⟨rfl, M3, i3, rfl⟩
        · exact absurd rfl q
      · exact absurd rfl q
    refine az_sgp rfl rfl rfl rfl ?_
    refine az_ald rfl rfl (k := 4 * l) (ix4 l) (by omega) (by decide) (hR.lw hl) ?_
    refine az_sgp rfl rfl rfl rfl ?_
    refine az_bra rfl rfl rfl (fun q2 => ?_) (fun q2 => ?_)
    rotate_left
    · rw [if_pos q2] at hA
      exact err _ hA
    rw [if_neg (not_not_intro q2)] at hA
    refine az_sgp rfl rfl rfl rfl ?_
    refine az_ald rfl rfl (k := 2) (rfl) (by omega) (by decide) (hR.at_.trans ha) ?_
    refine az_sgp rfl rfl rfl rfl ?_
    refine az_ald rfl rfl (k := 4 * l + 3) (ix4c l 3) (by omega) (by decide) (hR.lh hl) ?_
    refine az_ca2 rfl rfl rfl rfl (el_mayBe (d + 6) hR hX h4 (W 23 l)) (fun q3 => ?_) (fun q3 => ?_)
    rotate_left
    · rw [if_pos q3] at hA
      refine az_ifneF rfl ?_
      exact err _ hA
    rw [if_neg (not_not_intro q3)] at hA
    refine az_ifneT rfl ?_
    refine az_sgp rfl rfl rfl rfl ?_
    refine az_ald rfl rfl (k := 3) (rfl) (by omega) (by decide) (hR.water) ?_
    refine az_sgp rfl rfl rfl rfl ?_
    refine az_bra rfl rfl rfl (fun q5 => ?_) (fun q5 => ?_)
    rotate_left
    · rw [if_pos q5] at hA
      obtain ⟨M2, x2, i2⟩ := act_e d hWW hM hA (show (-6 : Int32) < 0 by decide)
      refine az_sgp rfl rfl rfl rfl ?_
      refine az_cav rfl rfl rfl rfl (x2) ?_
      refine az_sgp rfl rfl rfl rfl ?_
      refine az_bra rfl rfl rfl (fun q => ?_) (fun q => ?_)
      · refine az_sgp rfl rfl rfl rfl ?_
        refine az_ret rfl rfl rfl rfl ?_
        exact ⟨rfl, M2, i2, rfl⟩
      · exact absurd rfl q
    · rw [if_neg (not_not_intro q5)] at hA
      have hpl : p < S := hps (by
        have := q3.1
        rw [az_rdN (by omega) (by decide)] at this
        exact this)
      obtain ⟨B, R, qq, hB, hRo, hBR, hR6, hqB, hql, hun⟩ := hI.bagl (by omega) q2
      have ewh := cg_whN (W := W) (l := l) (by omega) q2 hB (by omega) hqB hql hun
      have hlx : LX (cg_cm (cg_wh1 W (nI l)) (nI l)) := by
        rw [ewh]
        have hx0 : LX (az_up (cg_ub (cg_pay W 1) qq B) 24 7 (W 24 7 + 1)) := ((hX.pay 1).ub qq B).oth 24 7 _ (by decide)
        refine LX.cm hx0 (a := a) (S := S) (p := p) ?_ h4 ?_ h6 ?_ hpl hl
        · simp [az_up, cg_ub, cg_pay, ha]
        · simp [az_up, cg_ub, cg_pay, hS]
        · simp [az_up, cg_ub, cg_pay, hp]
      have hiw : IW (cg_cm (cg_wh1 W (nI l)) (nI l)) := by
        have e := cg_putN (W := W) (l := l) (by omega) ha (by omega) hp hI
        rw [if_neg (not_not_intro q2), if_neg (not_not_intro q3), if_neg (not_not_intro q5)] at e
        have := iw_put hI (nI l) (by rw [e]; exact Or.inl (nI_pos' (by omega)))
        rw [e] at this
        exact this
      obtain ⟨M1, f1, r1, x1⟩ := el_leaves (d + 5) hR hB hqB (by omega) hql hun
      have r1' := r1.m_moved (W 24 7 + 1)
      obtain ⟨M2, x2, g2, c2, w2⟩ := act_y (M1 := az_up M1 192 11 (W 24 7 + 1)) d hWW hM.2.2.2 hA (nI_pos (by omega)) (fun c hc => by rw [az_up_row (by omega)]; exact f1 c hc) hiw hlx
      obtain ⟨M3, f3, r3, x3⟩ := el_comes (d + 6) (r1'.cr g2) (a := a) (S := S) (p := p) (l := l) (by simp [az_up, cg_ub, ha]) h4 (by simp [az_up, cg_ub, hS]) h6 (by simp [az_up, cg_ub, hp]) hpl hl
      rw [cg_put_eq, ← ewh] at r3
      refine az_sgp rfl rfl rfl rfl ?_
      refine az_can rfl rfl rfl rfl (x1) ?_
      refine az_sgp rfl rfl rfl rfl ?_
      refine az_ald rfl rfl (k := 11) (rfl) (by omega) (by decide) ((show _ = W 24 7 from r1.moved.trans (by simp [cg_ub]))) ?_
      refine az_sgp rfl rfl rfl rfl ?_
      refine az_ast rfl rfl (k := 11) (rfl) (by omega) (by decide) ?_
      refine az_sgp rfl rfl rfl rfl ?_
      refine az_cav rfl rfl rfl rfl (x2) ?_
      refine az_sgp rfl rfl rfl rfl ?_
      refine az_cav rfl rfl rfl rfl (x3) ?_
      refine az_bra rfl rfl rfl (fun q => ?_) (fun q => ?_)
      · refine az_sgp rfl rfl rfl rfl ?_
        refine az_ret rfl rfl rfl rfl ?_
        exact ⟨rfl, M3, inv_close c2 w2 f3 r3, rfl⟩
      · exact absurd rfl q
  obtain ⟨B, R, hB, hRo, hBR, hR6, hb1, hb2, hb3⟩ := hI.bag
  refine az_in0 (code := k_L_isPut) (ls := [some (.ref 0), some (.ref 192), some (.ref 193), some (.ref 194), some (.ref 195), some (.int x), none]) rfl rfl rfl ?_
  refine az_sgp rfl rfl rfl rfl ?_
  refine az_ald rfl rfl (k := 12) (rfl) (by omega) (by decide) (hR.many.trans hB) ?_
  refine az_bra rfl rfl rfl (fun q => ?_) (fun q => ?_)
  · have hB0 : B = 0 := by
      by_cases c : B = 0
      · exact c
      · exact absurd q (nI_nle (by omega) (by omega))
    refine az_sgp rfl rfl rfl rfl ?_
    refine az_cav rfl rfl rfl rfl (el_low (d + 6) x (n := 12) (by decide) (by decide)) ?_
    exact bot _ (lw_lt x (by decide))
  · have hB0 : 0 < B := by
      by_cases c : B = 0
      · subst c
        exact absurd (by decide) q
      · omega
    refine az_sgp rfl rfl rfl rfl ?_
    refine az_ald rfl rfl (k := 12) (rfl) (by omega) (by decide) (hR.many.trans hB) ?_
    refine az_cav rfl rfl rfl rfl (el_low (d + 6) x (n := B) hB0 (by omega)) ?_
    have hi := lw_lt x hB0
    obtain ⟨l, hl, el, e2⟩ := hb1 _ hi
    have hl12 : l < 12 := by
      by_cases c : l < 12
      · exact c
      · have := (hX.no l (by omega) hl).1
        rw [e2] at this
        exact absurd this (by decide)
    refine az_sgp rfl rfl rfl rfl ?_
    refine az_ald rfl rfl (k := 13 + lw x B) (nI_add 13 _) (by omega) (by decide) ((hR.bag (by omega)).trans el) ?_
    refine az_sg 1 rfl ?_
    exact bot l hl12
end WRI
