/-! THE LAW'S ROWS ARE SET: comes, step, place, leaves, resets -/
/-- what lies below the law's rows stays -/
def frL (M M' : az_Mem) : Prop := ∀ c, c < 192 → M' c = M c
theorem frL.rf (M : az_Mem) : frL M M := fun _ _ => rfl
theorem frL.up {M M' : az_Mem} (h : frL M M') {b : Nat} (hb : 192 ≤ b) (k : Nat) (x : Int32) : frL M (az_up M' b k x) := fun c h1 => by rw [az_up_row (by omega)]; exact h c h1
theorem frL.tr {M M' M'' : az_Mem} (h : frL M M') (h' : frL M' M'') : frL M M'' := fun c h1 => by rw [h' c h1, h c h1]
section SETL
variable {M W : az_Mem}
theorem up6 {W : az_Mem} {k1 k2 k3 : Nat} {x1 x2 x3 x4 x5 : Int32} : az_up (az_up (az_up (az_up (az_up W 14 k1 x1) 16 k2 x2) 2 k3 x3) 24 1 x4) 24 6 x5 = az_up (az_up (az_up (az_up (az_up W 24 1 x4) 24 6 x5) 14 k1 x1) 16 k2 x2) 2 k3 x3 := by
  have c1 : ∀ (X : az_Mem) (j k : Nat) (x y : Int32), az_up (az_up X 2 j x) 24 k y = az_up (az_up X 24 k y) 2 j x := fun X j k x y => az_up_comm (Or.inl (by decide))
  have c2 : ∀ (X : az_Mem) (j k : Nat) (x y : Int32), az_up (az_up X 16 j x) 24 k y = az_up (az_up X 24 k y) 16 j x := fun X j k x y => az_up_comm (Or.inl (by decide))
  have c3 : ∀ (X : az_Mem) (j k : Nat) (x y : Int32), az_up (az_up X 14 j x) 24 k y = az_up (az_up X 24 k y) 14 j x := fun X j k x y => az_up_comm (Or.inl (by decide))
  rw [c1, c1, c2, c2, c3, c3]
theorem el_comes (d : Nat) (hR : LR W M) {a S p l : Nat} (ha : W 24 0 = nI a) (h4 : a < 4) (hS : W 2 1 = nI S) (h6 : S ≤ 6) (hp : W 4 a = nI p) (hpS : p < S) (hl : l < 12) : ∃ M', frL M M' ∧ LR (cg_cm (cg_pay W 1) (nI l)) M' ∧ az_EX (d + 1) m_L_comes [.ref 192, .ref 193, .ref 194, .ref 195, .int (nI l)] (az_hp M) (some (.int (nI p))) (az_hp M') := by
  have hp6 : p < 6 := by omega
  have r1 := hR.m_cl h4 hp6 (nI l)
  have r2 := r1.m_cm h4 hp6 (W 2 2)
  have r3 := r2.m_mark (W 2 2 + 1)
  have r4 := r3.m_water (W 24 1 - 1)
  have r5 := r4.m_used (W 24 6 + 1)
  have r6 := r5.m_zp h4 (nI p + 1)
  have f6 := ((((((frL.rf M).up (b := 194) (by decide) (12 * a + 2 * p) (nI l)).up (b := 194) (by decide) (12 * a + 2 * p + 1) (W 2 2)).up (b := 192) (by decide) 7 (W 2 2 + 1)).up (b := 192) (by decide) 3 (W 24 1 - 1)).up (b := 192) (by decide) 9 (W 24 6 + 1)).up (b := 193) (by decide) (5 * a) (nI p + 1)
  have eW : cg_cm (cg_pay W 1) (nI l) = az_up (az_up ((fun X => if p + 1 = S then az_up X 8 a 1 else X) (az_up (az_up (az_up (az_up (az_up (az_up W 14 (12 * a + p) (nI l)) 16 (12 * a + p) (W 2 2)) 2 2 (W 2 2 + 1)) 24 1 (W 24 1 - 1)) 24 6 (W 24 6 + 1)) 4 a (nI p + 1))) 19 l 1) 21 l (nI (12 * a + p)) := by
    rw [cg_cmN (W := cg_pay W 1) ha (by omega) hS (by omega) hp hpS (by omega), up6]
    rfl
  rw [eW]
  have hy : nI a = nI (12 * a + p) / 12 := (nI_d12 h4 hp6).1.symm
  have hz : nI p = nI (12 * a + p) - nI (12 * a + p) / 12 * 12 := (nI_d12 h4 hp6).2.symm
  have step : ∀ M5, M5 192 2 = nI a → az_RUN d k_L_comes 104 [some (.ref 192), some (.ref 193), some (.ref 194), some (.ref 195), some (.int (nI l)), some (.int (5 * nI a)), some (.int (nI p))] [] (az_hp M5) (fun r1 h1 => r1 = some (.int (nI p)) ∧ h1 = az_hp (az_up (az_up (az_up M5 195 (4 * l) 1) 195 (4 * l + 1) (nI a)) 195 (4 * l + 2) (nI p))) := by
    intro M5 e5
    refine az_sgp rfl rfl rfl rfl ?_
    refine az_ast rfl rfl (k := 4 * l) (ix4 l) (by omega) (by decide) ?_
    refine az_sgp rfl rfl rfl rfl ?_
    refine az_ald rfl rfl (k := 2) (rfl) (by omega) (by decide) ((show az_up M5 195 (4 * l) 1 192 2 = nI a by rw [az_up_row (by decide)]; exact e5)) ?_
    refine az_ast rfl rfl (k := 4 * l + 1) (ix4c l 1) (by omega) (by decide) ?_
    refine az_sgp rfl rfl rfl rfl ?_
    refine az_ast rfl rfl (k := 4 * l + 2) (ix4c l 2) (by omega) (by decide) ?_
    refine az_sgp rfl rfl rfl rfl ?_
    refine az_ret rfl rfl rfl rfl ?_
    exact ⟨rfl, rfl⟩
  have run : ∀ M5 : az_Mem, M5 192 2 = nI a → (p + 1 = S → M5 = az_up (az_up (az_up (az_up (az_up (az_up (az_up M 194 (12 * a + 2 * p) (nI l)) 194 (12 * a + 2 * p + 1) (W 2 2)) 192 7 (W 2 2 + 1)) 192 3 (W 24 1 - 1)) 192 9 (W 24 6 + 1)) 193 (5 * a) (nI p + 1)) 193 (5 * a + 1) 1) → (¬ p + 1 = S → M5 = az_up (az_up (az_up (az_up (az_up (az_up (az_up M 194 (12 * a + 2 * p) (nI l)) 194 (12 * a + 2 * p + 1) (W 2 2)) 192 7 (W 2 2 + 1)) 192 3 (W 24 1 - 1)) 192 9 (W 24 6 + 1)) 193 (5 * a) (nI p + 1)) 193 (5 * a + 1) (W 8 a)) → az_EX (d + 1) m_L_comes [.ref 192, .ref 193, .ref 194, .ref 195, .int (nI l)] (az_hp M) (some (.int (nI p))) (az_hp (az_up (az_up (az_up M5 195 (4 * l) 1) 195 (4 * l + 1) (nI a)) 195 (4 * l + 2) (nI p))) := by
    intro M5 e5 e1 e2
    refine az_EX.of (az_in0 (code := k_L_comes) (ls := [some (.ref 192), some (.ref 193), some (.ref 194), some (.ref 195), some (.int (nI l)), none, none]) rfl rfl rfl ?_)
    refine az_sgp rfl rfl rfl rfl ?_
    refine az_ald rfl rfl (k := 2) (rfl) (by omega) (by decide) (hR.at_.trans ha) ?_
    refine az_sgp rfl rfl rfl rfl ?_
    refine az_ald rfl rfl (k := 5 * a) (ix5 a) (by omega) (by decide) ((hR.zp h4).trans hp) ?_
    refine az_sgp rfl rfl rfl rfl ?_
    refine az_ald rfl rfl (k := 2) (rfl) (by omega) (by decide) (hR.at_.trans ha) ?_
    refine az_sgp rfl rfl rfl rfl ?_
    refine az_ast rfl rfl (k := 12 * a + 2 * p) (ix12 a p) (by omega) (by decide) ?_
    refine az_sgp rfl rfl rfl rfl ?_
    refine az_ald rfl rfl (k := 2) (rfl) (by omega) (by decide) (r1.at_.trans ha) ?_
    refine az_sgp rfl rfl rfl rfl ?_
    refine az_ald rfl rfl (k := 7) (rfl) (by omega) (by decide) ((show _ = W 2 2 from r1.mark)) ?_
    refine az_ast rfl rfl (k := 12 * a + 2 * p + 1) (ix12c a p 1) (by omega) (by decide) ?_
    refine az_sgp rfl rfl rfl rfl ?_
    refine az_ald rfl rfl (k := 7) (rfl) (by omega) (by decide) ((show _ = W 2 2 from r2.mark)) ?_
    refine az_sgp rfl rfl rfl rfl ?_
    refine az_ast rfl rfl (k := 7) (rfl) (by omega) (by decide) ?_
    refine az_sgp rfl rfl rfl rfl ?_
    refine az_ald rfl rfl (k := 3) (rfl) (by omega) (by decide) ((show _ = W 24 1 from r3.water)) ?_
    refine az_sgp rfl rfl rfl rfl ?_
    refine az_ast rfl rfl (k := 3) (rfl) (by omega) (by decide) ?_
    refine az_sgp rfl rfl rfl rfl ?_
    refine az_ald rfl rfl (k := 9) (rfl) (by omega) (by decide) ((show _ = W 24 6 from r4.used)) ?_
    refine az_sgp rfl rfl rfl rfl ?_
    refine az_ast rfl rfl (k := 9) (rfl) (by omega) (by decide) ?_
    refine az_sgp rfl rfl rfl rfl ?_
    refine az_ald rfl rfl (k := 5 * a) (ix5 a) (by omega) (by decide) ((r5.zp h4).trans hp) ?_
    refine az_sgp rfl rfl rfl rfl ?_
    refine az_ast rfl rfl (k := 5 * a) (ix5 a) (by omega) (by decide) ?_
    refine az_sgp rfl rfl rfl rfl ?_
    refine az_ald rfl rfl (k := 5 * a) (ix5 a) (by omega) (by decide) ((r6.zp h4).trans (az_up_same _ _ _ _)) ?_
    refine az_sgp rfl rfl rfl rfl ?_
    refine az_ald rfl rfl (k := 1) (rfl) (by omega) (by decide) (r6.slots.trans hS) ?_
    refine az_bra rfl rfl rfl (fun q => ?_) (fun q => ?_)
    · rw [nI_1, nI_eq (by omega) (by omega)] at q
      refine az_sgp rfl rfl rfl rfl ?_
      refine az_ast rfl rfl (k := 5 * a + 1) (ix5c a 1) (by omega) (by decide) ?_
      rw [← e1 q]
      exact step _ e5
    · rw [nI_1, nI_eq (by omega) (by omega)] at q
      refine az_sgp rfl rfl rfl rfl ?_
      refine az_ald rfl rfl (k := 5 * a + 1) (ix5c a 1) (by omega) (by decide) ((r6.zs h4)) ?_
      refine az_ast rfl rfl (k := 5 * a + 1) (ix5c a 1) (by omega) (by decide) ?_
      have e3 := e2 q
      have e4 : az_up (az_up (az_up (az_up (az_up (az_up W 14 (12 * a + p) (nI l)) 16 (12 * a + p) (W 2 2)) 2 2 (W 2 2 + 1)) 24 1 (W 24 1 - 1)) 24 6 (W 24 6 + 1)) 4 a (nI p + 1) 8 a = W 8 a := rfl
      rw [e4, ← e3]
      exact step _ e5
  by_cases h : p + 1 = S
  · refine ⟨_, ?_, ?_, run _ ?_ (fun _ => rfl) (fun q => absurd h q)⟩
    · exact (((f6.up (by decide) _ _).up (by decide) _ _).up (by decide) _ _).up (by decide) _ _
    · simp only [if_pos h]
      exact ((r6.m_zs h4 1).m_lw hl 1).cell hl hy hz
    · exact (r6.m_zs h4 1).at_.trans ha
  · refine ⟨_, ?_, ?_, run _ ?_ (fun q => absurd q h) (fun _ => rfl)⟩
    · exact (((f6.up (by decide) _ _).up (by decide) _ _).up (by decide) _ _).up (by decide) _ _
    · simp only [if_neg h]
      have r7 := r6.m_zs h4 (W 8 a)
      rw [az_up_id (show az_up (az_up (az_up (az_up (az_up (az_up W 14 (12 * a + p) (nI l)) 16 (12 * a + p) (W 2 2)) 2 2 (W 2 2 + 1)) 24 1 (W 24 1 - 1)) 24 6 (W 24 6 + 1)) 4 a (nI p + 1) 8 a = W 8 a from rfl)] at r7
      exact (r7.m_lw hl 1).cell hl hy hz
    · exact (r6.m_zs h4 (W 8 a)).at_.trans ha
theorem el_step (d : Nat) (hR : LR W M) (hI : IW W) (hX : LX W) : ∃ M', frL M M' ∧ LR (cg_step W) M' ∧ az_EX (d + 1) m_L_step [.ref 192, .ref 193] (az_hp M) none (az_hp M') := by
  obtain ⟨Z, a, hZ, ha, h2, h8, haZ⟩ := hI.zn
  obtain ⟨Z', hZ', h4⟩ := hX.zn
  have eZ : Z = Z' := (nI_eq (by omega) (by omega)).mp (hZ.symm.trans hZ')
  subst eZ
  have hb : (a + 1) % Z < Z := Nat.mod_lt _ (by omega)
  have en := cg_nextN hZ ha h8 haZ
  generalize hbb : (a + 1) % Z = b at hb en
  have hb4 : b < 4 := by omega
  have r1 := hR.m_at_ (nI b)
  have ew : az_rd (W 10) 8 (nI b) = W 10 b := az_rdN (by omega) (by decide)
  have key : ∀ (w : Int32) (N : az_Mem), (W 10 b = 1 → w = W 24 2) → (W 10 b = 0 → w = W 24 1 - 1) → N = az_up (az_up (az_up (az_up W 24 0 (nI b)) 24 1 w) 24 5 (W 24 5 + 1)) 24 6 (W 24 6 + 1) → cg_step W = N := by
    intro w N e1 e2 eN
    subst eN
    unfold cg_step cg_step0 cg_pay
    rw [en, ew]
    rcases hI.well b (by omega) with q | q
    · rw [if_pos q, e2 q]
      funext c j
      simp only [az_up]
      by_cases hc : c = 24
      · subst hc
        by_cases j0 : j = 0
        · subst j0; simp
        by_cases j1 : j = 1
        · subst j1; simp
        by_cases j5 : j = 5
        · subst j5; simp
        by_cases j6 : j = 6
        · subst j6; simp
        simp [j0, j1, j5, j6]
      · simp [hc]
    · rw [if_neg (by rw [q]; decide), e1 q]
      funext c j
      simp only [az_up]
      by_cases hc : c = 24
      · subst hc
        by_cases j0 : j = 0
        · subst j0; simp
        by_cases j1 : j = 1
        · subst j1; simp
        by_cases j5 : j = 5
        · subst j5; simp
        by_cases j6 : j = 6
        · subst j6; simp
        simp [j0, j1, j5, j6]
      · simp [hc]
  have tail : ∀ w : Int32, (W 10 b = 1 → w = W 24 2) → (W 10 b = 0 → w = W 24 1 - 1) → az_RUN d k_L_step 49 [some (.ref 192), some (.ref 193)] [.int w, .int 3, .ref 192] (az_hp (az_up M 192 2 (nI b))) (fun r1 h1 => r1 = none ∧ ∃ M', frL M M' ∧ LR (cg_step W) M' ∧ h1 = az_hp M') := by
    intro w e1 e2
    have r2 := r1.m_water w
    have r3 := r2.m_steps (W 24 5 + 1)
    have r4 := r3.m_used (W 24 6 + 1)
    refine az_ast rfl rfl (k := 3) (rfl) (by omega) (by decide) ?_
    refine az_sgp rfl rfl rfl rfl ?_
    refine az_ald rfl rfl (k := 8) (rfl) (by omega) (by decide) (r2.steps) ?_
    refine az_sgp rfl rfl rfl rfl ?_
    refine az_ast rfl rfl (k := 8) (rfl) (by omega) (by decide) ?_
    refine az_sgp rfl rfl rfl rfl ?_
    refine az_ald rfl rfl (k := 9) (rfl) (by omega) (by decide) (r3.used) ?_
    refine az_sgp rfl rfl rfl rfl ?_
    refine az_ast rfl rfl (k := 9) (rfl) (by omega) (by decide) ?_
    refine az_ret rfl rfl rfl rfl ?_
    refine ⟨rfl, _, ?_, ?_, rfl⟩
    · exact ((((frL.rf M).up (by decide) _ _).up (by decide) _ _).up (by decide) _ _).up (by decide) _ _
    · rw [key w _ e1 e2 rfl]
      exact r4
  have mid : az_RUN d k_L_step 22 [some (.ref 192), some (.ref 193)] [.int (nI b), .int 2, .ref 192] (az_hp M) (fun r1 h1 => r1 = none ∧ ∃ M', frL M M' ∧ LR (cg_step W) M' ∧ h1 = az_hp M') := by
    refine az_ast rfl rfl (k := 2) (rfl) (by omega) (by decide) ?_
    refine az_sgp rfl rfl rfl rfl ?_
    refine az_ald rfl rfl (k := 2) (rfl) (by omega) (by decide) (r1.at_) ?_
    refine az_sgp rfl rfl rfl rfl ?_
    refine az_ald rfl rfl (k := 5 * b + 3) (ix5c b 3) (by omega) (by decide) (r1.zw hb4) ?_
    refine az_sgp rfl rfl rfl rfl ?_
    refine az_bra rfl rfl rfl (fun q => ?_) (fun q => ?_)
    · refine az_sgp rfl rfl rfl rfl ?_
      refine az_ald rfl rfl (k := 4) (rfl) (by omega) (by decide) (r1.skin) ?_
      refine az_sgp rfl rfl rfl rfl ?_
      exact tail _ (fun _ => rfl) (fun z => absurd (z.symm.trans q) (by decide))
    · refine az_sgp rfl rfl rfl rfl ?_
      refine az_ald rfl rfl (k := 3) (rfl) (by omega) (by decide) (r1.water) ?_
      refine az_sgp rfl rfl rfl rfl ?_
      exact tail _ (fun z => absurd z q) (fun _ => rfl)
  have all : az_EV (d + 1) m_L_step [.ref 192, .ref 193] (az_hp M) (fun r1 h1 => r1 = none ∧ ∃ M', frL M M' ∧ LR (cg_step W) M' ∧ h1 = az_hp M') := by
    refine az_in0 (code := k_L_step) (ls := [some (.ref 192), some (.ref 193)]) rfl rfl rfl ?_
    refine az_sgp rfl rfl rfl rfl ?_
    refine az_ald rfl rfl (k := 2) (rfl) (by omega) (by decide) (hR.at_.trans ha) ?_
    refine az_sgp rfl rfl rfl rfl ?_
    refine az_ald rfl rfl (k := 0) (rfl) (by omega) (by decide) (hR.zones.trans hZ) ?_
    refine az_bra rfl rfl rfl (fun q => ?_) (fun q => ?_)
    · rw [nI_1, nI_eq (by omega) (by omega)] at q
      have eb : b = 0 := by rw [← hbb, q, Nat.mod_self]
      rw [eb] at mid
      refine az_sgp rfl rfl rfl rfl ?_
      exact mid
    · rw [nI_1, nI_eq (by omega) (by omega)] at q
      have eb : b = a + 1 := by rw [← hbb, Nat.mod_eq_of_lt (by omega)]
      refine az_sgp rfl rfl rfl rfl ?_
      refine az_ald rfl rfl (k := 2) (rfl) (by omega) (by decide) (hR.at_.trans ha) ?_
      refine az_sgp rfl rfl rfl rfl ?_
      rw [nI_1, ← eb]
      exact mid
  obtain ⟨r, h', ⟨rfl, M', g1, g2, rfl⟩, g3⟩ := all
  exact ⟨M', g1, g2, g3⟩
theorem el_place (d : Nat) (hR : LR W M) (l : Int32) {B : Nat} (hB : W 24 4 = nI B) (h6 : B ≤ 6) : az_EX (d + 1) m_L_place [.ref 192, .int l] (az_hp M) (some (.int (az_find (W 26) l B 0))) (az_hp M) := by
  have K : ∀ (m i : Nat), i + m = B → az_RUN d k_L_place 2 [some (.ref 192), some (.int l), some (.int (nI i))] [] (az_hp M) (fun r1 h1 => r1 = some (.int (az_find (W 26) l m i)) ∧ h1 = az_hp M) := by
    intro m
    induction m with
    | zero =>
      intro i hi
      have e : i = B := by omega
      subst e
      refine az_sgp rfl rfl rfl rfl ?_
      refine az_ald rfl rfl (k := 12) (rfl) (by omega) (by decide) (hR.many.trans hB) ?_
      refine az_bra rfl rfl rfl (fun q => ?_) (fun q => ?_)
      · refine az_sgp rfl rfl rfl rfl ?_
        refine az_ret rfl rfl rfl rfl ?_
        exact ⟨rfl, rfl⟩
      · exact absurd (nI_le (Nat.le_refl _) (by omega)) q
    | succ m ih =>
      intro i hi
      refine az_sgp rfl rfl rfl rfl ?_
      refine az_ald rfl rfl (k := 12) (rfl) (by omega) (by decide) (hR.many.trans hB) ?_
      refine az_bra rfl rfl rfl (fun q0 => ?_) (fun q0 => ?_)
      · exact absurd q0 (nI_ge (by omega) (by omega))
      refine az_sgp rfl rfl rfl rfl ?_
      refine az_ald rfl rfl (k := 13 + i) (nI_add 13 i) (by omega) (by decide) (hR.bag (show i < 6 by omega)) ?_
      refine az_sgp rfl rfl rfl rfl ?_
      refine az_bra rfl rfl rfl (fun q => ?_) (fun q => ?_)
      · refine az_sgp rfl rfl rfl rfl ?_
        refine az_ret rfl rfl rfl rfl ?_
        refine ⟨?_, rfl⟩
        show _ = some (Value.int (if W 26 i = l then nI i else az_find (W 26) l m (i + 1)))
        rw [if_pos q]
      · refine az_sg 2 rfl ?_
        have i1 := ih (i + 1) (by omega)
        rw [← nI_1] at i1
        refine az_RUN.mono i1 (fun r h hq => ⟨?_, hq.2⟩)
        rw [hq.1]
        show _ = some (Value.int (if W 26 i = l then nI i else az_find (W 26) l m (i + 1)))
        rw [if_neg q]
  refine az_EX.of (az_in0 (code := k_L_place) (ls := [some (.ref 192), some (.int l), none]) rfl rfl rfl ?_)
  refine az_sg 2 rfl ?_
  exact K B 0 (by omega)
def rl_sh (M : az_Mem) (q k : Nat) : az_Mem := fun c j => if c = 192 ∧ 13 + q ≤ j ∧ j < 13 + k then M 192 (j + 1) else M c j
theorem rl_shS {M : az_Mem} {q k : Nat} (h : q ≤ k) : az_up (rl_sh M q k) 192 (13 + k) (rl_sh M q k 192 (14 + k)) = rl_sh M q (k + 1) := by
  funext c j
  simp only [az_up, rl_sh]
  by_cases h1 : c = 192
  · by_cases h2 : j = 13 + k
    · subst h1 h2
      rw [if_pos ⟨rfl, rfl⟩, if_neg (by omega), if_pos ⟨rfl, by omega, by omega⟩]
      congr 1
      omega
    · subst h1
      rw [if_neg (by omega)]
      by_cases h3 : 13 + q ≤ j ∧ j < 13 + k
      · rw [if_pos ⟨rfl, h3⟩, if_pos ⟨rfl, by omega, by omega⟩]
      · rw [if_neg (by omega), if_neg (by omega)]
  · rw [if_neg (by omega), if_neg (by omega), if_neg (by omega)]
theorem rl_sh0 (M : az_Mem) (q : Nat) : rl_sh M q q = M := by
  funext c j
  simp only [rl_sh]
  rw [if_neg (by omega)]
theorem LR.ub (hR : LR W M) {q B : Nat} (hq : q < B) (h6 : B ≤ 6) : LR (cg_ub W q B) (az_up (rl_sh M q (B - 1)) 192 12 (nI (B - 1))) := by
  refine ⟨fun a k hd => ?_, fun l hl => ?_⟩
  · by_cases h1 : a = 26
    · subst h1
      have hk : k < 6 := by unfold dm at hd; omega
      show az_up (rl_sh M q (B - 1)) 192 12 (nI (B - 1)) 192 (13 + k) = _
      simp only [az_up, rl_sh, cg_ub]
      rw [if_neg (by omega)]
      by_cases h : q ≤ k ∧ k + 1 < B
      · rw [if_pos (by simp; omega), if_pos (by simp; omega)]
        exact hR.bag (i := k + 1) (by omega)
      · rw [if_neg (by omega), if_neg (by omega), if_neg (by omega)]
        exact hR.bag (i := k) (by omega)
    · by_cases h2 : a = 24 ∧ k = 4
      · obtain ⟨rfl, rfl⟩ := h2
        show az_up (rl_sh M q (B - 1)) 192 12 (nI (B - 1)) 192 12 = _
        simp only [az_up, cg_ub]
        simp
      · have e1 : cg_ub W q B a k = W a k := by
          simp only [cg_ub]
          rw [if_neg (by omega), if_neg (by omega)]
        rw [e1, ← hR.1 a k hd]
        have n12 : ¬ (pc a = 192 ∧ pj a k = 12) := by
          rintro ⟨e2, e3⟩
          have := pv_in (b := 24) (m := 4) hd (by unfold dm; omega) e2 e3
          omega
        have n13 : ¬ (pc a = 192 ∧ 13 + q ≤ pj a k ∧ pj a k < 13 + (B - 1)) := by
          rintro ⟨e2, e3, e4⟩
          have := pv_in (b := 26) (m := pj a k - 13) hd (by unfold dm; omega) e2 (by show pj a k = 13 + (pj a k - 13); omega)
          omega
        simp only [az_up, rl_sh]
        rw [if_neg n12, if_neg n13]
  · have e : ∀ j, az_up (rl_sh M q (B - 1)) 192 12 (nI (B - 1)) 195 j = M 195 j := by
      intro j
      simp only [az_up, rl_sh]
      rw [if_neg (by omega), if_neg (by omega)]
    have e1 : cg_ub W q B 21 l = W 21 l := by
      simp only [cg_ub]
      rw [if_neg (by omega), if_neg (by omega)]
    rw [e, e, e1]
    exact hR.2 l hl
theorem el_leaves (d : Nat) (hR : LR W M) {q B l : Nat} (hB : W 24 4 = nI B) (hq : q < B) (h6 : B ≤ 6) (e : W 26 q = nI l) (hu : ∀ i, i < B → W 26 i = nI l → i = q) : ∃ M', frL M M' ∧ LR (cg_ub W q B) M' ∧ az_EX (d + 2) m_L_leaves [.ref 192, .int (nI l)] (az_hp M) none (az_hp M') := by
  have eB : nI B - 1 = nI (B - 1) := by
    obtain ⟨Y, rfl⟩ : ∃ Y, B = Y + 1 := ⟨B - 1, by omega⟩
    exact nI_pred Y
  have hm : ∀ k, rl_sh M q k 192 12 = nI B := by
    intro k
    simp only [rl_sh]
    rw [if_neg (by omega)]
    exact hR.many.trans hB
  have K : ∀ (m k : Nat), q ≤ k → k + m = B - 1 → az_RUN (d + 1) k_L_leaves 6 [some (.ref 192), some (.int (nI l)), some (.int (nI k))] [] (az_hp (rl_sh M q k)) (fun r1 h1 => r1 = none ∧ h1 = az_hp (az_up (rl_sh M q (B - 1)) 192 12 (nI (B - 1)))) := by
    intro m
    induction m with
    | zero =>
      intro k hk hs
      refine az_sgp rfl rfl rfl rfl ?_
      refine az_ald rfl rfl (k := 12) (rfl) (by omega) (by decide) (hm k) ?_
      rw [show k = B - 1 by omega]
      refine az_bra rfl rfl rfl (fun z => ?_) (fun z => ?_)
      · refine az_sgp rfl rfl rfl rfl ?_
        refine az_ald rfl rfl (k := 12) (rfl) (by omega) (by decide) (hm _) ?_
        refine az_sgp rfl rfl rfl rfl ?_
        refine az_ast rfl rfl (k := 12) (rfl) (by omega) (by decide) ?_
        refine az_ret rfl rfl rfl rfl ?_
        rw [eB]
        exact ⟨rfl, rfl⟩
      · rw [nI_1] at z
        exact absurd (nI_le (by omega) (by omega)) z
    | succ m ih =>
      intro k hk hs
      refine az_sgp rfl rfl rfl rfl ?_
      refine az_ald rfl rfl (k := 12) (rfl) (by omega) (by decide) (hm k) ?_
      refine az_bra rfl rfl rfl (fun z => ?_) (fun z => ?_)
      · rw [nI_1] at z
        exact absurd z (nI_ge (by omega) (by omega))
      refine az_sgp rfl rfl rfl rfl ?_
      refine az_ald rfl rfl (k := 14 + k) (nI_add 14 k) (by omega) (by decide) (rfl) ?_
      refine az_ast rfl rfl (k := 13 + k) (nI_add 13 k) (by omega) (by decide) ?_
      refine az_sg 2 rfl ?_
      rw [nI_1, rl_shS hk]
      exact ih (k + 1) (by omega) (by omega)
  refine ⟨az_up (rl_sh M q (B - 1)) 192 12 (nI (B - 1)), fun c hc => ?_, hR.ub hq h6, ?_⟩
  · rw [az_up_row (by omega)]
    funext j
    simp only [rl_sh]
    rw [if_neg (by omega)]
  · refine az_EX.of (az_in0 (code := k_L_leaves) (ls := [some (.ref 192), some (.int (nI l)), none]) rfl rfl rfl ?_)
    refine az_sgp rfl rfl rfl rfl ?_
    refine az_cav rfl rfl rfl rfl (el_place d hR (nI l) hB h6) ?_
    rw [az_findN hq e hu]
    refine az_sg 1 rfl ?_
    have k0 := K (B - 1 - q) q (Nat.le_refl _) (by omega)
    rw [rl_sh0] at k0
    exact k0
theorem el_resets (d : Nat) (hR : LR W M) {a : Nat} (ha : W 24 0 = nI a) (h4 : a < 4) : ∃ M', frL M M' ∧ LR (cg_clear (cg_pay W 3) (nI a)) M' ∧ az_EX (d + 1) m_L_resets [.ref 192, .ref 193] (az_hp M) none (az_hp M') := by
  have r1 := hR.m_zp h4 0
  have r2 := r1.m_zs h4 0
  have r3 := r2.m_zr h4 (W 12 a + 1)
  have r4 := r3.m_resets (W 2 3 + 1)
  have r5 := r4.m_water (W 24 1 - 3)
  have r6 := r5.m_used (W 24 6 + 3)
  have c1 : ∀ (b : Nat), b ≠ 24 → ∀ (X : az_Mem) (j k : Nat) (x y : Int32), az_up (az_up X b j x) 24 k y = az_up (az_up X 24 k y) b j x := fun b hb X j k x y => az_up_comm (Or.inl hb)
  have e : az_up (az_up (az_up (az_up (az_up (az_up W 4 a 0) 8 a 0) 12 a (W 12 a + 1)) 2 3 (W 2 3 + 1)) 24 1 (W 24 1 - 3)) 24 6 (W 24 6 + 3) = cg_clear (cg_pay W 3) (nI a) := by
    unfold cg_clear
    rw [az_rdN (by omega) (by decide), az_wrN (by omega) (by decide), az_wrN (by omega) (by decide), az_wrN (by omega) (by decide)]
    rw [c1 2 (by decide), c1 2 (by decide), c1 12 (by decide), c1 12 (by decide), c1 8 (by decide), c1 8 (by decide), c1 4 (by decide), c1 4 (by decide)]
    rfl
  rw [e] at r6
  refine ⟨_, ?_, r6, ?_⟩
  · exact ((((((frL.rf M).up (by decide) _ _).up (by decide) _ _).up (by decide) _ _).up (by decide) _ _).up (by decide) _ _).up (by decide) _ _
  · refine az_EX.of (az_in0 (code := k_L_resets) (ls := [some (.ref 192), some (.ref 193), none]) rfl rfl rfl ?_)
    refine az_sgp rfl rfl rfl rfl ?_
    refine az_ald rfl rfl (k := 2) (rfl) (by omega) (by decide) (hR.at_.trans ha) ?_
    refine az_sgp rfl rfl rfl rfl ?_
    refine az_ast rfl rfl (k := 5 * a) (ix5 a) (by omega) (by decide) ?_
    refine az_sgp rfl rfl rfl rfl ?_
    refine az_ast rfl rfl (k := 5 * a + 1) (ix5c a 1) (by omega) (by decide) ?_
    refine az_sgp rfl rfl rfl rfl ?_
    refine az_ald rfl rfl (k := 5 * a + 4) (ix5c a 4) (by omega) (by decide) (r2.zr h4) ?_
    refine az_sgp rfl rfl rfl rfl ?_
    refine az_ast rfl rfl (k := 5 * a + 4) (ix5c a 4) (by omega) (by decide) ?_
    refine az_sgp rfl rfl rfl rfl ?_
    refine az_ald rfl rfl (k := 10) (rfl) (by omega) (by decide) (r3.resets) ?_
    refine az_sgp rfl rfl rfl rfl ?_
    refine az_ast rfl rfl (k := 10) (rfl) (by omega) (by decide) ?_
    refine az_sgp rfl rfl rfl rfl ?_
    refine az_ald rfl rfl (k := 3) (rfl) (by omega) (by decide) (r4.water) ?_
    refine az_sgp rfl rfl rfl rfl ?_
    refine az_ast rfl rfl (k := 3) (rfl) (by omega) (by decide) ?_
    refine az_sgp rfl rfl rfl rfl ?_
    refine az_ald rfl rfl (k := 9) (rfl) (by omega) (by decide) (r5.used) ?_
    refine az_sgp rfl rfl rfl rfl ?_
    refine az_ast rfl rfl (k := 9) (rfl) (by omega) (by decide) ?_
    refine az_ret rfl rfl rfl rfl ?_
    exact ⟨rfl, rfl⟩
end SETL
