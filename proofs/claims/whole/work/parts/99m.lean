/-! REFERENCE: those that are taken are put down -/
section REFD
variable {d : Nat} {code : Nat → Option az_I} {p : Nat} {ls : List az_V} {Q : Option Value → az_H → Prop} {M : az_Mem}
theorem az_bld {a b c nx q n k : Nat} {im j x : Int32} {sw : List (Int32 × Nat)} {r : List Value} (hi : code p = some (35, a, b, c, im, nx, sw)) (hs : az_shp q = (10, n, [])) (e : j = nI k) (hk : k < n) (hn : n < 2 ^ 31) (ev : M q k = x) (kk : az_RUN d code nx ls (.int x :: r) (az_hp M) Q) : az_RUN d code p ls (.int j :: .ref q :: r) (az_hp M) Q := by
  subst e
  refine az_grd hi rfl (g := az_in (nI k) n) (p' := nx) (stk' := .int (M q (nI k).toNatClampNeg) :: r) (h' := az_hp M) ?_ (az_inN hk hn) ?_
  · show (match az_shp q with | (kd, ln, _) => bif Nat.beq kd 10 then some (az_in (nI k) ln, nx, Value.int (M q (nI k).toNatClampNeg) :: r, ((200, az_shp, M, 5967) : az_H)) else none) = _
    rw [hs]
    rfl
  · rw [nI_clamp (by omega), ev]
    exact kk
theorem az_bst {a b c nx q n k : Nat} {im j x : Int32} {sw : List (Int32 × Nat)} {r : List Value} (hi : code p = some (36, a, b, c, im, nx, sw)) (hs : az_shp q = (10, n, [])) (e : j = nI k) (hk : k < n) (hn : n < 2 ^ 31) (hx : az_bit x = true) (kk : az_RUN d code nx ls r (az_hp (az_up M q k x)) Q) : az_RUN d code p ls (.int x :: .int j :: .ref q :: r) (az_hp M) Q := by
  subst e
  refine az_grd hi rfl (g := az_in (nI k) n && az_bit x) (p' := nx) (stk' := r) (h' := az_hp (az_up M q (nI k).toNatClampNeg x)) ?_ ?_ ?_
  · show (match az_shp q with | (kd, ln, _) => bif Nat.beq kd 10 then some (az_in (nI k) ln && az_bit x, nx, r, ((200, az_shp, az_up M q (nI k).toNatClampNeg x, 5967) : az_H)) else none) = _
    rw [hs]
    rfl
  · rw [az_inN hk hn, hx]
    rfl
  · rw [nI_clamp (by omega)]
    exact kk
end REFD
def TR (e : Nat) (W M : az_Mem) : Prop := ∀ B, W 24 4 = nI B → B ≤ 6 → ∀ i l, i < B → l < 40 → W 26 i = nI l → M 198 l = (if e ≤ i then 1 else 0)
def fr2 (M M' : az_Mem) : Prop := ∀ c, c ≠ 193 → c ≠ 198 → M' c = M c
theorem fr1.w {M M' : az_Mem} (h : fr1 M M') : fr2 M M' := fun c h1 _ => h c h1
theorem fr2.rf (M : az_Mem) : fr2 M M := fun _ _ _ => rfl
theorem fr2.tr {M M' M'' : az_Mem} (h : fr2 M M') (h' : fr2 M' M'') : fr2 M M'' := fun c h1 h2 => by rw [h' c h1 h2, h c h1 h2]
theorem fr2.up8 {M M' : az_Mem} (h : fr2 M M') (k : Nat) (x : Int32) : fr2 M (az_up M' 198 k x) := fun c h1 h2 => by rw [az_up_row h2]; exact h c h1 h2
section REFE
variable {M W : az_Mem}
theorem cg_cm_24 {a S p l : Nat} (ha : W 24 0 = nI a) (h8 : a < 8) (hS : W 2 1 = nI S) (h12 : S ≤ 12) (hp : W 4 a = nI p) (hpS : p < S) (h40 : l < 40) {c : Nat} (hc : c = 24 ∨ c = 26) : cg_cm W (nI l) c = W c := by
  rw [cg_cmN ha h8 hS h12 hp hpS h40]
  funext j
  by_cases h : p + 1 = S
  · simp only [if_pos h]
    rcases hc with rfl | rfl <;> simp [az_up]
  · simp only [if_neg h]
    rcases hc with rfl | rfl <;> simp [az_up]
theorem cg_unpFS (hI : IW W) {m k a p l : Nat} (ha : W 24 0 = nI a) (ha8 : a < 8) (hp : W 4 a = nI p) (hp12 : p ≤ 12) (hk : k < 6) (hl : l < 40) (e : W 26 k = nI l) (h2 : W 19 l = 2) : cg_unpF (m + 1) k W = if ¬ cg_adm W (nI a) (if W 17 0 ≤ W 23 l then 1 else 0) then cg_unpF m (k + 1) W else if 1 ≤ W 24 1 then cg_unpF m k (cg_cm (cg_wh1 W (nI l)) (nI l)) else (false, W) := by
  show (if ¬ cg_may W (az_rd (W 26) 6 (nI k)) (W 24 0) then _ else _) = _
  rw [az_rdN hk (by decide), e, ha]
  have e2 : (cg_may W (nI l) (nI a)) = cg_adm W (nI a) (if W 17 0 ≤ W 23 l then 1 else 0) := by
    unfold cg_may
    rw [az_rdN hl (by decide)]
  obtain ⟨B, R, q, e1, f2, f3, f4, f5, f6, f7⟩ := hI.bagl hl h2
  have e5 : az_rd (cg_wh1 W (nI l) 4) 8 (cg_wh1 W (nI l) 24 0) = nI p := by
    rw [cg_whN hl h2 e1 (by omega) f5 f6 f7]
    have e6 : az_up (cg_ub (cg_pay W 1) q B) 24 7 (W 24 7 + 1) 24 0 = nI a := by
      simp [cg_ub, cg_pay, az_up, ha]
    have e7 : az_up (cg_ub (cg_pay W 1) q B) 24 7 (W 24 7 + 1) 4 a = nI p := by
      simp [cg_ub, cg_pay, az_up, hp]
    rw [e6, az_rdN ha8 (by decide), e7]
  rw [e5]
  by_cases q2 : cg_may W (nI l) (nI a)
  · rw [if_neg (show ¬ ¬ cg_may W (nI l) (nI a) from fun c => c q2), if_neg (show ¬ ¬ cg_adm W (nI a) (if W 17 0 ≤ W 23 l then 1 else 0) from fun c => c (cast e2 q2)), if_pos (nI_pos' (show p < 2 ^ 31 by omega))]
    rfl
  · rw [if_pos (show ¬ cg_may W (nI l) (nI a) from q2), if_pos (show ¬ cg_adm W (nI a) (if W 17 0 ≤ W 23 l then 1 else 0) from fun c => q2 (cast e2.symm c))]
def QP (e m k : Nat) (W M : az_Mem) (r : Option Value) (h : az_H) : Prop := ∃ M', h = az_hp M' ∧ r = some (.int (if (cg_unpF m k W).1 = true then 1 else 0)) ∧ fr2 M M' ∧ ((cg_unpF m k W).1 = true → RR (cg_unpF m k W).2 (M' 193) ∧ TR e (cg_unpF m k W).2 M')
theorem ex_putsDown (d : Nat) (hR : RR W (M 193)) (hI : IW W) {e B : Nat} (hB : W 24 4 = nI B) (h6 : B ≤ 6) (he : e ≤ B) (hT : TR e W M) : az_EV (d + 4) m_X9_putsDown [.ref 192] (az_hp M) (QP e (B - e) e W M) := by
  have K2 : ∀ (m k B : Nat) (M W : az_Mem) (v : az_V), RR W (M 193) → IW W → W 24 4 = nI B → B ≤ 6 → e ≤ k → k + m = B → TR e W M → az_RUN (d + 3) k_X9_putsDown 2 [some (.ref 192), some (.int (nI k)), v] [] (az_hp M) (QP e m k W M) := by
    intro m
    induction m with
    | zero =>
      intro k B M W v hR hI hB h6 hek hs hT
      refine az_sgp rfl rfl rfl rfl ?_
      refine az_ald rfl rfl (k := 12) rfl (by decide) (by decide) (hR.many.trans hB) ?_
      refine az_bra rfl rfl rfl (fun q => ?_) (fun q => ?_)
      · refine az_sgp rfl rfl rfl rfl ?_
        refine az_ret rfl rfl rfl rfl ?_
        exact ⟨M, rfl, rfl, fr2.rf M, fun _ => ⟨hR, hT⟩⟩
      · exact absurd (nI_le (by omega) (by omega)) q
    | succ m ih =>
      intro k B M W v hR hI hB h6 hek hs hT
      obtain ⟨Z, a, S, p, hZ, ha, h2, h8, haZ, ha8, hS, h2S, h12, hp, hpS, hps⟩ := hI.pt
      obtain ⟨B', R, e1, e2, e3, e4, e5, e6, e7⟩ := hI.bag
      have eB : B' = B := by
        rw [e1, nI_eq (by omega) (by omega)] at hB
        exact hB
      subst eB
      obtain ⟨l, hl, el, el2⟩ := e5 k (by omega)
      have hu : ∀ i, i < B' → W 26 i = nI l → i = k := fun i hi c => e6 i k hi (by omega) (c.trans el.symm)
      refine az_sgp rfl rfl rfl rfl ?_
      refine az_ald rfl rfl (k := 12) rfl (by decide) (by decide) (hR.many.trans hB) ?_
      refine az_bra rfl rfl rfl (fun q => ?_) (fun q => ?_)
      · exact absurd q (nI_ge (by omega) (by omega))
      refine az_sgp rfl rfl rfl rfl ?_
      refine az_ald rfl rfl (k := 13 + k) (nI_add 13 k) (by omega) (by decide) ((hR.bag k (by omega)).trans el) ?_
      refine az_sgp rfl rfl rfl rfl ?_
      refine az_bld rfl rfl (k := l) rfl hl (by decide) ((hT B' hB h6 k l (by omega) hl el).trans (if_pos hek)) ?_
      (with_reducible apply az_ifeqF); rfl
      refine az_sgp rfl rfl rfl rfl ?_
      refine az_ald rfl rfl (k := 2) rfl (by decide) (by decide) (hR.at_.trans ha) ?_
      refine az_sgp rfl rfl rfl rfl ?_
      refine az_cav rfl rfl rfl rfl (ex_ofLoad (d + 2) (z := l) (w := 3) rfl rfl (by omega) (hR.lh l hl)) ?_
      have eS := cg_unpFS hI (m := m) ha ha8 hp (by omega) (show k < 6 by omega) hl el el2
      refine az_ca2 rfl rfl rfl rfl (ex_mayBe (d + 1) hR rfl ha8 _) (fun q2 => ?_) (fun q2 => ?_)
      · (with_reducible apply az_ifeqF); rfl
        rw [if_neg (fun c => c q2)] at eS
        obtain ⟨M', hf, hr, hE⟩ := ex_puts d hR hI (nI l)
        rw [cg_putN hl ha ha8 hp hI, if_neg (show ¬ ¬ W 19 l = 2 from fun c => c el2), if_neg (show ¬ ¬ cg_adm W (nI a) (if W 17 0 ≤ W 23 l then 1 else 0) from fun c => c q2)] at hr hE
        by_cases q3 : 1 ≤ W 24 1
        · rw [if_neg (show ¬ ¬ 1 ≤ W 24 1 from fun c => c q3)] at hr hE
          rw [if_pos q3] at eS
          have hs8 := q2.1
          rw [az_rdN ha8 (by decide)] at hs8
          have hpS' := hps hs8
          refine az_sgp rfl rfl rfl rfl ?_
          refine az_cav rfl rfl rfl rfl hE ?_
          refine az_sgp rfl rfl rfl rfl ?_
          refine az_bra rfl rfl rfl (fun c => ?_) (fun _ => ?_)
          · exfalso
            have := nI_pos' (show p < 2 ^ 31 by omega)
            have c : nI p = -6 := c
            rw [c] at this
            exact absurd this (by decide)
          refine az_sgp rfl rfl rfl rfl ?_
          refine az_bst rfl rfl (k := l) rfl hl (by decide) rfl ?_
          refine az_sg 1 rfl ?_
          refine az_sg 1 rfl ?_
          have ew := cg_whN (W := W) hl el2 hB h6 (by omega) el hu
          have c24 : cg_cm (cg_wh1 W (nI l)) (nI l) 24 = cg_wh1 W (nI l) 24 := by
            rw [ew]
            exact cg_cm_24 (a := a) (S := S) (p := p) (by simp [cg_ub, cg_pay, az_up, ha]) ha8 (by simp [cg_ub, cg_pay, az_up, hS]) h12 (by simp [cg_ub, cg_pay, az_up, hp]) hpS' hl (Or.inl rfl)
          have c26 : cg_cm (cg_wh1 W (nI l)) (nI l) 26 = cg_wh1 W (nI l) 26 := by
            rw [ew]
            exact cg_cm_24 (a := a) (S := S) (p := p) (by simp [cg_ub, cg_pay, az_up, ha]) ha8 (by simp [cg_ub, cg_pay, az_up, hS]) h12 (by simp [cg_ub, cg_pay, az_up, hp]) hpS' hl (Or.inr rfl)
          have n4 : cg_cm (cg_wh1 W (nI l)) (nI l) 24 4 = nI (B' - 1) := by
            rw [c24, ew]
            simp [cg_ub, az_up]
          have n26 : ∀ i, cg_cm (cg_wh1 W (nI l)) (nI l) 26 i = if k ≤ i ∧ i + 1 < B' then W 26 (i + 1) else W 26 i := by
            intro i
            rw [c26, ew]
            simp [cg_ub, cg_pay, az_up]
          have hT' : TR e (cg_cm (cg_wh1 W (nI l)) (nI l)) (az_up M' 198 l 0) := by
            intro B2 hB2 hB26 i j hi hj hij
            have eB2 : B' - 1 = B2 := by
              rw [n4, nI_eq (by omega) (by omega)] at hB2
              exact hB2
            subst eB2
            rw [n26] at hij
            have hjl : ∀ i', i' < B' → i' ≠ k → W 26 i' = nI j → az_up M' 198 l 0 198 j = (if e ≤ i' then 1 else 0) := by
              intro i' h1 h3 h4
              have : ¬ j = l := fun c => h3 (hu i' h1 (c ▸ h4))
              rw [az_up_self, if_neg this, hf 198 (by decide)]
              exact hT B' hB h6 i' j h1 hj h4
            by_cases hik : k ≤ i ∧ i + 1 < B'
            · rw [if_pos hik] at hij
              rw [hjl (i + 1) (by omega) (by omega) hij, if_pos (by omega), if_pos (by omega)]
            · rw [if_neg hik] at hij
              exact hjl i (by omega) (by omega) hij
          have hi' := iw_wh hI hl el2 q3 ha ha8 hS h12 hp hpS'
          have hr' : RR (cg_cm (cg_wh1 W (nI l)) (nI l)) (az_up M' 198 l 0 193) := by
            rw [az_up_row (by decide)]
            exact hr (Or.inl (nI_pos' (show p < 2 ^ 31 by omega)))
          refine (ih k (B' - 1) _ _ _ hr' hi' n4 (by omega) hek (by omega) hT').mono (fun r h q => ?_)
          obtain ⟨M2, g1, g2, g3, g4⟩ := q
          refine ⟨M2, g1, ?_, (hf.w.up8 l 0).tr g3, ?_⟩
          · rw [eS]
            exact g2
          · rw [eS]
            exact g4
        · rw [if_pos (show ¬ 1 ≤ W 24 1 from q3)] at hr hE
          rw [if_neg q3] at eS
          refine az_sgp rfl rfl rfl rfl ?_
          refine az_cav rfl rfl rfl rfl hE ?_
          refine az_sgp rfl rfl rfl rfl ?_
          refine az_bra rfl rfl rfl (fun _ => ?_) (fun c => absurd rfl c)
          refine az_sgp rfl rfl rfl rfl ?_
          refine az_ret rfl rfl rfl rfl ?_
          refine ⟨M', rfl, ?_, hf.w, ?_⟩
          · rw [eS]
            rfl
          · rw [eS]
            intro c
            exact absurd c (by decide : ¬ false = true)
      · (with_reducible apply az_ifeqT); rfl
        rw [if_pos q2] at eS
        refine az_sg 1 rfl ?_
        refine az_sg 1 rfl ?_
        rw [nI_1]
        refine (ih (k + 1) B' M W _ hR hI hB h6 (by omega) (by omega) hT).mono (fun r h q => ?_)
        obtain ⟨M2, g1, g2, g3, g4⟩ := q
        refine ⟨M2, g1, ?_, g3, ?_⟩
        · rw [eS]
          exact g2
        · rw [eS]
          exact g4
  have K1 : ∀ (m k : Nat) (v : az_V), k + m = e → az_RUN (d + 3) k_X9_putsDown 2 [some (.ref 192), some (.int (nI k)), v] [] (az_hp M) (QP e (B - e) e W M) := by
    intro m
    induction m with
    | zero =>
      intro k v hs
      have ek : k = e := by omega
      subst ek
      exact K2 (B - k) k B M W v hR hI hB h6 (Nat.le_refl _) (by omega) hT
    | succ m ih =>
      intro k v hs
      obtain ⟨B', R, e1, e2, e3, e4, e5, e6, e7⟩ := hI.bag
      have eB : B' = B := by
        rw [e1, nI_eq (by omega) (by omega)] at hB
        exact hB
      subst eB
      obtain ⟨l, hl, el, el2⟩ := e5 k (by omega)
      refine az_sgp rfl rfl rfl rfl ?_
      refine az_ald rfl rfl (k := 12) rfl (by decide) (by decide) (hR.many.trans hB) ?_
      refine az_bra rfl rfl rfl (fun q => ?_) (fun q => ?_)
      · exact absurd q (nI_ge (by omega) (by omega))
      refine az_sgp rfl rfl rfl rfl ?_
      refine az_ald rfl rfl (k := 13 + k) (nI_add 13 k) (by omega) (by decide) ((hR.bag k (by omega)).trans el) ?_
      refine az_sgp rfl rfl rfl rfl ?_
      refine az_bld rfl rfl (k := l) rfl hl (by decide) ((hT B' hB h6 k l (by omega) hl el).trans (if_neg (by omega))) ?_
      (with_reducible apply az_ifeqT); rfl
      refine az_sg 1 rfl ?_
      refine az_sg 1 rfl ?_
      rw [nI_1]
      exact ih (k + 1) _ (by omega)
  refine az_in0 (code := k_X9_putsDown) (ls := [some (.ref 192), none, none]) rfl rfl rfl ?_
  refine az_sg 2 rfl ?_
  exact K1 e 0 _ (by omega)
end REFE
