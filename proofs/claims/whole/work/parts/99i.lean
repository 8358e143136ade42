/-! what a world keeps: its updates -/
section IWU
variable {W : az_Mem}
theorem IW.u_245 (h : IW W) (x : Int32) : IW (az_up W 24 5 x) := IW.mk h.zn h.sl h.sld h.well h.load h.cell h.heat h.water h.bag
theorem IW.u_246 (h : IW W) (x : Int32) : IW (az_up W 24 6 x) := IW.mk h.zn h.sl h.sld h.well h.load h.cell h.heat h.water h.bag
theorem IW.u_247 (h : IW W) (x : Int32) : IW (az_up W 24 7 x) := IW.mk h.zn h.sl h.sld h.well h.load h.cell h.heat h.water h.bag
theorem IW.u_22 (h : IW W) (x : Int32) : IW (az_up W 2 2 x) := IW.mk h.zn h.sl h.sld h.well h.load h.cell h.heat h.water h.bag
theorem IW.u_23 (h : IW W) (x : Int32) : IW (az_up W 2 3 x) := IW.mk h.zn h.sl h.sld h.well h.load h.cell h.heat h.water h.bag
theorem IW.u_12 (h : IW W) (k : Nat) (x : Int32) : IW (az_up W 12 k x) := IW.mk h.zn h.sl h.sld h.well h.load h.cell h.heat h.water h.bag
theorem IW.u_16 (h : IW W) (k : Nat) (x : Int32) : IW (az_up W 16 k x) := IW.mk h.zn h.sl h.sld h.well h.load h.cell h.heat h.water h.bag
theorem IW.u_6 (h : IW W) (k : Nat) (x : Int32) : IW (az_up W 6 k x) := IW.mk h.zn h.sl h.sld h.well h.load h.cell h.heat h.water h.bag
theorem IW.u_17 (h : IW W) (x : Int32) : IW (az_up W 17 0 x) := IW.mk h.zn h.sl h.sld h.well h.load h.cell h.heat h.water h.bag
theorem IW.u_at (h : IW W) {Z b : Nat} (hZ : W 2 0 = nI Z) (hb : b < Z) (h8 : Z ≤ 8) : IW (az_up W 24 0 (nI b)) := by
  obtain ⟨Y, a, e1, e2, e3, e4, e5⟩ := h.zn
  have e : Y = Z := by
    rw [e1, nI_eq (by omega) (by omega)] at hZ
    exact hZ
  exact IW.mk ⟨Y, b, e1, rfl, e3, e4, by omega⟩ h.sl h.sld h.well h.load h.cell h.heat h.water h.bag
theorem IW.u_water (h : IW W) {w k : Nat} (hk : W 24 2 = nI k) (hw : w ≤ k) (hk2 : k ≤ 200) : IW (az_up W 24 1 (nI w)) :=
  IW.mk h.zn h.sl h.sld h.well h.load h.cell h.heat ⟨w, k, rfl, hk, hw, hk2⟩ h.bag
theorem IW.u_full (h : IW W) : IW (az_up W 24 1 (W 24 2)) := by
  obtain ⟨w, k, e1, e2, e3, e4⟩ := h.water
  rw [e2]
  exact h.u_water e2 (Nat.le_refl k) e4
theorem IW.u_pay (h : IW W) {n : Nat} {c : Int32} (hc : c = nI n) (hn : n < 2 ^ 31) (hw : c ≤ W 24 1) : IW (cg_pay W c) := by
  obtain ⟨w, k, e1, e2, e3, e4⟩ := h.water
  subst hc
  rw [e1, nI_leI hn (by omega)] at hw
  unfold cg_pay
  rw [e1, nI_sub hw]
  exact (h.u_water e2 (by omega) e4).u_246 _
theorem IW.u_step (h : IW W) (hw : 1 ≤ W 24 1) : IW (cg_step W) := by
  obtain ⟨Z, a, hZ, ha, h2, h8, haZ⟩ := h.zn
  have hn := cg_nextN hZ ha h8 haZ
  have h1 := (h.u_pay (n := 1) rfl (by decide) hw).u_245 (W 24 5 + 1)
  have h3 : IW (cg_step0 W) := by
    unfold cg_step0
    rw [hn]
    exact h1.u_at hZ (Nat.mod_lt _ (by omega)) h8
  unfold cg_step
  split
  · exact h3
  · exact h3.u_full
theorem IW.u_load (h : IW W) {c l : Nat} (hl : l < 40) : IW (az_up W 14 c (nI l)) := by
  refine IW.mk h.zn h.sl h.sld h.well (fun k hk => ?_) h.cell h.heat h.water h.bag
  simp only [az_up]
  split
  · exact ⟨l, hl, rfl⟩
  · exact h.load k hk
theorem IW.u_cell (h : IW W) {c l : Nat} (hc : c < 96) : IW (az_up W 21 l (nI c)) := by
  refine IW.mk h.zn h.sl h.sld h.well h.load (fun k hk => ?_) h.heat h.water h.bag
  simp only [az_up]
  split
  · exact ⟨c, hc, rfl⟩
  · exact h.cell k hk
theorem IW.u_heat (h : IW W) {l x : Nat} (hx : x ≤ 99) : IW (az_up W 23 l (nI x)) := by
  refine IW.mk h.zn h.sl h.sld h.well h.load h.cell (fun k hk => ?_) h.water h.bag
  simp only [az_up]
  split
  · exact ⟨x, hx, rfl⟩
  · exact h.heat k hk
theorem IW.u_well (h : IW W) {z : Nat} {x : Int32} (hx : x = 0 ∨ x = 1) : IW (az_up W 10 z x) := by
  refine IW.mk h.zn h.sl h.sld (fun k hk => ?_) h.load h.cell h.heat h.water h.bag
  simp only [az_up]
  split
  · exact hx
  · exact h.well k hk
theorem IW.u_seal (h : IW W) {z : Nat} : IW (az_up W 8 z 1) := by
  obtain ⟨S, e1, e2, e3, e4⟩ := h.sl
  refine IW.mk h.zn ⟨S, e1, e2, e3, fun k hk => ?_⟩ (fun k hk => ?_) h.well h.load h.cell h.heat h.water h.bag
  · obtain ⟨p, e5, e6, e7⟩ := e4 k hk
    refine ⟨p, e5, e6, fun q => ?_⟩
    simp only [az_up] at q
    split at q
    · exact absurd q (by decide)
    · exact e7 q
  · simp only [az_up]
    split
    · exact Or.inr rfl
    · exact h.sld k hk
theorem IW.u_clear (h : IW W) {z : Nat} (h8 : z < 8) : IW (cg_clear W (nI z)) := by
  unfold cg_clear
  rw [az_rdN h8 (by decide), az_wrN h8 (by decide), az_wrN h8 (by decide), az_wrN h8 (by decide)]
  apply IW.u_23
  apply IW.u_12
  obtain ⟨S, e1, e2, e3, e4⟩ := h.sl
  refine IW.mk h.zn ⟨S, e1, e2, e3, fun k hk => ?_⟩ (fun k hk => ?_) h.well h.load h.cell h.heat h.water h.bag
  · by_cases hkz : k = z
    · subst hkz
      exact ⟨0, by simp [az_up]; rfl, by omega, fun _ => by omega⟩
    · obtain ⟨p, e5, e6, e7⟩ := e4 k hk
      refine ⟨p, by simp [az_up, hkz, e5], e6, fun q => e7 ?_⟩
      simp [az_up, hkz] at q
      exact q
  · simp only [az_up]
    split
    · exact Or.inl rfl
    · split
      · exact Or.inl rfl
      · exact h.sld k hk
theorem IW.u_app (h : IW W) {z p S : Nat} (h8 : z < 8) (hS : W 2 1 = nI S) (h12 : S ≤ 12) (hp : W 4 z = nI p) (hpS : p < S) : IW ((fun X => if p + 1 = S then az_up X 8 z 1 else X) (az_up W 4 z (nI p + 1))) := by
  obtain ⟨T, e1, e2, e3, e4⟩ := h.sl
  have eT : T = S := by
    rw [e1, nI_eq (by omega) (by omega)] at hS
    exact hS
  subst eT
  by_cases hf : p + 1 = T
  · simp only [if_pos hf]
    refine IW.mk h.zn ⟨T, e1, e2, e3, fun k hk => ?_⟩ (fun k hk => ?_) h.well h.load h.cell h.heat h.water h.bag
    · by_cases hkz : k = z
      · subst hkz
        exact ⟨p + 1, by simp [az_up, nI_1], by omega, fun q => by simp [az_up] at q⟩
      · obtain ⟨p, e5, e6, e7⟩ := e4 k hk
        refine ⟨p, by simp [az_up, hkz, e5], e6, fun q => e7 ?_⟩
        simp [az_up, hkz] at q
        exact q
    · simp only [az_up]
      split
      · exact Or.inr rfl
      · exact h.sld k hk
  · simp only [if_neg hf]
    refine IW.mk h.zn ⟨T, e1, e2, e3, fun k hk => ?_⟩ h.sld h.well h.load h.cell h.heat h.water h.bag
    by_cases hkz : k = z
    · subst hkz
      exact ⟨p + 1, by simp [az_up, nI_1], by omega, fun q => by omega⟩
    · obtain ⟨p, e5, e6, e7⟩ := e4 k hk
      exact ⟨p, by simp [az_up, hkz, e5], e6, fun q => e7 q⟩
theorem IW.u_place (h : IW W) {l : Nat} {x : Int32} (hl : l < 40) (h2 : ¬ W 19 l = 2) (hx : ¬ x = 2) : IW (az_up W 19 l x) := by
  obtain ⟨B, R, e1, e2, e3, e4, e5, e6, e7⟩ := h.bag
  refine IW.mk h.zn h.sl h.sld h.well h.load h.cell h.heat h.water ⟨B, R, e1, e2, e3, e4, fun i hi => ?_, e6, fun k hk q => ?_⟩
  · obtain ⟨j, f1, f2, f3⟩ := e5 i hi
    refine ⟨j, f1, f2, ?_⟩
    have : ¬ j = l := fun q => h2 (q ▸ f3)
    simp [az_up, this, f3]
  · simp only [az_up] at q
    split at q
    · exact absurd q hx
    · exact e7 k hk q
theorem IW.u_pack (h : IW W) {l B R : Nat} (hl : l < 40) (h2 : ¬ W 19 l = 2) (hB : W 24 4 = nI B) (hR : W 24 3 = nI R) (h6 : R ≤ 6) (hBR : B < R) : IW (cg_packUp W (nI l)) := by
  have e0 : cg_packUp W (nI l) = az_up (az_up (az_up W 26 B (nI l)) 24 4 (nI (B + 1))) 19 l 2 := by
    unfold cg_packUp cg_pack
    rw [hB, az_wrN hl (by decide), az_wrN (show B < 6 by omega) (by decide), nI_1]
  rw [e0]
  obtain ⟨B', R', e1, e2, e3, e4, e5, e6, e7⟩ := h.bag
  have eB : B' = B := by
    rw [e1, nI_eq (by omega) (by omega)] at hB
    exact hB
  subst eB
  refine IW.mk h.zn h.sl h.sld h.well h.load h.cell h.heat h.water ⟨B' + 1, R, rfl, hR, hBR, h6, fun i hi => ?_, fun i j hi hj q => ?_, fun k hk q => ?_⟩
  · by_cases hiB : i = B'
    · subst hiB
      exact ⟨l, hl, by simp [az_up], by simp [az_up]⟩
    · obtain ⟨j, f1, f2, f3⟩ := e5 i (by omega)
      refine ⟨j, f1, by simp [az_up, hiB, f2], ?_⟩
      have : ¬ j = l := fun q => h2 (q ▸ f3)
      simp [az_up, this, f3]
  · have nl : ∀ i, i < B' → ¬ W 26 i = nI l := by
      intro i hi q
      obtain ⟨j, f1, f2, f3⟩ := e5 i hi
      rw [f2, nI_eq (by omega) (by omega)] at q
      exact h2 (q ▸ f3)
    by_cases hiB : i = B' <;> by_cases hjB : j = B'
    · omega
    · simp [az_up, hiB, hjB] at q
      exact absurd q.symm (nl j (by omega))
    · simp [az_up, hiB, hjB] at q
      exact absurd q (nl i (by omega))
    · simp [az_up, hiB, hjB] at q
      exact e6 i j (by omega) (by omega) q
  · by_cases hkl : k = l
    · subst hkl
      exact ⟨B', by omega, by simp [az_up]⟩
    · simp [az_up, hkl] at q
      obtain ⟨i, f1, f2⟩ := e7 k hk q
      refine ⟨i, by omega, ?_⟩
      have : ¬ i = B' := by omega
      simp [az_up, this, f2]
theorem IW.u_ub (h : IW W) {l q B : Nat} {x : Int32} (hl : l < 40) (hB : W 24 4 = nI B) (hq : q < B) (e : W 26 q = nI l) (hx : ¬ x = 2) (hB6 : B ≤ 6) : IW (az_up (cg_ub W q B) 19 l x) := by
  obtain ⟨B', R', e1, e2, e3, e4, e5, e6, e7⟩ := h.bag
  have eB : B' = B := by
    rw [e1, nI_eq (by omega) (by omega)] at hB
    exact hB
  subst eB
  have hw : ∀ c j, c ≠ 26 → c ≠ 19 → (c ≠ 24 ∨ j ≠ 4) → az_up (cg_ub W q B') 19 l x c j = W c j := by
    intro c j h1 h3 h2
    simp only [az_up, cg_ub]
    rw [if_neg (by omega), if_neg (by omega), if_neg (by omega)]
  have hrow : ∀ c, c ≠ 26 → c ≠ 19 → c ≠ 24 → az_up (cg_ub W q B') 19 l x c = W c := by
    intro c h1 h3 h2
    funext j
    exact hw c j h1 h3 (Or.inl h2)
  have hbag : ∀ i, az_up (cg_ub W q B') 19 l x 26 i = if q ≤ i ∧ i + 1 < B' then W 26 (i + 1) else W 26 i := by
    intro i
    simp [az_up, cg_ub]
  refine IW.mk ?_ ?_ ?_ ?_ ?_ ?_ ?_ ?_ ⟨B' - 1, R', ?_, ?_, by omega, e4, fun i hi => ?_, fun i j hi hj => ?_, fun k hk => ?_⟩
  · rw [hw 2 0 (by decide) (by decide) (Or.inl (by decide)), hw 24 0 (by decide) (by decide) (Or.inr (by decide))]
    exact h.zn
  · rw [hrow 2 (by decide) (by decide) (by decide), hrow 4 (by decide) (by decide) (by decide), hrow 8 (by decide) (by decide) (by decide)]
    exact h.sl
  · rw [hrow 8 (by decide) (by decide) (by decide)]
    exact h.sld
  · rw [hrow 10 (by decide) (by decide) (by decide)]
    exact h.well
  · rw [hrow 14 (by decide) (by decide) (by decide)]
    exact h.load
  · rw [hrow 21 (by decide) (by decide) (by decide)]
    exact h.cell
  · rw [hrow 23 (by decide) (by decide) (by decide)]
    exact h.heat
  · rw [hw 24 1 (by decide) (by decide) (Or.inr (by decide)), hw 24 2 (by decide) (by decide) (Or.inr (by decide))]
    exact h.water
  · simp [az_up, cg_ub]
  · rw [hw 24 3 (by decide) (by decide) (Or.inr (by decide))]
    exact e2
  · rw [hbag]
    have go : ∀ i', i' < B' → i' ≠ q → ∃ l', l' < 40 ∧ W 26 i' = nI l' ∧ az_up (cg_ub W q B') 19 l x 19 l' = 2 := by
      intro i' h1 h2
      obtain ⟨j, f1, f2, f3⟩ := e5 i' h1
      refine ⟨j, f1, f2, ?_⟩
      have : ¬ j = l := fun c => h2 (e6 i' q h1 hq (by rw [f2, e, c]))
      simp [az_up, cg_ub, this, f3]
    split
    · exact go (i + 1) (by omega) (by omega)
    · exact go i (by omega) (by omega)
  · rw [hbag, hbag]
    split <;> split <;> intro c
    · have := e6 _ _ (by omega) (by omega) c
      omega
    · have := e6 _ _ (by omega) (by omega) c
      omega
    · have := e6 _ _ (by omega) (by omega) c
      omega
    · exact e6 _ _ (by omega) (by omega) c
  · intro c
    by_cases hkl : k = l
    · subst hkl
      simp [az_up] at c
      exact absurd c hx
    · simp [az_up, cg_ub, hkl] at c
      obtain ⟨i, f1, f2⟩ := e7 k hk c
      have hiq : ¬ i = q := by
        intro c2
        rw [c2, e, nI_eq (by omega) (by omega)] at f2
        exact hkl f2.symm
      by_cases hlt : i < q
      · refine ⟨i, by omega, ?_⟩
        rw [hbag, if_neg (by omega)]
        exact f2
      · refine ⟨i - 1, by omega, ?_⟩
        rw [hbag, if_pos (by omega), show i - 1 + 1 = i by omega]
        exact f2
theorem IW.u_cm {l a p S : Nat} (hl : l < 40) (h : IW (az_up W 19 l 1)) (ha : W 24 0 = nI a) (h8 : a < 8) (hS : W 2 1 = nI S) (h12 : S ≤ 12) (hp : W 4 a = nI p) (hpS : p < S) : IW (cg_cm W (nI l)) := by
  rw [cg_cmN ha h8 hS h12 hp hpS hl]
  apply IW.u_cell _ (by omega)
  have k := (((h.u_load (c := 12 * a + p) hl).u_16 (12 * a + p) (W 2 2)).u_22 (W 2 2 + 1)).u_app h8 hS h12 hp hpS
  have e : (fun X => if p + 1 = S then az_up X 8 a 1 else X) (az_up (az_up (az_up (az_up (az_up W 19 l 1) 14 (12 * a + p) (nI l)) 16 (12 * a + p) (W 2 2)) 2 2 (W 2 2 + 1)) 4 a (nI p + 1)) = az_up ((fun X => if p + 1 = S then az_up X 8 a 1 else X) (az_up (az_up (az_up (az_up W 14 (12 * a + p) (nI l)) 16 (12 * a + p) (W 2 2)) 2 2 (W 2 2 + 1)) 4 a (nI p + 1))) 19 l 1 := by
    by_cases hf : p + 1 = S
    · simp only [if_pos hf]
      rw [az_up_comm (a := 19) (b := 14) (Or.inl (by decide)), az_up_comm (a := 19) (b := 16) (Or.inl (by decide)), az_up_comm (a := 19) (b := 2) (Or.inl (by decide)), az_up_comm (a := 19) (b := 4) (Or.inl (by decide)), az_up_comm (a := 19) (b := 8) (Or.inl (by decide))]
    · simp only [if_neg hf]
      rw [az_up_comm (a := 19) (b := 14) (Or.inl (by decide)), az_up_comm (a := 19) (b := 16) (Or.inl (by decide)), az_up_comm (a := 19) (b := 2) (Or.inl (by decide)), az_up_comm (a := 19) (b := 4) (Or.inl (by decide))]
  rw [← e]
  exact k
end IWU
