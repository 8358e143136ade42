/-! what a world keeps: its updates -/
section IWU
variable {W : az_Mem}
theorem IW.u_245 (h : IW W) (x : Int32) : IW (az_up W 24 5 x) := IW.mk h.zn h.sl h.sld h.well h.load h.cell h.heat h.water h.bag
theorem IW.u_246 (h : IW W) (x : Int32) : IW (az_up W 24 6 x) := IW.mk h.zn h.sl h.sld h.well h.load h.cell h.heat h.water h.bag
theorem IW.u_247 (h : IW W) (x : Int32) : IW (az_up W 24 7 x) := IW.mk h.zn h.sl h.sld h.well h.load h.cell h.heat h.water h.bag
theorem IW.u_22 (h : IW W) (x : Int32) : IW (az_up W 2 2 x) := IW.mk h.zn h.sl h.sld h.well h.load h.cell h.heat h.water h.bag
theorem IW.u_23 (h : IW W) (x : Int32) : IW (az_up W 2 3 x) := IW.mk h.zn h.sl h.sld h.well h.load h.cell h.heat h.water h.bag
theorem IW.u_12 (h : IW W) (k : Nat) (x : Int32) : IW (az_up W 12 k x) := IW.mk h.zn h.sl h.sld h.well h.load h.cell h.heat h.water h.bag
theorem IW.u_16 (h : IW W) (k : Nat) (x : Int32) : IW (az_up W 16 k x) := IW.mk h.zn h.sl h.sld h.well h.load h.cell h.heat h.water h.bag
theorem IW.u_6 (h : IW W) (k : Nat) (x : Int32) : IW (az_up W 6 k x) := IW.mk h.zn h.sl h.sld h.well h.load h.cell h.heat h.water h.bag
theorem IW.u_17 (h : IW W) (x : Int32) : IW (az_up W 17 0 x) := IW.mk h.zn h.sl h.sld h.well h.load h.cell h.heat h.water h.bag
theorem IW.u_at (h : IW W) {Z b : Nat} (hZ : W 2 0 = nI Z) (hb : b < Z) (h8 : Z ≤ 8) : IW (az_up W 24 0 (nI b)) := by
  obtain ⟨Y, a, e1, e2, e3, e4, e5⟩ := h.zn
  have e : Y = Z := by
    rw [e1, nI_eq (by omega) (by omega)] at hZ
    exact hZ
  exact IW.mk ⟨Y, b, e1, rfl, e3, e4, by omega⟩ h.sl h.sld h.well h.load h.cell h.heat h.water h.bag
theorem IW.u_water (h : IW W) {w k : Nat} (hk : W 24 2 = nI k) (hw : w ≤ k) (hk2 : k ≤ 200) : IW (az_up W 24 1 (nI w)) :=
  IW.mk h.zn h.sl h.sld h.well h.load h.cell h.heat ⟨w, k, rfl, hk, hw, hk2⟩ h.bag
theorem IW.u_full (h : IW W) : IW (az_up W 24 1 (W 24 2)) := by
  obtain ⟨w, k, e1, e2, e3, e4⟩ := h.water
  rw [e2]
  exact h.u_water e2 (Nat.le_refl k) e4
theorem IW.u_pay (h : IW W) {n : Nat} {c : Int32} (hc : c = nI n) (hn : n < 2 ^ 31) (hw : c ≤ W 24 1) : IW (cg_pay W c) := by
  obtain ⟨w, k, e1, e2, e3, e4⟩ := h.water
  subst hc
  rw [e1, nI_leI hn (by omega)] at hw
  unfold cg_pay
  rw [e1, nI_sub hw]
  exact (h.u_water e2 (by omega) e4).u_246 _
theorem IW.u_step (h : IW W) (hw : 1 ≤ W 24 1) : IW (cg_step W) := by
  obtain ⟨Z, a, hZ, ha, h2, h8, haZ⟩ := h.zn
  have hn := cg_nextN hZ ha h8 haZ
  have h1 := (h.u_pay (n := 1) rfl (by decide) hw).u_245 (W 24 5 + 1)
  have h3 : IW (cg_step0 W) := by
    unfold cg_step0
    rw [hn]
    exact h1.u_at hZ (Nat.mod_lt _ (by omega)) h8
  unfold cg_step
  split
  · exact h3
  · exact h3.u_full
theorem IW.u_load (h : IW W) {c l : Nat} (hl : l < 40) : IW (az_up W 14 c (nI l)) := by
  refine IW.mk h.zn h.sl h.sld h.well (fun k hk => ?_) h.cell h.heat h.water h.bag
  simp only [az_up]
  split
  · exact ⟨l, hl, rfl⟩
  · exact h.load k hk
theorem IW.u_cell (h : IW W) {c l : Nat} (hc : c < 96) : IW (az_up W 21 l (nI c)) := by
  refine IW.mk h.zn h.sl h.sld h.well h.load (fun k hk => ?_) h.heat h.water h.bag
  simp only [az_up]
  split
  · exact ⟨c, hc, rfl⟩
  · exact h.cell k hk
theorem IW.u_heat (h : IW W) {l x : Nat} (hx : x ≤ 99) : IW (az_up W 23 l (nI x)) := by
  refine IW.mk h.zn h.sl h.sld h.well h.load h.cell (fun k hk => ?_) h.water h.bag
  simp only [az_up]
  split
  · exact ⟨x, hx, rfl⟩
  · exact h.heat k hk
theorem IW.u_well (h : IW W) {z : Nat} {x : Int32} (hx : x = 0 ∨ x = 1) : IW (az_up W 10 z x) := by
  refine IW.mk h.zn h.sl h.sld (fun k hk => ?_) h.load h.cell h.heat h.water h.bag
  simp only [az_up]
  split
  · exact hx
  · exact h.well k hk
theorem IW.u_seal (h : IW W) {z : Nat} : IW (az_up W 8 z 1) := by
  obtain ⟨S, e1, e2, e3, e4⟩ := h.sl
  refine IW.mk h.zn ⟨S, e1, e2, e3, fun k hk => ?_⟩ (fun k hk => ?_) h.well h.load h.cell h.heat h.water h.bag
  · obtain ⟨p, e5, e6, e7⟩ := e4 k hk
    refine ⟨p, e5, e6, fun q => ?_⟩
    simp only [az_up] at q
    split at q
    · exact absurd q (by decide)
    · exact e7 q
  · simp only [az_up]
    split
    · exact Or.inr rfl
    · exact h.sld k hk
theorem IW.u_clear (h : IW W) {z : Nat} (h8 : z < 8) : IW (cg_clear W (nI z)) := by
  unfold cg_clear
  rw [az_rdN h8 (by decide), az_wrN h8 (by decide), az_wrN h8 (by decide), az_wrN h8 (by decide)]
  apply IW.u_23
  apply IW.u_12
  obtain ⟨S, e1, e2, e3, e4⟩ := h.sl
  refine IW.mk h.zn ⟨S, e1, e2, e3, fun k hk => ?_⟩ (fun k hk => ?_) h.well h.load h.cell h.heat h.water h.bag
  · by_cases hkz : k = z
    · subst hkz
      exact ⟨0, by simp [az_up]; rfl, by omega, fun _ => by omega⟩
    · obtain ⟨p, e5, e6, e7⟩ := e4 k hk
      refine ⟨p, by simp [az_up, hkz, e5], e6, fun q => e7 ?_⟩
      simp [az_up, hkz] at q
      exact q
  · simp only [az_up]
    split
    · exact Or.inl rfl
    · split
      · exact Or.inl rfl
      · exact h.sld k hk
theorem IW.u_app (h : IW W) {z p S : Nat} (h8 : z < 8) (hS : W 2 1 = nI S) (h12 : S ≤ 12) (hp : W 4 z = nI p) (hpS : p < S) : IW ((fun X => if p + 1 = S then az_up X 8 z 1 else X) (az_up W 4 z (nI p + 1))) := by
  obtain ⟨T, e1, e2, e3, e4⟩ := h.sl
  have eT : T = S := by
    rw [e1, nI_eq (by omega) (by omega)] at hS
    exact hS
  subst eT
  by_cases hf : p + 1 = T
  · simp only [if_pos hf]
    refine IW.mk h.zn ⟨T, e1, e2, e3, fun k hk => ?_⟩ (fun k hk => ?_) h.well h.load h.cell h.heat h.water h.bag
    · by_cases hkz : k = z
      · subst hkz
        exact ⟨p + 1, by simp [az_up, nI_1], by omega, fun q => by simp [az_up] at q⟩
      · obtain ⟨p, e5, e6, e7⟩ := e4 k hk
        refine ⟨p, by simp [az_up, hkz, e5], e6, fun q => e7 ?_⟩
        simp [az_up, hkz] at q
        exact q
    · simp only [az_up]
      split
      · exact Or.inr rfl
      · exact h.sld k hk
  · simp only [if_neg hf]
    refine IW.mk h.zn ⟨T, e1, e2, e3, fun k hk => ?_⟩ h.sld h.well h.load h.cell h.heat h.water h.bag
    by_cases hkz : k = z
    · subst hkz
      exact ⟨p + 1, by simp [az_up, nI_1], by omega, fun q => by omega⟩
    · obtain ⟨p, e5, e6, e7⟩ := e4 k hk
      exact ⟨p, by simp [az_up, hkz, e5], e6, fun q => e7 q⟩
theorem IW.u_place (h : IW W) {l : Nat} {x : Int32} (hl : l < 40) (h2 : ¬ W 19 l = 2) (hx : ¬ x = 2) : IW (az_up W 19 l x) := by
  obtain ⟨B, R, e1, e2, e3, e4, e5, e6, e7⟩ := h.bag
  refine IW.mk h.zn h.sl h.sld h.well h.load h.cell h.heat h.water ⟨B, R, e1, e2, e3, e4, fun i hi => ?_, e6, fun k hk q => ?_⟩
  · obtain ⟨j, f1, f2, f3⟩ := e5 i hi
    refine ⟨j, f1, f2, ?_⟩
    have : ¬ j = l := fun q => h2 (q ▸ f3)
    simp [az_up, this, f3]
  · simp only [az_up] at q
    split at q
    · exact absurd q hx
    · exact e7 k hk q
theorem IW.u_pack (h : IW W) {l B R : Nat} (hl : l < 40) (h2 : ¬ W 19 l = 2) (hB : W 24 4 = nI B) (hR : W 24 3 = nI R) (h6 : R ≤ 6) (hBR : B < R) : IW (cg_packUp W (nI l)) := by
  have e0 : cg_packUp W (nI l) = az_up (az_up (az_up W 26 B (nI l)) 24 4 (nI (B + 1))) 19 l 2 := by
    unfold cg_packUp cg_pack
    rw [hB, az_wrN hl (by decide), az_wrN (show B < 6 by omega) (by decide), nI_1]
  rw [e0]
  obtain ⟨B', R', e1, e2, e3, e4, e5, e6, e7⟩ := h.bag
  have eB : B' = B := by
    rw [e1, nI_eq (by omega) (by omega)] at hB
    exact hB
  subst eB
  refine IW.mk h.zn h.sl h.sld h.well h.load h.cell h.heat h.water ⟨B' + 1, R, rfl, hR, hBR, h6, fun i hi => ?_, fun i j hi hj q => ?_, fun k hk q => ?_⟩
  · by_cases hiB : i = B'
    · subst hiB
      exact ⟨l, hl, by simp [az_up], by simp [az_up]⟩
    · obtain ⟨j, f1, f2, f3⟩ := e5 i (by omega)
      refine ⟨j, f1, by simp [az_up, hiB, f2], ?_⟩
      have : ¬ j = l := fun q => h2 (q ▸ f3)
      simp [az_up, this, f3]
  · have nl : ∀ i, i < B' → ¬ W 26 i = nI l := by
      intro i hi q
      obtain ⟨j, f1, f2, f3⟩ := e5 i hi
      rw [f2, nI_eq (by omega) (by omega)] at q
      exact h2 (q ▸ f3)
    by_cases hiB : i = B' <;> by_cases hjB : j = B'
    · omega
    · simp [az_up, hiB, hjB] at q
      exact absurd q.symm (nl j (by omega))
    · simp [az_up, hiB, hjB] at q
      exact absurd q (nl i (by omega))
    · simp [az_up, hiB, hjB] at q
      exact e6 i j (by omega) (by omega) q
  · by_cases hkl : k = l
    · subst hkl
      exact ⟨B', by omega, by simp [az_up]⟩
    · simp [az_up, hkl] at q
      obtain ⟨i, f1, f2⟩ := e7 k hk q
      refine ⟨i, by omega, ?_⟩
      have : ¬ i = B' := by omega
      simp [az_up, this, f2]
theorem IW.u_ub (h : IW W) {l q B : Nat} {x : Int32} (hl : l < 40) (hB : W 24 4 = nI B) (hq : q < B) (e : W 26 q = nI l) (hx : ¬ x = 2) (hB6 : B ≤ 6) : IW (az_up (cg_ub W q B) 19 l x) := by
  obtain ⟨B', R', e1, e2, e3, e4, e5, e6, e7⟩ := h.bag
  have eB : B' = B := by
    rw [e1, nI_eq (by omega) (by omega)] at hB
    exact hB
  subst eB
  have hw : ∀ c j, c ≠ 26 → c ≠ 19 → (c ≠ 24 ∨ j ≠ 4) → az_up (cg_ub W q B') 19 l x c j = W c j := by
    intro c j h1 h3 h2
    simp only [az_up, cg_ub]
    rw [if_neg (by omega), if_neg (by omega), if_neg (by omega)]
  have hrow : ∀ c, c ≠ 26 → c ≠ 19 → c ≠ 24 → az_up (cg_ub W q B') 19 l x c = W c := by
    intro c h1 h3 h2
    funext j
    exact hw c j h1 h3 (Or.inl h2)
  have hbag : ∀ i, az_up (cg_ub W q B') 19 l x 26 i = if q ≤ i ∧ i + 1 < B' then W 26 (i + 1) else W 26 i := by
    intro i
    simp [az_up, cg_ub]
  refine IW.mk ?_ ?_ ?_ ?_ ?_ ?_ ?_ ?_ ⟨B' - 1, R', ?_, ?_, by omega, e4, fun i hi => ?_, fun i j hi hj => ?_, fun k hk => ?_⟩
  · rw [hw 2 0 (by decide) (by decide) (Or.inl (by decide)), hw 24 0 (by decide) (by decide) (Or.inr (by decide))]
    exact h.zn
  · rw [hrow 2 (by decide) (by decide) (by decide), hrow 4 (by decide) (by decide) (by decide), hrow 8 (by decide) (by decide) (by decide)]
    exact h.sl
  · rw [hrow 8 (by decide) (by decide) (by decide)]
    exact h.sld
  · rw [hrow 10 (by decide) (by decide) (by decide)]
    exact h.well
  · rw [hrow 14 (by decide) (by decide) (by decide)]
    exact h.load
  · rw [hrow 21 (by decide) (by decide) (by decide)]
    exact h.cell
  · rw [hrow 23 (by decide) (by decide) (by decide)]
    exact h.heat
  · rw [hw 24 1 (by decide) (by decide) (Or.inr (by decide)), hw 24 2 (by decide) (by decide) (Or.inr (by decide))]
    exact h.water
  · simp [az_up, cg_ub]
  · rw [hw 24 3 (by decide) (by decide) (Or.inr (by decide))]
    exact e2
  · rw [hbag]
    have go : ∀ i', i' < B' → i' ≠ q → ∃ l', l' < 40 ∧ W 26 i' = nI l' ∧ az_up (cg_ub W q B') 19 l x 19 l' = 2 := by
      intro i' h1 h2
      obtain ⟨j, f1, f2, f3⟩ := e5 i' h1
      refine ⟨j, f1, f2, ?_⟩
      have : ¬ j = l := fun c => h2 (e6 i' q h1 hq (by rw [f2, e, c]))
      simp [az_up, cg_ub, this, f3]
    split
    · exact go (i + 1) (by omega) (by omega)
    · exact go i (by omega) (by omega)
  · rw [hbag, hbag]
    split <;> split <;> intro c
    · have := e6 _ _ (by omega) (by omega) c
      omega
    · have := e6 _ _ (by omega) (by omega) c
      omega
    · have := e6 _ _ (by omega) (by omega) c
      omega
    · exact e6 _ _ (by omega) (by omega) c
  · intro c
    by_cases hkl : k = l
    · subst hkl
      simp [az_up] at c
      exact absurd c hx
    · simp [az_up, cg_ub, hkl] at c
      obtain ⟨i, f1, f2⟩ := e7 k hk c
      have hiq : ¬ i = q := by
        intro c2
        rw [c2, e, nI_eq (by omega) (by omega)] at f2
        exact hkl f2.symm
      by_cases hlt : i < q
      · refine ⟨i, by omega, ?_⟩
        rw [hbag, if_neg (by omega)]
        exact f2
      · refine ⟨i - 1, by omega, ?_⟩
        rw [hbag, if_pos (by omega), show i - 1 + 1 = i by omega]
        exact f2
theorem IW.u_cm {l a p S : Nat} (hl : l < 40) (h : IW (az_up W 19 l 1)) (ha : W 24 0 = nI a) (h8 : a < 8) (hS : W 2 1 = nI S) (h12 : S ≤ 12) (hp : W 4 a = nI p) (hpS : p < S) : IW (cg_cm W (nI l)) := by
  rw [cg_cmN ha h8 hS h12 hp hpS hl]
  apply IW.u_cell _ (by omega)
  have k := (((h.u_load (c := 12 * a + p) hl).u_16 (12 * a + p) (W 2 2)).u_22 (W 2 2 + 1)).u_app h8 hS h12 hp hpS
  have e : (fun X => if p + 1 = S then az_up X 8 a 1 else X) (az_up (az_up (az_up (az_up (az_up W 19 l 1) 14 (12 * a + p) (nI l)) 16 (12 * a + p) (W 2 2)) 2 2 (W 2 2 + 1)) 4 a (nI p + 1)) = az_up ((fun X => if p + 1 = S then az_up X 8 a 1 else X) (az_up (az_up (az_up (az_up W 14 (12 * a + p) (nI l)) 16 (12 * a + p) (W 2 2)) 2 2 (W 2 2 + 1)) 4 a (nI p + 1))) 19 l 1 := by
    by_cases hf : p + 1 = S
    · simp only [if_pos hf]
      rw [az_up_comm (a := 19) (b := 14) (Or.inl (by decide)), az_up_comm (a := 19) (b := 16) (Or.inl (by decide)), az_up_comm (a := 19) (b := 2) (Or.inl (by decide)), az_up_comm (a := 19) (b := 4) (Or.inl (by decide)), az_up_comm (a := 19) (b := 8) (Or.inl (by decide))]
    · simp only [if_neg hf]
      rw [az_up_comm (a := 19) (b := 14) (Or.inl (by decide)), az_up_comm (a := 19) (b := 16) (Or.inl (by decide)), az_up_comm (a := 19) (b := 2) (Or.inl (by decide)), az_up_comm (a := 19) (b := 4) (Or.inl (by decide))]
  rw [← e]
  exact k
end IWU
/-! REFERENCE, ACTS: go, seal, reset, take -/
abbrev okA (a : Int32) : Prop := 0 ≤ a ∨ a = -5
theorem IW.pt {W : az_Mem} (h : IW W) : ∃ Z a S p : Nat, W 2 0 = nI Z ∧ W 24 0 = nI a ∧ 2 ≤ Z ∧ Z ≤ 8 ∧ a < Z ∧ a < 8 ∧ W 2 1 = nI S ∧ 2 ≤ S ∧ S ≤ 12 ∧ W 4 a = nI p ∧ p ≤ S ∧ (W 8 a = 0 → p < S) := by
  obtain ⟨Z, a, h1, h2, h3, h4, h5⟩ := h.zn
  obtain ⟨S, h6, h7, h8, h9⟩ := h.sl
  obtain ⟨p, h10, h11, h12⟩ := h9 a (by omega)
  exact ⟨Z, a, S, p, h1, h2, h3, h4, h5, by omega, h6, h7, h8, h10, h11, h12⟩
def cg_go (W : az_Mem) (n : Int32) : Int32 × az_Mem := if n < 1 ∨ ¬ n ≤ 24 then (-2, W) else (if (cg_trav n.toNatClampNeg W).1 = true then (cg_trav n.toNatClampNeg W).2 24 0 else -6, (cg_trav n.toNatClampNeg W).2)
section REFA
variable {M W : az_Mem}
theorem iw_go (hI : IW W) (n : Int32) : IW (cg_go W n).2 := by
  have K : ∀ (m : Nat) (W : az_Mem), IW W → IW (cg_trav m W).2 := by
    intro m
    induction m with
    | zero => intro W h; exact h
    | succ m ih =>
      intro W h
      show IW (if 1 ≤ W 24 1 then cg_trav m (cg_step W) else (false, W)).2
      split
      · next c => exact ih _ (h.u_step c)
      · exact h
  unfold cg_go
  split
  · exact hI
  · exact K _ W hI
theorem iw_seal (hI : IW W) : IW (cg_seal W).2 := by
  obtain ⟨Z, a, S, p, hZ, ha, h2, h8, haZ, ha8, hS, h2S, h12, hp, hpS, hps⟩ := hI.pt
  unfold cg_seal
  split
  · exact hI
  · rw [ha, az_wrN ha8 (by decide)]
    exact hI.u_seal
theorem iw_reset (hI : IW W) (P : Nat) : IW (cg_reset W P).2 := by
  obtain ⟨Z, a, S, p, hZ, ha, h2, h8, haZ, ha8, hS, h2S, h12, hp, hpS, hps⟩ := hI.pt
  unfold cg_reset
  split
  · exact hI
  split
  · exact hI
  split
  · exact hI
  · next q _ =>
    rw [ha]
    exact (hI.u_pay (n := 3) rfl (by decide) (by rw [Classical.not_not] at q; exact q)).u_clear ha8
end REFA
/-! REFERENCE, ACTS: write, take, put, drop -/
section REFB
variable {M W : az_Mem}
theorem kn_iff {l : Int32} : cg_known l ↔ ∃ k, k < 40 ∧ l = nI k := ix_iff (m := 40) (n := 40) rfl (by decide)
def cg_hb (h : Nat) : Nat := if h < 99 then h + 1 else 99
theorem cg_warmN {l h : Nat} (hl : l < 40) (e : W 23 l = nI h) (h99 : h ≤ 99) : cg_warm W (nI l) = az_up W 23 l (nI (cg_hb h)) := by
  unfold cg_warm cg_hb
  rw [az_rdN hl (by decide), az_wrN hl (by decide), e, nI_1]
  by_cases q : h < 99
  · rw [if_pos q, if_neg (show ¬ (99 : Int32) < nI (h + 1) from nI_nlt (a := 99) (b := h + 1) (by omega) (by decide))]
  · rw [if_neg q, show h = 99 by omega, if_pos (by decide)]
    rfl
theorem cg_writeN {l h a p : Nat} (hl : l < 40) (e : W 23 l = nI h) (h99 : h ≤ 99) (ha : W 24 0 = nI a) (ha8 : a < 8) (hp : W 4 a = nI p) :
    cg_write W (nI l) = if W 19 l = 2 then (-4, az_up W 23 l (nI (cg_hb h))) else if ¬ cg_adm W (nI a) (if W 17 0 ≤ nI (cg_hb h) then 1 else 0) then (-4, az_up W 23 l (nI (cg_hb h))) else if ¬ 1 ≤ W 24 1 then (-6, az_up W 23 l (nI (cg_hb h))) else (nI p, cg_cm (az_up (cg_pay W 1) 23 l (nI (cg_hb h))) (nI l)) := by
  have hk : cg_known (nI l) := kn_iff.mpr ⟨l, hl, rfl⟩
  unfold cg_write
  rw [if_neg (fun c => c hk), cg_warmN hl e h99]
  have e1 : az_rd (az_up W 23 l (nI (cg_hb h)) 19) 40 (nI l) = W 19 l := by rw [az_rdN hl (by decide)]; rfl
  have e2 : (cg_may (az_up W 23 l (nI (cg_hb h))) (nI l) (az_up W 23 l (nI (cg_hb h)) 24 0)) = cg_adm W (nI a) (if W 17 0 ≤ nI (cg_hb h) then 1 else 0) := by
    unfold cg_may
    rw [az_rdN hl (by decide), az_up_same, show az_up W 23 l (nI (cg_hb h)) 24 0 = nI a from ha]
    rfl
  rw [e1]
  by_cases q : W 19 l = 2
  · rw [if_pos q, if_pos q]
  · rw [if_neg q, if_neg q]
    have e3 : cg_wh1 (az_up W 23 l (nI (cg_hb h))) (nI l) = az_up (cg_pay W 1) 23 l (nI (cg_hb h)) := by
      unfold cg_wh1
      rw [e1, if_neg q]
      unfold cg_pay
      rw [az_up_comm (a := 23) (b := 24) (Or.inl (by decide)), az_up_comm (a := 23) (b := 24) (Or.inl (by decide))]
      rfl
    have e4 : cg_wh (az_up W 23 l (nI (cg_hb h))) (nI l) = cg_cm (az_up (cg_pay W 1) 23 l (nI (cg_hb h))) (nI l) := by
      unfold cg_wh
      rw [e3]
      rfl
    rw [e3, e4]
    have e5 : az_rd (az_up (cg_pay W 1) 23 l (nI (cg_hb h)) 4) 8 (az_up (cg_pay W 1) 23 l (nI (cg_hb h)) 24 0) = nI p := by
      rw [show az_up (cg_pay W 1) 23 l (nI (cg_hb h)) 24 0 = nI a from ha, az_rdN ha8 (by decide)]
      exact hp
    rw [e5]
    simp only [e2]
    rfl
theorem iw_write (hI : IW W) (li : Int32) (ho : okA (cg_write W li).1) : IW (cg_write W li).2 := by
  by_cases hk : ∃ k, k < 40 ∧ li = nI k
  case neg =>
    have e : cg_write W li = (-1, W) := if_pos (fun c => hk (kn_iff.mp c))
    rw [e]
    exact hI
  case pos =>
  obtain ⟨l, hl, rfl⟩ := hk
  obtain ⟨Z, a, S, p, hZ, ha, h2, h8, haZ, ha8, hS, h2S, h12, hp, hpS, hps⟩ := hI.pt
  obtain ⟨h, h99, eh⟩ := hI.heat l hl
  rw [cg_writeN hl eh h99 ha ha8 hp] at ho ⊢
  have hh : cg_hb h ≤ 99 := by
    unfold cg_hb
    split <;> omega
  by_cases q : W 19 l = 2
  · rw [if_pos q] at ho
    exact absurd ho (by decide : ¬ okA (-4))
  rw [if_neg q] at ho ⊢
  by_cases q2 : cg_adm W (nI a) (if W 17 0 ≤ nI (cg_hb h) then 1 else 0)
  case neg =>
    rw [if_pos q2] at ho
    exact absurd ho (by decide : ¬ okA (-4))
  rw [if_neg (fun c => c q2)] at ho ⊢
  by_cases q3 : 1 ≤ W 24 1
  case neg =>
    rw [if_pos q3] at ho
    exact absurd ho (by decide : ¬ okA (-6))
  rw [if_neg (fun c => c q3)] at ho ⊢
  have i1 := (hI.u_pay (n := 1) rfl (by decide) q3).u_heat (l := l) hh
  have i2 := i1.u_place (x := 1) hl q (by decide)
  have hs := q2.1
  rw [az_rdN ha8 (by decide)] at hs
  exact IW.u_cm (W := az_up (cg_pay W 1) 23 l (nI (cg_hb h))) hl i2 ha ha8 hS h12 hp (hps hs)
end REFB
/-! REFERENCE, ACTS: put, take, drop -/
section REFC
variable {M W : az_Mem}
theorem IW.bagl (hI : IW W) {l : Nat} (hl : l < 40) (h2 : W 19 l = 2) : ∃ B R q : Nat, W 24 4 = nI B ∧ W 24 3 = nI R ∧ B ≤ R ∧ R ≤ 6 ∧ q < B ∧ W 26 q = nI l ∧ (∀ i, i < B → W 26 i = nI l → i = q) := by
  obtain ⟨B, R, e1, e2, e3, e4, e5, e6, e7⟩ := hI.bag
  obtain ⟨q, f1, f2⟩ := e7 l hl h2
  exact ⟨B, R, q, e1, e2, e3, e4, f1, f2, fun i hi c => e6 i q hi f1 (c.trans f2.symm)⟩
theorem IW.bagn (hI : IW W) {l : Nat} (hl : l < 40) (h2 : ¬ W 19 l = 2) : cg_unp W (nI l) = W := by
  obtain ⟨B, R, e1, e2, e3, e4, e5, e6, e7⟩ := hI.bag
  refine cg_unpA e1 (by omega) (fun i hi c => ?_)
  obtain ⟨j, f1, f2, f3⟩ := e5 i hi
  rw [f2, nI_eq (by omega) (by omega)] at c
  exact h2 (c ▸ f3)
theorem cg_whN {l q B : Nat} (hl : l < 40) (h2 : W 19 l = 2) (hB : W 24 4 = nI B) (h6 : B ≤ 6) (hq : q < B) (e : W 26 q = nI l) (hu : ∀ i, i < B → W 26 i = nI l → i = q) : cg_wh1 W (nI l) = az_up (cg_ub (cg_pay W 1) q B) 24 7 (W 24 7 + 1) := by
  unfold cg_wh1
  rw [az_rdN hl (by decide), if_pos h2, cg_unpN (W := cg_pay W 1) hB hq h6 e hu]
  simp [cg_ub, cg_pay, az_up]
theorem cg_putN {l a p : Nat} (hl : l < 40) (ha : W 24 0 = nI a) (ha8 : a < 8) (hp : W 4 a = nI p) (hI : IW W) :
    cg_put W (nI l) = if ¬ W 19 l = 2 then (-4, W) else if ¬ cg_adm W (nI a) (if W 17 0 ≤ W 23 l then 1 else 0) then (-4, W) else if ¬ 1 ≤ W 24 1 then (-6, W) else (nI p, cg_cm (cg_wh1 W (nI l)) (nI l)) := by
  have hk : cg_known (nI l) := kn_iff.mpr ⟨l, hl, rfl⟩
  unfold cg_put
  rw [if_neg (fun c => c hk), az_rdN hl (by decide)]
  have e2 : (cg_may W (nI l) (W 24 0)) = cg_adm W (nI a) (if W 17 0 ≤ W 23 l then 1 else 0) := by
    unfold cg_may
    rw [az_rdN hl (by decide), ha]
  by_cases q : W 19 l = 2
  · rw [if_neg (show ¬ ¬ W 19 l = 2 from fun c => c q), if_neg (show ¬ ¬ W 19 l = 2 from fun c => c q)]
    obtain ⟨B, R, k, e1, f2, f3, f4, f5, f6, f7⟩ := hI.bagl hl q
    have e5 : az_rd (cg_wh1 W (nI l) 4) 8 (cg_wh1 W (nI l) 24 0) = nI p := by
      rw [cg_whN hl q e1 (by omega) f5 f6 f7]
      have e6 : az_up (cg_ub (cg_pay W 1) k B) 24 7 (W 24 7 + 1) 24 0 = nI a := by
        simp [cg_ub, cg_pay, az_up, ha]
      have e7 : az_up (cg_ub (cg_pay W 1) k B) 24 7 (W 24 7 + 1) 4 a = nI p := by
        simp [cg_ub, cg_pay, az_up, hp]
      rw [e6, az_rdN ha8 (by decide), e7]
    rw [e5]
    by_cases q2 : cg_may W (nI l) (W 24 0)
    · rw [if_neg (show ¬ ¬ cg_may W (nI l) (W 24 0) from fun c => c q2), if_neg (show ¬ ¬ cg_adm W (nI a) (if W 17 0 ≤ W 23 l then 1 else 0) from fun c => c (cast e2 q2))]
      rfl
    · rw [if_pos (show ¬ cg_may W (nI l) (W 24 0) from q2), if_pos (show ¬ cg_adm W (nI a) (if W 17 0 ≤ W 23 l then 1 else 0) from fun c => q2 (cast e2.symm c))]
  · rw [if_pos q, if_pos q]
theorem iw_wh (hI : IW W) {l a p S : Nat} (hl : l < 40) (q : W 19 l = 2) (q3 : 1 ≤ W 24 1) (ha : W 24 0 = nI a) (ha8 : a < 8) (hS : W 2 1 = nI S) (h12 : S ≤ 12) (hp : W 4 a = nI p) (hpS : p < S) : IW (cg_cm (cg_wh1 W (nI l)) (nI l)) := by
  obtain ⟨B, R, k, e1, f2, f3, f4, f5, f6, f7⟩ := hI.bagl hl q
  rw [cg_whN hl q e1 (by omega) f5 f6 f7]
  have i1 := hI.u_pay (n := 1) rfl (by decide) q3
  have i2 := (i1.u_ub (q := k) (x := 1) hl e1 f5 f6 (by decide) (by omega)).u_247 (W 24 7 + 1)
  rw [az_up_comm (a := 19) (b := 24) (Or.inl (by decide))] at i2
  exact i2.u_cm hl (by simp [cg_ub, cg_pay, az_up, ha]) ha8 (by simp [cg_ub, cg_pay, az_up, hS]) h12 (by simp [cg_ub, cg_pay, az_up, hp]) hpS
theorem iw_put (hI : IW W) (li : Int32) (ho : okA (cg_put W li).1) : IW (cg_put W li).2 := by
  by_cases hk : ∃ k, k < 40 ∧ li = nI k
  case neg =>
    have e : cg_put W li = (-1, W) := if_pos (fun c => hk (kn_iff.mp c))
    rw [e]
    exact hI
  case pos =>
  obtain ⟨l, hl, rfl⟩ := hk
  obtain ⟨Z, a, S, p, hZ, ha, h2, h8, haZ, ha8, hS, h2S, h12, hp, hpS, hps⟩ := hI.pt
  rw [cg_putN hl ha ha8 hp hI] at ho ⊢
  by_cases q : W 19 l = 2
  case neg =>
    rw [if_pos q]
    exact hI
  rw [if_neg (fun c => c q)] at ho ⊢
  by_cases q2 : cg_adm W (nI a) (if W 17 0 ≤ W 23 l then 1 else 0)
  case neg =>
    rw [if_pos q2]
    exact hI
  rw [if_neg (fun c => c q2)] at ho ⊢
  by_cases q3 : 1 ≤ W 24 1
  case neg =>
    rw [if_pos q3]
    exact hI
  rw [if_neg (fun c => c q3)]
  have hs := q2.1
  rw [az_rdN ha8 (by decide)] at hs
  exact iw_wh hI hl q q3 ha ha8 hS h12 hp (hps hs)
def cg_tak (W : az_Mem) (l : Int32) : Int32 × az_Mem := if ¬ cg_known l then (-1, W) else if ¬ (az_rd (W 19) 40 l = 1 ∧ az_rd (W 21) 40 l / 12 = W 24 0) then (-4, W) else if ¬ 1 ≤ W 24 3 - W 24 4 then (-3, W) else (W 24 4 + 1, cg_packUp W l)
theorem ec_tak (d : Nat) (l : Int32) : az_EX (d + 4) m_X7_takeUp [.ref 1, .int l] (az_hp W) (some (.int (cg_tak W l).1)) (az_hp (cg_tak W l).2) := by
  have h := ec_takeUp (M := W) d l
  have e1 : (cg_tak W l).1 = (if ¬ (¬ l < 0 ∧ ¬ 40 ≤ l) then -1 else if ¬ (az_rd (W 19) 40 l = 1 ∧ az_rd (W 21) 40 l / 12 = W 24 0) then -4 else if ¬ 1 ≤ W 24 3 - W 24 4 then -3 else W 24 4 + 1) := by
    unfold cg_tak
    repeat' split
    all_goals first | rfl | contradiction
  have e2 : (cg_tak W l).2 = (if ¬ (¬ l < 0 ∧ ¬ 40 ≤ l) then W else if ¬ (az_rd (W 19) 40 l = 1 ∧ az_rd (W 21) 40 l / 12 = W 24 0) then W else if ¬ 1 ≤ W 24 3 - W 24 4 then W else cg_packUp W l) := by
    unfold cg_tak
    repeat' split
    all_goals first | rfl | contradiction
  rw [e1, e2]
  exact h
theorem cg_takN {l a B R : Nat} (hl : l < 40) (ha : W 24 0 = nI a) (hB : W 24 4 = nI B) (hR : W 24 3 = nI R) (h : B ≤ R) (h6 : R ≤ 6) : cg_tak W (nI l) = if ¬ (W 19 l = 1 ∧ W 21 l / 12 = nI a) then (-4, W) else if ¬ B < R then (-3, W) else (nI (B + 1), cg_packUp W (nI l)) := by
  unfold cg_tak
  rw [if_neg (fun c => c (kn_iff.mpr ⟨l, hl, rfl⟩)), az_rdN hl (by decide), az_rdN hl (by decide), ha, hB, hR, nI_sub h, nI_1]
  have e : (1 ≤ nI (R - B)) = (B < R) := by
    show (nI 1 ≤ nI (R - B)) = _
    rw [nI_leI (by decide) (by omega)]
    apply propext
    omega
  simp only [e]
theorem iw_tak (hI : IW W) (li : Int32) : IW (cg_tak W li).2 := by
  by_cases hk : ∃ k, k < 40 ∧ li = nI k
  case neg =>
    have e : cg_tak W li = (-1, W) := if_pos (fun c => hk (kn_iff.mp c))
    rw [e]
    exact hI
  case pos =>
  obtain ⟨l, hl, rfl⟩ := hk
  obtain ⟨Z, a, hZ, ha, h2, h8, haZ⟩ := hI.zn
  obtain ⟨B, R, e1, e2, e3, e4, e5, e6, e7⟩ := hI.bag
  rw [cg_takN hl ha e1 e2 e3 e4]
  by_cases q : W 19 l = 1 ∧ W 21 l / 12 = nI a
  · rw [if_neg (fun c => c q)]
    by_cases q2 : B < R
    · rw [if_neg (fun c => c q2)]
      exact hI.u_pack hl (by rw [q.1]; decide) e1 e2 e4 q2
    · rw [if_pos q2]
      exact hI
  · rw [if_pos q]
    exact hI
theorem cg_dropN {l : Nat} (hl : l < 40) : cg_drop W (nI l) = if W 19 l = 0 then (-5, W) else (W 19 l, az_up (az_up (cg_unp W (nI l)) 19 l 0) 23 l 0) := by
  unfold cg_drop cg_forget
  rw [if_neg (fun c => c (kn_iff.mpr ⟨l, hl, rfl⟩)), az_rdN hl (by decide), az_wrN hl (by decide), az_wrN hl (by decide)]
theorem iw_drop (hI : IW W) (li : Int32) : IW (cg_drop W li).2 := by
  by_cases hk : ∃ k, k < 40 ∧ li = nI k
  case neg =>
    have e : cg_drop W li = (-1, W) := if_pos (fun c => hk (kn_iff.mp c))
    rw [e]
    exact hI
  case pos =>
  obtain ⟨l, hl, rfl⟩ := hk
  rw [cg_dropN hl]
  by_cases q : W 19 l = 0
  · rw [if_pos q]
    exact hI
  rw [if_neg q]
  refine IW.u_heat (x := 0) ?_ (by omega)
  by_cases q2 : W 19 l = 2
  · obtain ⟨B, R, k, e1, f2, f3, f4, f5, f6, f7⟩ := hI.bagl hl q2
    rw [cg_unpN e1 f5 (by omega) f6 f7]
    exact hI.u_ub hl e1 f5 f6 (by decide) (by omega)
  · rw [hI.bagn hl q2]
    exact hI.u_place hl q2 (by decide)
end REFC
