/-! CLASS AND REFERENCE: clean, what is packed -/
section PK1
variable {M W : az_Mem}
theorem iw_unpF (e : Nat) : ∀ (m k B : Nat) (W : az_Mem), IW W → W 24 4 = nI B → B ≤ 6 → k + m = B → e ≤ k → (cg_unpF m k W).1 = true → IW (cg_unpF m k W).2 ∧ ∃ B' : Nat, (cg_unpF m k W).2 24 4 = nI B' ∧ e ≤ B' ∧ B' ≤ 6 := by
  intro m
  induction m with
  | zero =>
    intro k B W hI hB h6 hs hek _
    exact ⟨hI, B, hB, by omega, h6⟩
  | succ m ih =>
    intro k B W hI hB h6 hs hek
    obtain ⟨Z, a, S, p, hZ, ha, h2, h8, haZ, ha8, hS, h2S, h12, hp, hpS, hps⟩ := hI.pt
    obtain ⟨B', R, e1, e2, e3, e4, e5, e6, e7⟩ := hI.bag
    have eB : B' = B := by
      rw [e1, nI_eq (by omega) (by omega)] at hB
      exact hB
    subst eB
    obtain ⟨l, hl, el, el2⟩ := e5 k (by omega)
    have hu : ∀ i, i < B' → W 26 i = nI l → i = k := fun i hi c => e6 i k hi (by omega) (c.trans el.symm)
    rw [cg_unpFS hI (m := m) ha ha8 hp (by omega) (show k < 6 by omega) hl el el2]
    by_cases q2 : cg_adm W (nI a) (if W 17 0 ≤ W 23 l then 1 else 0)
    · rw [if_neg (fun c => c q2)]
      by_cases q3 : 1 ≤ W 24 1
      · rw [if_pos q3]
        have hs8 := q2.1
        rw [az_rdN ha8 (by decide)] at hs8
        have ew := cg_whN (W := W) hl el2 hB h6 (by omega) el hu
        have c24 : cg_cm (cg_wh1 W (nI l)) (nI l) 24 = cg_wh1 W (nI l) 24 := by
          rw [ew]
          exact cg_cm_24 (a := a) (S := S) (p := p) (by simp [cg_ub, cg_pay, az_up, ha]) ha8 (by simp [cg_ub, cg_pay, az_up, hS]) h12 (by simp [cg_ub, cg_pay, az_up, hp]) (hps hs8) hl (Or.inl rfl)
        have n4 : cg_cm (cg_wh1 W (nI l)) (nI l) 24 4 = nI (B' - 1) := by
          rw [c24, ew]
          simp [cg_ub, az_up]
        exact ih k (B' - 1) _ (iw_wh hI hl el2 q3 ha ha8 hS h12 hp (hps hs8)) n4 (by omega) (by omega) hek
      · rw [if_neg q3]
        intro c
        exact absurd c (by decide : ¬ false = true)
    · rw [if_pos q2]
      exact ih (k + 1) B' W hI hB h6 (by omega) (by omega)
def PK (W N : az_Mem) (z i : Nat) : Prop := N 14 = W 14 ∧ N 21 = W 21 ∧ N 4 = W 4 ∧ N 2 = W 2 ∧ N 24 0 = W 24 0 ∧ N 24 3 = W 24 3 ∧ ∀ l, l < 40 → N 19 l = W 19 l ∨ (N 19 l = 2 ∧ ∃ s, s < i ∧ W 21 l = nI (12 * z + s))
theorem PK.live {N : az_Mem} (hI : IW W) (hN : IW N) {z i : Nat} (h : PK W N z i) (h8 : z < 8) (h12 : i < 12) : cg_liveB N (nI z) (nI i) = cg_liveB W (nI z) (nI i) := by
  obtain ⟨l, c, hl, hc, e14, e21, hw⟩ := cg_liveN hI h8 h12
  obtain ⟨l', c', hl', hc', e14', e21', hn⟩ := cg_liveN hN h8 h12
  obtain ⟨p1, p2, _, _, _, _, p3⟩ := h
  have el : l' = l := by
    rw [p1, e14, nI_eq (by omega) (by omega)] at e14'
    exact e14'.symm
  subst el
  have ec : c' = c := by
    rw [p2, e21, nI_eq (by omega) (by omega)] at e21'
    exact e21'.symm
  subst ec
  rw [Bool.eq_iff_iff, hw, hn]
  rcases p3 l' hl with q | ⟨q, s, hs, q2⟩
  · rw [q]
  · rw [e21, nI_eq (by omega) (by omega)] at q2
    constructor
    · rintro ⟨a, _⟩
      rw [q] at a
      exact absurd a (by decide)
    · rintro ⟨_, a⟩
      omega
theorem PK.next {N : az_Mem} (hI : IW W) {z i : Nat} (h : PK W N z i) : PK W N z (i + 1) := by
  obtain ⟨p1, p2, p4, p5, p6, p7, p3⟩ := h
  refine ⟨p1, p2, p4, p5, p6, p7, fun l hl => ?_⟩
  rcases p3 l hl with q | ⟨q, s, hs, q2⟩
  · exact Or.inl q
  · exact Or.inr ⟨q, s, by omega, q2⟩
theorem cg_packUpN {N : az_Mem} {l B : Nat} (hl : l < 40) (hB : N 24 4 = nI B) (h6 : B < 6) : cg_packUp N (nI l) = az_up (az_up (az_up N 26 B (nI l)) 24 4 (nI (B + 1))) 19 l 2 := by
  unfold cg_packUp cg_pack
  rw [hB, az_wrN hl (by decide), az_wrN h6 (by decide), nI_1]
theorem PK.pack {N : az_Mem} {z i l B : Nat} (h : PK W N z i) (hl : l < 40) (hc : W 21 l = nI (12 * z + i)) (hB : N 24 4 = nI B) (h6 : B < 6) : PK W (cg_packUp N (nI l)) z (i + 1) := by
  rw [cg_packUpN hl hB h6]
  obtain ⟨p1, p2, p4, p5, p6, p7, p3⟩ := h
  refine ⟨p1, p2, p4, p5, p6, p7, fun k hk => ?_⟩
  by_cases hkl : k = l
  · subst hkl
    exact Or.inr ⟨by simp [az_up], i, by omega, hc⟩
  · rcases p3 k hk with q | ⟨q, s, hs, q2⟩
    · exact Or.inl (by simp [az_up, hkl, q])
    · exact Or.inr ⟨by simp [az_up, hkl, q], s, by omega, q2⟩
/-- one slot of packing -/
theorem cg_packsS {N : az_Mem} (hI : IW W) (hN : IW N) {z i m e R P : Nat} (h : PK W N z i) (h8 : z < 8) (h12 : P ≤ 12) (hs : i + (m + 1) = P) (hB : N 24 4 = nI (e + az_cnt (fun s => cg_liveB W (nI z) (nI s)) i)) (hR : W 24 3 = nI R) (hR6 : R ≤ 6) (hle : e + az_cnt (fun s => cg_liveB W (nI z) (nI s)) P ≤ R) :
    (cg_liveB W (nI z) (nI i) = true → ∃ l, l < 40 ∧ N 14 (12 * z + i) = nI l ∧ ¬ N 19 l = 2 ∧ e + az_cnt (fun s => cg_liveB W (nI z) (nI s)) i < R ∧ cg_packs (nI z) (m + 1) i N = cg_packs (nI z) m (i + 1) (cg_packUp N (nI l)) ∧ IW (cg_packUp N (nI l)) ∧ PK W (cg_packUp N (nI l)) z (i + 1) ∧ cg_packUp N (nI l) 24 4 = nI (e + az_cnt (fun s => cg_liveB W (nI z) (nI s)) (i + 1)))
    ∧ (¬ cg_liveB W (nI z) (nI i) = true → cg_packs (nI z) (m + 1) i N = cg_packs (nI z) m (i + 1) N ∧ N 24 4 = nI (e + az_cnt (fun s => cg_liveB W (nI z) (nI s)) (i + 1))) := by
  have hL := h.live hI hN h8 (show i < 12 by omega)
  have mono : ∀ n, az_cnt (fun s => cg_liveB W (nI z) (nI s)) (i + 1) ≤ az_cnt (fun s => cg_liveB W (nI z) (nI s)) (i + 1 + n) := by
    intro n
    induction n with
    | zero => exact Nat.le_refl _
    | succ n ih =>
      show _ ≤ az_cnt (fun s => cg_liveB W (nI z) (nI s)) (i + 1 + n) + _
      omega
  have mono1 := mono m
  rw [show i + 1 + m = P by omega] at mono1
  have e1 : az_cnt (fun s => cg_liveB W (nI z) (nI s)) (i + 1) = az_cnt (fun s => cg_liveB W (nI z) (nI s)) i + (if cg_liveB W (nI z) (nI i) = true then 1 else 0) := rfl
  have hiff : cg_live N (nI z) (nI i) ↔ cg_liveB W (nI z) (nI i) = true := by
    rw [← hL]
    unfold cg_live cg_liveB
    rw [Bool.and_eq_true, decide_eq_true_eq, decide_eq_true_eq]
  constructor
  · intro q
    rw [if_pos q] at e1
    obtain ⟨l, c, hl, hc, e14, e21, hn⟩ := cg_liveN hN h8 (show i < 12 by omega)
    have hq := hn.mp (hL.trans q)
    have n2 : ¬ N 19 l = 2 := by
      rw [hq.1]
      decide
    have hlt : e + az_cnt (fun s => cg_liveB W (nI z) (nI s)) i < R := by omega
    refine ⟨l, hl, e14, n2, hlt, ?_, ?_, ?_, ?_⟩
    · show (if cg_live N (nI z) (nI i) then cg_packs (nI z) m (i + 1) (cg_packUp N (az_rd (N 14) 96 (nI z * 12 + nI i))) else _) = _
      rw [if_pos (hiff.mpr q), nI_cell, az_rdN (by omega) (by decide), e14]
    · exact hN.u_pack hl n2 hB (h.2.2.2.2.2.1.trans hR) hR6 hlt
    · refine h.pack hl ?_ hB (by omega)
      rw [← h.2.1, e21, hq.2]
    · rw [cg_packUpN hl hB (by omega), e1]
      rfl
  · intro q
    rw [if_neg q] at e1
    refine ⟨?_, ?_⟩
    · show (if cg_live N (nI z) (nI i) then _ else cg_packs (nI z) m (i + 1) N) = _
      rw [if_neg (fun c => q (hiff.mp c))]
    · rw [e1]
      exact hB
theorem cg_packs_ok (hI : IW W) {z e R P : Nat} (h8 : z < 8) (h12 : P ≤ 12) (hR : W 24 3 = nI R) (hR6 : R ≤ 6) (hle : e + az_cnt (fun s => cg_liveB W (nI z) (nI s)) P ≤ R) : ∀ (m i : Nat) (N : az_Mem), IW N → PK W N z i → i + m = P → N 24 4 = nI (e + az_cnt (fun s => cg_liveB W (nI z) (nI s)) i) → IW (cg_packs (nI z) m i N) ∧ PK W (cg_packs (nI z) m i N) z P ∧ cg_packs (nI z) m i N 24 4 = nI (e + az_cnt (fun s => cg_liveB W (nI z) (nI s)) P) := by
  intro m
  induction m with
  | zero =>
    intro i N hN hP hs hB
    have ei : i = P := (by omega)
    subst ei
    exact ⟨hN, hP, hB⟩
  | succ m ih =>
    intro i N hN hP hs hB
    obtain ⟨k1, k2⟩ := cg_packsS hI hN hP h8 h12 hs hB hR hR6 hle
    by_cases q : cg_liveB W (nI z) (nI i) = true
    · obtain ⟨l, hl, e14, n2, hlt, e1, i1, p1, b1⟩ := k1 q
      rw [e1]
      exact ih (i + 1) _ i1 p1 (by omega) b1
    · obtain ⟨e1, b1⟩ := k2 q
      rw [e1]
      exact ih (i + 1) N hN (hP.next hI) (by omega) b1
theorem PK.rf (W : az_Mem) (z : Nat) : PK W W z 0 := ⟨rfl, rfl, rfl, rfl, rfl, rfl, fun _ _ => Or.inl rfl⟩
/-- how many there are after packing -/
theorem cg_packs_end (hI : IW W) {z e R P : Nat} (h8 : z < 8) (h12 : P ≤ 12) (hB : W 24 4 = nI e) (hR : W 24 3 = nI R) (hR6 : R ≤ 6) (hle : e + cg_cl W (nI z) P ≤ R) : IW (cg_packs (nI z) P 0 W) ∧ PK W (cg_packs (nI z) P 0 W) z P ∧ cg_packs (nI z) P 0 W 24 4 = nI (e + cg_cl W (nI z) P) :=
  cg_packs_ok hI h8 h12 hR hR6 hle P 0 W hI (PK.rf W z) (by omega) hB
theorem iw_clL (e Z : Nat) (h8 : Z ≤ 8) : ∀ (k g : Nat) (N : az_Mem), IW N → (∃ B : Nat, N 24 4 = nI B ∧ e ≤ B ∧ B ≤ 6) → okA (cg_clL e k g N).1 → IW (cg_clL e k g N).2 := by
  intro k
  induction k with
  | zero =>
    intro g N hN _ ho
    exact hN
  | succ k ih =>
    intro g N hN hB ho
    obtain ⟨B, hB, heB, h6⟩ := hB
    unfold cg_clL at ho ⊢
    by_cases q : N 24 4 ≤ nI e
    · rw [if_pos q]
      exact hN
    · rw [if_neg q] at ho ⊢
      by_cases q2 : 1 ≤ N 24 1
      · rw [if_pos q2] at ho ⊢
        have hb : (N 24 4).toNatClampNeg = B := by
          rw [hB]
          exact nI_clamp (by omega)
        rw [hb] at ho ⊢
        by_cases q3 : (cg_unpF (B - e) e (cg_step N)).1 = true
        · rw [if_pos q3] at ho ⊢
          obtain ⟨i1, B', b1, b2, b3⟩ := iw_unpF e (B - e) e B (cg_step N) (hN.u_step q2) (cg_step_24.trans hB) h6 (by omega) (Nat.le_refl _) q3
          exact ih (g + 1) _ i1 ⟨B', b1, b2, b3⟩ ho
        · rw [if_neg q3] at ho
          exact absurd ho (by decide : ¬ okA (-6))
      · rw [if_neg q2] at ho
        exact absurd ho (by decide : ¬ okA (-6))
end PK1
