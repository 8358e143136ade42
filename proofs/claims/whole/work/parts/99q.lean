/-! CLASS AND REFERENCE TOGETHER -/
def sh (M : az_Mem) (b : Nat) : az_Mem := fun c k => M (b - 1 + c) k
theorem IW.cg {W W' : az_Mem} (h : IW W) (e : sW W W') : IW W' := by
  refine IW.mk ?_ ?_ (fun z hz => ?_) (fun z hz => ?_) (fun z hz => ?_) (fun z hz => ?_) (fun z hz => ?_) ?_ ?_
  · rw [← e 2 0 (by decide), ← e 24 0 (by decide)]
    exact h.zn
  · obtain ⟨S, h1, h2, h3, h4⟩ := h.sl
    refine ⟨S, by rw [← e 2 1 (by decide)]; exact h1, h2, h3, fun z hz => ?_⟩
    rw [← e 4 z hz, ← e 8 z hz]
    exact h4 z hz
  · rw [← e 8 z hz]
    exact h.sld z hz
  · rw [← e 10 z hz]
    exact h.well z hz
  · rw [← e 14 z hz]
    exact h.load z hz
  · rw [← e 21 z hz]
    exact h.cell z hz
  · rw [← e 23 z hz]
    exact h.heat z hz
  · rw [← e 24 1 (by decide), ← e 24 2 (by decide)]
    exact h.water
  · obtain ⟨B, R, e1, e2, e3, e4, e5, e6, e7⟩ := h.bag
    refine ⟨B, R, by rw [← e 24 4 (by decide)]; exact e1, by rw [← e 24 3 (by decide)]; exact e2, e3, e4, fun i hi => ?_, fun i j hi hj => ?_, fun l hl => ?_⟩
    · obtain ⟨l, f1, f2, f3⟩ := e5 i hi
      exact ⟨l, f1, by rw [← e 26 i (show i < 6 by omega)]; exact f2, by rw [← e 19 l f1]; exact f3⟩
    · rw [← e 26 i (show i < 6 by omega), ← e 26 j (show j < 6 by omega)]
      exact e6 i j hi hj
    · rw [← e 19 l hl]
      intro q
      obtain ⟨i, f1, f2⟩ := e7 l hl q
      exact ⟨i, f1, by rw [← e 26 i (show i < 6 by omega)]; exact f2⟩
theorem rw_len2 {c k : Nat} (h : k < rw_len c) : 2 ≤ c ∧ c ≤ 26 ∧ k < az_wl (c - 1) := by
  unfold rw_len at h
  split at h <;> first | exact ⟨by decide, by decide, h⟩ | exact absurd h (by omega)
theorem sW.cp {M : az_Mem} {a b : Nat} (ha : 1 ≤ a) (hb : 1 ≤ b) (hab : a + 26 ≤ b ∨ b + 26 ≤ a) : sW (sh M b) (sh (cg_cpW M a b) a) := by
  intro c k h
  obtain ⟨h1, h2, h3⟩ := rw_len2 h
  have := cg_cpW_in (M := M) hab (c - 1) k h3
  show M (b - 1 + c) k = cg_cpW M a b (a - 1 + c) k
  rw [show a - 1 + c = a + (c - 1) by omega, this, show b - 1 + c = b + (c - 1) by omega]
theorem sW.row {W W' : az_Mem} (h : ∀ c, 2 ≤ c → c ≤ 26 → W c = W' c) : sW W W' := by
  intro c k q
  obtain ⟨h1, h2, h3⟩ := rw_len2 q
  rw [h c h1 h2]
theorem sW.tr {W W' W'' : az_Mem} (h : sW W W') (h' : sW W' W'') : sW W W'' := fun c k q => (h c k q).trans (h' c k q)
theorem sW.sy {W W' : az_Mem} (h : sW W W') : sW W' W := fun c k q => (h c k q).symm
theorem sh1 (M : az_Mem) : sh M 1 = M := by
  funext c k
  show M (1 - 1 + c) k = M c k
  rw [show 1 - 1 + c = c by omega]
theorem sh_row {M M' : az_Mem} {b : Nat} (hb : 1 ≤ b) (h : ∀ c, b + 1 ≤ c → c ≤ b + 25 → M c = M' c) : sW (sh M b) (sh M' b) :=
  sW.row (fun c h1 h2 => by funext k; show M (b - 1 + c) k = M' (b - 1 + c) k; rw [h _ (by omega) (by omega)])
theorem az_hwN {L : Nat} (h : L < 4) : az_hw L = 81 + 26 * L := by
  rcases (show L = 0 ∨ L = 1 ∨ L = 2 ∨ L = 3 by omega) with rfl | rfl | rfl | rfl <;> rfl
def IK (M : az_Mem) : Prop := (M 0 3 = 0 ∧ M 192 4 = 0) ∨ (M 0 3 = 1 ∧ M 192 4 = 1 ∧ RR (sh M 53) (M 195) ∧ IW (sh M 53))
def IH (M : az_Mem) (L n : Nat) : Prop := L < 4 ∧ n ≤ 4 ∧ M 79 1 = nI L ∧ M 79 2 = nI n ∧ M 192 6 = nI n ∧ ∀ j, j < n → RR (sh M (az_hw ((L + 4 - j) % 4))) (fun i => M 196 (411 * (n - 1 - j) + i)) ∧ IW (sh M (az_hw ((L + 4 - j) % 4)))
def IT (M : az_Mem) : Prop := ∃ t : Nat, t ≤ 60 ∧ M 185 1 = nI t ∧ M 192 8 = nI t ∧ ∀ i, i < t → M 187 i = M 197 i
def INV (M : az_Mem) : Prop := RR M (M 193) ∧ IW M ∧ IK M ∧ (∃ L n, IH M L n) ∧ IT M
def PF (M1 N : az_Mem) (a : Int32) (n : Nat) (M4 : az_Mem) : Prop := (∀ c, (c < 192 ∨ c = 195 ∨ c = 197) → M4 c = M1 c) ∧ M4 192 4 = M1 192 4 ∧ M4 192 8 = M1 192 8 ∧ (a < 0 → (∀ i, i < 411 → M4 193 i = M1 193 i) ∧ M4 192 6 = M1 192 6 ∧ M4 196 = M1 196) ∧ (¬ a < 0 → RR N (M4 193) ∧ M4 192 6 = nI (if n = 4 then 4 else n + 1) ∧ ∀ k i, i < 411 → k < (if n = 4 then 4 else n + 1) → M4 196 (411 * k + i) = if k + 1 = (if n = 4 then 4 else n + 1) then M1 193 i else M1 196 (411 * (if n = 4 then k + 1 else k) + i))
/-- an act of the class, from the memory with the copy before, changes the world only -/
def fW (W N : az_Mem) : Prop := ∀ c, (c < 1 ∨ 27 ≤ c) → N c = W c
theorem IK.tr {M M' : az_Mem} (h : IK M) (h0 : M' 0 3 = M 0 3) (h4 : M' 192 4 = M 192 4) (h5 : M' 195 = M 195) (hs : ∀ c, 54 ≤ c → c ≤ 78 → M' c = M c) : IK M' := by
  unfold IK
  rw [h0, h4, h5]
  rcases h with h | ⟨a, b, c, d⟩
  · exact Or.inl h
  · have e : sW (sh M 53) (sh M' 53) := sh_row (by decide) (fun c h1 h2 => (hs c h1 h2).symm)
    exact Or.inr ⟨a, b, c.cg e, d.cg e⟩
theorem IT.tr {M M' : az_Mem} (h : IT M) (h0 : M' 185 1 = M 185 1) (h4 : M' 192 8 = M 192 8) (h5 : M' 187 = M 187) (h6 : M' 197 = M 197) : IT M' := by
  unfold IT
  rw [h0, h4, h5, h6]
  exact h
theorem IH.tr {M M' : az_Mem} {L n : Nat} (h : IH M L n) (h9 : M' 79 = M 79) (h6 : M' 192 6 = M 192 6) (h5 : M' 196 = M 196) (hs : ∀ c, 82 ≤ c → c ≤ 184 → M' c = M c) : IH M' L n := by
  unfold IH
  rw [h9, h6, h5]
  obtain ⟨a1, a2, a3, a4, a5, a6⟩ := h
  refine ⟨a1, a2, a3, a4, a5, fun j hj => ?_⟩
  obtain ⟨b1, b2⟩ := a6 j hj
  have hm : (L + 4 - j) % 4 < 4 := Nat.mod_lt _ (by decide)
  have e : sW (sh M (az_hw ((L + 4 - j) % 4))) (sh M' (az_hw ((L + 4 - j) % 4))) := sh_row (by rw [az_hwN hm]; omega) (fun c h1 h2 => by rw [az_hwN hm] at h1 h2; exact (hs c (by omega) (by omega)).symm)
  exact ⟨b1.cg e, b2.cg e⟩
theorem inv_act {M N M4 : az_Mem} {a : Int32} {L n : Nat} (hM : INV M) (hH : IH M L n) (hf : fW (cg_cpW M 27 1) N) (hI : ¬ a < 0 → IW N) (hP : PF (cg_stl N a L) N a n M4) : INV M4 := by
  obtain ⟨h1, h2, h3, _, h5⟩ := hM
  obtain ⟨p1, p2, p3, p4, p5⟩ := hP
  have g0 : ∀ c, (c < 1 ∨ 53 ≤ c) → N c = M c := fun c hc => by
    rw [hf c (by omega), cg_cpW_out (by omega)]
  by_cases ha : a < 0
  · obtain ⟨q1, q2, q3⟩ := p4 ha
    have e1 : cg_stl N a L = cg_cpW N 1 27 := by unfold cg_stl; rw [if_pos ha]
    rw [e1] at p1 p2 p3 q1 q2 q3
    have g1 : ∀ c, (c < 1 ∨ 53 ≤ c) → cg_cpW N 1 27 c = M c := fun c hc => by
      rw [cg_cpW_out (by omega), g0 c (by omega)]
    have g2 : ∀ c, (c < 1 ∨ (53 ≤ c ∧ c < 192) ∨ c = 195 ∨ c = 197) → M4 c = M c := fun c hc => by
      rw [p1 c (by omega), g1 c (by omega)]
    have w : sW M M4 := by
      have w1 : sW (sh M 1) (sh (cg_cpW M 27 1) 27) := sW.cp (by decide) (by decide) (by decide)
      have w2 : sW (sh N 27) (sh (cg_cpW N 1 27) 1) := sW.cp (by decide) (by decide) (by decide)
      have w3 : sW (sh (cg_cpW M 27 1) 27) (sh N 27) := sh_row (by decide) (fun c h1 h2 => (hf c (by omega)).symm)
      rw [sh1] at w1 w2
      exact ((w1.tr w3).tr w2).tr (sW.row (fun c h1 h2 => (p1 c (by omega)).symm))
    refine ⟨?_, h2.cg w, h3.tr (by rw [g2 0 (by omega)]) (by rw [p2, g1 192 (by omega)]) (g2 195 (by omega)) (fun c _ _ => g2 c (by omega)), ⟨L, n, hH.tr (g2 79 (by omega)) (by rw [q2, g1 192 (by omega)]) (by rw [q3, g1 196 (by omega)]) (fun c _ _ => g2 c (by omega))⟩, h5.tr (by rw [g2 185 (by omega)]) (by rw [p3, g1 192 (by omega)]) (g2 187 (by omega)) (g2 197 (by omega))⟩
    exact (h1.cg w).cr (fun j hj => by rw [q1 j hj, g1 193 (by omega)])
  · obtain ⟨q1, q2, q3⟩ := p5 ha
    obtain ⟨a1, a2, a3, a4, a5, a6⟩ := hH
    have e1 : cg_stl N a L = cg_rem N L := by unfold cg_stl; rw [if_neg ha]
    rw [e1] at p1 p2 p3 q3
    have hn : cg_nxL L < 4 := by unfold cg_nxL; split <;> omega
    have hw := az_hwN hn
    have g1 : ∀ c, c ≠ 79 → (c < 81 + 26 * cg_nxL L ∨ 81 + 26 * cg_nxL L + 26 ≤ c) → cg_rem N L c = N c := fun c hc h => by
      unfold cg_rem
      rw [cg_cpW_out (by omega), az_up_row hc, az_up_row hc]
    have g2 : ∀ c, c ≠ 79 → (53 ≤ c ∨ c < 1) → (c < 81 ∨ 185 ≤ c) → cg_rem N L c = M c := fun c h1 h2 h3 => by
      rw [g1 c h1 (by omega), g0 c (by omega)]
    have w : sW N M4 := sW.row (fun c h1 h2 => by rw [p1 c (by omega), g1 c (by omega) (by omega)])
    have g79 : ∀ k, cg_rem N L 79 k = az_up (az_up N 79 1 (nI (cg_nxL L))) 79 2 (if 4 < N 79 2 + 1 then 4 else N 79 2 + 1) 79 k := fun k => by
      unfold cg_rem
      rw [cg_cpW_out (by omega)]
    have n79 : N 79 2 = nI n := by rw [g0 79 (by omega)]; exact a4
    have en : (if (4 : Int32) < N 79 2 + 1 then 4 else N 79 2 + 1) = nI (if n = 4 then 4 else n + 1) := by
      rw [n79, nI_1]
      by_cases h : n = 4
      · subst h
        decide
      · rw [if_neg h, if_neg (show ¬ (4 : Int32) < nI (n + 1) from nI_nlt (a := 4) (b := n + 1) (by omega) (by omega))]
    refine ⟨q1.cg w, (hI ha).cg w, h3.tr (by rw [p1 0 (by omega), g2 0 (by omega) (by omega) (by omega)]) (by rw [p2, g2 192 (by omega) (by omega) (by omega)]) (by rw [p1 195 (by omega), g2 195 (by omega) (by omega) (by omega)]) (fun c _ _ => by rw [p1 c (by omega), g2 c (by omega) (by omega) (by omega)]), ⟨cg_nxL L, if n = 4 then 4 else n + 1, hn, by split <;> omega, ?_, ?_, q2, fun j hj => ?_⟩, h5.tr (by rw [p1 185 (by omega), g2 185 (by omega) (by omega) (by omega)]) (by rw [p3, g2 192 (by omega) (by omega) (by omega)]) (by rw [p1 187 (by omega), g2 187 (by omega) (by omega) (by omega)]) (by rw [p1 197 (by omega), g2 197 (by omega) (by omega) (by omega)])⟩
    · rw [p1 79 (by omega), g79]
      simp [az_up]
    · rw [p1 79 (by omega), g79, ← en]
      simp [az_up]
    · have rowk : ∀ k i, i < 411 → k < (if n = 4 then 4 else n + 1) → M4 196 (411 * k + i) = if k + 1 = (if n = 4 then 4 else n + 1) then M 193 i else M 196 (411 * (if n = 4 then k + 1 else k) + i) := fun k i h1 h2 => by
        rw [q3 k i h1 h2, g2 193 (by omega) (by omega) (by omega), g2 196 (by omega) (by omega) (by omega)]
      by_cases hj0 : j = 0
      · subst hj0
        have ei : (cg_nxL L + 4 - 0) % 4 = cg_nxL L := by omega
        rw [ei]
        have w1 : sW (sh M 1) (sh (cg_cpW M 27 1) 27) := sW.cp (by decide) (by decide) (by decide)
        have w3 : sW (sh (cg_cpW M 27 1) 27) (sh (az_up (az_up N 79 1 (nI (cg_nxL L))) 79 2 (if 4 < N 79 2 + 1 then 4 else N 79 2 + 1)) 27) := sh_row (by decide) (fun c h1 h2 => by rw [az_up_row (by omega), az_up_row (by omega), hf c (by omega)])
        have w2 : sW (sh (az_up (az_up N 79 1 (nI (cg_nxL L))) 79 2 (if 4 < N 79 2 + 1 then 4 else N 79 2 + 1)) 27) (sh (cg_rem N L) (az_hw (cg_nxL L))) := sW.cp (by rw [hw]; omega) (by decide) (by rw [hw]; omega)
        have w4 : sW (sh (cg_rem N L) (az_hw (cg_nxL L))) (sh M4 (az_hw (cg_nxL L))) := sh_row (by rw [hw]; omega) (fun c h1 h2 => by rw [hw] at h1 h2; rw [p1 c (by omega)])
        rw [sh1] at w1
        have w5 := ((w1.tr w3).tr w2).tr w4
        refine ⟨(h1.cg w5).cr (fun i hi => ?_), h2.cg w5⟩
        show M4 196 (411 * ((if n = 4 then 4 else n + 1) - 1 - 0) + i) = M 193 i
        rw [rowk _ i hi (by split <;> omega), if_pos (by split <;> omega)]
      · have hj4 : j < 4 := by
          have : (if n = 4 then 4 else n + 1) ≤ 4 := by split <;> omega
          omega
        have hjn : j - 1 < n := by
          by_cases h : n = 4
          · omega
          · rw [if_neg h] at hj
            omega
        obtain ⟨b1, b2⟩ := a6 (j - 1) hjn
        have ei : (cg_nxL L + 4 - j) % 4 = (L + 4 - (j - 1)) % 4 := by
          unfold cg_nxL
          split <;> omega
        have hne : (L + 4 - (j - 1)) % 4 ≠ cg_nxL L := by
          unfold cg_nxL
          split <;> omega
        rw [ei]
        have hm : (L + 4 - (j - 1)) % 4 < 4 := Nat.mod_lt _ (by decide)
        generalize (L + 4 - (j - 1)) % 4 = x at b1 b2 hne hm ⊢
        have hwx := az_hwN hm
        have w5 : sW (sh M (az_hw x)) (sh M4 (az_hw x)) := sh_row (by rw [hwx]; omega) (fun c h1 h2 => by
          rw [hwx] at h1 h2
          rw [p1 c (by omega), g1 c (by omega) (by omega), g0 c (by omega)])
        refine ⟨(b1.cg w5).cr (fun i hi => ?_), b2.cg w5⟩
        show M4 196 (411 * ((if n = 4 then 4 else n + 1) - 1 - j) + i) = M 196 (411 * (n - 1 - (j - 1)) + i)
        rw [rowk _ i hi (by omega), if_neg (by omega)]
        by_cases h : n = 4
        · rw [if_pos h, if_pos h]
          congr 2
          omega
        · rw [if_neg h, if_neg h]
          congr 2
          omega
