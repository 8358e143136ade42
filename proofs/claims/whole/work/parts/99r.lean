/-! REFERENCE: the acts as they are called -/
def rg_as (M : az_Mem) : az_Mem := az_cp (az_up M 192 0 0) 194 193 411
def fr3 (M M' : az_Mem) : Prop := (∀ c, (c < 192 ∨ (194 ≤ c ∧ c ≤ 197)) → M' c = M c) ∧ M' 192 4 = M 192 4 ∧ M' 192 6 = M 192 6 ∧ M' 192 8 = M 192 8
theorem fr2.w {M M' : az_Mem} (h : fr2 M M') : fr3 M M' := ⟨fun c hc => h c (by omega) (by omega), by rw [h 192 (by decide) (by decide)], by rw [h 192 (by decide) (by decide)], by rw [h 192 (by decide) (by decide)]⟩
theorem fr3.rf (M : az_Mem) : fr3 M M := ⟨fun _ _ => rfl, rfl, rfl, rfl⟩
theorem fr3.tr {M M' M'' : az_Mem} (h : fr3 M M') (h' : fr3 M' M'') : fr3 M M'' := ⟨fun c hc => (h'.1 c hc).trans (h.1 c hc), h'.2.1.trans h.2.1, h'.2.2.1.trans h.2.2.1, h'.2.2.2.trans h.2.2.2⟩
theorem rg_as_row {M : az_Mem} {c : Nat} (h : c ≠ 192) (h2 : c ≠ 194) : rg_as M c = M c := by
  unfold rg_as
  rw [az_cp_row h2, az_up_row h]
theorem rg_as_92 {M : az_Mem} {j : Nat} (h : j ≠ 0) : rg_as M 192 j = M 192 j := by
  unfold rg_as
  rw [az_cp_row (by decide), az_up_self, if_neg h]
theorem rg_as_94 {M : az_Mem} {i : Nat} (h : i < 411) : rg_as M 194 i = M 193 i := by
  unfold rg_as
  rw [az_cp_self, if_pos h, az_up_row (by decide)]
section REFP
variable {M1 M3 N W : az_Mem} {a : Int32} {n : Nat}
theorem pf_early (h : a < 0) : PF M1 N a n (rg_as M1) :=
  ⟨fun c hc => rg_as_row (by omega) (by omega), rg_as_92 (by decide), rg_as_92 (by decide), fun _ => ⟨fun i _ => by rw [rg_as_row (by decide) (by decide)], rg_as_92 (by decide), rg_as_row (by decide) (by decide)⟩, fun q => absurd h q⟩
theorem ex_end (d : Nat) (hn : M1 192 6 = nI n) (h4 : n ≤ 4) (hf : fr3 (rg_as M1) M3) (hr : ¬ a < 0 → RR N (M3 193)) : ∃ M4, az_EX (d + 1) m_X9_acted [.ref 192, .int a] (az_hp M3) (some (.int a)) (az_hp M4) ∧ PF M1 N a n M4 := by
  obtain ⟨f1, f2, f3, f4⟩ := hf
  have n3 : M3 192 6 = nI n := by rw [f3, rg_as_92 (by decide), hn]
  have p94 : ∀ i, i < 411 → M3 194 i = M1 193 i := fun i hi => by rw [f1 194 (by omega), rg_as_94 hi]
  have g : ∀ c, (c < 192 ∨ c = 195 ∨ c = 196 ∨ c = 197) → M3 c = M1 c := fun c hc => by rw [f1 c (by omega), rg_as_row (by omega) (by omega)]
  by_cases h : a < 0
  · refine ⟨_, ex_actedN d h, fun c hc => ?_, ?_, ?_, fun _ => ⟨fun i hi => ?_, ?_, ?_⟩, fun q => absurd h q⟩
    · rw [az_cp_row (by omega), g c (by omega)]
    · rw [az_cp_row (by decide), f2, rg_as_92 (by decide)]
    · rw [az_cp_row (by decide), f4, rg_as_92 (by decide)]
    · rw [az_cp_self, if_pos hi, p94 i hi]
    · rw [az_cp_row (by decide), f3, rg_as_92 (by decide)]
    · rw [az_cp_row (by decide), g 196 (by omega)]
  · by_cases hn4 : n = 4
    · subst hn4
      refine ⟨_, ex_acted4 d h n3, fun c hc => ?_, ?_, ?_, fun q => absurd q h, fun _ => ⟨?_, ?_, fun k i hi hk => ?_⟩⟩
      · rw [az_up_row (by omega)]
        funext j
        simp only [rg_c4, rg_s4, az_up]
        rw [if_neg (by omega), if_neg (by omega), if_neg (by omega), g c (by omega)]
      · simp [az_up, rg_c4, rg_s4, f2, rg_as_92]
      · simp [az_up, rg_c4, rg_s4, f4, rg_as_92]
      · have e : az_up (rg_c4 (az_up (rg_s4 M3 1233) 192 6 (nI 3)) 3 411) 192 6 (nI 4) 193 = M3 193 := by
          funext j
          simp [az_up, rg_c4, rg_s4]
        rw [e]
        exact hr h
      · simp [az_up]
      · rw [if_pos rfl] at hk ⊢
        rw [if_pos rfl, az_up_row (by decide)]
        simp only [rg_c4, rg_s4, az_up]
        by_cases hk4 : k + 1 = 4
        · have : k = 3 := by omega
          subst this
          rw [if_pos (by simp; omega), if_pos rfl]
          simp
          exact p94 i hi
        · rw [if_neg (by omega), if_neg (by omega), if_pos (by simp; omega), if_neg hk4, g 196 (by omega), show 411 * k + i + 411 = 411 * (k + 1) + i by omega]
    · refine ⟨_, ex_acted3 d h n3 (by omega), fun c hc => ?_, ?_, ?_, fun q => absurd q h, fun _ => ⟨?_, ?_, fun k i hi hk => ?_⟩⟩
      · rw [az_up_row (by omega)]
        funext j
        simp only [rg_c4]
        rw [if_neg (by omega), g c (by omega)]
      · simp [az_up, rg_c4, f2, rg_as_92]
      · simp [az_up, rg_c4, f4, rg_as_92]
      · have e : az_up (rg_c4 M3 n 411) 192 6 (nI (n + 1)) 193 = M3 193 := by
          funext j
          simp [az_up, rg_c4]
        rw [e]
        exact hr h
      · rw [if_neg hn4]
        simp [az_up]
      · rw [if_neg hn4] at hk ⊢
        rw [if_neg hn4, az_up_row (by decide)]
        simp only [rg_c4]
        by_cases hk4 : k + 1 = n + 1
        · have : k = n := by omega
          subst this
          rw [if_pos (by simp; omega), if_pos rfl, show 411 * k + i - 411 * k = i by omega]
          exact p94 i hi
        · rw [if_neg (by omega), if_neg hk4, g 196 (by omega)]
theorem ex9_go (d : Nat) (hR : RR W (M1 193)) (hI : IW W) (hn : M1 192 6 = nI n) (h4 : n ≤ 4) (x : Int32) : ∃ M4, az_EX (d + 6) m_X9_go [.ref 192, .int x] (az_hp M1) (some (.int (cg_go W x).1)) (az_hp M4) ∧ PF M1 (cg_go W x).2 (cg_go W x).1 n M4 := by
  have hR2 : RR W (rg_as M1 193) := by
    rw [rg_as_row (by decide) (by decide)]
    exact hR
  obtain ⟨M3, f3, r3, e3⟩ := (ex_goes (d + 1) hR2 hI x).w
  obtain ⟨M4, e4, p4⟩ := ex_end (M1 := M1) (d + 4) hn h4 f3.w (fun q => r3 (Or.inl (Int32.not_lt.mp q)))
  refine ⟨M4, ?_, p4⟩
  refine az_EX.of (az_in0 (code := k_X9_go) (ls := [some (.ref 192), some (.int x)]) rfl rfl rfl ?_)
  refine az_sgp rfl rfl rfl rfl ?_
  refine az_can rfl rfl rfl rfl (ex_aside (d + 4)) ?_
  refine az_sgp rfl rfl rfl rfl ?_
  refine az_cav rfl rfl rfl rfl e3 ?_
  refine az_cav rfl rfl rfl rfl e4 ?_
  refine az_ret rfl rfl rfl rfl ?_
  exact ⟨rfl, rfl⟩
theorem ex9_write (d : Nat) (hR : RR W (M1 193)) (hI : IW W) (hn : M1 192 6 = nI n) (h4 : n ≤ 4) (x : Int32) : ∃ M4, az_EX (d + 6) m_X9_write [.ref 192, .int x] (az_hp M1) (some (.int (cg_write W x).1)) (az_hp M4) ∧ PF M1 (cg_write W x).2 (cg_write W x).1 n M4 := by
  have hR2 : RR W (rg_as M1 193) := by
    rw [rg_as_row (by decide) (by decide)]
    exact hR
  obtain ⟨M3, f3, r3, e3⟩ := (ex_writes (d + 2) hR2 hI x).w
  obtain ⟨M4, e4, p4⟩ := ex_end (M1 := M1) (d + 4) hn h4 f3.w (fun q => r3 (Or.inl (Int32.not_lt.mp q)))
  refine ⟨M4, ?_, p4⟩
  refine az_EX.of (az_in0 (code := k_X9_write) (ls := [some (.ref 192), some (.int x)]) rfl rfl rfl ?_)
  refine az_sgp rfl rfl rfl rfl ?_
  refine az_can rfl rfl rfl rfl (ex_aside (d + 4)) ?_
  refine az_sgp rfl rfl rfl rfl ?_
  refine az_cav rfl rfl rfl rfl e3 ?_
  refine az_cav rfl rfl rfl rfl e4 ?_
  refine az_ret rfl rfl rfl rfl ?_
  exact ⟨rfl, rfl⟩
theorem ex9_take (d : Nat) (hR : RR W (M1 193)) (hI : IW W) (hn : M1 192 6 = nI n) (h4 : n ≤ 4) (x : Int32) : ∃ M4, az_EX (d + 6) m_X9_take [.ref 192, .int x] (az_hp M1) (some (.int (cg_tak W x).1)) (az_hp M4) ∧ PF M1 (cg_tak W x).2 (cg_tak W x).1 n M4 := by
  have hR2 : RR W (rg_as M1 193) := by
    rw [rg_as_row (by decide) (by decide)]
    exact hR
  obtain ⟨M3, f3, r3, e3⟩ := (ex_takes (d + 2) hR2 hI x).w
  obtain ⟨M4, e4, p4⟩ := ex_end (M1 := M1) (d + 4) hn h4 f3.w (fun q => r3 (Or.inl (Int32.not_lt.mp q)))
  refine ⟨M4, ?_, p4⟩
  refine az_EX.of (az_in0 (code := k_X9_take) (ls := [some (.ref 192), some (.int x)]) rfl rfl rfl ?_)
  refine az_sgp rfl rfl rfl rfl ?_
  refine az_can rfl rfl rfl rfl (ex_aside (d + 4)) ?_
  refine az_sgp rfl rfl rfl rfl ?_
  refine az_cav rfl rfl rfl rfl e3 ?_
  refine az_cav rfl rfl rfl rfl e4 ?_
  refine az_ret rfl rfl rfl rfl ?_
  exact ⟨rfl, rfl⟩
theorem ex9_put (d : Nat) (hR : RR W (M1 193)) (hI : IW W) (hn : M1 192 6 = nI n) (h4 : n ≤ 4) (x : Int32) : ∃ M4, az_EX (d + 6) m_X9_put [.ref 192, .int x] (az_hp M1) (some (.int (cg_put W x).1)) (az_hp M4) ∧ PF M1 (cg_put W x).2 (cg_put W x).1 n M4 := by
  have hR2 : RR W (rg_as M1 193) := by
    rw [rg_as_row (by decide) (by decide)]
    exact hR
  obtain ⟨M3, f3, r3, e3⟩ := (ex_puts (d + 2) hR2 hI x).w
  obtain ⟨M4, e4, p4⟩ := ex_end (M1 := M1) (d + 4) hn h4 f3.w (fun q => r3 (Or.inl (Int32.not_lt.mp q)))
  refine ⟨M4, ?_, p4⟩
  refine az_EX.of (az_in0 (code := k_X9_put) (ls := [some (.ref 192), some (.int x)]) rfl rfl rfl ?_)
  refine az_sgp rfl rfl rfl rfl ?_
  refine az_can rfl rfl rfl rfl (ex_aside (d + 4)) ?_
  refine az_sgp rfl rfl rfl rfl ?_
  refine az_cav rfl rfl rfl rfl e3 ?_
  refine az_cav rfl rfl rfl rfl e4 ?_
  refine az_ret rfl rfl rfl rfl ?_
  exact ⟨rfl, rfl⟩
theorem ex9_drop (d : Nat) (hR : RR W (M1 193)) (hI : IW W) (hn : M1 192 6 = nI n) (h4 : n ≤ 4) (x : Int32) : ∃ M4, az_EX (d + 6) m_X9_drop [.ref 192, .int x] (az_hp M1) (some (.int (cg_drop W x).1)) (az_hp M4) ∧ PF M1 (cg_drop W x).2 (cg_drop W x).1 n M4 := by
  have hR2 : RR W (rg_as M1 193) := by
    rw [rg_as_row (by decide) (by decide)]
    exact hR
  obtain ⟨M3, f3, r3, e3⟩ := (ex_drops (d + 2) hR2 hI x).w
  obtain ⟨M4, e4, p4⟩ := ex_end (M1 := M1) (d + 4) hn h4 f3.w (fun q => r3 (Or.inl (Int32.not_lt.mp q)))
  refine ⟨M4, ?_, p4⟩
  refine az_EX.of (az_in0 (code := k_X9_drop) (ls := [some (.ref 192), some (.int x)]) rfl rfl rfl ?_)
  refine az_sgp rfl rfl rfl rfl ?_
  refine az_can rfl rfl rfl rfl (ex_aside (d + 4)) ?_
  refine az_sgp rfl rfl rfl rfl ?_
  refine az_cav rfl rfl rfl rfl e3 ?_
  refine az_cav rfl rfl rfl rfl e4 ?_
  refine az_ret rfl rfl rfl rfl ?_
  exact ⟨rfl, rfl⟩
theorem ex9_reset (d : Nat) (hR : RR W (M1 193)) (hI : IW W) (hn : M1 192 6 = nI n) (h4 : n ≤ 4) {P : Nat} (hP : az_rd (W 4) 8 (W 24 0) = nI P) (hP12 : P ≤ 12) : ∃ M4, az_EX (d + 6) m_X9_reset [.ref 192] (az_hp M1) (some (.int (cg_reset W P).1)) (az_hp M4) ∧ PF M1 (cg_reset W P).2 (cg_reset W P).1 n M4 := by
  have hR2 : RR W (rg_as M1 193) := by
    rw [rg_as_row (by decide) (by decide)]
    exact hR
  obtain ⟨M3, f3, r3, e3⟩ := (ex_resets (d + 1) hR2 hI hP hP12).w
  obtain ⟨M4, e4, p4⟩ := ex_end (M1 := M1) (d + 4) hn h4 f3.w (fun q => r3 (Or.inl (Int32.not_lt.mp q)))
  refine ⟨M4, ?_, p4⟩
  refine az_EX.of (az_in0 (code := k_X9_reset) (ls := [some (.ref 192)]) rfl rfl rfl ?_)
  refine az_sgp rfl rfl rfl rfl ?_
  refine az_can rfl rfl rfl rfl (ex_aside (d + 4)) ?_
  refine az_sgp rfl rfl rfl rfl ?_
  refine az_cav rfl rfl rfl rfl e3 ?_
  refine az_cav rfl rfl rfl rfl e4 ?_
  refine az_ret rfl rfl rfl rfl ?_
  exact ⟨rfl, rfl⟩
theorem ex9_seal (d : Nat) (hR : RR W (M1 193)) (hI : IW W) (hn : M1 192 6 = nI n) (h4 : n ≤ 4) : ∃ M4, az_EX (d + 6) m_X9_seal [.ref 192] (az_hp M1) (some (.int (cg_seal W).1)) (az_hp M4) ∧ PF M1 (cg_seal W).2 (cg_seal W).1 n M4 := by
  have hR2 : RR W (rg_as M1 193) := by
    rw [rg_as_row (by decide) (by decide)]
    exact hR
  obtain ⟨M3, f3, r3, e3⟩ := (ex_seals (d + 3) hR2 hI).w
  obtain ⟨M4, e4, p4⟩ := ex_end (M1 := M1) (d + 4) hn h4 f3.w (fun q => r3 (Or.inl (Int32.not_lt.mp q)))
  refine ⟨M4, ?_, p4⟩
  refine az_EX.of (az_in0 (code := k_X9_seal) (ls := [some (.ref 192)]) rfl rfl rfl ?_)
  refine az_sgp rfl rfl rfl rfl ?_
  refine az_can rfl rfl rfl rfl (ex_aside (d + 4)) ?_
  refine az_sgp rfl rfl rfl rfl ?_
  refine az_cav rfl rfl rfl rfl e3 ?_
  refine az_cav rfl rfl rfl rfl e4 ?_
  refine az_ret rfl rfl rfl rfl ?_
  exact ⟨rfl, rfl⟩
theorem ex9_clean (d : Nat) (hR : RR W (M1 193)) (hI : IW W) (hn : M1 192 6 = nI n) (h4 : n ≤ 4) {P Z e : Nat} (hP : az_rd (W 4) 8 (W 24 0) = nI P) (hP12 : P ≤ 12) (hZ : W 2 0 = nI Z) (hZ8 : Z ≤ 8) (he : W 24 4 = nI e) (he6 : e ≤ 6) : ∃ M4, az_EX (d + 6) m_X9_clean [.ref 192] (az_hp M1) (some (.int (cg_clean W P Z e).1)) (az_hp M4) ∧ PF M1 (cg_clean W P Z e).2 (cg_clean W P Z e).1 n M4 := by
  have hR2 : RR W (rg_as M1 193) := by
    rw [rg_as_row (by decide) (by decide)]
    exact hR
  obtain ⟨M3, f3, r3, e3⟩ := (ex_cleans d hR2 hI hP hP12 hZ hZ8 he he6)
  obtain ⟨M4, e4, p4⟩ := ex_end (M1 := M1) (d + 4) hn h4 f3.w (fun q => r3 (Or.inl (Int32.not_lt.mp q)))
  refine ⟨M4, ?_, p4⟩
  refine az_EX.of (az_in0 (code := k_X9_clean) (ls := [some (.ref 192)]) rfl rfl rfl ?_)
  refine az_sgp rfl rfl rfl rfl ?_
  refine az_can rfl rfl rfl rfl (ex_aside (d + 4)) ?_
  refine az_sgp rfl rfl rfl rfl ?_
  refine az_cav rfl rfl rfl rfl e3 ?_
  refine az_cav rfl rfl rfl rfl e4 ?_
  refine az_ret rfl rfl rfl rfl ?_
  exact ⟨rfl, rfl⟩
end REFP
