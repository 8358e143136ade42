/-! ROW: the class's rows of numbers, at any cells -/
theorem az_ofN {n : Nat} (h : n < 2 ^ 31) : (Int32.ofNat n).toInt = (n : Int) := nI_toInt h
theorem az_inT {i : Int32} {n : Nat} (hn : n < 2 ^ 31) (h1 : ¬ i < 0) (h2 : ¬ Int32.ofNat n ≤ i) : az_in i n = true := by
  have e := az_ofN hn
  rw [Int32.lt_iff_toInt_lt] at h1
  rw [Int32.le_iff_toInt_le, e] at h2
  have h1 : ¬ i.toInt < 0 := h1
  unfold az_in
  rw [Bool.and_eq_true, decide_eq_true_eq, decide_eq_true_eq]
  omega
theorem az_inF1 {i : Int32} {n : Nat} (h1 : i < 0) : az_in i n = false := by
  rw [Int32.lt_iff_toInt_lt] at h1
  have h1 : i.toInt < 0 := h1
  unfold az_in
  rw [Bool.and_eq_false_iff, decide_eq_false_iff_not, decide_eq_false_iff_not]
  omega
theorem az_inF2 {i : Int32} {n : Nat} (hn : n < 2 ^ 31) (h2 : Int32.ofNat n ≤ i) : az_in i n = false := by
  have e := az_ofN hn
  rw [Int32.le_iff_toInt_le, e] at h2
  unfold az_in
  rw [Bool.and_eq_false_iff, decide_eq_false_iff_not, decide_eq_false_iff_not]
  omega
/-- a read that looks at its index -/
def az_rd (f : Nat → Int32) (n : Nat) (i : Int32) : Int32 := if az_in i n = true then f i.toNatClampNeg else 0
/-- a write that looks at its index -/
def az_wr (M : Nat → Nat → Int32) (b n : Nat) (i x : Int32) : Nat → Nat → Int32 := if az_in i n = true then az_up M b i.toNatClampNeg x else M
theorem az_inN {i n : Nat} (h : i < n) (hn : n < 2 ^ 31) : az_in (nI i) n = true := by
  unfold az_in
  rw [nI_toInt (by omega), Bool.and_eq_true, decide_eq_true_eq, decide_eq_true_eq]
  omega
def az_fl (M : Nat → Nat → Int32) (b n : Nat) (x : Int32) : Nat → Nat → Int32 := fun c j => if c = b ∧ j < n then x else M c j
def az_cp (M : Nat → Nat → Int32) (b b2 n : Nat) : Nat → Nat → Int32 := fun c j => if c = b ∧ j < n then M b2 j else M c j
theorem az_fl0 (M : Nat → Nat → Int32) (b : Nat) (x : Int32) : az_fl M b 0 x = M := by
  funext c j
  simp [az_fl]
theorem az_cp0 (M : Nat → Nat → Int32) (b b2 : Nat) : az_cp M b b2 0 = M := by
  funext c j
  simp [az_cp]
theorem az_flS (M : Nat → Nat → Int32) (b i : Nat) (x : Int32) : az_up (az_fl M b i x) b i x = az_fl M b (i + 1) x := by
  funext c j
  by_cases h1 : c = b <;> by_cases h2 : j = i <;> simp [az_up, az_fl, h1, h2, Nat.lt_succ_iff, Nat.le_iff_lt_or_eq]
theorem az_cpS (M : Nat → Nat → Int32) (b b2 i : Nat) : az_up (az_cp M b b2 i) b i (az_cp M b b2 i b2 i) = az_cp M b b2 (i + 1) := by
  funext c j
  by_cases h1 : c = b <;> by_cases h2 : j = i <;> simp [az_up, az_cp, h1, h2, Nat.lt_succ_iff, Nat.le_iff_lt_or_eq]
section ROW
variable {z w : Nat} {S : Nat → az_Sh} {M : Nat → Nat → Int32} {a b n : Nat} {l : List (Option (Option Nat))}
theorem ev_X5_at (d : Nat) (ha : S a = (5, 0, [some (some b)])) (hb : S b = (9, n, l)) (hn : n < 2 ^ 31) (i : Int32) : az_EX (d + 1) m_X5_at [.ref a, .int i] (z, S, M, w) (some (.int (az_rd (M b) n i))) (z, S, M, w) := by
  refine az_EX.of (az_in0 (code := k_X5_at) (ls := [some (.ref a), some (.int i)]) rfl rfl rfl ?_)
  refine az_seg rfl ?_
  refine az_bra rfl rfl rfl (fun h1 => ?_) (fun h1 => ?_)
  · refine az_seg rfl ?_
    refine az_ret rfl rfl rfl rfl ?_
    simp [az_rd, az_inF1 h1]
  · refine az_sg 2 rfl ?_
    refine az_gfr ha rfl rfl rfl ?_
    refine az_aln hb rfl rfl ?_
    refine az_bra rfl rfl rfl (fun h2 => ?_) (fun h2 => ?_)
    · refine az_seg rfl ?_
      refine az_ret rfl rfl rfl rfl ?_
      simp [az_rd, az_inF2 hn h2]
    · refine az_sg 1 rfl ?_
      refine az_gfr ha rfl rfl rfl ?_
      refine az_seg rfl ?_
      refine az_ild hb rfl (az_inT hn h1 h2) ?_
      refine az_seg rfl ?_
      refine az_ret rfl rfl rfl rfl ?_
      simp [az_rd, az_inT hn h1 h2]
theorem ev_X5_isSet (d : Nat) (ha : S a = (5, 0, [some (some b)])) (hb : S b = (9, n, l)) (hn : n < 2 ^ 31) (i : Int32) : az_EX (d + 1) m_X5_isSet [.ref a, .int i] (z, S, M, w) (some (.int (if az_rd (M b) n i = 0 then 0 else 1))) (z, S, M, w) := by
  refine az_EX.of (az_in0 (code := k_X5_isSet) (ls := [some (.ref a), some (.int i)]) rfl rfl rfl ?_)
  refine az_seg rfl ?_
  refine az_bra rfl rfl rfl (fun h1 => ?_) (fun h1 => ?_)
  · refine az_seg rfl ?_
    refine az_ret rfl rfl rfl rfl ?_
    simp [az_rd, az_inF1 h1]
  · refine az_sg 2 rfl ?_
    refine az_gfr ha rfl rfl rfl ?_
    refine az_aln hb rfl rfl ?_
    refine az_bra rfl rfl rfl (fun h2 => ?_) (fun h2 => ?_)
    · refine az_seg rfl ?_
      refine az_ret rfl rfl rfl rfl ?_
      simp [az_rd, az_inF2 hn h2]
    · refine az_sg 1 rfl ?_
      refine az_gfr ha rfl rfl rfl ?_
      refine az_seg rfl ?_
      refine az_ild hb rfl (az_inT hn h1 h2) ?_
      refine az_bra rfl rfl rfl (fun h3 => ?_) (fun h3 => ?_)
      · refine az_seg rfl ?_
        refine az_ret rfl rfl rfl rfl ?_
        simp [az_rd, az_inT hn h1 h2, h3]
      · refine az_seg rfl ?_
        refine az_ret rfl rfl rfl rfl ?_
        simp [az_rd, az_inT hn h1 h2, h3]
theorem ev_X5_change (d : Nat) (ha : S a = (5, 0, [some (some b)])) (hb : S b = (9, n, l)) (hn : n < 2 ^ 31) (i x : Int32) : az_EX (d + 1) m_X5_change [.ref a, .int i, .int x] (z, S, M, w) none (z, S, az_wr M b n i x, w) := by
  refine az_EX.of (az_in0 (code := k_X5_change) (ls := [some (.ref a), some (.int i), some (.int x)]) rfl rfl rfl ?_)
  refine az_seg rfl ?_
  refine az_bra rfl rfl rfl (fun h1 => ?_) (fun h1 => ?_)
  · refine az_ret rfl rfl rfl rfl ?_
    simp [az_wr, az_inF1 h1]
  · refine az_sg 2 rfl ?_
    refine az_gfr ha rfl rfl rfl ?_
    refine az_aln hb rfl rfl ?_
    refine az_bra rfl rfl rfl (fun h2 => ?_) (fun h2 => ?_)
    · refine az_ret rfl rfl rfl rfl ?_
      simp [az_wr, az_inF2 hn h2]
    · refine az_sg 1 rfl ?_
      refine az_gfr ha rfl rfl rfl ?_
      refine az_seg rfl ?_
      refine az_ist hb rfl (az_inT hn h1 h2) ?_
      refine az_ret rfl rfl rfl rfl ?_
      simp [az_wr, az_inT hn h1 h2]
theorem ev_X5_fill (d : Nat) (ha : S a = (5, 0, [some (some b)])) (hb : S b = (9, n, l)) (hn : n < 2 ^ 31) (x : Int32) : az_EX (d + 1) m_X5_fill [.ref a, .int x] (z, S, M, w) none (z, S, az_fl M b n x, w) := by
  refine az_EX.of (az_in0 (code := k_X5_fill) (ls := [some (.ref a), some (.int x), none]) rfl rfl rfl ?_)
  refine az_sg 3 rfl ?_
  have K : ∀ (m i : Nat), i + m = n → az_RUN d k_X5_fill 3 [some (.ref a), some (.int x), some (.int (nI i))] [.int (nI i)] (z, S, az_fl M b i x, w) (fun r1 h1 => r1 = none ∧ h1 = (z, S, az_fl M b n x, w)) := by
    intro m
    induction m with
    | zero =>
      intro i hi
      refine az_sg 1 rfl ?_
      refine az_gfr ha rfl rfl rfl ?_
      refine az_aln hb rfl rfl ?_
      refine az_bra rfl rfl rfl (fun h2 => ?_) (fun h2 => ?_)
      · refine az_ret rfl rfl rfl rfl ?_
        rw [show i = n by omega]
        exact ⟨rfl, rfl⟩
      · exact absurd (nI_le (show n ≤ i by omega) (by omega)) h2
    | succ m ih =>
      intro i hi
      refine az_sg 1 rfl ?_
      refine az_gfr ha rfl rfl rfl ?_
      refine az_aln hb rfl rfl ?_
      refine az_bra rfl rfl rfl (fun h2 => ?_) (fun h2 => ?_)
      · exact absurd h2 (nI_ge (show i < n by omega) hn)
      · refine az_sg 1 rfl ?_
        refine az_gfr ha rfl rfl rfl ?_
        refine az_seg rfl ?_
        refine az_ist hb rfl (az_inN (show i < n by omega) hn) ?_
        rw [nI_clamp (show i < 2 ^ 31 by omega), az_flS]
        refine az_sg 3 rfl ?_
        rw [nI_1]
        exact ih (i + 1) (by omega)
  have K0 := K n 0 (by omega)
  rw [az_fl0] at K0
  exact K0
theorem ev_X5_copyFrom (d : Nat) {a2 b2 : Nat} {l2 : List (Option (Option Nat))} (ha : S a = (5, 0, [some (some b)])) (hb : S b = (9, n, l)) (ha2 : S a2 = (5, 0, [some (some b2)])) (hb2 : S b2 = (9, n, l2)) (hn : n < 2 ^ 31) : az_EX (d + 1) m_X5_copyFrom [.ref a, .ref a2] (z, S, M, w) none (z, S, az_cp M b b2 n, w) := by
  refine az_EX.of (az_in0 (code := k_X5_copyFrom) (ls := [some (.ref a), some (.ref a2), none]) rfl rfl rfl ?_)
  refine az_sg 3 rfl ?_
  have K : ∀ (m i : Nat), i + m = n → az_RUN d k_X5_copyFrom 3 [some (.ref a), some (.ref a2), some (.int (nI i))] [.int (nI i)] (z, S, az_cp M b b2 i, w) (fun r1 h1 => r1 = none ∧ h1 = (z, S, az_cp M b b2 n, w)) := by
    intro m
    induction m with
    | zero =>
      intro i hi
      refine az_sg 1 rfl ?_
      refine az_gfr ha rfl rfl rfl ?_
      refine az_aln hb rfl rfl ?_
      refine az_bra rfl rfl rfl (fun h2 => ?_) (fun h2 => ?_)
      · refine az_ret rfl rfl rfl rfl ?_
        rw [show i = n by omega]
        exact ⟨rfl, rfl⟩
      · exact absurd (nI_le (show n ≤ i by omega) (by omega)) h2
    | succ m ih =>
      intro i hi
      refine az_sg 1 rfl ?_
      refine az_gfr ha rfl rfl rfl ?_
      refine az_aln hb rfl rfl ?_
      refine az_bra rfl rfl rfl (fun h2 => ?_) (fun h2 => ?_)
      · exact absurd h2 (nI_ge (show i < n by omega) hn)
      · refine az_sg 2 rfl ?_
        refine az_gfr ha2 rfl rfl rfl ?_
        refine az_aln hb2 rfl rfl ?_
        refine az_bra rfl rfl rfl (fun h3 => ?_) (fun h3 => ?_)
        · exact absurd h3 (nI_ge (show i < n by omega) hn)
        · refine az_sg 1 rfl ?_
          refine az_gfr ha rfl rfl rfl ?_
          refine az_sg 2 rfl ?_
          refine az_gfr ha2 rfl rfl rfl ?_
          refine az_seg rfl ?_
          refine az_ild hb2 rfl (az_inN (show i < n by omega) hn) ?_
          refine az_ist hb rfl (az_inN (show i < n by omega) hn) ?_
          rw [nI_clamp (show i < 2 ^ 31 by omega), az_cpS]
          refine az_sg 3 rfl ?_
          rw [nI_1]
          exact ih (i + 1) (by omega)
  have K0 := K n 0 (by omega)
  rw [az_cp0] at K0
  exact K0
end ROW
