/-! CLASS: what a copy is; the history -/
theorem az_cp_row {M : Nat → Nat → Int32} {a b n c : Nat} (h : c ≠ a) : az_cp M a b n c = M c := by
  funext j
  simp [az_cp, h]
theorem az_cp_self (M : Nat → Nat → Int32) (a b n j : Nat) : az_cp M a b n a j = if j < n then M b j else M a j := by
  simp [az_cp]
def az_wl : Nat → Nat
  | 1 => 4 | 3 => 8 | 5 => 8 | 7 => 8 | 9 => 8 | 11 => 8 | 13 => 96 | 15 => 96 | 16 => 1 | 18 => 40 | 20 => 40 | 22 => 40 | 23 => 8 | 25 => 6
  | _ => 0
theorem cg_cpW_out {M : az_Mem} {a b c : Nat} (h : c < a ∨ a + 26 ≤ c) : cg_cpW M a b c = M c := by
  unfold cg_cpW cg_cpC cg_cpL cg_cpR
  simp (disch := omega) only [az_cp_row, az_up_row]
theorem cg_cpW_in {M : az_Mem} {a b : Nat} (hab : a + 26 ≤ b ∨ b + 26 ≤ a) : ∀ j k, k < az_wl j → cg_cpW M a b (a + j) k = M (b + j) k := by
  intro j k hk
  have hj : j = 1 ∨ j = 3 ∨ j = 5 ∨ j = 7 ∨ j = 9 ∨ j = 11 ∨ j = 13 ∨ j = 15 ∨ j = 16 ∨ j = 18 ∨ j = 20 ∨ j = 22 ∨ j = 23 ∨ j = 25 := by
    unfold az_wl at hk
    split at hk <;> first | omega | skip
  rcases hj with rfl | rfl | rfl | rfl | rfl | rfl | rfl | rfl | rfl | rfl | rfl | rfl | rfl | rfl
  · have hk : k < 4 := hk
    unfold cg_cpW cg_cpC cg_cpL cg_cpR
    simp (disch := omega) only [az_cp_row, az_up_row, az_up_self]
    rcases (show k = 0 ∨ k = 1 ∨ k = 2 ∨ k = 3 by omega) with rfl | rfl | rfl | rfl <;> rfl
  · have hk : k < 8 := hk
    unfold cg_cpW cg_cpC cg_cpL cg_cpR
    simp (disch := omega) only [Nat.add_assoc, Nat.reduceAdd, az_cp_row, az_up_row, az_cp_self, hk, if_true]
  · have hk : k < 8 := hk
    unfold cg_cpW cg_cpC cg_cpL cg_cpR
    simp (disch := omega) only [Nat.add_assoc, Nat.reduceAdd, az_cp_row, az_up_row, az_cp_self, hk, if_true]
  · have hk : k < 8 := hk
    unfold cg_cpW cg_cpC cg_cpL cg_cpR
    simp (disch := omega) only [Nat.add_assoc, Nat.reduceAdd, az_cp_row, az_up_row, az_cp_self, hk, if_true]
  · have hk : k < 8 := hk
    unfold cg_cpW cg_cpC cg_cpL cg_cpR
    simp (disch := omega) only [Nat.add_assoc, Nat.reduceAdd, az_cp_row, az_up_row, az_cp_self, hk, if_true]
  · have hk : k < 8 := hk
    unfold cg_cpW cg_cpC cg_cpL cg_cpR
    simp (disch := omega) only [Nat.add_assoc, Nat.reduceAdd, az_cp_row, az_up_row, az_cp_self, hk, if_true]
  · have hk : k < 96 := hk
    unfold cg_cpW cg_cpC cg_cpL cg_cpR
    simp (disch := omega) only [Nat.add_assoc, Nat.reduceAdd, az_cp_row, az_up_row, az_cp_self, hk, if_true]
  · have hk : k < 96 := hk
    unfold cg_cpW cg_cpC cg_cpL cg_cpR
    simp (disch := omega) only [Nat.add_assoc, Nat.reduceAdd, az_cp_row, az_up_row, az_cp_self, hk, if_true]
  · have hk : k < 1 := hk
    unfold cg_cpW cg_cpC cg_cpL cg_cpR
    simp (disch := omega) only [Nat.add_assoc, Nat.reduceAdd, az_cp_row, az_up_row, az_up_self]
    rcases (show k = 0 by omega) with rfl
    rfl
  · have hk : k < 40 := hk
    unfold cg_cpW cg_cpC cg_cpL cg_cpR
    simp (disch := omega) only [Nat.add_assoc, Nat.reduceAdd, az_cp_row, az_up_row, az_cp_self, hk, if_true]
  · have hk : k < 40 := hk
    unfold cg_cpW cg_cpC cg_cpL cg_cpR
    simp (disch := omega) only [Nat.add_assoc, Nat.reduceAdd, az_cp_row, az_up_row, az_cp_self, hk, if_true]
  · have hk : k < 40 := hk
    unfold cg_cpW cg_cpC cg_cpL cg_cpR
    simp (disch := omega) only [Nat.add_assoc, Nat.reduceAdd, az_cp_row, az_up_row, az_cp_self, hk, if_true]
  · have hk : k < 8 := hk
    unfold cg_cpW cg_cpC cg_cpL cg_cpR
    simp (disch := omega) only [Nat.add_assoc, Nat.reduceAdd, az_cp_row, az_up_row, az_up_self]
    rcases (show k = 0 ∨ k = 1 ∨ k = 2 ∨ k = 3 ∨ k = 4 ∨ k = 5 ∨ k = 6 ∨ k = 7 by omega) with rfl | rfl | rfl | rfl | rfl | rfl | rfl | rfl <;> rfl
  · have hk : k < 6 := hk
    unfold cg_cpW cg_cpC cg_cpL cg_cpR
    simp (disch := omega) only [Nat.add_assoc, Nat.reduceAdd, az_cp_row, az_up_row, az_cp_self, hk, if_true]
