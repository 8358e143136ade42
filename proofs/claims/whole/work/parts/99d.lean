/-! REFERENCE: updates in the memory; what a world keeps -/
theorem RR.m_zones {W M : az_Mem} (h : RR W (M 193)) (x : Int32) : RR (az_up W 2 0 x) (az_up M 193 0 x 193) := by
  rw [rU_up]
  exact h.u_zones x
theorem RR.m_slots {W M : az_Mem} (h : RR W (M 193)) (x : Int32) : RR (az_up W 2 1 x) (az_up M 193 1 x 193) := by
  rw [rU_up]
  exact h.u_slots x
theorem RR.m_at_ {W M : az_Mem} (h : RR W (M 193)) (x : Int32) : RR (az_up W 24 0 x) (az_up M 193 2 x 193) := by
  rw [rU_up]
  exact h.u_at_ x
theorem RR.m_water {W M : az_Mem} (h : RR W (M 193)) (x : Int32) : RR (az_up W 24 1 x) (az_up M 193 3 x 193) := by
  rw [rU_up]
  exact h.u_water x
theorem RR.m_skin {W M : az_Mem} (h : RR W (M 193)) (x : Int32) : RR (az_up W 24 2 x) (az_up M 193 4 x 193) := by
  rw [rU_up]
  exact h.u_skin x
theorem RR.m_room {W M : az_Mem} (h : RR W (M 193)) (x : Int32) : RR (az_up W 24 3 x) (az_up M 193 5 x 193) := by
  rw [rU_up]
  exact h.u_room x
theorem RR.m_bound {W M : az_Mem} (h : RR W (M 193)) (x : Int32) : RR (az_up W 17 0 x) (az_up M 193 6 x 193) := by
  rw [rU_up]
  exact h.u_bound x
theorem RR.m_mark {W M : az_Mem} (h : RR W (M 193)) (x : Int32) : RR (az_up W 2 2 x) (az_up M 193 7 x 193) := by
  rw [rU_up]
  exact h.u_mark x
theorem RR.m_steps {W M : az_Mem} (h : RR W (M 193)) (x : Int32) : RR (az_up W 24 5 x) (az_up M 193 8 x 193) := by
  rw [rU_up]
  exact h.u_steps x
theorem RR.m_used {W M : az_Mem} (h : RR W (M 193)) (x : Int32) : RR (az_up W 24 6 x) (az_up M 193 9 x 193) := by
  rw [rU_up]
  exact h.u_used x
theorem RR.m_resets {W M : az_Mem} (h : RR W (M 193)) (x : Int32) : RR (az_up W 2 3 x) (az_up M 193 10 x 193) := by
  rw [rU_up]
  exact h.u_resets x
theorem RR.m_moved {W M : az_Mem} (h : RR W (M 193)) (x : Int32) : RR (az_up W 24 7 x) (az_up M 193 11 x 193) := by
  rw [rU_up]
  exact h.u_moved x
theorem RR.m_many {W M : az_Mem} (h : RR W (M 193)) (x : Int32) : RR (az_up W 24 4 x) (az_up M 193 12 x 193) := by
  rw [rU_up]
  exact h.u_many x
theorem RR.m_bag {W M : az_Mem} (h : RR W (M 193)) {q : Nat} (hq : q < 6) (x : Int32) : RR (az_up W 26 q x) (az_up M 193 (13 + q) x 193) := by
  rw [rU_up]
  exact h.u_bag hq x
theorem RR.m_zp {W M : az_Mem} (h : RR W (M 193)) {q : Nat} (hq : q < 8) (x : Int32) : RR (az_up W 4 q x) (az_up M 193 (19 + 5 * q + 0) x 193) := by
  rw [rU_up]
  exact h.u_zp hq x
theorem RR.m_zs {W M : az_Mem} (h : RR W (M 193)) {q : Nat} (hq : q < 8) (x : Int32) : RR (az_up W 8 q x) (az_up M 193 (19 + 5 * q + 1) x 193) := by
  rw [rU_up]
  exact h.u_zs hq x
theorem RR.m_zk {W M : az_Mem} (h : RR W (M 193)) {q : Nat} (hq : q < 8) (x : Int32) : RR (az_up W 6 q x) (az_up M 193 (19 + 5 * q + 2) x 193) := by
  rw [rU_up]
  exact h.u_zk hq x
theorem RR.m_zw {W M : az_Mem} (h : RR W (M 193)) {q : Nat} (hq : q < 8) (x : Int32) : RR (az_up W 10 q x) (az_up M 193 (19 + 5 * q + 3) x 193) := by
  rw [rU_up]
  exact h.u_zw hq x
theorem RR.m_zr {W M : az_Mem} (h : RR W (M 193)) {q : Nat} (hq : q < 8) (x : Int32) : RR (az_up W 12 q x) (az_up M 193 (19 + 5 * q + 4) x 193) := by
  rw [rU_up]
  exact h.u_zr hq x
theorem RR.m_cl {W M : az_Mem} (h : RR W (M 193)) {q : Nat} (hq : q < 96) (x : Int32) : RR (az_up W 14 q x) (az_up M 193 (59 + 2 * q) x 193) := by
  rw [rU_up]
  exact h.u_cl hq x
theorem RR.m_cm {W M : az_Mem} (h : RR W (M 193)) {q : Nat} (hq : q < 96) (x : Int32) : RR (az_up W 16 q x) (az_up M 193 (59 + 2 * q + 1) x 193) := by
  rw [rU_up]
  exact h.u_cm hq x
theorem RR.m_lw {W M : az_Mem} (h : RR W (M 193)) {q : Nat} (hq : q < 40) (x : Int32) : RR (az_up W 19 q x) (az_up M 193 (251 + 4 * q + 0) x 193) := by
  rw [rU_up]
  exact h.u_lw hq x
theorem RR.m_lh {W M : az_Mem} (h : RR W (M 193)) {q : Nat} (hq : q < 40) (x : Int32) : RR (az_up W 23 q x) (az_up M 193 (251 + 4 * q + 3) x 193) := by
  rw [rU_up]
  exact h.u_lh hq x
theorem RR.m_cell {W M : az_Mem} (h : RR W (M 193)) {q : Nat} (hq : q < 40) {x y z : Int32} (hy : y = x / 12) (hz : z = x - x / 12 * 12) : RR (az_up W 21 q x) (az_up (az_up M 193 (251 + 4 * q + 1) y) 193 (251 + 4 * q + 2) z 193) := by
  rw [rU_up, rU_up]
  exact h.u_cell hq hy hz
def IW (W : az_Mem) : Prop := (∃ Z a : Nat, W 2 0 = nI Z ∧ W 24 0 = nI a ∧ 2 ≤ Z ∧ Z ≤ 8 ∧ a < Z) ∧ (∃ S : Nat, W 2 1 = nI S ∧ 2 ≤ S ∧ S ≤ 12 ∧ ∀ z, z < 8 → ∃ p : Nat, W 4 z = nI p ∧ p ≤ S ∧ (W 8 z = 0 → p < S)) ∧ (∀ z, z < 8 → W 8 z = 0 ∨ W 8 z = 1) ∧ (∀ z, z < 8 → W 10 z = 0 ∨ W 10 z = 1) ∧ (∀ c, c < 96 → ∃ l : Nat, l < 40 ∧ W 14 c = nI l) ∧ (∀ l, l < 40 → ∃ c : Nat, c < 96 ∧ W 21 l = nI c) ∧ (∀ l, l < 40 → ∃ h : Nat, h ≤ 99 ∧ W 23 l = nI h) ∧ (∃ w k : Nat, W 24 1 = nI w ∧ W 24 2 = nI k ∧ w ≤ k ∧ k ≤ 200) ∧ (∃ B R : Nat, W 24 4 = nI B ∧ W 24 3 = nI R ∧ B ≤ R ∧ R ≤ 6 ∧ (∀ i, i < B → ∃ l : Nat, l < 40 ∧ W 26 i = nI l ∧ W 19 l = 2) ∧ (∀ i j, i < B → j < B → W 26 i = W 26 j → i = j) ∧ (∀ l, l < 40 → W 19 l = 2 → ∃ i, i < B ∧ W 26 i = nI l))
theorem IW.zn {W : az_Mem} (h : IW W) : ∃ Z a : Nat, W 2 0 = nI Z ∧ W 24 0 = nI a ∧ 2 ≤ Z ∧ Z ≤ 8 ∧ a < Z := h.1
theorem IW.sl {W : az_Mem} (h : IW W) : ∃ S : Nat, W 2 1 = nI S ∧ 2 ≤ S ∧ S ≤ 12 ∧ ∀ z, z < 8 → ∃ p : Nat, W 4 z = nI p ∧ p ≤ S ∧ (W 8 z = 0 → p < S) := h.2.1
theorem IW.sld {W : az_Mem} (h : IW W) : ∀ z, z < 8 → W 8 z = 0 ∨ W 8 z = 1 := h.2.2.1
theorem IW.well {W : az_Mem} (h : IW W) : ∀ z, z < 8 → W 10 z = 0 ∨ W 10 z = 1 := h.2.2.2.1
theorem IW.load {W : az_Mem} (h : IW W) : ∀ c, c < 96 → ∃ l : Nat, l < 40 ∧ W 14 c = nI l := h.2.2.2.2.1
theorem IW.cell {W : az_Mem} (h : IW W) : ∀ l, l < 40 → ∃ c : Nat, c < 96 ∧ W 21 l = nI c := h.2.2.2.2.2.1
theorem IW.heat {W : az_Mem} (h : IW W) : ∀ l, l < 40 → ∃ h : Nat, h ≤ 99 ∧ W 23 l = nI h := h.2.2.2.2.2.2.1
theorem IW.water {W : az_Mem} (h : IW W) : ∃ w k : Nat, W 24 1 = nI w ∧ W 24 2 = nI k ∧ w ≤ k ∧ k ≤ 200 := h.2.2.2.2.2.2.2.1
theorem IW.bag {W : az_Mem} (h : IW W) : ∃ B R : Nat, W 24 4 = nI B ∧ W 24 3 = nI R ∧ B ≤ R ∧ R ≤ 6 ∧ (∀ i, i < B → ∃ l : Nat, l < 40 ∧ W 26 i = nI l ∧ W 19 l = 2) ∧ (∀ i j, i < B → j < B → W 26 i = W 26 j → i = j) ∧ (∀ l, l < 40 → W 19 l = 2 → ∃ i, i < B ∧ W 26 i = nI l) := h.2.2.2.2.2.2.2.2
theorem IW.mk {W : az_Mem} (zn : ∃ Z a : Nat, W 2 0 = nI Z ∧ W 24 0 = nI a ∧ 2 ≤ Z ∧ Z ≤ 8 ∧ a < Z) (sl : ∃ S : Nat, W 2 1 = nI S ∧ 2 ≤ S ∧ S ≤ 12 ∧ ∀ z, z < 8 → ∃ p : Nat, W 4 z = nI p ∧ p ≤ S ∧ (W 8 z = 0 → p < S)) (sld : ∀ z, z < 8 → W 8 z = 0 ∨ W 8 z = 1) (well : ∀ z, z < 8 → W 10 z = 0 ∨ W 10 z = 1) (load : ∀ c, c < 96 → ∃ l : Nat, l < 40 ∧ W 14 c = nI l) (cell : ∀ l, l < 40 → ∃ c : Nat, c < 96 ∧ W 21 l = nI c) (heat : ∀ l, l < 40 → ∃ h : Nat, h ≤ 99 ∧ W 23 l = nI h) (water : ∃ w k : Nat, W 24 1 = nI w ∧ W 24 2 = nI k ∧ w ≤ k ∧ k ≤ 200) (bag : ∃ B R : Nat, W 24 4 = nI B ∧ W 24 3 = nI R ∧ B ≤ R ∧ R ≤ 6 ∧ (∀ i, i < B → ∃ l : Nat, l < 40 ∧ W 26 i = nI l ∧ W 19 l = 2) ∧ (∀ i j, i < B → j < B → W 26 i = W 26 j → i = j) ∧ (∀ l, l < 40 → W 19 l = 2 → ∃ i, i < B ∧ W 26 i = nI l)) : IW W := ⟨zn, sl, sld, well, load, cell, heat, water, bag⟩
theorem nI_div {a b : Nat} (ha : a < 2 ^ 31) (hb : b < 2 ^ 31) : nI a / nI b = nI (a / b) := by
  have h : a / b ≤ a := Nat.div_le_self a b
  apply Int32.toInt_inj.mp
  rw [Int32.toInt_div, nI_toInt ha, nI_toInt hb, nI_toInt (by omega), ← Int.ofNat_tdiv]
  generalize a / b = c at h
  apply Int.bmod_eq_of_le <;> omega
theorem nI_sub {a b : Nat} (h : b ≤ a) : nI a - nI b = nI (a - b) := by
  obtain ⟨c, rfl⟩ : ∃ c, a = b + c := ⟨a - b, by omega⟩
  rw [← nI_add, Nat.add_sub_cancel_left]
  rw [Int32.add_comm]
  exact Int32.add_sub_cancel (nI c) (nI b)
theorem nI_mod {a b : Nat} (ha : a < 2 ^ 31) (hb : b < 2 ^ 31) : nI a - nI a / nI b * nI b = nI (a % b) := by
  rw [nI_div ha hb, nI_mul, nI_sub (Nat.div_mul_le_self a b)]
  congr 1
  have := Nat.mod_add_div a b
  rw [Nat.mul_comm b] at this
  omega
theorem az_up_comm {M : az_Mem} {a b j k : Nat} {x y : Int32} (h : a ≠ b ∨ j ≠ k) : az_up (az_up M a j x) b k y = az_up (az_up M b k y) a j x := by
  funext c i
  simp only [az_up]
  repeat' split
  all_goals first | rfl | omega
def fr1 (M M' : az_Mem) : Prop := ∀ c, c ≠ 193 → M' c = M c
theorem fr1.rf (M : az_Mem) : fr1 M M := fun _ _ => rfl
theorem fr1.up {M M' : az_Mem} (h : fr1 M M') (k : Nat) (x : Int32) : fr1 M (az_up M' 193 k x) := fun c h1 => by rw [az_up_row h1]; exact h c h1
theorem fr1.tr {M M' M'' : az_Mem} (h : fr1 M M') (h' : fr1 M' M'') : fr1 M M'' := fun c h1 => by rw [h' c h1, h c h1]
