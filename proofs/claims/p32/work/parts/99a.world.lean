/-! REFERENCE: what its row says of the class's world; written by wip/whole/mkrr.py -/
def rw_len : Nat → Nat
  | 2 => 4 | 4 => 8 | 6 => 8 | 8 => 8 | 10 => 8 | 12 => 8 | 14 => 96 | 16 => 96 | 17 => 1 | 19 => 40 | 21 => 40 | 23 => 40 | 24 => 8 | 26 => 6
  | _ => 0
/-- two worlds that agree where a world has places -/
def sW (W W' : az_Mem) : Prop := ∀ c k, k < rw_len c → W c k = W' c k
/-! REFERENCE, LEAVES -/
theorem nI_mul (a b : Nat) : nI a * nI b = nI (a * b) := (Int32.ofNat_mul a b).symm
theorem in_iff {v : Int32} {n : Nat} {m : Int32} (hm : m = nI n) (hn : n < 2 ^ 31) : (¬ v < 0 ∧ ¬ m < v) ↔ ∃ k, k ≤ n ∧ v = nI k := by
  subst hm
  constructor
  · rintro ⟨h1, h2⟩
    obtain ⟨j, hj, rfl⟩ := nI_of h1
    exact ⟨j, by rw [nI_ltI hn hj] at h2; omega, rfl⟩
  · rintro ⟨k, hk, rfl⟩
    exact ⟨nI_pos (by omega), nI_nlt hk hn⟩
theorem ix_iff {v : Int32} {n : Nat} {m : Int32} (hm : m = nI n) (hn : n < 2 ^ 31) : (¬ v < 0 ∧ ¬ m ≤ v) ↔ ∃ k, k < n ∧ v = nI k := by
  subst hm
  constructor
  · rintro ⟨h1, h2⟩
    obtain ⟨j, hj, rfl⟩ := nI_of h1
    exact ⟨j, by rw [nI_leI hn hj] at h2; omega, rfl⟩
  · rintro ⟨k, hk, rfl⟩
    exact ⟨nI_pos (by omega), nI_ge hk hn⟩
section REFL
variable {d : Nat} {code : Nat → Option az_I} {p : Nat} {ls : List az_V} {Q : Option Value → az_H → Prop} {M : az_Mem}
theorem az_ald {a b c nx q n k : Nat} {im j x : Int32} {sw : List (Int32 × Nat)} {r : List Value} (hi : code p = some (33, a, b, c, im, nx, sw)) (hs : az_shp q = (9, n, [])) (e : j = nI k) (hk : k < n) (hn : n < 2 ^ 31) (ev : M q k = x) (kk : az_RUN d code nx ls (.int x :: r) (az_hp M) Q) : az_RUN d code p ls (.int j :: .ref q :: r) (az_hp M) Q := by
  subst e
  refine az_ild hs hi (az_inN hk hn) ?_
  rw [nI_clamp (by omega), ev]
  exact kk
theorem az_ast {a b c nx q n k : Nat} {im j x : Int32} {sw : List (Int32 × Nat)} {r : List Value} (hi : code p = some (34, a, b, c, im, nx, sw)) (hs : az_shp q = (9, n, [])) (e : j = nI k) (hk : k < n) (hn : n < 2 ^ 31) (kk : az_RUN d code nx ls r (az_hp (az_up M q k x)) Q) : az_RUN d code p ls (.int x :: .int j :: .ref q :: r) (az_hp M) Q := by
  subst e
  refine az_ist hs hi (az_inN hk hn) ?_
  rw [nI_clamp (by omega)]
  exact kk
end REFL
section REFL2
variable {M : az_Mem}
end REFL2
/-! REFERENCE: updates in the memory; what a world keeps -/
def IW (W : az_Mem) : Prop := (∃ Z a : Nat, W 2 0 = nI Z ∧ W 24 0 = nI a ∧ 2 ≤ Z ∧ Z ≤ 8 ∧ a < Z) ∧ (∃ S : Nat, W 2 1 = nI S ∧ 2 ≤ S ∧ S ≤ 12 ∧ ∀ z, z < 8 → ∃ p : Nat, W 4 z = nI p ∧ p ≤ S ∧ (W 8 z = 0 → p < S)) ∧ (∀ z, z < 8 → W 8 z = 0 ∨ W 8 z = 1) ∧ (∀ z, z < 8 → W 10 z = 0 ∨ W 10 z = 1) ∧ (∀ c, c < 96 → ∃ l : Nat, l < 40 ∧ W 14 c = nI l) ∧ (∀ l, l < 40 → ∃ c : Nat, c < 96 ∧ W 21 l = nI c) ∧ (∀ l, l < 40 → ∃ h : Nat, h ≤ 99 ∧ W 23 l = nI h) ∧ (∃ w k : Nat, W 24 1 = nI w ∧ W 24 2 = nI k ∧ w ≤ k ∧ k ≤ 200) ∧ (∃ B R : Nat, W 24 4 = nI B ∧ W 24 3 = nI R ∧ B ≤ R ∧ R ≤ 6 ∧ (∀ i, i < B → ∃ l : Nat, l < 40 ∧ W 26 i = nI l ∧ W 19 l = 2) ∧ (∀ i j, i < B → j < B → W 26 i = W 26 j → i = j) ∧ (∀ l, l < 40 → W 19 l = 2 → ∃ i, i < B ∧ W 26 i = nI l))
theorem IW.zn {W : az_Mem} (h : IW W) : ∃ Z a : Nat, W 2 0 = nI Z ∧ W 24 0 = nI a ∧ 2 ≤ Z ∧ Z ≤ 8 ∧ a < Z := h.1
theorem IW.sl {W : az_Mem} (h : IW W) : ∃ S : Nat, W 2 1 = nI S ∧ 2 ≤ S ∧ S ≤ 12 ∧ ∀ z, z < 8 → ∃ p : Nat, W 4 z = nI p ∧ p ≤ S ∧ (W 8 z = 0 → p < S) := h.2.1
theorem IW.sld {W : az_Mem} (h : IW W) : ∀ z, z < 8 → W 8 z = 0 ∨ W 8 z = 1 := h.2.2.1
theorem IW.well {W : az_Mem} (h : IW W) : ∀ z, z < 8 → W 10 z = 0 ∨ W 10 z = 1 := h.2.2.2.1
theorem IW.load {W : az_Mem} (h : IW W) : ∀ c, c < 96 → ∃ l : Nat, l < 40 ∧ W 14 c = nI l := h.2.2.2.2.1
theorem IW.cell {W : az_Mem} (h : IW W) : ∀ l, l < 40 → ∃ c : Nat, c < 96 ∧ W 21 l = nI c := h.2.2.2.2.2.1
theorem IW.heat {W : az_Mem} (h : IW W) : ∀ l, l < 40 → ∃ h : Nat, h ≤ 99 ∧ W 23 l = nI h := h.2.2.2.2.2.2.1
theorem IW.water {W : az_Mem} (h : IW W) : ∃ w k : Nat, W 24 1 = nI w ∧ W 24 2 = nI k ∧ w ≤ k ∧ k ≤ 200 := h.2.2.2.2.2.2.2.1
theorem IW.bag {W : az_Mem} (h : IW W) : ∃ B R : Nat, W 24 4 = nI B ∧ W 24 3 = nI R ∧ B ≤ R ∧ R ≤ 6 ∧ (∀ i, i < B → ∃ l : Nat, l < 40 ∧ W 26 i = nI l ∧ W 19 l = 2) ∧ (∀ i j, i < B → j < B → W 26 i = W 26 j → i = j) ∧ (∀ l, l < 40 → W 19 l = 2 → ∃ i, i < B ∧ W 26 i = nI l) := h.2.2.2.2.2.2.2.2
theorem IW.mk {W : az_Mem} (zn : ∃ Z a : Nat, W 2 0 = nI Z ∧ W 24 0 = nI a ∧ 2 ≤ Z ∧ Z ≤ 8 ∧ a < Z) (sl : ∃ S : Nat, W 2 1 = nI S ∧ 2 ≤ S ∧ S ≤ 12 ∧ ∀ z, z < 8 → ∃ p : Nat, W 4 z = nI p ∧ p ≤ S ∧ (W 8 z = 0 → p < S)) (sld : ∀ z, z < 8 → W 8 z = 0 ∨ W 8 z = 1) (well : ∀ z, z < 8 → W 10 z = 0 ∨ W 10 z = 1) (load : ∀ c, c < 96 → ∃ l : Nat, l < 40 ∧ W 14 c = nI l) (cell : ∀ l, l < 40 → ∃ c : Nat, c < 96 ∧ W 21 l = nI c) (heat : ∀ l, l < 40 → ∃ h : Nat, h ≤ 99 ∧ W 23 l = nI h) (water : ∃ w k : Nat, W 24 1 = nI w ∧ W 24 2 = nI k ∧ w ≤ k ∧ k ≤ 200) (bag : ∃ B R : Nat, W 24 4 = nI B ∧ W 24 3 = nI R ∧ B ≤ R ∧ R ≤ 6 ∧ (∀ i, i < B → ∃ l : Nat, l < 40 ∧ W 26 i = nI l ∧ W 19 l = 2) ∧ (∀ i j, i < B → j < B → W 26 i = W 26 j → i = j) ∧ (∀ l, l < 40 → W 19 l = 2 → ∃ i, i < B ∧ W 26 i = nI l)) : IW W := ⟨zn, sl, sld, well, load, cell, heat, water, bag⟩
theorem nI_div {a b : Nat} (ha : a < 2 ^ 31) (hb : b < 2 ^ 31) : nI a / nI b = nI (a / b) := by
  have h : a / b ≤ a := Nat.div_le_self a b
  apply Int32.toInt_inj.mp
  rw [Int32.toInt_div, nI_toInt ha, nI_toInt hb, nI_toInt (by omega), ← Int.ofNat_tdiv]
  generalize a / b = c at h
  apply Int.bmod_eq_of_le <;> omega
theorem nI_sub {a b : Nat} (h : b ≤ a) : nI a - nI b = nI (a - b) := by
  obtain ⟨c, rfl⟩ : ∃ c, a = b + c := ⟨a - b, by omega⟩
  rw [← nI_add, Nat.add_sub_cancel_left]
  rw [Int32.add_comm]
  exact Int32.add_sub_cancel (nI c) (nI b)
theorem nI_mod {a b : Nat} (ha : a < 2 ^ 31) (hb : b < 2 ^ 31) : nI a - nI a / nI b * nI b = nI (a % b) := by
  rw [nI_div ha hb, nI_mul, nI_sub (Nat.div_mul_le_self a b)]
  congr 1
  have := Nat.mod_add_div a b
  rw [Nat.mul_comm b] at this
  omega
theorem az_up_comm {M : az_Mem} {a b j k : Nat} {x y : Int32} (h : a ≠ b ∨ j ≠ k) : az_up (az_up M a j x) b k y = az_up (az_up M b k y) a j x := by
  funext c i
  simp only [az_up]
  repeat' split
  all_goals first | rfl | omega
/-! REFERENCE: water, steps, what may be written, what is live -/
section REFM
variable {M W : az_Mem}
theorem cg_nextN {Z a : Nat} (hZ : W 2 0 = nI Z) (ha : W 24 0 = nI a) (h8 : Z ≤ 8) (haZ : a < Z) : cg_next W = nI ((a + 1) % Z) := by
  unfold cg_next
  rw [hZ, ha, nI_1]
  split <;> rename_i h <;> rw [nI_leI (by omega) (by omega)] at h
  · have e : a + 1 = Z := by omega
    rw [e, Nat.mod_self]
    rfl
  · rw [Nat.mod_eq_of_lt (by omega)]
end REFM
/-! REFERENCE: a load comes into a slot, into the bag; a zone is reset -/
section REFN
variable {M W : az_Mem}
def cg_cm (W : az_Mem) (l : Int32) : az_Mem := cg_moveToSlot (cg_append W (W 24 0) l) l (cg_append W (W 24 0) l 24 0 * 12 + az_rd (W 4) 8 (W 24 0))
theorem cg_append_24 (W : az_Mem) (z l : Int32) : cg_append W z l 24 = W 24 := by
  unfold cg_append cg_app1
  split
  · rw [az_wr_row (by decide), az_up_row (by decide), az_wr_row (by decide), az_wr_row (by decide)]
  · rw [az_wr_row (by decide), az_wr_row (by decide), az_up_row (by decide), az_wr_row (by decide), az_wr_row (by decide)]
theorem nI_cell (a p : Nat) : nI a * 12 + nI p = nI (12 * a + p) := by
  show nI a * nI 12 + nI p = _
  rw [nI_mul, nI_add, Nat.mul_comm]
theorem cg_cmN {a S p l : Nat} (ha : W 24 0 = nI a) (h8 : a < 8) (hS : W 2 1 = nI S) (h12 : S ≤ 12) (hp : W 4 a = nI p) (hpS : p < S) (h40 : l < 40) :
    cg_cm W (nI l) = az_up (az_up ((fun X => if p + 1 = S then az_up X 8 a 1 else X) (az_up (az_up (az_up (az_up W 14 (12 * a + p) (nI l)) 16 (12 * a + p) (W 2 2)) 2 2 (W 2 2 + 1)) 4 a (nI p + 1))) 19 l 1) 21 l (nI (12 * a + p)) := by
  unfold cg_cm
  rw [cg_append_24, ha]
  unfold cg_moveToSlot cg_append cg_app1
  rw [az_rdN h8 (by decide), hp, nI_cell, hS]
  simp only [nI_1]
  have e : (nI (p + 1) < nI S) = ¬ (p + 1 = S) := by
    rw [nI_ltI (by omega) (by omega)]
    apply propext
    omega
  simp only [az_wrN (show 12 * a + p < 96 by omega) (show 96 < 2 ^ 31 by decide), az_wrN h8 (show 8 < 2 ^ 31 by decide), az_wrN h40 (show 40 < 2 ^ 31 by decide)]
  by_cases h : p + 1 = S
  · rw [if_neg (by rw [e]; exact fun q => q h), if_pos h]
  · rw [if_pos (by rw [e]; exact h), if_neg h]
end REFN
/-! REFERENCE: what is live; the bag -/
section REFO
variable {M W : az_Mem}
theorem cg_liveN (hI : IW W) {z s : Nat} (h8 : z < 8) (h12 : s < 12) : ∃ l c, l < 40 ∧ c < 96 ∧ W 14 (12 * z + s) = nI l ∧ W 21 l = nI c ∧ (cg_liveB W (nI z) (nI s) = true ↔ W 19 l = 1 ∧ c = 12 * z + s) := by
  obtain ⟨l, hl, el⟩ := hI.load (12 * z + s) (by omega)
  obtain ⟨c, hc, ec⟩ := hI.cell l hl
  refine ⟨l, c, hl, hc, el, ec, ?_⟩
  unfold cg_liveB
  rw [nI_cell, az_rdN (by omega) (by decide), el, az_rdN hl (by decide), az_rdN hl (by decide), ec, Bool.and_eq_true, decide_eq_true_eq, decide_eq_true_eq, nI_eq (by omega) (by omega)]
theorem az_cnt_min (P : Nat → Bool) {p : Nat} : ∀ n, p ≤ n → az_cnt (fun s => decide (s < p) && P s) n = az_cnt P p := by
  have h0 : ∀ n, n ≤ p → az_cnt (fun s => decide (s < p) && P s) n = az_cnt P n := by
    intro n
    induction n with
    | zero => intro _; rfl
    | succ n ih =>
      intro hn
      show az_cnt _ n + (if (decide (n < p) && P n) = true then 1 else 0) = az_cnt P n + _
      rw [ih (by omega), decide_eq_true (by omega : n < p), Bool.true_and]
  intro n
  induction n with
  | zero =>
    intro hn
    have e : p = 0 := (by omega)
    subst e
    rfl
  | succ n ih =>
    intro hn
    by_cases h : p = n + 1
    · rw [h0 (n + 1) (by omega), h]
    · show az_cnt _ n + (if (decide (n < p) && P n) = true then 1 else 0) = _
      rw [ih (by omega), decide_eq_false (by omega : ¬ n < p), Bool.false_and]
      rfl
end REFO
/-! a load goes out of the bag: class and reference -/
section UNB
variable {M W : az_Mem}
def cg_ub (W : az_Mem) (q B : Nat) : az_Mem := fun c j => if c = 26 ∧ q ≤ j ∧ j + 1 < B then W 26 (j + 1) else if c = 24 ∧ j = 4 then nI (B - 1) else W c j
theorem az_unp_sh (l : Int32) : ∀ (m k : Nat) (V : az_Mem), (∀ i, k < i → i ≤ k + m → V 26 i ≠ l) → az_unp l m (k + 1) k V = (fun c j => if c = 26 ∧ k ≤ j ∧ j < k + m then V 26 (j + 1) else V c j, k + m) := by
  intro m
  induction m with
  | zero =>
    intro k V _
    show (V, k) = _
    congr 1
    funext c j
    rw [if_neg (by omega)]
  | succ m ih =>
    intro k V h
    show (if V 26 (k + 1) = l then _ else az_unp l m (k + 1 + 1) (k + 1) (az_up V 26 k (V 26 (k + 1)))) = _
    rw [if_neg (h (k + 1) (by omega) (by omega)), ih (k + 1) _ ?_]
    · congr 1
      · funext c j
        simp only [az_up]
        by_cases h1 : c = 26
        · subst h1
          by_cases h2 : j = k
          · subst h2
            rw [if_neg (by omega), if_pos ⟨rfl, rfl⟩, if_pos (by omega)]
          · by_cases h3 : k ≤ j ∧ j < k + (m + 1)
            · rw [if_pos (by omega), if_neg (by omega), if_pos (by omega)]
            · rw [if_neg (by omega), if_neg (by omega), if_neg (by omega)]
        · rw [if_neg (by omega), if_neg (by omega), if_neg (by omega)]
      · omega
    · intro i h1 h2
      rw [az_up_self, if_neg (by omega)]
      exact h i (by omega) (by omega)
theorem az_up_id {M : az_Mem} {a k : Nat} {x : Int32} (h : M a k = x) : az_up M a k x = M := by
  funext c j
  simp only [az_up]
  split
  · next e => rw [e.1, e.2, h]
  · rfl
theorem az_unp_pre (l : Int32) (V : az_Mem) : ∀ (n m i : Nat), (∀ j, i ≤ j → j < i + n → V 26 j ≠ l) → az_unp l (n + m) i i V = az_unp l m (i + n) (i + n) V := by
  intro n
  induction n with
  | zero => intro m i _; rw [Nat.zero_add, Nat.add_zero]
  | succ n ih =>
    intro m i h
    rw [show n + 1 + m = (n + m) + 1 by omega]
    show (if V 26 i = l then _ else az_unp l (n + m) (i + 1) (i + 1) (az_up V 26 i (V 26 i))) = _
    rw [if_neg (h i (by omega) (by omega)), az_up_id rfl, ih m (i + 1) (fun j h1 h2 => h j (by omega) (by omega)), show i + 1 + n = i + (n + 1) by omega]
theorem cg_unpN {l : Int32} {q B : Nat} (hB : W 24 4 = nI B) (hq : q < B) (h6 : B ≤ 6) (e : W 26 q = l) (hu : ∀ i, i < B → W 26 i = l → i = q) : cg_unp W l = cg_ub W q B := by
  have h : az_unp l B 0 0 W = (fun c j => if c = 26 ∧ q ≤ j ∧ j < q + (B - q - 1) then W 26 (j + 1) else W c j, q + (B - q - 1)) := by
    rw [show B = q + (B - q - 1 + 1) by omega, az_unp_pre l W q _ 0 (fun j h1 h2 h3 => by have := hu j (by omega) h3; omega), Nat.zero_add]
    show (if W 26 q = l then az_unp l (B - q - 1) (q + 1) q W else _) = _
    rw [if_pos e, az_unp_sh l (B - q - 1) q W (fun i h1 h2 h3 => by have := hu i (by omega) h3; omega), show q + (B - q - 1 + 1) - q - 1 = B - q - 1 by omega]
  unfold cg_unp
  rw [hB, nI_clamp (by omega), h]
  funext c j
  simp only [az_up, cg_ub]
  by_cases h1 : c = 24 ∧ j = 4
  · rw [if_pos h1, if_neg (by omega), if_pos h1, show q + (B - q - 1) = B - 1 by omega]
  · rw [if_neg h1, if_neg h1]
    by_cases h2 : c = 26 ∧ q ≤ j ∧ j + 1 < B
    · rw [if_pos h2, if_pos (by omega)]
    · rw [if_neg h2, if_neg (by omega)]
theorem cg_unpA {l : Int32} {B : Nat} (hB : W 24 4 = nI B) (h6 : B ≤ 6) (hu : ∀ i, i < B → W 26 i ≠ l) : cg_unp W l = W := by
  have h : az_unp l B 0 0 W = (W, B) := by
    have k := az_unp_pre l W B 0 0 (fun j _ h2 => hu j (by omega))
    rw [Nat.add_zero, Nat.zero_add] at k
    exact k
  unfold cg_unp
  rw [hB, nI_clamp (by omega), h]
  exact az_up_id hB
theorem az_findN {f : Nat → Int32} {l : Int32} {q B : Nat} (hq : q < B) (e : f q = l) (hu : ∀ i, i < B → f i = l → i = q) : az_find f l B 0 = nI q := by
  have K : ∀ n m i, i + n = q → q < i + (n + m) → (n + m + i = B) → az_find f l (n + m) i = nI q := by
    intro n
    induction n with
    | zero =>
      intro m i h1 h2 _
      obtain ⟨m, rfl⟩ : ∃ m', m = m' + 1 := ⟨m - 1, by omega⟩
      obtain rfl : i = q := (by omega)
      rw [Nat.zero_add]
      show (if f i = l then nI i else _) = _
      rw [if_pos e]
    | succ n ih =>
      intro m i h1 h2 h3
      rw [show n + 1 + m = (n + m) + 1 by omega]
      show (if f i = l then nI i else az_find f l (n + m) (i + 1)) = _
      rw [if_neg (fun c => by have := hu i (by omega) c; omega)]
      exact ih m (i + 1) (by omega) (by omega) (by omega)
  have k := K q (B - q) 0 (by omega) (by omega) (by omega)
  rw [show q + (B - q) = B by omega] at k
  exact k
end UNB
