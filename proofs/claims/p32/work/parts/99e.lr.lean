/-! THE LAW'S ROWS: where a number of the class's world stands in them (192 g, 193 z, 194 s, 195 l) -/
def pc (a : Nat) : Nat := match a with
  | 2 => 192 | 24 => 192 | 17 => 192 | 26 => 192 | 4 => 193 | 8 => 193 | 6 => 193 | 10 => 193 | 12 => 193 | 14 => 194 | 16 => 194 | 19 => 195 | 23 => 195 | _ => 0
def pj (a k : Nat) : Nat := match a with
  | 2 => (match k with | 0 => 0 | 1 => 1 | 2 => 7 | _ => 10)
  | 24 => (match k with | 0 => 2 | 1 => 3 | 2 => 4 | 3 => 5 | 4 => 12 | 5 => 8 | 6 => 9 | _ => 11)
  | 17 => 6
  | 26 => 13 + k
  | 4 => 5 * k | 8 => 5 * k + 1 | 6 => 5 * k + 2 | 10 => 5 * k + 3 | 12 => 5 * k + 4
  | 14 => 12 * (k / 12) + 2 * (k % 12) | 16 => 12 * (k / 12) + 2 * (k % 12) + 1
  | 19 => 4 * k | 23 => 4 * k + 3
  | _ => 0
def dm (a k : Nat) : Prop := (a = 2 ∧ k < 4) ∨ (a = 24 ∧ k < 8) ∨ (a = 17 ∧ k = 0) ∨ (a = 26 ∧ k < 6) ∨ ((a = 4 ∨ a = 8 ∨ a = 6 ∨ a = 10 ∨ a = 12) ∧ k < 4) ∨ ((a = 14 ∨ a = 16) ∧ k < 48 ∧ k % 12 < 6) ∨ ((a = 19 ∨ a = 23) ∧ k < 12)
/-- the way back -/
def pv (c j : Nat) : Nat × Nat := match c with
  | 192 => (match j with | 0 => (2, 0) | 1 => (2, 1) | 2 => (24, 0) | 3 => (24, 1) | 4 => (24, 2) | 5 => (24, 3) | 6 => (17, 0) | 7 => (2, 2) | 8 => (24, 5) | 9 => (24, 6) | 10 => (2, 3) | 11 => (24, 7) | 12 => (24, 4) | n + 13 => (26, n))
  | 193 => ((if j % 5 = 0 then 4 else if j % 5 = 1 then 8 else if j % 5 = 2 then 6 else if j % 5 = 3 then 10 else 12), j / 5)
  | 194 => ((if j % 2 = 0 then 14 else 16), 12 * (j / 12) + j % 12 / 2)
  | _ => ((if j % 4 = 0 then 19 else 23), j / 4)
theorem pv_ok {a k : Nat} (h : dm a k) : pv (pc a) (pj a k) = (a, k) := by
  rcases h with ⟨rfl, h⟩ | ⟨rfl, h⟩ | ⟨rfl, rfl⟩ | ⟨rfl, h⟩ | ⟨h1, h⟩ | ⟨h1, h, h2⟩ | ⟨h1, h⟩
  · rcases (show k = 0 ∨ k = 1 ∨ k = 2 ∨ k = 3 by omega) with rfl | rfl | rfl | rfl <;> rfl
  · rcases (show k = 0 ∨ k = 1 ∨ k = 2 ∨ k = 3 ∨ k = 4 ∨ k = 5 ∨ k = 6 ∨ k = 7 by omega) with rfl | rfl | rfl | rfl | rfl | rfl | rfl | rfl <;> rfl
  · rfl
  · rcases (show k = 0 ∨ k = 1 ∨ k = 2 ∨ k = 3 ∨ k = 4 ∨ k = 5 by omega) with rfl | rfl | rfl | rfl | rfl | rfl <;> rfl
  · rcases (show k = 0 ∨ k = 1 ∨ k = 2 ∨ k = 3 by omega) with rfl | rfl | rfl | rfl <;> rcases h1 with rfl | rfl | rfl | rfl | rfl <;> rfl
  · rcases h1 with rfl | rfl
    · show ((if (12 * (k / 12) + 2 * (k % 12)) % 2 = 0 then 14 else 16), 12 * ((12 * (k / 12) + 2 * (k % 12)) / 12) + (12 * (k / 12) + 2 * (k % 12)) % 12 / 2) = (14, k)
      rw [if_pos (by omega)]
      congr 1
      omega
    · show ((if (12 * (k / 12) + 2 * (k % 12) + 1) % 2 = 0 then 14 else 16), 12 * ((12 * (k / 12) + 2 * (k % 12) + 1) / 12) + (12 * (k / 12) + 2 * (k % 12) + 1) % 12 / 2) = (16, k)
      rw [if_neg (by omega)]
      congr 1
      omega
  · rcases h1 with rfl | rfl
    · show ((if (4 * k) % 4 = 0 then 19 else 23), 4 * k / 4) = (19, k)
      rw [if_pos (by omega)]
      congr 1
      omega
    · show ((if (4 * k + 3) % 4 = 0 then 19 else 23), (4 * k + 3) / 4) = (23, k)
      rw [if_neg (by omega)]
      congr 1
      omega
theorem pv_in {a k b m : Nat} (h : dm a k) (h' : dm b m) (e1 : pc a = pc b) (e2 : pj a k = pj b m) : a = b ∧ k = m := by
  have q := pv_ok h
  rw [e1, e2, pv_ok h'] at q
  simp only [Prod.mk.injEq] at q
  exact ⟨q.1.symm, q.2.symm⟩
theorem dm_195 {a k l : Nat} (h : dm a k) (e : pc a = 195) : pj a k ≠ 4 * l + 1 ∧ pj a k ≠ 4 * l + 2 := by
  rcases h with ⟨rfl, h⟩ | ⟨rfl, h⟩ | ⟨rfl, rfl⟩ | ⟨rfl, h⟩ | ⟨h1, h⟩ | ⟨h1, h, h2⟩ | ⟨h1, h⟩
  · exact absurd e (by decide)
  · exact absurd e (by decide)
  · exact absurd e (by decide)
  · exact absurd e (by decide)
  · rcases h1 with rfl | rfl | rfl | rfl | rfl <;> exact absurd e (by decide)
  · rcases h1 with rfl | rfl <;> exact absurd e (by decide)
  · rcases h1 with rfl | rfl
    · show 4 * k ≠ _ ∧ 4 * k ≠ _
      omega
    · show 4 * k + 3 ≠ _ ∧ 4 * k + 3 ≠ _
      omega
theorem dm_21 {a k : Nat} (h : dm a k) : a ≠ 21 ∧ 2 ≤ a ∧ a ≤ 26 := by
  unfold dm at h
  omega
/-- the law's rows say what the world says -/
def LR (W M : az_Mem) : Prop := (∀ a k, dm a k → M (pc a) (pj a k) = W a k) ∧ ∀ l, l < 12 → M 195 (4 * l + 1) = W 21 l / 12 ∧ M 195 (4 * l + 2) = W 21 l - W 21 l / 12 * 12
section LRS
variable {W W' M M' : az_Mem}
theorem LR.u (h : LR W M) {a k : Nat} (hd : dm a k) (x : Int32) : LR (az_up W a k x) (az_up M (pc a) (pj a k) x) := by
  refine ⟨fun b m hb => ?_, fun l hl => ?_⟩
  · unfold az_up
    by_cases e : b = a ∧ m = k
    · rw [if_pos e, if_pos ⟨by rw [e.1], by rw [e.1, e.2]⟩]
    · rw [if_neg e, if_neg (fun q => e (pv_in hb hd q.1 q.2))]
      exact h.1 b m hb
  · have e1 : az_up W a k x 21 l = W 21 l := by
      rw [az_up_row (fun q => (dm_21 hd).1 q.symm)]
    have e2 : ∀ j, (j = 4 * l + 1 ∨ j = 4 * l + 2) → az_up M (pc a) (pj a k) x 195 j = M 195 j := by
      intro j hj
      unfold az_up
      rw [if_neg]
      rintro ⟨q1, q2⟩
      have := dm_195 (l := l) hd q1.symm
      omega
    rw [e1, e2 _ (Or.inl rfl), e2 _ (Or.inr rfl)]
    exact h.2 l hl
theorem LR.cell (h : LR W M) {q : Nat} (hq : q < 12) {x y z : Int32} (hy : y = x / 12) (hz : z = x - x / 12 * 12) : LR (az_up W 21 q x) (az_up (az_up M 195 (4 * q + 1) y) 195 (4 * q + 2) z) := by
  refine ⟨fun b m hb => ?_, fun l hl => ?_⟩
  · have e1 : az_up W 21 q x b m = W b m := by
      rw [az_up_row (fun e => (dm_21 hb).1 e)]
    rw [e1, ← h.1 b m hb]
    unfold az_up
    rw [if_neg, if_neg]
    · rintro ⟨q1, q2⟩
      exact (dm_195 (l := q) hb q1).1 q2
    · rintro ⟨q1, q2⟩
      exact (dm_195 (l := q) hb q1).2 q2
  · have := h.2 l hl
    by_cases e : l = q
    · subst e
      refine ⟨?_, ?_⟩
      · simp [az_up, hy]
      · simp [az_up, hz]
    · have c1 : az_up W 21 q x 21 l = W 21 l := by
        unfold az_up
        rw [if_neg (fun z => e z.2)]
      rw [c1]
      unfold az_up
      rw [if_neg (by omega), if_neg (by omega), if_neg (by omega), if_neg (by omega)]
      exact this
theorem dm_rw {a k : Nat} (h : dm a k) : k < rw_len a := by
  rcases h with ⟨rfl, h⟩ | ⟨rfl, h⟩ | ⟨rfl, rfl⟩ | ⟨rfl, h⟩ | ⟨h1, h⟩ | ⟨h1, h, h2⟩ | ⟨h1, h⟩
  · exact h
  · exact h
  · decide
  · exact h
  · rcases h1 with rfl | rfl | rfl | rfl | rfl <;> (show k < 8; omega)
  · rcases h1 with rfl | rfl <;> (show k < 96; omega)
  · rcases h1 with rfl | rfl <;> (show k < 40; omega)
theorem LR.cg (h : LR W M) (e : sW W W') : LR W' M := by
  refine ⟨fun a k hd => ?_, fun l hl => ?_⟩
  · rw [h.1 a k hd]
    exact e a k (dm_rw hd)
  · rw [← e 21 l (show l < 40 by omega)]
    exact h.2 l hl
theorem dm_pc {a k : Nat} (h : dm a k) : 192 ≤ pc a ∧ pc a ≤ 195 := by
  rcases h with ⟨rfl, h⟩ | ⟨rfl, h⟩ | ⟨rfl, rfl⟩ | ⟨rfl, h⟩ | ⟨h1, h⟩ | ⟨h1, h, h2⟩ | ⟨h1, h⟩
  · decide
  · decide
  · decide
  · decide
  · rcases h1 with rfl | rfl | rfl | rfl | rfl <;> decide
  · rcases h1 with rfl | rfl <;> decide
  · rcases h1 with rfl | rfl <;> decide
theorem LR.cr (h : LR W M) (e : ∀ c, 192 ≤ c → M' c = M c) : LR W M' := by
  refine ⟨fun a k hd => ?_, fun l hl => ?_⟩
  · rw [e _ (dm_pc hd).1]
    exact h.1 a k hd
  · rw [e 195 (by decide)]
    exact h.2 l hl
theorem LR.zones (h : LR W M) : M 192 0 = W 2 0 := h.1 2 0 (by unfold dm; omega)
theorem LR.m_zones (h : LR W M) (x : Int32) : LR (az_up W 2 0 x) (az_up M 192 0 x) := h.u (a := 2) (k := 0) (by unfold dm; omega) x
theorem LR.slots (h : LR W M) : M 192 1 = W 2 1 := h.1 2 1 (by unfold dm; omega)
theorem LR.m_slots (h : LR W M) (x : Int32) : LR (az_up W 2 1 x) (az_up M 192 1 x) := h.u (a := 2) (k := 1) (by unfold dm; omega) x
theorem LR.at_ (h : LR W M) : M 192 2 = W 24 0 := h.1 24 0 (by unfold dm; omega)
theorem LR.m_at_ (h : LR W M) (x : Int32) : LR (az_up W 24 0 x) (az_up M 192 2 x) := h.u (a := 24) (k := 0) (by unfold dm; omega) x
theorem LR.water (h : LR W M) : M 192 3 = W 24 1 := h.1 24 1 (by unfold dm; omega)
theorem LR.m_water (h : LR W M) (x : Int32) : LR (az_up W 24 1 x) (az_up M 192 3 x) := h.u (a := 24) (k := 1) (by unfold dm; omega) x
theorem LR.skin (h : LR W M) : M 192 4 = W 24 2 := h.1 24 2 (by unfold dm; omega)
theorem LR.m_skin (h : LR W M) (x : Int32) : LR (az_up W 24 2 x) (az_up M 192 4 x) := h.u (a := 24) (k := 2) (by unfold dm; omega) x
theorem LR.room (h : LR W M) : M 192 5 = W 24 3 := h.1 24 3 (by unfold dm; omega)
theorem LR.m_room (h : LR W M) (x : Int32) : LR (az_up W 24 3 x) (az_up M 192 5 x) := h.u (a := 24) (k := 3) (by unfold dm; omega) x
theorem LR.bound (h : LR W M) : M 192 6 = W 17 0 := h.1 17 0 (by unfold dm; omega)
theorem LR.m_bound (h : LR W M) (x : Int32) : LR (az_up W 17 0 x) (az_up M 192 6 x) := h.u (a := 17) (k := 0) (by unfold dm; omega) x
theorem LR.mark (h : LR W M) : M 192 7 = W 2 2 := h.1 2 2 (by unfold dm; omega)
theorem LR.m_mark (h : LR W M) (x : Int32) : LR (az_up W 2 2 x) (az_up M 192 7 x) := h.u (a := 2) (k := 2) (by unfold dm; omega) x
theorem LR.steps (h : LR W M) : M 192 8 = W 24 5 := h.1 24 5 (by unfold dm; omega)
theorem LR.m_steps (h : LR W M) (x : Int32) : LR (az_up W 24 5 x) (az_up M 192 8 x) := h.u (a := 24) (k := 5) (by unfold dm; omega) x
theorem LR.used (h : LR W M) : M 192 9 = W 24 6 := h.1 24 6 (by unfold dm; omega)
theorem LR.m_used (h : LR W M) (x : Int32) : LR (az_up W 24 6 x) (az_up M 192 9 x) := h.u (a := 24) (k := 6) (by unfold dm; omega) x
theorem LR.resets (h : LR W M) : M 192 10 = W 2 3 := h.1 2 3 (by unfold dm; omega)
theorem LR.m_resets (h : LR W M) (x : Int32) : LR (az_up W 2 3 x) (az_up M 192 10 x) := h.u (a := 2) (k := 3) (by unfold dm; omega) x
theorem LR.moved (h : LR W M) : M 192 11 = W 24 7 := h.1 24 7 (by unfold dm; omega)
theorem LR.m_moved (h : LR W M) (x : Int32) : LR (az_up W 24 7 x) (az_up M 192 11 x) := h.u (a := 24) (k := 7) (by unfold dm; omega) x
theorem LR.many (h : LR W M) : M 192 12 = W 24 4 := h.1 24 4 (by unfold dm; omega)
theorem LR.m_many (h : LR W M) (x : Int32) : LR (az_up W 24 4 x) (az_up M 192 12 x) := h.u (a := 24) (k := 4) (by unfold dm; omega) x
theorem LR.bag (h : LR W M) {i : Nat} (hi : i < 6) : M 192 (13 + i) = W 26 i := h.1 26 i (by unfold dm; omega)
theorem LR.m_bag (h : LR W M) {i : Nat} (hi : i < 6) (x : Int32) : LR (az_up W 26 i x) (az_up M 192 (13 + i) x) := h.u (a := 26) (k := i) (by unfold dm; omega) x
theorem LR.zp (h : LR W M) {i : Nat} (hi : i < 4) : M 193 (5 * i) = W 4 i := h.1 4 i (by unfold dm; omega)
theorem LR.m_zp (h : LR W M) {i : Nat} (hi : i < 4) (x : Int32) : LR (az_up W 4 i x) (az_up M 193 (5 * i) x) := h.u (a := 4) (k := i) (by unfold dm; omega) x
theorem LR.zs (h : LR W M) {i : Nat} (hi : i < 4) : M 193 (5 * i + 1) = W 8 i := h.1 8 i (by unfold dm; omega)
theorem LR.m_zs (h : LR W M) {i : Nat} (hi : i < 4) (x : Int32) : LR (az_up W 8 i x) (az_up M 193 (5 * i + 1) x) := h.u (a := 8) (k := i) (by unfold dm; omega) x
theorem LR.zk (h : LR W M) {i : Nat} (hi : i < 4) : M 193 (5 * i + 2) = W 6 i := h.1 6 i (by unfold dm; omega)
theorem LR.m_zk (h : LR W M) {i : Nat} (hi : i < 4) (x : Int32) : LR (az_up W 6 i x) (az_up M 193 (5 * i + 2) x) := h.u (a := 6) (k := i) (by unfold dm; omega) x
theorem LR.zw (h : LR W M) {i : Nat} (hi : i < 4) : M 193 (5 * i + 3) = W 10 i := h.1 10 i (by unfold dm; omega)
theorem LR.m_zw (h : LR W M) {i : Nat} (hi : i < 4) (x : Int32) : LR (az_up W 10 i x) (az_up M 193 (5 * i + 3) x) := h.u (a := 10) (k := i) (by unfold dm; omega) x
theorem LR.zr (h : LR W M) {i : Nat} (hi : i < 4) : M 193 (5 * i + 4) = W 12 i := h.1 12 i (by unfold dm; omega)
theorem LR.m_zr (h : LR W M) {i : Nat} (hi : i < 4) (x : Int32) : LR (az_up W 12 i x) (az_up M 193 (5 * i + 4) x) := h.u (a := 12) (k := i) (by unfold dm; omega) x
theorem LR.lw (h : LR W M) {i : Nat} (hi : i < 12) : M 195 (4 * i) = W 19 i := h.1 19 i (by unfold dm; omega)
theorem LR.m_lw (h : LR W M) {i : Nat} (hi : i < 12) (x : Int32) : LR (az_up W 19 i x) (az_up M 195 (4 * i) x) := h.u (a := 19) (k := i) (by unfold dm; omega) x
theorem LR.lh (h : LR W M) {i : Nat} (hi : i < 12) : M 195 (4 * i + 3) = W 23 i := h.1 23 i (by unfold dm; omega)
theorem LR.m_lh (h : LR W M) {i : Nat} (hi : i < 12) (x : Int32) : LR (az_up W 23 i x) (az_up M 195 (4 * i + 3) x) := h.u (a := 23) (k := i) (by unfold dm; omega) x
theorem LR.cl (h : LR W M) {z s : Nat} (hz : z < 4) (hs : s < 6) : M 194 (12 * z + 2 * s) = W 14 (12 * z + s) := by
  have q := h.1 14 (12 * z + s) (by unfold dm; omega)
  have e : pj 14 (12 * z + s) = 12 * z + 2 * s := by
    show 12 * ((12 * z + s) / 12) + 2 * ((12 * z + s) % 12) = _
    omega
  rw [e] at q
  exact q
theorem LR.m_cl (h : LR W M) {z s : Nat} (hz : z < 4) (hs : s < 6) (x : Int32) : LR (az_up W 14 (12 * z + s) x) (az_up M 194 (12 * z + 2 * s) x) := by
  have q := h.u (a := 14) (k := 12 * z + s) (by unfold dm; omega) x
  have e : pj 14 (12 * z + s) = 12 * z + 2 * s := by
    show 12 * ((12 * z + s) / 12) + 2 * ((12 * z + s) % 12) = _
    omega
  rw [e] at q
  exact q
theorem LR.cm (h : LR W M) {z s : Nat} (hz : z < 4) (hs : s < 6) : M 194 (12 * z + 2 * s + 1) = W 16 (12 * z + s) := by
  have q := h.1 16 (12 * z + s) (by unfold dm; omega)
  have e : pj 16 (12 * z + s) = 12 * z + 2 * s + 1 := by
    show 12 * ((12 * z + s) / 12) + 2 * ((12 * z + s) % 12) + 1 = _
    omega
  rw [e] at q
  exact q
theorem LR.m_cm (h : LR W M) {z s : Nat} (hz : z < 4) (hs : s < 6) (x : Int32) : LR (az_up W 16 (12 * z + s) x) (az_up M 194 (12 * z + 2 * s + 1) x) := by
  have q := h.u (a := 16) (k := 12 * z + s) (by unfold dm; omega) x
  have e : pj 16 (12 * z + s) = 12 * z + 2 * s + 1 := by
    show 12 * ((12 * z + s) / 12) + 2 * ((12 * z + s) % 12) + 1 = _
    omega
  rw [e] at q
  exact q
theorem LR.li (h : LR W M) {i : Nat} (hi : i < 12) : M 195 (4 * i + 1) = W 21 i / 12 := (h.2 i hi).1
theorem LR.lp (h : LR W M) {i : Nat} (hi : i < 12) : M 195 (4 * i + 2) = W 21 i - W 21 i / 12 * 12 := (h.2 i hi).2
end LRS
