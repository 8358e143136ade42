/-! CLASS AND REFERENCE TOGETHER -/
def sh (M : az_Mem) (b : Nat) : az_Mem := fun c k => M (b - 1 + c) k
theorem IW.cg {W W' : az_Mem} (h : IW W) (e : sW W W') : IW W' := by
  refine IW.mk ?_ ?_ (fun z hz => ?_) (fun z hz => ?_) (fun z hz => ?_) (fun z hz => ?_) (fun z hz => ?_) ?_ ?_
  · rw [← e 2 0 (by decide), ← e 24 0 (by decide)]
    exact h.zn
  · obtain ⟨S, h1, h2, h3, h4⟩ := h.sl
    refine ⟨S, by rw [← e 2 1 (by decide)]; exact h1, h2, h3, fun z hz => ?_⟩
    rw [← e 4 z hz, ← e 8 z hz]
    exact h4 z hz
  · rw [← e 8 z hz]
    exact h.sld z hz
  · rw [← e 10 z hz]
    exact h.well z hz
  · rw [← e 14 z hz]
    exact h.load z hz
  · rw [← e 21 z hz]
    exact h.cell z hz
  · rw [← e 23 z hz]
    exact h.heat z hz
  · rw [← e 24 1 (by decide), ← e 24 2 (by decide)]
    exact h.water
  · obtain ⟨B, R, e1, e2, e3, e4, e5, e6, e7⟩ := h.bag
    refine ⟨B, R, by rw [← e 24 4 (by decide)]; exact e1, by rw [← e 24 3 (by decide)]; exact e2, e3, e4, fun i hi => ?_, fun i j hi hj => ?_, fun l hl => ?_⟩
    · obtain ⟨l, f1, f2, f3⟩ := e5 i hi
      exact ⟨l, f1, by rw [← e 26 i (show i < 6 by omega)]; exact f2, by rw [← e 19 l f1]; exact f3⟩
    · rw [← e 26 i (show i < 6 by omega), ← e 26 j (show j < 6 by omega)]
      exact e6 i j hi hj
    · rw [← e 19 l hl]
      intro q
      obtain ⟨i, f1, f2⟩ := e7 l hl q
      exact ⟨i, f1, by rw [← e 26 i (show i < 6 by omega)]; exact f2⟩
theorem rw_len2 {c k : Nat} (h : k < rw_len c) : 2 ≤ c ∧ c ≤ 26 ∧ k < az_wl (c - 1) := by
  unfold rw_len at h
  split at h <;> first | exact ⟨by decide, by decide, h⟩ | exact absurd h (by omega)
theorem sW.cp {M : az_Mem} {a b : Nat} (ha : 1 ≤ a) (hb : 1 ≤ b) (hab : a + 26 ≤ b ∨ b + 26 ≤ a) : sW (sh M b) (sh (cg_cpW M a b) a) := by
  intro c k h
  obtain ⟨h1, h2, h3⟩ := rw_len2 h
  have := cg_cpW_in (M := M) hab (c - 1) k h3
  show M (b - 1 + c) k = cg_cpW M a b (a - 1 + c) k
  rw [show a - 1 + c = a + (c - 1) by omega, this, show b - 1 + c = b + (c - 1) by omega]
theorem sW.row {W W' : az_Mem} (h : ∀ c, 2 ≤ c → c ≤ 26 → W c = W' c) : sW W W' := by
  intro c k q
  obtain ⟨h1, h2, h3⟩ := rw_len2 q
  rw [h c h1 h2]
theorem sW.tr {W W' W'' : az_Mem} (h : sW W W') (h' : sW W' W'') : sW W W'' := fun c k q => (h c k q).trans (h' c k q)
theorem sW.sy {W W' : az_Mem} (h : sW W W') : sW W' W := fun c k q => (h c k q).symm
theorem sh1 (M : az_Mem) : sh M 1 = M := by
  funext c k
  show M (1 - 1 + c) k = M c k
  rw [show 1 - 1 + c = c by omega]
theorem sh_row {M M' : az_Mem} {b : Nat} (hb : 1 ≤ b) (h : ∀ c, b + 1 ≤ c → c ≤ b + 25 → M c = M' c) : sW (sh M b) (sh M' b) :=
  sW.row (fun c h1 h2 => by funext k; show M (b - 1 + c) k = M' (b - 1 + c) k; rw [h _ (by omega) (by omega)])
theorem az_hwN {L : Nat} (h : L < 4) : az_hw L = 81 + 26 * L := by
  rcases (show L = 0 ∨ L = 1 ∨ L = 2 ∨ L = 3 by omega) with rfl | rfl | rfl | rfl <;> rfl
/-- an act of the class, from the memory with the copy before, changes the world only -/
def fW (W N : az_Mem) : Prop := ∀ c, (c < 1 ∨ 27 ≤ c) → N c = W c
/-! REFERENCE: lay, setKind, dusk -/
section REFQ
variable {M M1 N W : az_Mem} {a : Int32} {n : Nat}
theorem cg_layV (z q : Int32) (c j : Nat) : cg_lay W z q c j = if c = 24 ∧ j = 0 then 0 else if c = 12 ∧ j < 8 then 0 else if c = 10 ∧ j = 0 then 1 else if c = 10 ∧ j < 8 then 0 else if c = 8 ∧ j < 8 then 0 else if c = 6 ∧ j < 8 then 0 else if c = 4 ∧ j < 8 then 0 else if c = 2 ∧ j = 1 then q else if c = 2 ∧ j = 0 then z else W c j := by
  unfold cg_lay cg_build
  rw [show (0 : Int32) = nI 0 from rfl, az_wrN (by decide) (by decide)]
  rfl
theorem iw_lay (hI : IW W) {z q : Nat} (h2 : 2 ≤ z) (h8 : z ≤ 8) (g2 : 2 ≤ q) (g12 : q ≤ 12) : IW (cg_lay W (nI z) (nI q)) := by
  refine IW.mk ?_ ?_ (fun z hz => ?_) (fun z hz => ?_) (fun z hz => ?_) (fun z hz => ?_) (fun z hz => ?_) ?_ ?_
  all_goals simp only [cg_layV]
  · exact ⟨z, 0, rfl, rfl, h2, h8, by omega⟩
  · refine ⟨q, rfl, g2, g12, fun k hk => ⟨0, ?_, by omega, fun _ => by omega⟩⟩
    simp [hk]
    rfl
  · exact Or.inl (by simp [hz])
  · by_cases h : z = 0
    · exact Or.inr (by simp [h])
    · exact Or.inl (by simp [h, hz])
  · simp
    exact hI.load z hz
  · simp
    exact hI.cell z hz
  · simp
    exact hI.heat z hz
  · exact hI.water
  · obtain ⟨B, R, e1, e2, e3, e4, e5, e6, e7⟩ := hI.bag
    refine ⟨B, R, e1, e2, e3, e4, ?_, ?_, ?_⟩
    · simp
      exact e5
    · simp
      exact e6
    · simp
      exact e7
theorem iw_kind (hI : IW W) (z k : Int32) : IW (cg_kind W z k).2 := by
  obtain ⟨Z, a, hZ, ha, h2, h8, haZ⟩ := hI.zn
  unfold cg_kind
  split
  · exact hI
  split
  · exact hI
  split
  · exact hI
  · unfold az_wr
    split
    · exact hI.u_6 _ _
    · exact hI
theorem az_cnt_split (P Q : Nat → Bool) (h : ∀ l, Q l = true → P l = true) : ∀ n, (∀ l, l < n → True) → az_cnt P n = az_cnt Q n + az_cnt (fun l => P l && !Q l) n := by
  intro n
  induction n with
  | zero => intro _; rfl
  | succ n ih =>
    intro _
    show az_cnt P n + _ = (az_cnt Q n + _) + (az_cnt (fun l => P l && !Q l) n + _)
    rw [ih (fun _ _ => trivial)]
    have := h n
    cases hp : P n <;> cases hq : Q n <;> simp [hp, hq] at this ⊢ <;> omega
end REFQ
/-! REFERENCE: setWell, set, dusk -/
section REFR
variable {M M1 N W : az_Mem} {a : Int32} {n : Nat}
def cg_swl (W : az_Mem) (z w : Int32) (Z : Nat) : Int32 × az_Mem := if ¬ cg_zone W z then (-1, W) else if (if az_rd (W 10) 8 z = 0 then (0 : Int32) else 1) = w then (-5, W) else (nI (cg_nz (cg_well1 W z w) 10 Z), cg_well1 W z w)
theorem ec_swl (d : Nat) (z w : Int32) (hw : w = 0 ∨ w = 1) {Z : Nat} (hZ : W 2 0 = nI Z) (hZ8 : Z ≤ 8) : az_EX (d + 5) m_X7_changeWell [.ref 1, .int z, .int w] (az_hp W) (some (.int (cg_swl W z w Z).1)) (az_hp (cg_swl W z w Z).2) := by
  have h := ec_changeWell (M := W) d z w hw hZ hZ8
  have e1 : (cg_swl W z w Z).1 = (if ¬ cg_zone W z then -1 else if (if az_rd (W 10) 8 z = 0 then (0 : Int32) else 1) = w then -5 else nI (cg_nz (cg_well1 W z w) 10 Z)) := by
    unfold cg_swl
    by_cases c1 : cg_zone W z
    · have n1 : ¬ ¬ cg_zone W z := fun c => c c1
      rw [if_neg n1, if_neg n1]
      by_cases c2 : (if az_rd (W 10) 8 z = 0 then (0 : Int32) else 1) = w
      · rw [if_pos c2, if_pos c2]
      · rw [if_neg c2, if_neg c2]
    · rw [if_pos c1, if_pos c1]
  have e2 : (cg_swl W z w Z).2 = (if ¬ cg_zone W z then W else if (if az_rd (W 10) 8 z = 0 then (0 : Int32) else 1) = w then W else cg_well1 W z w) := by
    unfold cg_swl
    by_cases c1 : cg_zone W z
    · have n1 : ¬ ¬ cg_zone W z := fun c => c c1
      rw [if_neg n1, if_neg n1]
      by_cases c2 : (if az_rd (W 10) 8 z = 0 then (0 : Int32) else 1) = w
      · rw [if_pos c2, if_pos c2]
      · rw [if_neg c2, if_neg c2]
    · rw [if_pos c1, if_pos c1]
  rw [e1, e2]
  exact h
theorem iw_swl (hI : IW W) (z w : Int32) (hw : w = 0 ∨ w = 1) (Z : Nat) : IW (cg_swl W z w Z).2 := by
  have i1 : ∀ x : Int32, (x = 0 ∨ x = 1) → IW (az_wr W 10 8 z x) := by
    intro x hx
    unfold az_wr
    split
    · exact hI.u_well hx
    · exact hI
  have e : az_wr W 10 8 z 1 24 2 = W 24 2 := by rw [az_wr_row (by decide)]
  have i2 : IW (cg_well1 W z w) := by
    unfold cg_well1
    split
    · exact i1 0 (Or.inl rfl)
    · split
      · have := (i1 1 (Or.inr rfl)).u_full
        rw [e] at this
        exact this
      · exact i1 1 (Or.inr rfl)
  unfold cg_swl
  by_cases c1 : cg_zone W z
  · have n1 : ¬ ¬ cg_zone W z := fun c => c c1
    rw [if_neg n1]
    by_cases c2 : (if az_rd (W 10) 8 z = 0 then (0 : Int32) else 1) = w
    · rw [if_pos c2]
      exact hI
    · rw [if_neg c2]
      exact i2
  · rw [if_pos c1]
    exact hI
theorem cg_coolS (W : az_Mem) (i : Nat) (h : i < 40) : az_up (cg_cool W i) 23 i (W 23 i / 2) = cg_cool W (i + 1) := by
  funext c j
  simp only [az_up, cg_cool]
  by_cases h1 : c = 23
  · subst h1
    by_cases h2 : j = i
    · subst h2
      rw [if_pos ⟨rfl, rfl⟩, if_pos ⟨rfl, by omega⟩]
    · rw [if_neg (by omega)]
      by_cases h3 : j < i
      · rw [if_pos ⟨rfl, h3⟩, if_pos ⟨rfl, by omega⟩]
      · rw [if_neg (by omega), if_neg (by omega)]
  · rw [if_neg (by omega), if_neg (by omega), if_neg (by omega)]
theorem iw_cool (hI : IW W) : IW (cg_cool W 40) := by
  refine IW.mk ?_ ?_ (fun z hz => ?_) (fun z hz => ?_) (fun z hz => ?_) (fun z hz => ?_) (fun z hz => ?_) ?_ ?_
  all_goals simp only [cg_cool]
  · exact hI.zn
  · exact hI.sl
  · exact hI.sld z hz
  · exact hI.well z hz
  · exact hI.load z hz
  · exact hI.cell z hz
  · obtain ⟨h, h1, h2⟩ := hI.heat z hz
    refine ⟨h / 2, by omega, ?_⟩
    rw [if_pos (by simp [hz]), h2]
    exact nI_div (b := 2) (by omega) (by decide)
  · exact hI.water
  · exact hI.bag
def cg_dk (W : az_Mem) (i : Nat) : Nat := az_cnt (fun l => decide (W 17 0 ≤ W 23 l) && !decide (W 17 0 ≤ W 23 l / 2)) i
theorem cg_dkS (W : az_Mem) (i : Nat) : cg_dk W (i + 1) = cg_dk W i + (if (decide (W 17 0 ≤ W 23 i) && !decide (W 17 0 ≤ W 23 i / 2)) = true then 1 else 0) := rfl
theorem cg_dkL (hI : IW W) {l : Nat} (hl : l < 40) (h : W 17 0 ≤ W 23 l / 2) : W 17 0 ≤ W 23 l := by
  obtain ⟨x, h1, h2⟩ := hI.heat l hl
  have e : W 23 l / 2 = nI (x / 2) := by
    rw [h2]
    exact nI_div (b := 2) (by omega) (by decide)
  rw [e] at h
  rw [h2]
  exact Int32.le_trans h (nI_le (by omega) (by omega))
def cg_hc (W : az_Mem) (i : Nat) : Nat := az_cnt (fun l => decide (W 17 0 ≤ W 23 l)) i
def cg_hd (W : az_Mem) (i : Nat) : Nat := az_cnt (fun l => decide (W 17 0 ≤ W 23 l / 2)) i
theorem cg_hcS (W : az_Mem) (i : Nat) : cg_hc W (i + 1) = cg_hc W i + (if decide (W 17 0 ≤ W 23 i) = true then 1 else 0) := rfl
theorem cg_hdS (W : az_Mem) (i : Nat) : cg_hd W (i + 1) = cg_hd W i + (if decide (W 17 0 ≤ W 23 i / 2) = true then 1 else 0) := rfl
theorem cg_dkB (hI : IW W) : ∀ i, i ≤ 40 → cg_hc W i = cg_hd W i + cg_dk W i := by
  intro i
  induction i with
  | zero => intro _; rfl
  | succ i ih =>
    intro hi
    rw [cg_hcS, cg_hdS, cg_dkS, ih (by omega)]
    have := cg_dkL hI (l := i) (by omega)
    by_cases c1 : W 17 0 ≤ W 23 i <;> by_cases c2 : W 17 0 ≤ W 23 i / 2 <;> simp [c1, c2] at this ⊢ <;> omega
theorem cg_cool23 (W : az_Mem) {k i : Nat} (h : i < k) : cg_cool W k 23 i = W 23 i / 2 := by
  simp only [cg_cool]
  rw [if_pos (by simp; omega)]
theorem cg_cool17 (W : az_Mem) (k : Nat) : cg_cool W k 17 0 = W 17 0 := by
  simp only [cg_cool]
  rw [if_neg (by omega)]
theorem cg_dkC (W : az_Mem) (k : Nat) : ∀ i, i ≤ k → cg_hc (cg_cool W k) i = cg_hd W i := by
  intro i
  induction i with
  | zero => intro _; exact (show cg_hc (cg_cool W k) 0 = 0 from rfl).trans (show 0 = cg_hd W 0 from rfl)
  | succ i ih =>
    intro hi
    rw [cg_hcS, cg_hdS, ih (by omega)]
    have e1 := cg_cool17 W k
    have e2 := cg_cool23 W (k := k) (i := i) (by omega)
    generalize cg_cool W k 17 0 = x at e1 ⊢
    generalize cg_cool W k 23 i = y at e2 ⊢
    subst e1 e2
    rfl
theorem cg_hotC (W : az_Mem) : cg_hot W = cg_hc W 40 := by
  unfold cg_hot cg_hc
  rfl
theorem cg_dkA (hI : IW W) : nI (cg_hot W) - nI (cg_hot (cg_cool W 40)) = nI (cg_dk W 40) := by
  have k := cg_dkB hI 40 (Nat.le_refl 40)
  have k2 := cg_dkC W 40 40 (Nat.le_refl 40)
  rw [cg_hotC, cg_hotC, k2, k]
  generalize cg_hd W 40 = y
  generalize cg_dk W 40 = z
  rw [nI_sub (by omega), Nat.add_sub_cancel_left]
end REFR
/-! REFERENCE: set -/
section REFS
variable {M M1 N W : az_Mem} {a : Int32} {n : Nat}
theorem iw_set (hI : IW W) (w v : Int32) (ho : ¬ (cg_set W w v).1 < 0) : IW (cg_set W w v).2 := by
  have hv : ∀ (lo hi : Nat), hi < 1000 → ¬ (v < nI lo ∨ ¬ v ≤ nI hi) → lo < 1000 → ∃ k, k ≤ hi ∧ lo ≤ k ∧ v = nI k := by
    intro lo hi h1 h2 h3
    have a1 : ¬ v < nI lo := fun c => h2 (Or.inl c)
    have a2 : v ≤ nI hi := by
      by_cases c : v ≤ nI hi
      · exact c
      · exact absurd (Or.inr c) h2
    have a0 : ¬ v < 0 := fun c => a1 (Int32.lt_of_lt_of_le c (nI_pos' (by omega)))
    obtain ⟨k, hk, rfl⟩ := nI_of a0
    rw [nI_ltI hk (by omega)] at a1
    rw [nI_leI hk (by omega)] at a2
    exact ⟨k, a2, by omega, rfl⟩
  unfold cg_set at ho ⊢
  by_cases c0 : w = 0
  · rw [if_pos c0] at ho ⊢
    unfold cg_setBag at ho ⊢
    by_cases c1 : v < 0 ∨ ¬ v ≤ 6
    · rw [if_pos c1]
      exact hI
    rw [if_neg c1]
    by_cases c2 : W 24 4 ≤ v
    · have n2 : ¬ ¬ W 24 4 ≤ v := fun c => c c2
      rw [if_neg n2]
      obtain ⟨k, k1, k2, rfl⟩ := hv 0 6 (by decide) c1 (by decide)
      obtain ⟨B, R, e1, e2, e3, e4, e5, e6, e7⟩ := hI.bag
      rw [e1, nI_leI (by omega) (by omega)] at c2
      exact IW.mk hI.zn hI.sl hI.sld hI.well hI.load hI.cell hI.heat hI.water ⟨B, k, e1, rfl, c2, k1, e5, e6, e7⟩
    · rw [if_pos c2]
      exact hI
  rw [if_neg c0] at ho ⊢
  by_cases c1 : w = 1
  · rw [if_pos c1] at ho ⊢
    unfold cg_setSkin at ho ⊢
    by_cases c1 : v < 10 ∨ ¬ v ≤ 200
    · rw [if_pos c1]
      exact hI
    rw [if_neg c1]
    obtain ⟨k, k1, k2, rfl⟩ := hv 10 200 (by decide) c1 (by decide)
    obtain ⟨x, y, e1, e2, e3, e4⟩ := hI.water
    refine IW.mk hI.zn hI.sl hI.sld hI.well hI.load hI.cell hI.heat ⟨if k < x then k else x, k, ?_, by simp [az_up], by split <;> omega, k1⟩ hI.bag
    show (if nI k < W 24 1 then nI k else W 24 1) = _
    rw [e1]
    by_cases q : k < x
    · rw [if_pos q, if_pos (nI_lt q (by omega))]
    · rw [if_neg q, if_neg (nI_nlt (by omega) (by omega))]
  rw [if_neg c1] at ho ⊢
  by_cases c2 : w = 2
  · rw [if_pos c2] at ho ⊢
    unfold cg_setBound at ho ⊢
    split
    · exact hI
    · exact hI.u_17 _
  · rw [if_neg c2]
    exact hI
end REFS
/-! CLASS: an act changes the world only -/
section FW
variable {M W N : az_Mem}
theorem fW.rf (W : az_Mem) : fW W W := fun _ _ => rfl
theorem fW.tr {X : az_Mem} (h : fW W N) (h' : fW N X) : fW W X := fun c hc => (h' c hc).trans (h c hc)
theorem fW.up (h : fW W N) {b k : Nat} {x : Int32} (h1 : 1 ≤ b) (h2 : b ≤ 26) : fW W (az_up N b k x) := fun c hc => by
  rw [az_up_row (by omega)]
  exact h c hc
theorem fW.wr (h : fW W N) {b n : Nat} {i x : Int32} (h1 : 1 ≤ b) (h2 : b ≤ 26) : fW W (az_wr N b n i x) := fun c hc => by
  rw [az_wr_row (by omega)]
  exact h c hc
theorem fW.fl (h : fW W N) {b n : Nat} {x : Int32} (h1 : 1 ≤ b) (h2 : b ≤ 26) : fW W (az_fl N b n x) := fun c hc => by
  rw [az_fl_row (by omega)]
  exact h c hc
theorem fw_pay (c : Int32) : fW W (cg_pay W c) := ((fW.rf W).up (by decide) (by decide)).up (by decide) (by decide)
theorem cg_step_row {c : Nat} (h : c ≠ 24) : cg_step M c = M c := by
  unfold cg_step cg_step0 cg_pay
  split <;> simp [az_up_row h]
theorem cg_unp_row {l : Int32} {c : Nat} (h1 : c ≠ 24) (h2 : c ≠ 26) : cg_unp M l c = M c := by
  unfold cg_unp
  rw [az_up_row h1, (az_unp_frame l _ 0 0 M).1 c h2]
theorem cg_packUp_row {l : Int32} {c : Nat} (h1 : c ≠ 24) (h2 : c ≠ 26) (h3 : c ≠ 19) : cg_packUp M l c = M c := by
  unfold cg_packUp cg_pack
  rw [az_wr_row h3, az_up_row h1, az_wr_row h2]
theorem fw_step : fW W (cg_step W) := fun c hc => cg_step_row (by omega)
theorem fw_trav : ∀ (k : Nat) (W : az_Mem), fW W (cg_trav k W).2 := by
  intro k
  induction k with
  | zero => intro W; exact fW.rf W
  | succ k ih =>
    intro W
    show fW W (if 1 ≤ W 24 1 then cg_trav k (cg_step W) else (false, W)).2
    split
    · exact fw_step.tr (ih _)
    · exact fW.rf W
theorem fw_go (n : Int32) : fW W (cg_go W n).2 := by
  unfold cg_go
  split
  · exact fW.rf W
  · exact fw_trav _ W
theorem fw_append (z l : Int32) : fW W (cg_append W z l) := by
  have h : fW W (cg_app1 W z l) := by
    unfold cg_app1
    exact ((((fW.rf W).wr (by decide) (by decide)).wr (by decide) (by decide)).up (by decide) (by decide)).wr (by decide) (by decide)
  unfold cg_append
  split
  · exact h
  · exact h.wr (by decide) (by decide)
theorem fw_move (l c : Int32) : fW W (cg_moveToSlot W l c) := by
  unfold cg_moveToSlot
  exact ((fW.rf W).wr (by decide) (by decide)).wr (by decide) (by decide)
theorem fw_unp (l : Int32) : fW W (cg_unp W l) := fun c hc => cg_unp_row (by omega) (by omega)
theorem fw_wh1 (l : Int32) : fW W (cg_wh1 W l) := by
  unfold cg_wh1
  split
  · exact ((fw_pay 1).tr (fw_unp l)).up (by decide) (by decide)
  · exact fw_pay 1
theorem fw_wh (l : Int32) : fW W (cg_wh W l) := by
  unfold cg_wh
  exact ((fw_wh1 l).tr (fw_append _ _)).tr (fw_move _ _)
theorem fw_warm (l : Int32) : fW W (cg_warm W l) := by
  unfold cg_warm
  exact (fW.rf W).wr (by decide) (by decide)
theorem fw_write (l : Int32) : fW W (cg_write W l).2 := by
  unfold cg_write
  by_cases c1 : cg_known l
  · have n1 : ¬ ¬ cg_known l := fun c => c c1
    rw [if_neg n1]
    by_cases c2 : az_rd (cg_warm W l 19) 40 l = 2
    · rw [if_pos c2]
      exact fw_warm l
    rw [if_neg c2]
    by_cases c3 : cg_may (cg_warm W l) l (cg_warm W l 24 0)
    · have n3 : ¬ ¬ cg_may (cg_warm W l) l (cg_warm W l 24 0) := fun c => c c3
      rw [if_neg n3]
      by_cases c4 : 1 ≤ cg_warm W l 24 1
      · have n4 : ¬ ¬ 1 ≤ cg_warm W l 24 1 := fun c => c c4
        rw [if_neg n4]
        exact (fw_warm l).tr (fw_wh l)
      · rw [if_pos c4]
        exact fw_warm l
    · rw [if_pos c3]
      exact fw_warm l
  · rw [if_pos c1]
    exact fW.rf W
theorem fw_put (l : Int32) : fW W (cg_put W l).2 := by
  unfold cg_put
  by_cases c1 : cg_known l
  · have n1 : ¬ ¬ cg_known l := fun c => c c1
    rw [if_neg n1]
    by_cases c2 : az_rd (W 19) 40 l = 2
    · have n2 : ¬ ¬ az_rd (W 19) 40 l = 2 := fun c => c c2
      rw [if_neg n2]
      by_cases c3 : cg_may W l (W 24 0)
      · have n3 : ¬ ¬ cg_may W l (W 24 0) := fun c => c c3
        rw [if_neg n3]
        by_cases c4 : 1 ≤ W 24 1
        · have n4 : ¬ ¬ 1 ≤ W 24 1 := fun c => c c4
          rw [if_neg n4]
          exact fw_wh l
        · rw [if_pos c4]
          exact fW.rf W
      · rw [if_pos c3]
        exact fW.rf W
    · rw [if_pos c2]
      exact fW.rf W
  · rw [if_pos c1]
    exact fW.rf W
theorem fw_packUp (l : Int32) : fW W (cg_packUp W l) := fun c hc => cg_packUp_row (by omega) (by omega) (by omega)
theorem fw_tak (l : Int32) : fW W (cg_tak W l).2 := by
  unfold cg_tak
  by_cases c1 : cg_known l
  · have n1 : ¬ ¬ cg_known l := fun c => c c1
    rw [if_neg n1]
    by_cases c2 : az_rd (W 19) 40 l = 1 ∧ az_rd (W 21) 40 l / 12 = W 24 0
    · have n2 : ¬ ¬ (az_rd (W 19) 40 l = 1 ∧ az_rd (W 21) 40 l / 12 = W 24 0) := fun c => c c2
      rw [if_neg n2]
      by_cases c3 : 1 ≤ W 24 3 - W 24 4
      · have n3 : ¬ ¬ 1 ≤ W 24 3 - W 24 4 := fun c => c c3
        rw [if_neg n3]
        exact fw_packUp l
      · rw [if_pos c3]
        exact fW.rf W
    · rw [if_pos c2]
      exact fW.rf W
  · rw [if_pos c1]
    exact fW.rf W
theorem fw_drop (l : Int32) : fW W (cg_drop W l).2 := by
  unfold cg_drop
  by_cases c1 : cg_known l
  · have n1 : ¬ ¬ cg_known l := fun c => c c1
    rw [if_neg n1]
    by_cases c2 : az_rd (W 19) 40 l = 0
    · rw [if_pos c2]
      exact fW.rf W
    · rw [if_neg c2]
      unfold cg_forget
      exact ((fw_unp l).wr (by decide) (by decide)).wr (by decide) (by decide)
  · rw [if_pos c1]
    exact fW.rf W
theorem fw_clear (z : Int32) : fW W (cg_clear W z) := by
  unfold cg_clear
  exact ((((fW.rf W).wr (by decide) (by decide)).wr (by decide) (by decide)).wr (by decide) (by decide)).up (by decide) (by decide)
theorem fw_reset (P : Nat) : fW W (cg_reset W P).2 := by
  unfold cg_reset
  split
  · exact fW.rf W
  split
  · exact fW.rf W
  split
  · exact fW.rf W
  · exact (fw_pay 3).tr (fw_clear _)
theorem fw_seal : fW W (cg_seal W).2 := by
  unfold cg_seal
  split
  · exact fW.rf W
  · exact (fW.rf W).wr (by decide) (by decide)
theorem fw_lay (z q : Int32) : fW W (cg_lay W z q) := by
  unfold cg_lay cg_build
  exact (((((((((fW.rf W).up (by decide) (by decide)).up (by decide) (by decide)).fl (by decide) (by decide)).fl (by decide) (by decide)).fl (by decide) (by decide)).fl (by decide) (by decide)).wr (by decide) (by decide)).fl (by decide) (by decide)).up (by decide) (by decide)
theorem fw_kind (z k : Int32) : fW W (cg_kind W z k).2 := by
  unfold cg_kind
  split
  · exact fW.rf W
  split
  · exact fW.rf W
  split
  · exact fW.rf W
  · exact (fW.rf W).wr (by decide) (by decide)
theorem fw_well1 (z w : Int32) : fW W (cg_well1 W z w) := by
  unfold cg_well1
  split
  · exact (fW.rf W).wr (by decide) (by decide)
  split
  · exact ((fW.rf W).wr (by decide) (by decide)).up (by decide) (by decide)
  · exact (fW.rf W).wr (by decide) (by decide)
theorem fw_swl (z w : Int32) (Z : Nat) : fW W (cg_swl W z w Z).2 := by
  unfold cg_swl
  by_cases c1 : cg_zone W z
  · have n1 : ¬ ¬ cg_zone W z := fun c => c c1
    rw [if_neg n1]
    by_cases c2 : (if az_rd (W 10) 8 z = 0 then (0 : Int32) else 1) = w
    · rw [if_pos c2]
      exact fW.rf W
    · rw [if_neg c2]
      exact fw_well1 z w
  · rw [if_pos c1]
    exact fW.rf W
theorem fw_set (w v : Int32) : fW W (cg_set W w v).2 := by
  unfold cg_set
  split
  · unfold cg_setBag
    split
    · exact fW.rf W
    split
    · exact fW.rf W
    · exact (fW.rf W).up (by decide) (by decide)
  split
  · unfold cg_setSkin
    split
    · exact fW.rf W
    · exact ((fW.rf W).up (by decide) (by decide)).up (by decide) (by decide)
  split
  · unfold cg_setBound
    split
    · exact fW.rf W
    · exact (fW.rf W).up (by decide) (by decide)
  · exact fW.rf W
theorem fw_cool (k : Nat) : fW W (cg_cool W k) := fun c hc => by
  funext j
  simp only [cg_cool]
  rw [if_neg (by omega)]
end FW
/-! CLASS AND REFERENCE: the acts -/
section PAIRS
variable {M N W : az_Mem} {a : Int32}
theorem cg_stl_row {L : Nat} (h4 : L < 4) {c : Nat} (hc : 185 ≤ c) : cg_stl N a L c = N c := by
  unfold cg_stl
  split
  · rw [cg_cpW_out (by omega)]
  · have hn : cg_nxL L < 4 := by unfold cg_nxL; split <;> omega
    have hw := az_hwN hn
    unfold cg_rem
    rw [cg_cpW_out (by omega), az_up_row (by omega), az_up_row (by omega)]
theorem ec_go (d : Nat) (n : Int32) : az_EX (d + 3) m_X7_travel [.ref 1, .int n] (az_hp W) (some (.int (cg_go W n).1)) (az_hp (cg_go W n).2) := by
  by_cases hn : n < 1 ∨ ¬ n ≤ 24
  · have e : cg_go W n = (-2, W) := if_pos hn
    rw [e]
    exact ec_travelBad d hn
  · have h1 : ¬ n < 1 := fun q => hn (Or.inl q)
    have h24 : n ≤ 24 := by
      by_cases q : n ≤ 24
      · exact q
      · exact absurd (Or.inr q) hn
    have h0 : ¬ n < 0 := fun q => h1 (Int32.lt_trans q (by decide))
    obtain ⟨K, hK, rfl⟩ := nI_of2 (M := 24) (n := 24) (by decide) h0 h24
    have e : cg_go W (nI K) = (if (cg_trav K W).1 = true then (cg_trav K W).2 24 0 else -6, (cg_trav K W).2) := by
      unfold cg_go
      rw [if_neg hn, nI_clamp (by omega)]
    rw [e]
    refine ec_travel d ?_ hK
    by_cases q : 1 ≤ K
    · exact q
    · have : K = 0 := by omega
      subst this
      exact absurd (by decide : nI 0 < 1) h1
theorem IW.bok (h : IW W) : az_bagOK W := by
  obtain ⟨B, R, e1, e2, e3, e4, _⟩ := h.bag
  exact ⟨B, e1, by omega⟩
theorem IW.ptr (h : IW W) : ∃ p : Nat, az_rd (W 4) 8 (W 24 0) = nI p ∧ p ≤ 12 := by
  obtain ⟨Z, a, S, p, hZ, ha, h2, h8, haZ, ha8, hS, h2S, h12, hp, hpS, hps⟩ := h.pt
  exact ⟨p, by rw [ha, az_rdN ha8 (by decide)]; exact hp, by omega⟩
end PAIRS
/-! CLASS AND REFERENCE: questions -/
section QRY
variable {M N W : az_Mem} {a : Int32}
theorem nI_steps {z a Z : Nat} (hz : z < Z) (ha : a < Z) (h8 : Z ≤ 8) : (if nI z < nI a then nI z - nI a + nI Z else nI z - nI a) = nI ((z + Z - a) % Z) := by
  by_cases h : z < a
  · rw [if_pos (nI_lt h (by omega)), Nat.mod_eq_of_lt (by omega), show nI z - nI a + nI Z = nI z + nI Z - nI a by rw [Int32.sub_eq_add_neg, Int32.sub_eq_add_neg, Int32.add_assoc, Int32.add_comm (-nI a), Int32.add_assoc], nI_add, nI_sub (by omega)]
  · rw [if_neg (nI_nlt (by omega) (by omega)), nI_sub (by omega), show z + Z - a = (z - a) + Z by omega, Nat.add_mod_right, Nat.mod_eq_of_lt (by omega)]
theorem IW.ptz (h : IW W) {z : Nat} (hz : z < 8) : ∃ S p : Nat, W 2 1 = nI S ∧ 2 ≤ S ∧ S ≤ 12 ∧ W 4 z = nI p ∧ p ≤ S := by
  obtain ⟨S, h6, h7, h8, h9⟩ := h.sl
  obtain ⟨p, h10, h11, h12⟩ := h9 z hz
  exact ⟨S, p, h6, h7, h8, h10, h11⟩
end QRY
/-! CLASS AND REFERENCE: questions: count -/
section QCO
variable {M N W : az_Mem} {a : Int32}
def sumN (f : Nat → Nat) : Nat → Nat
  | 0 => 0
  | n + 1 => sumN f n + f n
theorem cg_smW_sum {P : Nat → Nat} {Z : Nat} (h8 : Z ≤ 8) (hP : ∀ z, z < 8 → M 4 z = nI (P z) ∧ P z ≤ 12) : ∀ (m i : Nat), i + m = Z → cg_smW M m i (nI (sumN P i)) = nI (sumN P Z) := by
  intro m
  induction m with
  | zero =>
    intro i hs
    have ei : i = Z := by omega
    subst ei
    rfl
  | succ m ih =>
    intro i hs
    show cg_smW M m (i + 1) (nI (sumN P i) + az_rd (M 4) 8 (nI i)) = _
    rw [az_rdN (by omega) (by decide), (hP i (by omega)).1, nI_add]
    exact ih (i + 1) (by omega)
theorem cg_smL_sum {P : Nat → Nat} {Z : Nat} : ∀ (m i : Nat), i + m = Z → cg_smL M P m i (nI (sumN (fun z => cg_cl M (nI z) (P z)) i)) = nI (sumN (fun z => cg_cl M (nI z) (P z)) Z) := by
  intro m
  induction m with
  | zero =>
    intro i hs
    have ei : i = Z := by omega
    subst ei
    rfl
  | succ m ih =>
    intro i hs
    show cg_smL M P m (i + 1) (nI (sumN (fun z => cg_cl M (nI z) (P z)) i) + nI (cg_cl M (nI i) (P i))) = _
    rw [nI_add]
    exact ih (i + 1) (by omega)
theorem sumN_sub {f g : Nat → Nat} (h : ∀ z, g z ≤ f z) : ∀ n, sumN f n = sumN g n + sumN (fun z => f z - g z) n := by
  intro n
  induction n with
  | zero => rfl
  | succ n ih =>
    show sumN f n + f n = (sumN g n + g n) + (sumN (fun z => f z - g z) n + (f n - g n))
    have := h n
    omega
theorem sumN_mul (S : Nat) {P : Nat → Nat} : ∀ n, (∀ z, z < n → P z ≤ S) → n * S = sumN P n + sumN (fun z => S - P z) n := by
  intro n
  induction n with
  | zero => intro _; rw [Nat.zero_mul]; rfl
  | succ n ih =>
    intro h
    show (n + 1) * S = (sumN P n + P n) + (sumN (fun z => S - P z) n + (S - P n))
    have := ih (fun z hz => h z (by omega))
    have := h n (by omega)
    rw [Nat.succ_mul]
    omega
end QCO
