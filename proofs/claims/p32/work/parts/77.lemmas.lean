/-! locals, stacks, room -/
theorem az_sv_cat (z0 : Nat) (v : Value) : (az_sv z0 v).category = v.category := by cases v <;> rfl
theorem az_cat_sum (z0 : Nat) (l : List Value) : ((l.map (az_sv z0)).map fun v => v.category).sum = az_cat l := by
  induction l with
  | nil => rfl
  | cons v r ih => simp only [List.map_cons, List.sum_cons, ih, az_cat, az_sv_cat]
theorem az_set_eq {β : Type} (l : List az_V) : ∀ (a : Nat) (v : Value) (k : List az_V → Option β), az_set l a v k = if a < l.length then k (az_sub l a (some v)) else none := by
  induction l with
  | nil => intro a v k; rfl
  | cons x r ih =>
    intro a v k
    cases a with
    | zero => simp [az_set, az_sub]
    | succ a => simp only [az_set, ih, List.length_cons, Nat.add_lt_add_iff_right, az_sub]
theorem az_get_sub (l : List az_V) : ∀ (a i : Nat) (v : az_V), a < l.length → az_get (az_sub l a v) i = if i = a then v else az_get l i := by
  induction l with
  | nil => intro a i v h; exact absurd h (Nat.not_lt_zero _)
  | cons x r ih =>
    intro a i v h
    cases a with
    | zero => cases i <;> simp [az_sub, az_get]
    | succ a =>
      cases i with
      | zero => simp [az_sub, az_get]
      | succ i => simp only [az_sub, az_get, ih a i v (by simp at h; omega), Nat.add_right_cancel_iff]
theorem az_sub_len {α : Type} (l : List α) (a : Nat) (v : α) : (az_sub l a v).length = l.length := by rw [az_sub_eq, List.length_set]
theorem az_get_lt {l : List az_V} : ∀ {i : Nat} {v : Value}, az_get l i = some v → i < l.length := by
  induction l with
  | nil => intro i v h; cases h
  | cons x r ih =>
    intro i v h
    cases i with
    | zero => simp
    | succ i => simp; exact ih h
def az_LR (la : Array Slot) (nL z0 : Nat) (ls : List az_V) : Prop := la.size = nL ∧ lv_wf la ∧ ls.length = nL ∧ ∀ (i : Nat) (v : Value), az_get ls i = some v → la[i]? = some (.val (az_sv z0 v)) ∧ v.category = 1
def az_lv (nL z0 : Nat) (ls : List az_V) : List (Nat × Value) := (List.range nL).filterMap fun j => (az_get ls j).map fun v => (j, az_sv z0 v)
theorem az_LR.has {la : Array Slot} {nL z0 : Nat} {ls : List az_V} (h : az_LR la nL z0 ls) : lv_has la nL (az_lv nL z0 ls) := by
  refine ⟨h.1, h.2.1, fun q hq => ?_⟩
  obtain ⟨j, -, hj⟩ := List.mem_filterMap.mp hq
  cases hg : az_get ls j with
  | none => rw [hg] at hj; cases hj
  | some v =>
    rw [hg] at hj
    cases hj
    exact (h.2.2.2 j v hg).1
theorem az_LR.store {la la' : Array Slot} {nL z0 a : Nat} {ls : List az_V} {x : Value} (h : az_LR la nL z0 ls) (hx : x.category = 1) (ha : a < ls.length) (h' : lv_has la' nL ((a, az_sv z0 x) :: (az_lv nL z0 ls).filter (fun q => !(q.1 == a) && !(q.1 + 1 == a && q.2.category == 2)))) : az_LR la' nL z0 (az_sub ls a (some x)) := by
  refine ⟨h'.1, h'.2.1, by rw [az_sub_len]; exact h.2.2.1, fun i v hi => ?_⟩
  rw [az_get_sub ls a i _ ha] at hi
  by_cases e : i = a
  · subst e
    rw [if_pos rfl] at hi
    cases hi
    exact ⟨h'.2.2 (i, az_sv z0 x) List.mem_cons_self, hx⟩
  · rw [if_neg e] at hi
    have h1 := h.2.2.2 i v hi
    refine ⟨h'.2.2 (i, az_sv z0 v) (List.mem_cons_of_mem _ (List.mem_filter.mpr ⟨List.mem_filterMap.mpr ⟨i, List.mem_range.mpr ?_, ?_⟩, ?_⟩)), h1.2⟩
    · have := az_get_lt hi
      rw [h.2.2.1] at this
      exact this
    · rw [hi]; rfl
    · simp [e, az_sv_cat, h1.2]
theorem az_pop_spec {β : Type} : ∀ (n : Nat) (st acc : List Value) (k : List Value → List Value → Option β) (y : β), az_pop n st acc k = some y → ∃ as rest, st = as.reverse ++ rest ∧ as.length = n ∧ (∀ v ∈ as, v.category = 1) ∧ k (as ++ acc) rest = some y := by
  intro n
  induction n with
  | zero =>
    intro st acc k y h
    exact ⟨[], st, rfl, rfl, fun v hv => absurd hv List.not_mem_nil, h⟩
  | succ n ih =>
    intro st acc k y h
    have main : ∀ (v : Value) (r : List Value), v.category = 1 → st = v :: r → az_pop n r (v :: acc) k = some y → ∃ as rest, st = as.reverse ++ rest ∧ as.length = n + 1 ∧ (∀ v ∈ as, v.category = 1) ∧ k (as ++ acc) rest = some y := by
      intro v r hv hst h1
      obtain ⟨as, rest, e1, e2, e3, e4⟩ := ih r (v :: acc) k y h1
      refine ⟨as ++ [v], rest, ?_, ?_, ?_, ?_⟩
      · rw [hst, e1]; simp
      · simp [e2]
      · intro x hx
        rcases List.mem_append.mp hx with g | g
        · exact e3 x g
        · rw [List.mem_singleton.mp g]; exact hv
      · rw [List.append_assoc]; exact e4
    cases st with
    | nil => cases h
    | cons v r =>
      cases v with
      | int x => exact main (.int x) r rfl rfl h
      | ref q => exact main (.ref q) r rfl rfl h
      | null => exact main .null r rfl rfl h
      | long x => cases h
      | float x => cases h
      | double x => cases h
      | retAddr x => cases h
theorem az_app_map (z0 : Nat) (r : Option Value) (rest : List Value) : (az_app r rest).map (az_sv z0) = (r.map (az_sv z0)).toList ++ rest.map (az_sv z0) := by cases r <;> rfl
theorem az_lin_len (l : List Value) : ∀ n, (az_lin l n).length = n := by
  induction l with
  | nil =>
    intro n
    induction n with
    | zero => rfl
    | succ n ih => simp [az_lin, ih]
  | cons v r ih =>
    intro n
    cases n with
    | zero => rfl
    | succ n => simp [az_lin, ih]
theorem az_lin_get (l : List Value) : ∀ (n i : Nat) (v : Value), az_get (az_lin l n) i = some v → l[i]? = some v := by
  induction l with
  | nil =>
    intro n
    induction n with
    | zero => intro i v h; cases h
    | succ n ih =>
      intro i v h
      cases i with
      | zero => cases h
      | succ i => exact absurd (ih i v h) (by simp)
  | cons x r ih =>
    intro n i v h
    cases n with
    | zero => cases h
    | succ n =>
      cases i with
      | zero => exact h
      | succ i => exact ih n i v h
theorem az_lv_args : ∀ (vs : List Value) (k i : Nat) (v : Value), (∀ v ∈ vs, v.category = 1) → vs[i]? = some v → (k + i, v) ∈ lv_args k vs := by
  intro vs
  induction vs with
  | nil => intro k i v _ h; simp at h
  | cons x r ih =>
    intro k i v hc h
    have hx : x.category = 1 := hc x List.mem_cons_self
    have hr : ∀ v ∈ r, v.category = 1 := fun v hv => hc v (List.mem_cons_of_mem _ hv)
    unfold lv_args
    cases i with
    | zero =>
      simp at h
      subst h
      simp
    | succ i =>
      have h1 := ih (k + 1) i v hr (by simpa using h)
      rw [show k + 1 + i = k + (i + 1) by omega] at h1
      simp [hx]
      exact h1
theorem az_sl_len : ∀ (vs : List Value), (∀ v ∈ vs, v.category = 1) → (lg_sl vs).length = vs.length := by
  intro vs
  induction vs with
  | nil => intro _; rfl
  | cons x r ih =>
    intro hc
    have hx : x.category = 1 := hc x List.mem_cons_self
    have h1 := ih (fun v hv => hc v (List.mem_cons_of_mem _ hv))
    unfold lg_sl at h1 ⊢
    rw [List.flatMap_cons, List.length_append, h1, if_neg (by rw [hx]; decide)]
    simp
    omega
theorem az_LR.entry (z0 nL : Nat) (as : List Value) (hc : ∀ v ∈ as, v.category = 1) (hn : as.length ≤ nL) : az_LR ((lg_sl (as.map (az_sv z0)) ++ List.replicate (nL - (lg_sl (as.map (az_sv z0))).length) Slot.unset).toArray) nL z0 (az_lin as nL) := by
  have hc' : ∀ v ∈ as.map (az_sv z0), v.category = 1 := by
    intro v hv
    obtain ⟨w, hw, rfl⟩ := List.mem_map.mp hv
    rw [az_sv_cat]
    exact hc w hw
  have h1 := lv_entry (as.map (az_sv z0)) (n := nL) (by rw [az_sl_len _ hc', List.length_map]; exact hn)
  refine ⟨h1.1, h1.2.1, az_lin_len _ _, fun i v hi => ?_⟩
  have h2 := az_lin_get as nL i v hi
  refine ⟨?_, hc v (List.mem_of_getElem? h2)⟩
  have h3 := az_lv_args (as.map (az_sv z0)) 0 i (az_sv z0 v) hc' (by rw [List.getElem?_map, h2]; rfl)
  rw [Nat.zero_add] at h3
  exact h1.2.2 _ h3
theorem az_in_vp {i : Int32} {n : Nat} (h : az_in i n = true) : vp_in i n := by
  unfold az_in at h
  rw [Bool.and_eq_true, decide_eq_true_eq, decide_eq_true_eq] at h
  exact vp_in_iff.mpr h
theorem az_in_nn {i : Int32} {n : Nat} (h : az_in i n = true) : ¬ i < 0 ∧ i.toNatClampNeg < n := by
  have h1 := az_in_vp h
  unfold vp_in at h1
  exact ⟨fun q => h1 (Or.inl q), Nat.not_le.mp fun q => h1 (Or.inr q)⟩
theorem az_bit_nar {x : Int32} (h : az_bit x = true) : narrow .boolean (.int x) = .int x := by
  unfold az_bit at h
  rw [Bool.or_eq_true, decide_eq_true_eq, decide_eq_true_eq] at h
  rcases h with rfl | rfl
  · exact narrow_b0
  · exact narrow_b1
