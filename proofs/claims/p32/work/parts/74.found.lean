/-! FOUND: how the abstract heap lies in the machine's; rows of the kit, told cell by cell -/
def az_sv (z0 : Nat) : Value → Value
  | .ref a => .ref (z0 + a)
  | v => v
def az_vals (z0 : Nat) : List (Option (Option Nat)) → (Nat → Int32) → Nat → List Value
  | [], _, _ => []
  | none :: r, m, k => .int (m k) :: az_vals z0 r m (k + 1)
  | some none :: r, m, k => .null :: az_vals z0 r m (k + 1)
  | some (some q) :: r, m, k => .ref (z0 + q) :: az_vals z0 r m (k + 1)
def az_va1 (z0 : Nat) (m : Nat → Int32) (k : Nat) : Option (Option Nat) → Value
  | none => .int (m k)
  | some none => .null
  | some (some q) => .ref (z0 + q)
theorem az_vals_cons (z0 : Nat) (o : Option (Option Nat)) (r : List (Option (Option Nat))) (m : Nat → Int32) (k : Nat) : az_vals z0 (o :: r) m k = az_va1 z0 m k o :: az_vals z0 r m (k + 1) := by
  rcases o with _ | _ | q <;> rfl
theorem az_vals_len (z0 : Nat) (rs : List (Option (Option Nat))) : ∀ (m : Nat → Int32) (k : Nat), (az_vals z0 rs m k).length = rs.length := by
  induction rs with
  | nil => intro m k; rfl
  | cons o r ih => intro m k; rw [az_vals_cons, List.length_cons, List.length_cons, ih]
theorem az_nth_lt {α : Type} {l : List α} : ∀ {k : Nat} {x : α}, az_nth l k = some x → k < l.length := by
  induction l with
  | nil => intro k x h; cases h
  | cons y r ih =>
    intro k x h
    cases k with
    | zero => simp
    | succ k => simp; exact ih h
theorem az_nth_eq {α : Type} (l : List α) : ∀ k : Nat, az_nth l k = l[k]? := by
  induction l with
  | nil => intro k; rfl
  | cons y r ih =>
    intro k
    cases k with
    | zero => rfl
    | succ k => simp [az_nth, ih]
theorem az_sub_eq {α : Type} (l : List α) : ∀ (k : Nat) (v : α), az_sub l k v = l.set k v := by
  induction l with
  | nil => intro k v; rfl
  | cons y r ih =>
    intro k v
    cases k with
    | zero => rfl
    | succ k => simp [az_sub, ih]
theorem az_vals_get (z0 : Nat) (rs : List (Option (Option Nat))) : ∀ (m : Nat → Int32) (j k : Nat), (az_vals z0 rs m j)[k]? = (az_nth rs k).map (az_va1 z0 m (j + k)) := by
  induction rs with
  | nil => intro m j k; rfl
  | cons o r ih =>
    intro m j k
    rw [az_vals_cons]
    cases k with
    | zero => rfl
    | succ k =>
      rw [List.getElem?_cons_succ, ih]
      show Option.map (az_va1 z0 m (j + 1 + k)) (az_nth r k) = Option.map (az_va1 z0 m (j + (k + 1))) (az_nth r k)
      rw [show j + 1 + k = j + (k + 1) by omega]
theorem az_vals_up (z0 : Nat) (rs : List (Option (Option Nat))) (x : Int32) : ∀ (m m' : Nat → Int32) (j k : Nat), az_nth rs k = some none → m' (j + k) = x → (∀ i, i ≠ j + k → m' i = m i) → (az_vals z0 rs m j).set k (.int x) = az_vals z0 rs m' j := by
  induction rs with
  | nil => intro m m' j k h; cases h
  | cons o r ih =>
    intro m m' j k h h1 h2
    rw [az_vals_cons, az_vals_cons]
    cases k with
    | zero =>
      have h : o = none := Option.some.inj h
      subst h
      rw [List.set_cons_zero]
      have e1 : az_vals z0 r m (j + 1) = az_vals z0 r m' (j + 1) := by
        have : ∀ (r : List (Option (Option Nat))) (i : Nat), j < i → az_vals z0 r m i = az_vals z0 r m' i := by
          intro r
          induction r with
          | nil => intro i _; rfl
          | cons o r ih2 =>
            intro i hi
            rw [az_vals_cons, az_vals_cons, ih2 (i + 1) (by omega)]
            rcases o with _ | _ | q
            · show Value.int (m i) :: _ = Value.int (m' i) :: _
              rw [h2 i (by omega)]
            · rfl
            · rfl
        exact this r (j + 1) (by omega)
      rw [e1]
      show Value.int x :: _ = Value.int (m' j) :: _
      rw [← h1]
      rfl
    | succ k =>
      rw [List.set_cons_succ, ih m m' (j + 1) k h (by rw [show j + 1 + k = j + (k + 1) by omega]; exact h1) (fun i hi => h2 i (by omega))]
      rcases o with _ | _ | q
      · show Value.int (m j) :: _ = Value.int (m' j) :: _
        rw [h2 j (by omega)]
      · rfl
      · rfl
theorem az_vals_sub (z0 : Nat) (rs : List (Option (Option Nat))) (q : Nat) : ∀ (m : Nat → Int32) (j k : Nat), (az_vals z0 rs m j).set k (.ref (z0 + q)) = az_vals z0 (az_sub rs k (some (some q))) m j := by
  induction rs with
  | nil => intro m j k; rfl
  | cons o r ih =>
    intro m j k
    rw [az_vals_cons]
    cases k with
    | zero => rfl
    | succ k =>
      rw [List.set_cons_succ, ih]
      show _ = az_vals z0 (o :: az_sub r k (some (some q))) m j
      rw [az_vals_cons]
def az_rf (z0 : Nat) (rs : List (Option (Option Nat))) (j : Nat) : Option Nat := match az_nth rs j with
  | some (some (some q)) => some (z0 + q)
  | _ => none
theorem az_rf_rv (z0 : Nat) (rs : List (Option (Option Nat))) (j : Nat) : va_rf (az_rf z0 rs j) = az_sv z0 (az_rv (az_nth rs j)) := by
  unfold az_rf
  rcases az_nth rs j with _ | _ | _ | q <;> rfl
def az_AR (U : State) (cA : ClassId) (ty : FieldType) : Prop := ArrOfT U cA ty ∧ va_RA U cA ty
theorem az_AR.moved {u U : State} (hvm : u.vm.Alike U.vm) {cA : ClassId} {ty : FieldType} (h : az_AR u cA ty) : az_AR U cA ty := ⟨arrOfT_moved hvm h.1, h.2.moved hvm⟩
def az_e (U : State) (z0 : Nat) (sh : az_Sh) (m : Nat → Int32) (e : va_E) : Prop :=
  (sh.1 < 9 ∧ e = .inr (sh.1, az_vals z0 sh.2.2 m 0)) ∨
  (sh.1 = 9 ∧ ∃ cA, e = .inl (cA, sh.2.1, .inl m) ∧ az_AR U cA .int) ∨
  (sh.1 = 10 ∧ ∃ cA, e = .inl (cA, sh.2.1, .inl m) ∧ az_AR U cA .boolean) ∨
  (sh.1 = 11 ∧ ∃ cA, e = .inl (cA, sh.2.1, .inr (.inr (.inr (.inr (az_rf z0 sh.2.2))))) ∧ az_AR U cA (.object "CaravanZones$World"))
theorem az_e.moved {u U : State} (hvm : u.vm.Alike U.vm) {z0 : Nat} {sh : az_Sh} {m : Nat → Int32} {e : va_E} (h : az_e u z0 sh m e) : az_e U z0 sh m e := by
  rcases h with h | ⟨h1, cA, h2, h3⟩ | ⟨h1, cA, h2, h3⟩ | ⟨h1, cA, h2, h3⟩
  · exact Or.inl h
  · exact Or.inr (Or.inl ⟨h1, cA, h2, h3.moved hvm⟩)
  · exact Or.inr (Or.inr (Or.inl ⟨h1, cA, h2, h3.moved hvm⟩))
  · exact Or.inr (Or.inr (Or.inr ⟨h1, cA, h2, h3.moved hvm⟩))
def az_HR (U : State) (D : va_G) (z0 : Nat) (h : az_H) (H : Heap) : Prop := H.size = z0 + h.1 ∧ (∀ k, (h.2.1 k).1 ≤ 11 → k < h.1) ∧ ∀ k, k < h.1 → ∃ e, az_e U z0 (h.2.1 k) (h.2.2.1 k) e ∧ va_at D vwCl (z0 + k, e) H
theorem az_HR.moved {u U : State} (hvm : u.vm.Alike U.vm) {D : va_G} {z0 : Nat} {h : az_H} {H : Heap} (hh : az_HR u D z0 h H) : az_HR U D z0 h H := ⟨hh.1, hh.2.1, fun k hk => by
  obtain ⟨e, h1, h2⟩ := hh.2.2 k hk
  exact ⟨e, h1.moved hvm, h2⟩⟩
theorem az_HR.put {U : State} {D : va_G} {z0 hz hw hw' q : Nat} {hS hS' : Nat → az_Sh} {hM hM' : Nat → Nat → Int32} {H H1 : Heap} {e : va_E} (h : az_HR U D z0 (hz, hS, hM, hw) H) (hq : q < hz) (hs : ∀ k, k ≠ q → hS' k = hS k) (hm : ∀ k, k ≠ q → hM' k = hM k) (he : az_e U z0 (hS' q) (hM' q) e) (hat : va_at D vwCl (z0 + q, e) H1) (hsz : H1.size = H.size) (ho : ∀ x : Nat, x ≠ z0 + q → H1[x]? = H[x]?) : az_HR U D z0 (hz, hS', hM', hw') H1 := by
  refine ⟨hsz.trans h.1, fun k hk => ?_, fun k hk => ?_⟩
  · by_cases e1 : k = q
    · rw [e1]; exact hq
    · exact h.2.1 k (by show (hS k).1 ≤ 11; rw [← hs k e1]; exact hk)
  · by_cases e1 : k = q
    · subst e1
      exact ⟨e, he, hat⟩
    · obtain ⟨e2, g1, g2⟩ := h.2.2 k hk
      refine ⟨e2, ?_, g2.kept (ho _ (show z0 + k ≠ z0 + q by omega))⟩
      show az_e U z0 (hS' k) (hM' k) e2
      rw [hs k e1, hm k e1]
      exact g1
theorem az_HR.push {U : State} {D : va_G} {z0 hz hw hw' : Nat} {hS hS' : Nat → az_Sh} {hM hM' : Nat → Nat → Int32} {H H1 : Heap} {e : va_E} (h : az_HR U D z0 (hz, hS, hM, hw) H) (hs : ∀ k, k ≠ hz → hS' k = hS k) (hm : ∀ k, k ≠ hz → hM' k = hM k) (he : az_e U z0 (hS' hz) (hM' hz) e) (hat : va_at D vwCl (z0 + hz, e) H1) (hsz : H1.size = H.size + 1) (ho : ∀ x : Nat, x < H.size → H1[x]? = H[x]?) : az_HR U D z0 (hz + 1, hS', hM', hw') H1 := by
  have hz0 : H.size = z0 + hz := h.1
  refine ⟨by rw [hsz, hz0]; rfl, fun k hk => ?_, fun k hk => ?_⟩
  · by_cases e1 : k = hz
    · rw [e1]; exact Nat.lt_succ_self _
    · exact Nat.lt_succ_of_lt (h.2.1 k (by show (hS k).1 ≤ 11; rw [← hs k e1]; exact hk))
  · by_cases e1 : k = hz
    · subst e1
      exact ⟨e, he, hat⟩
    · have hk' : k < hz := by have : k < hz + 1 := hk; omega
      obtain ⟨e2, g1, g2⟩ := h.2.2 k hk'
      refine ⟨e2, ?_, g2.kept (ho _ (show z0 + k < H.size by omega))⟩
      show az_e U z0 (hS' k) (hM' k) e2
      rw [hs k e1, hm k e1]
      exact g1
/-- an object's cell, by its kind -/
theorem az_HR.obj {U : State} {D : va_G} {z0 hz hw q b ln : Nat} {hS : Nat → az_Sh} {hM : Nat → Nat → Int32} {rs : List (Option (Option Nat))} {H : Heap} (h : az_HR U D z0 (hz, hS, hM, hw) H) (hs : hS q = (b, ln, rs)) (hb : b < 9) : q < hz ∧ va_at D vwCl (z0 + q, .inr (b, az_vals z0 rs (hM q) 0)) H := by
  have hq : q < hz := h.2.1 q (by show (hS q).1 ≤ 11; rw [hs]; show b ≤ 11; omega)
  obtain ⟨e, g1, g2⟩ := h.2.2 q hq
  have g1 : az_e U z0 (hS q) (hM q) e := g1
  rw [hs] at g1
  rcases g1 with ⟨_, g1⟩ | ⟨g1, _⟩ | ⟨g1, _⟩ | ⟨g1, _⟩
  · rw [g1] at g2; exact ⟨hq, g2⟩
  · exact absurd (show b = 9 from g1) (by omega)
  · exact absurd (show b = 10 from g1) (by omega)
  · exact absurd (show b = 11 from g1) (by omega)
theorem az_HR.ari {U : State} {D : va_G} {z0 hz hw q ln : Nat} {hS : Nat → az_Sh} {hM : Nat → Nat → Int32} {rs : List (Option (Option Nat))} {H : Heap} (h : az_HR U D z0 (hz, hS, hM, hw) H) (hs : hS q = (9, ln, rs)) : q < hz ∧ ∃ cA, va_at D vwCl (z0 + q, .inl (cA, ln, .inl (hM q))) H ∧ az_AR U cA .int := by
  have hq : q < hz := h.2.1 q (by show (hS q).1 ≤ 11; rw [hs]; show 9 ≤ 11; omega)
  obtain ⟨e, g1, g2⟩ := h.2.2 q hq
  have g1 : az_e U z0 (hS q) (hM q) e := g1
  rw [hs] at g1
  rcases g1 with ⟨g1, _⟩ | ⟨_, cA, g1, g3⟩ | ⟨g1, _⟩ | ⟨g1, _⟩
  · exact absurd (show 9 < 9 from g1) (by omega)
  · rw [g1] at g2; exact ⟨hq, cA, g2, g3⟩
  · exact absurd (show 9 = 10 from g1) (by omega)
  · exact absurd (show 9 = 11 from g1) (by omega)
theorem az_HR.arz {U : State} {D : va_G} {z0 hz hw q ln : Nat} {hS : Nat → az_Sh} {hM : Nat → Nat → Int32} {rs : List (Option (Option Nat))} {H : Heap} (h : az_HR U D z0 (hz, hS, hM, hw) H) (hs : hS q = (10, ln, rs)) : q < hz ∧ ∃ cA, va_at D vwCl (z0 + q, .inl (cA, ln, .inl (hM q))) H ∧ az_AR U cA .boolean := by
  have hq : q < hz := h.2.1 q (by show (hS q).1 ≤ 11; rw [hs]; show 10 ≤ 11; omega)
  obtain ⟨e, g1, g2⟩ := h.2.2 q hq
  have g1 : az_e U z0 (hS q) (hM q) e := g1
  rw [hs] at g1
  rcases g1 with ⟨g1, _⟩ | ⟨g1, _⟩ | ⟨_, cA, g1, g3⟩ | ⟨g1, _⟩
  · exact absurd (show 10 < 9 from g1) (by omega)
  · exact absurd (show 10 = 9 from g1) (by omega)
  · rw [g1] at g2; exact ⟨hq, cA, g2, g3⟩
  · exact absurd (show 10 = 11 from g1) (by omega)
theorem az_HR.arr {U : State} {D : va_G} {z0 hz hw q ln : Nat} {hS : Nat → az_Sh} {hM : Nat → Nat → Int32} {rs : List (Option (Option Nat))} {H : Heap} (h : az_HR U D z0 (hz, hS, hM, hw) H) (hs : hS q = (11, ln, rs)) : q < hz ∧ ∃ cA, va_at D vwCl (z0 + q, .inl (cA, ln, .inr (.inr (.inr (.inr (az_rf z0 rs)))))) H ∧ az_AR U cA (.object "CaravanZones$World") := by
  have hq : q < hz := h.2.1 q (by show (hS q).1 ≤ 11; rw [hs]; show 11 ≤ 11; omega)
  obtain ⟨e, g1, g2⟩ := h.2.2 q hq
  have g1 : az_e U z0 (hS q) (hM q) e := g1
  rw [hs] at g1
  rcases g1 with ⟨g1, _⟩ | ⟨g1, _⟩ | ⟨g1, _⟩ | ⟨_, cA, g1, g3⟩
  · exact absurd (show 11 < 9 from g1) (by omega)
  · exact absurd (show 11 = 9 from g1) (by omega)
  · exact absurd (show 11 = 10 from g1) (by omega)
  · rw [g1] at g2; exact ⟨hq, cA, g2, g3⟩
theorem az_P1 {D : va_G} {q : Nat × va_E} {H : Heap} (h : va_at D vwCl q H) : va_P D vwCl [q] H := by
  intro k x hx
  cases k with
  | zero => cases hx; exact h
  | succ k => simp at hx
theorem az_K1 {D : va_G} {cA : ClassId} {ty : FieldType} {U : State} (hK : va_K D vwCl [] U) (h : az_AR U cA ty) : va_K D vwCl [(cA, ty)] U := by
  refine ⟨hK.1, fun k x hx => ?_⟩
  cases k with
  | zero => cases hx; exact h
  | succ k => simp at hx
/-- the words of nest mates, and the rows of World -/
def az_isN : Cond → Bool
  | .fieldLinkNest _ _ _ _ _ _ => true
  | .methodLinkNest _ _ _ _ => true
  | _ => false
def az_TB (U : State) : Prop := (∀ w ∈ tables_1, az_isN w = true → va_Nw w U) ∧ va_AO "CaravanZones$World" U
theorem az_TB.warm {s U : State} (hW : s.WarmedH U.vm) (h : az_TB s) : az_TB U := by
  refine ⟨fun w hw hn => ?_, h.2.moved hW.alike⟩
  have h1 := h.1 w hw hn
  cases w <;> first | cases hn | exact h1.warmF hW | exact h1.warmM hW | skip
  · exact va_Nw.warmM hW h1
  · exact va_Nw.warmF hW h1
theorem az_Wgood : ∀ w ∈ az_W, goodWord w = true := by
  intro w hw
  rcases List.mem_append.mp hw with h | h
  · obtain ⟨q, -, rfl⟩ := List.mem_map.mp h
    rfl
  · exact (List.mem_filter.mp h).2
