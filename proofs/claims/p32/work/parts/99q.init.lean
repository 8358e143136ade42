/-! BEHIND THE CONSTRUCTOR, by closed evaluation -/
def zi_none : Nat → az_Sh := fun _ => (99, 0, [])
def zi_h00 : az_H := (1, az_put zi_none 0 (7, 0, az_dflt 7), az_put (fun _ _ => 0) 0 (fun _ => 0), 6)
def zi_shEq (a b : az_Sh) : Bool := Nat.beq a.1 b.1 && Nat.beq a.2.1 b.2.1 && decide (a.2.2 = b.2.2)
def zi_e0 (c k : Nat) : Int32 :=
  if c = 2 then (if k = 0 then 4 else if k = 1 then 6 else 0)
  else if c = 10 then (if k = 0 then 1 else 0)
  else if c = 17 then 3
  else if c = 24 then (if k = 1 then 60 else if k = 2 then 60 else if k = 3 then 3 else 0)
  else if c = 79 then (if k = 1 then 3 else 0)
  else 0
def zi_ck : List (Nat × Nat) := [(2, 4), (4, 8), (6, 8), (8, 8), (10, 8), (12, 8), (14, 96), (16, 96), (17, 1), (19, 40), (21, 40), (23, 40), (24, 8), (26, 6), (79, 3)]
def zi_ckM (M : az_Mem) : Bool := zi_ck.all (fun q => (List.range q.2).all (fun k => decide (M q.1 k = zi_e0 q.1 k)))
def zi_o1 : Option az_R := az_ev 7 100000 m_X8_init [.ref 0] zi_h00
def zi_okI : Bool := match zi_o1 with
  | some (none, h1) => Nat.beq h1.1 192 && Nat.ble h1.2.2.2 6000 && (List.range 192).all (fun k => zi_shEq (h1.2.1 k) (az_shp k)) && zi_ckM h1.2.2.1
  | _ => false
theorem zi_okI_t : zi_okI = true := by decide +kernel
section INI
variable {M : az_Mem}
theorem zi_at (h : zi_ckM M = true) {c n k : Nat} (hc : (c, n) ∈ zi_ck) (hk : k < n) : M c k = zi_e0 c k := by
  have h1 := List.all_eq_true.mp h (c, n) hc
  have h2 := List.all_eq_true.mp h1 k (List.mem_range.mpr hk)
  exact of_decide_eq_true h2
theorem zi_ev : ∃ h1 : az_H, az_ev 7 100000 m_X8_init [.ref 0] zi_h00 = some (none, h1) ∧ h1.1 = 192 ∧ h1.2.2.2 ≤ 6000 ∧ (∀ k, k < 192 → h1.2.1 k = az_shp k) ∧ zi_ckM h1.2.2.1 = true := by
  have t := zi_okI_t
  unfold zi_okI at t
  split at t
  · next h1 e1 =>
    simp only [Bool.and_eq_true] at t
    obtain ⟨⟨⟨t1, t2⟩, t3⟩, t4⟩ := t
    refine ⟨h1, e1, Nat.eq_of_beq_eq_true t1, Nat.le_of_ble_eq_true t2, fun k hk => ?_, t4⟩
    have q := List.all_eq_true.mp t3 k (List.mem_range.mpr hk)
    unfold zi_shEq at q
    simp only [Bool.and_eq_true] at q
    obtain ⟨⟨q1, q2⟩, q3⟩ := q
    exact Prod.ext (Nat.eq_of_beq_eq_true q1) (Prod.ext (Nat.eq_of_beq_eq_true q2) (of_decide_eq_true q3))
  · cases t
/-- the shapes may be told by az_shp -/
theorem zi_HR {U : State} {D : va_G} {z0 : Nat} {h : az_H} {H : Heap} (hH : az_HR U D z0 h H) (h1 : h.1 = 196) (hs : ∀ k, k < 196 → h.2.1 k = az_shp k) : az_HR U D z0 (az_hp h.2.2.1) H := by
  obtain ⟨a, b, c⟩ := hH
  refine ⟨by rw [a, h1], fun k hk => ?_, fun k hk => ?_⟩
  · by_cases q : k < 196
    · exact q
    · exfalso
      have e : az_shp k = (99, 0, []) := by
        unfold az_shp
        rw [show Nat.ble 196 k = true from Nat.ble_eq.mpr (by omega)]
        rfl
      have hk : (az_shp k).1 ≤ 11 := hk
      rw [e] at hk
      exact absurd hk (by decide)
  · have hk : k < 196 := hk
    have q := c k (by omega)
    rw [hs k hk] at q
    exact q
/-- the law's four rows, made and set -/
def zi_m4 (M : az_Mem) : az_Mem := az_put (az_put (az_put (az_put M 192 (fun _ => 0)) 193 (fun _ => 0)) 194 (fun _ => 0)) 195 (fun _ => 0)
def zi_m5 (M : az_Mem) : az_Mem := az_up (az_up (az_up (az_up (az_up (az_up (az_up (zi_m4 M) 192 0 4) 192 1 6) 192 3 60) 192 4 60) 192 5 3) 192 6 3) 193 3 1
theorem zi_m5lo {c : Nat} (hc : c < 192) : zi_m5 M c = M c := by
  unfold zi_m5 zi_m4
  rw [az_up_row (by omega), az_up_row (by omega), az_up_row (by omega), az_up_row (by omega), az_up_row (by omega), az_up_row (by omega), az_up_row (by omega)]
  unfold az_put
  rw [if_neg (by omega), if_neg (by omega), if_neg (by omega), if_neg (by omega)]
theorem zi_IW (h : zi_ckM M = true) : IW M := by
  have g : ∀ {c n : Nat}, (c, n) ∈ zi_ck → ∀ {k : Nat}, k < n → M c k = zi_e0 c k := fun hc _ hk => zi_at h hc hk
  refine IW.mk ⟨4, 0, g (n := 4) (by decide) (by decide), g (n := 8) (by decide) (by decide), by omega, by omega, by omega⟩ ⟨6, g (n := 4) (by decide) (by decide), by omega, by omega, fun z hz => ⟨0, g (n := 8) (by decide) hz, by omega, fun _ => by omega⟩⟩ (fun z hz => Or.inl (g (n := 8) (by decide) hz)) (fun z hz => ?_) (fun k hk => ⟨0, by omega, g (n := 96) (by decide) hk⟩) (fun k hk => ⟨0, by omega, g (n := 40) (by decide) hk⟩) (fun k hk => ⟨0, by omega, g (n := 40) (by decide) hk⟩) ⟨60, 60, g (n := 8) (by decide) (by decide), g (n := 8) (by decide) (by decide), by omega, by omega⟩ ⟨0, 3, g (n := 8) (by decide) (by decide), g (n := 8) (by decide) (by decide), by omega, by omega, fun i hi => absurd hi (by omega), fun i j hi => absurd hi (by omega), fun k hk q => ?_⟩
  · rw [g (c := 10) (n := 8) (by decide) hz]
    show (if z = 0 then (1 : Int32) else 0) = 0 ∨ (if z = 0 then (1 : Int32) else 0) = 1
    by_cases q : z = 0
    · rw [if_pos q]; exact Or.inr rfl
    · rw [if_neg q]; exact Or.inl rfl
  · rw [g (c := 19) (n := 40) (by decide) hk] at q
    exact absurd q (show ¬ (0 : Int32) = 2 by decide)
theorem zi_LX (h : zi_ckM M = true) : LX M := by
  have g : ∀ {c n : Nat}, (c, n) ∈ zi_ck → ∀ {k : Nat}, k < n → M c k = zi_e0 c k := fun hc _ hk => zi_at h hc hk
  exact ⟨⟨4, g (n := 4) (by decide) (by decide), by omega⟩, ⟨6, g (n := 4) (by decide) (by decide), by omega⟩, ⟨3, g (n := 1) (by decide) (by decide), by omega, by omega⟩, fun z hz => Or.inl (g (n := 8) (by decide) hz), fun c hc => ⟨0, by omega, g (n := 96) (by decide) hc⟩, fun l hl => ⟨0, 0, by omega, by omega, g (n := 40) (by decide) hl⟩, fun l _ hl => ⟨g (n := 40) (by decide) hl, g (n := 40) (by decide) hl⟩, fun l hl => Or.inl (g (n := 40) (by decide) hl)⟩
theorem zi_LR (h : zi_ckM M = true) : LR M (zi_m5 M) := by
  have g : ∀ {c n : Nat}, (c, n) ∈ zi_ck → ∀ {k : Nat}, k < n → M c k = zi_e0 c k := fun hc _ hk => zi_at h hc hk
  have z4 : ∀ j, zi_m5 M 194 j = 0 := fun j => by
    unfold zi_m5 zi_m4
    rw [az_up_row (by decide), az_up_row (by decide), az_up_row (by decide), az_up_row (by decide), az_up_row (by decide), az_up_row (by decide), az_up_row (by decide)]
    rfl
  have z5 : ∀ j, zi_m5 M 195 j = 0 := fun j => by
    unfold zi_m5 zi_m4
    rw [az_up_row (by decide), az_up_row (by decide), az_up_row (by decide), az_up_row (by decide), az_up_row (by decide), az_up_row (by decide), az_up_row (by decide)]
    rfl
  refine ⟨fun a k hd => ?_, fun l hl => ?_⟩
  · rcases hd with ⟨rfl, h⟩ | ⟨rfl, h⟩ | ⟨rfl, rfl⟩ | ⟨rfl, h⟩ | ⟨h1, h⟩ | ⟨h1, h, h2⟩ | ⟨h1, h⟩
    · rw [g (c := 2) (n := 4) (by decide) h]
      rcases (show k = 0 ∨ k = 1 ∨ k = 2 ∨ k = 3 by omega) with rfl | rfl | rfl | rfl <;> rfl
    · rw [g (c := 24) (n := 8) (by decide) h]
      rcases (show k = 0 ∨ k = 1 ∨ k = 2 ∨ k = 3 ∨ k = 4 ∨ k = 5 ∨ k = 6 ∨ k = 7 by omega) with rfl | rfl | rfl | rfl | rfl | rfl | rfl | rfl <;> rfl
    · rw [g (c := 17) (n := 1) (by decide) (by decide)]
      rfl
    · rw [g (c := 26) (n := 6) (by decide) h]
      rcases (show k = 0 ∨ k = 1 ∨ k = 2 ∨ k = 3 ∨ k = 4 ∨ k = 5 by omega) with rfl | rfl | rfl | rfl | rfl | rfl <;> rfl
    · rcases h1 with rfl | rfl | rfl | rfl | rfl
      · rw [g (c := 4) (n := 8) (by decide) (by omega)]
        rcases (show k = 0 ∨ k = 1 ∨ k = 2 ∨ k = 3 by omega) with rfl | rfl | rfl | rfl <;> rfl
      · rw [g (c := 8) (n := 8) (by decide) (by omega)]
        rcases (show k = 0 ∨ k = 1 ∨ k = 2 ∨ k = 3 by omega) with rfl | rfl | rfl | rfl <;> rfl
      · rw [g (c := 6) (n := 8) (by decide) (by omega)]
        rcases (show k = 0 ∨ k = 1 ∨ k = 2 ∨ k = 3 by omega) with rfl | rfl | rfl | rfl <;> rfl
      · rw [g (c := 10) (n := 8) (by decide) (by omega)]
        rcases (show k = 0 ∨ k = 1 ∨ k = 2 ∨ k = 3 by omega) with rfl | rfl | rfl | rfl <;> rfl
      · rw [g (c := 12) (n := 8) (by decide) (by omega)]
        rcases (show k = 0 ∨ k = 1 ∨ k = 2 ∨ k = 3 by omega) with rfl | rfl | rfl | rfl <;> rfl
    · rcases h1 with rfl | rfl
      · rw [g (c := 14) (n := 96) (by decide) (by omega)]
        exact z4 _
      · rw [g (c := 16) (n := 96) (by decide) (by omega)]
        exact z4 _
    · rcases h1 with rfl | rfl
      · rw [g (c := 19) (n := 40) (by decide) (by omega)]
        exact z5 _
      · rw [g (c := 23) (n := 40) (by decide) (by omega)]
        exact z5 _
  · rw [g (c := 21) (n := 40) (by decide) (by omega), z5, z5]
    exact ⟨by show (0 : Int32) = 0 / 12; decide, by show (0 : Int32) = 0 - 0 / 12 * 12; decide⟩
theorem zi_INVL (h : zi_ckM M = true) : INVL (zi_m5 M) := by
  have e : sW M (zi_m5 M) := sW.row (fun c _ h2 => (zi_m5lo (by omega)).symm)
  exact ⟨(zi_LR h).cg e, (zi_IW h).cg e, (zi_LX h).cg e, 3, by rw [zi_m5lo (by decide)]; exact zi_at h (c := 79) (n := 3) (by decide) (by decide), by decide⟩
end INI
