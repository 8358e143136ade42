/-! WHAT HOLDS BEHIND BOTH CONSTRUCTORS -/
section INI
variable {M : az_Mem}
theorem zi_at (h : zi_ckM M = true) {c n k : Nat} (hc : (c, n) ∈ zi_ck) (hk : k < n) : M c k = zi_e0 c k := by
  have h1 := List.all_eq_true.mp h (c, n) hc
  have h2 := List.all_eq_true.mp h1 k (List.mem_range.mpr hk)
  exact of_decide_eq_true h2
theorem zi_RR (h : zi_ckM M = true) : RR M (M 193) := by
  have r : ∀ k, k < 411 → M 193 k = zi_e0 193 k := fun k hk => zi_at h (by decide) hk
  have e193 : ∀ k, zi_e0 193 k = if k = 0 then 4 else if k = 1 then 6 else if k = 3 then 60 else if k = 4 then 60 else if k = 5 then 3 else if k = 6 then 3 else if k = 22 then 1 else 0 := fun k => rfl
  have z193 : ∀ k, k ≠ 0 → k ≠ 1 → k ≠ 3 → k ≠ 4 → k ≠ 5 → k ≠ 6 → k ≠ 22 → zi_e0 193 k = 0 := fun k a1 a2 a3 a4 a5 a6 a7 => by
    rw [e193, if_neg a1, if_neg a2, if_neg a3, if_neg a4, if_neg a5, if_neg a6, if_neg a7]
  refine RR.mk ?_ ?_ ?_ ?_ ?_ ?_ ?_ ?_ ?_ ?_ ?_ ?_ ?_ (fun i hi => ?_) (fun i hi => ?_) (fun i hi => ?_) (fun i hi => ?_) (fun i hi => ?_) (fun i hi => ?_) (fun i hi => ?_) (fun i hi => ?_) (fun i hi => ?_) (fun i hi => ?_) (fun i hi => ?_) (fun i hi => ?_)
  all_goals rw [r _ (by omega)]
  · rw [zi_at h (c := 2) (n := 4) (by decide) (by decide)]; rfl
  · rw [zi_at h (c := 2) (n := 4) (by decide) (by decide)]; rfl
  · rw [zi_at h (c := 24) (n := 8) (by decide) (by decide)]; rfl
  · rw [zi_at h (c := 24) (n := 8) (by decide) (by decide)]; rfl
  · rw [zi_at h (c := 24) (n := 8) (by decide) (by decide)]; rfl
  · rw [zi_at h (c := 24) (n := 8) (by decide) (by decide)]; rfl
  · rw [zi_at h (c := 17) (n := 1) (by decide) (by decide)]; rfl
  · rw [zi_at h (c := 2) (n := 4) (by decide) (by decide)]; rfl
  · rw [zi_at h (c := 24) (n := 8) (by decide) (by decide)]; rfl
  · rw [zi_at h (c := 24) (n := 8) (by decide) (by decide)]; rfl
  · rw [zi_at h (c := 2) (n := 4) (by decide) (by decide)]; rfl
  · rw [zi_at h (c := 24) (n := 8) (by decide) (by decide)]; rfl
  · rw [zi_at h (c := 24) (n := 8) (by decide) (by decide)]; rfl
  · rw [zi_at h (c := 26) (n := 6) (by decide) hi, z193 _ (by omega) (by omega) (by omega) (by omega) (by omega) (by omega) (by omega)]; rfl
  · rw [zi_at h (c := 4) (n := 8) (by decide) hi, z193 _ (by omega) (by omega) (by omega) (by omega) (by omega) (by omega) (by omega)]; rfl
  · rw [zi_at h (c := 8) (n := 8) (by decide) hi, z193 _ (by omega) (by omega) (by omega) (by omega) (by omega) (by omega) (by omega)]; rfl
  · rw [zi_at h (c := 6) (n := 8) (by decide) hi, z193 _ (by omega) (by omega) (by omega) (by omega) (by omega) (by omega) (by omega)]; rfl
  · rw [zi_at h (c := 10) (n := 8) (by decide) hi]
    by_cases q : i = 0
    · subst q; rfl
    · rw [z193 _ (by omega) (by omega) (by omega) (by omega) (by omega) (by omega) (by omega)]
      show 0 = (if i = 0 then (1 : Int32) else 0)
      rw [if_neg q]
  · rw [zi_at h (c := 12) (n := 8) (by decide) hi, z193 _ (by omega) (by omega) (by omega) (by omega) (by omega) (by omega) (by omega)]; rfl
  · rw [zi_at h (c := 14) (n := 96) (by decide) hi, z193 _ (by omega) (by omega) (by omega) (by omega) (by omega) (by omega) (by omega)]; rfl
  · rw [zi_at h (c := 16) (n := 96) (by decide) hi, z193 _ (by omega) (by omega) (by omega) (by omega) (by omega) (by omega) (by omega)]; rfl
  · rw [zi_at h (c := 19) (n := 40) (by decide) hi, z193 _ (by omega) (by omega) (by omega) (by omega) (by omega) (by omega) (by omega)]; rfl
  · rw [zi_at h (c := 23) (n := 40) (by decide) hi, z193 _ (by omega) (by omega) (by omega) (by omega) (by omega) (by omega) (by omega)]; rfl
  · rw [zi_at h (c := 21) (n := 40) (by decide) hi, z193 _ (by omega) (by omega) (by omega) (by omega) (by omega) (by omega) (by omega)]
    show (0 : Int32) = 0 / 12
    decide
  · rw [zi_at h (c := 21) (n := 40) (by decide) hi, z193 _ (by omega) (by omega) (by omega) (by omega) (by omega) (by omega) (by omega)]
    show (0 : Int32) = 0 - 0 / 12 * 12
    decide
theorem zi_IW (h : zi_ckM M = true) : IW M := by
  have g : ∀ {c n : Nat}, (c, n) ∈ zi_ck → ∀ {k : Nat}, k < n → M c k = zi_e0 c k := fun hc _ hk => zi_at h hc hk
  refine IW.mk ⟨4, 0, g (n := 4) (by decide) (by decide), g (n := 8) (by decide) (by decide), by omega, by omega, by omega⟩ ⟨6, g (n := 4) (by decide) (by decide), by omega, by omega, fun z hz => ⟨0, g (n := 8) (by decide) hz, by omega, fun _ => by omega⟩⟩ (fun z hz => Or.inl (g (n := 8) (by decide) hz)) (fun z hz => ?_) (fun k hk => ⟨0, by omega, g (n := 96) (by decide) hk⟩) (fun k hk => ⟨0, by omega, g (n := 40) (by decide) hk⟩) (fun k hk => ⟨0, by omega, g (n := 40) (by decide) hk⟩) ⟨60, 60, g (n := 8) (by decide) (by decide), g (n := 8) (by decide) (by decide), by omega, by omega⟩ ⟨0, 3, g (n := 8) (by decide) (by decide), g (n := 8) (by decide) (by decide), by omega, by omega, fun i hi => absurd hi (by omega), fun i j hi => absurd hi (by omega), fun k hk q => ?_⟩
  · rw [g (c := 10) (n := 8) (by decide) hz]
    show (if z = 0 then (1 : Int32) else 0) = 0 ∨ (if z = 0 then (1 : Int32) else 0) = 1
    by_cases q : z = 0
    · rw [if_pos q]; exact Or.inr rfl
    · rw [if_neg q]; exact Or.inl rfl
  · rw [g (c := 19) (n := 40) (by decide) hk] at q
    exact absurd q (show ¬ (0 : Int32) = 2 by decide)
theorem zi_INV (h : zi_ckM M = true) : INV M := by
  have g : ∀ {c n : Nat}, (c, n) ∈ zi_ck → ∀ {k : Nat}, k < n → M c k = zi_e0 c k := fun hc _ hk => zi_at h hc hk
  refine ⟨zi_RR h, zi_IW h, Or.inl ⟨g (n := 6) (by decide) (by decide), g (n := 13) (by decide) (by decide)⟩, ⟨3, 0, by omega, by omega, g (n := 3) (by decide) (by decide), g (n := 3) (by decide) (by decide), g (n := 13) (by decide) (by decide), fun j hj => absurd hj (by omega)⟩, ⟨0, by omega, g (n := 5) (by decide) (by decide), g (n := 13) (by decide) (by decide), fun i hi => absurd hi (by omega)⟩⟩
/-- what both constructors come to -/
theorem zi_both : ∃ (h1 h2 : az_H), az_ev 7 100000 m_X8_init [.ref 0] zi_h00 = some (none, h1) ∧ h1.1 = 192 ∧ h1.2.2.2 ≤ 6000 ∧ az_ev 7 100000 m_X9_init [.ref 192] (zi_nx h1) = some (none, h2) ∧ h2.1 = 200 ∧ h2.2.2.2 ≤ 6000 ∧ (∀ k, k < 200 → h2.2.1 k = az_shp k) ∧ INV h2.2.2.1 := by
  have t := zi_okI_t
  unfold zi_okI at t
  split at t
  · next h1 h2 e1 e2 =>
    unfold zi_o2 at e2
    rw [e1] at e2
    simp only [Bool.and_eq_true] at t
    obtain ⟨⟨⟨⟨⟨t1, t2⟩, t3⟩, t4⟩, t5⟩, t6⟩ := t
    refine ⟨h1, h2, e1, Nat.eq_of_beq_eq_true t1, Nat.le_of_ble_eq_true t2, e2, Nat.eq_of_beq_eq_true t3, Nat.le_of_ble_eq_true t4, fun k hk => ?_, zi_INV t6⟩
    have q := List.all_eq_true.mp t5 k (List.mem_range.mpr hk)
    unfold zi_shEq at q
    simp only [Bool.and_eq_true] at q
    obtain ⟨⟨q1, q2⟩, q3⟩ := q
    exact Prod.ext (Nat.eq_of_beq_eq_true q1) (Prod.ext (Nat.eq_of_beq_eq_true q2) (of_decide_eq_true q3))
  · cases t
/-- the shapes may be told by az_shp -/
theorem zi_HR {U : State} {D : va_G} {z0 : Nat} {h : az_H} {H : Heap} (hH : az_HR U D z0 h H) (h1 : h.1 = 200) (hs : ∀ k, k < 200 → h.2.1 k = az_shp k) : az_HR U D z0 (az_hp h.2.2.1) H := by
  obtain ⟨a, b, c⟩ := hH
  refine ⟨by rw [a, h1], fun k hk => ?_, fun k hk => ?_⟩
  · by_cases q : k < 200
    · exact q
    · exfalso
      have e : az_shp k = (99, 0, []) := by
        unfold az_shp
        rw [show Nat.ble 200 k = true from Nat.ble_eq.mpr (by omega)]
        rfl
      have hk : (az_shp k).1 ≤ 11 := hk
      rw [e] at hk
      exact absurd hk (by decide)
  · have hk : k < 200 := hk
    have q := c k (by omega)
    rw [hs k hk] at q
    exact q
end INI
