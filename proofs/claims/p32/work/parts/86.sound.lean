/-! SOUND: what the abstract machine comes to is what the machine comes to -/
def az_allI {α : Type} (P : Nat → α → Prop) : List α → Nat → Prop
  | [], _ => True
  | x :: r, i => P i x ∧ az_allI P r (i + 1)
theorem az_allI_get {α : Type} {P : Nat → α → Prop} : ∀ (l : List α) (i k : Nat) (x : α), az_allI P l i → l[k]? = some x → P (i + k) x := by
  intro l
  induction l with
  | nil => intro i k x _ h; simp at h
  | cons y r ih =>
    intro i k x h hx
    cases k with
    | zero => simp at hx; subst hx; exact h.1
    | succ k =>
      have h1 := ih (i + 1) k x h.2 (by simpa using hx)
      rw [show i + 1 + k = i + (k + 1) by omega] at h1
      exact h1
theorem az_allI_app {α : Type} {P : Nat → α → Prop} : ∀ (l l2 : List α) (i : Nat), az_allI P l i → az_allI P l2 (i + l.length) → az_allI P (l ++ l2) i := by
  intro l
  induction l with
  | nil => intro l2 i _ h; exact h
  | cons y r ih =>
    intro l2 i h h2
    exact ⟨h.1, ih l2 (i + 1) h.2 (by rw [show i + 1 + r.length = i + (y :: r).length by simp; omega]; exact h2)⟩
theorem az_pn_RX0 : plainName RX0 = true ∧ (RX0 ≠ "java/lang/invoke/MethodHandle" ∧ RX0 ≠ "java/lang/invoke/VarHandle") := ⟨by decide +kernel, by decide +kernel, by decide +kernel⟩
theorem az_ini_RX0 : Cond.initialized RX0 ∈ tables_1 := az_t1 (List.mem_of_getElem? (i := 7) rfl)
theorem az_pn_RX1 : plainName RX1 = true ∧ (RX1 ≠ "java/lang/invoke/MethodHandle" ∧ RX1 ≠ "java/lang/invoke/VarHandle") := ⟨by decide +kernel, by decide +kernel, by decide +kernel⟩
theorem az_ini_RX1 : Cond.initialized RX1 ∈ tables_1 := az_t1 (List.mem_of_getElem? (i := 8) rfl)
theorem az_pn_RX2 : plainName RX2 = true ∧ (RX2 ≠ "java/lang/invoke/MethodHandle" ∧ RX2 ≠ "java/lang/invoke/VarHandle") := ⟨by decide +kernel, by decide +kernel, by decide +kernel⟩
theorem az_ini_RX2 : Cond.initialized RX2 ∈ tables_1 := az_t1 (List.mem_of_getElem? (i := 6) rfl)
theorem az_pn_RX3 : plainName RX3 = true ∧ (RX3 ≠ "java/lang/invoke/MethodHandle" ∧ RX3 ≠ "java/lang/invoke/VarHandle") := ⟨by decide +kernel, by decide +kernel, by decide +kernel⟩
theorem az_ini_RX3 : Cond.initialized RX3 ∈ tables_1 := az_t1 (List.mem_of_getElem? (i := 9) rfl)
theorem az_pn_RX4 : plainName RX4 = true ∧ (RX4 ≠ "java/lang/invoke/MethodHandle" ∧ RX4 ≠ "java/lang/invoke/VarHandle") := ⟨by decide +kernel, by decide +kernel, by decide +kernel⟩
theorem az_ini_RX4 : Cond.initialized RX4 ∈ tables_1 := az_t1 (List.mem_of_getElem? (i := 3) rfl)
theorem az_pn_RX5 : plainName RX5 = true ∧ (RX5 ≠ "java/lang/invoke/MethodHandle" ∧ RX5 ≠ "java/lang/invoke/VarHandle") := ⟨by decide +kernel, by decide +kernel, by decide +kernel⟩
theorem az_ini_RX5 : Cond.initialized RX5 ∈ tables_1 := az_t1 (List.mem_of_getElem? (i := 4) rfl)
theorem az_pn_RX6 : plainName RX6 = true ∧ (RX6 ≠ "java/lang/invoke/MethodHandle" ∧ RX6 ≠ "java/lang/invoke/VarHandle") := ⟨by decide +kernel, by decide +kernel, by decide +kernel⟩
theorem az_ini_RX6 : Cond.initialized RX6 ∈ tables_1 := az_t1 (List.mem_of_getElem? (i := 10) rfl)
theorem az_pn_RX7 : plainName RX7 = true ∧ (RX7 ≠ "java/lang/invoke/MethodHandle" ∧ RX7 ≠ "java/lang/invoke/VarHandle") := ⟨by decide +kernel, by decide +kernel, by decide +kernel⟩
theorem az_ini_RX7 : Cond.initialized RX7 ∈ tables_1 := az_t1 (List.mem_of_getElem? (i := 2) rfl)
theorem az_pn_RX8 : plainName RX8 = true ∧ (RX8 ≠ "java/lang/invoke/MethodHandle" ∧ RX8 ≠ "java/lang/invoke/VarHandle") := ⟨by decide +kernel, by decide +kernel, by decide +kernel⟩
theorem az_ini_RX8 : Cond.initialized RX8 ∈ tables_1 := az_t1 (List.mem_of_getElem? (i := 1) rfl)
theorem az_pn_RL : plainName RL = true ∧ (RL ≠ "java/lang/invoke/MethodHandle" ∧ RL ≠ "java/lang/invoke/VarHandle") := ⟨by decide +kernel, by decide +kernel, by decide +kernel⟩
theorem az_ini_RL : Cond.initialized RL ∈ tables_1 := az_t1 (List.mem_of_getElem? (i := 0) rfl)
theorem az_p_X0_init : az_midP 0 (yX0_init, cX0_init, 1, none, 0, 4) := ⟨az_t1 (List.mem_of_getElem? (i := 139) rfl), az_ini_RX0, rfl, az_pn_RX0.1, az_pn_RX0.2, by decide, rfl, ⟨fun h => absurd h (by decide), fun h => absurd h (by decide), fun h => absurd h (by decide), fun h => absurd h (by decide), fun _ => rfl⟩, fun _ => rfl, fun p i h => az_k_X0_init p i h⟩
theorem az_p_X0_copyFrom : az_midP 1 (yX0_copyFrom, cX0_copyFrom, 2, none, 0, 0) := ⟨az_t2 (List.mem_of_getElem? (i := 209) rfl), az_ini_RX0, rfl, az_pn_RX0.1, az_pn_RX0.2, by decide, rfl, ⟨fun _ => rfl, fun h => absurd h (by decide), fun h => absurd h (by decide), fun h => absurd h (by decide), fun h => absurd h (by decide)⟩, fun h => absurd h (by decide), fun p i h => az_k_X0_copyFrom p i h⟩
theorem az_p_X0_pay : az_midP 2 (yX0_pay, cX0_pay, 2, some .boolean, 0, 2) := ⟨az_t2 (List.mem_of_getElem? (i := 222) rfl), az_ini_RX0, rfl, az_pn_RX0.1, az_pn_RX0.2, by decide, rfl, ⟨fun h => absurd h (by decide), fun h => absurd h (by decide), fun _ => rfl, fun h => absurd h (by decide), fun h => absurd h (by decide)⟩, fun h => absurd h (by decide), fun p i h => az_k_X0_pay p i h⟩
theorem az_p_X0_fillSkin : az_midP 3 (yX0_fillSkin, cX0_fillSkin, 1, none, 0, 0) := ⟨az_t2 (List.mem_of_getElem? (i := 231) rfl), az_ini_RX0, rfl, az_pn_RX0.1, az_pn_RX0.2, by decide, rfl, ⟨fun _ => rfl, fun h => absurd h (by decide), fun h => absurd h (by decide), fun h => absurd h (by decide), fun h => absurd h (by decide)⟩, fun h => absurd h (by decide), fun p i h => az_k_X0_fillSkin p i h⟩
theorem az_p_X0_resizeSkin : az_midP 4 (yX0_resizeSkin, cX0_resizeSkin, 2, none, 0, 0) := ⟨az_t3 (List.mem_of_getElem? (i := 195) rfl), az_ini_RX0, rfl, az_pn_RX0.1, az_pn_RX0.2, by decide, rfl, ⟨fun _ => rfl, fun h => absurd h (by decide), fun h => absurd h (by decide), fun h => absurd h (by decide), fun h => absurd h (by decide)⟩, fun h => absurd h (by decide), fun p i h => az_k_X0_resizeSkin p i h⟩
theorem az_p_X0_bagSpace : az_midP 5 (yX0_bagSpace, cX0_bagSpace, 1, some .int, 0, 1) := ⟨az_t3 (List.mem_of_getElem? (i := 97) rfl), az_ini_RX0, rfl, az_pn_RX0.1, az_pn_RX0.2, by decide, rfl, ⟨fun h => absurd h (by decide), fun _ => rfl, fun h => absurd h (by decide), fun h => absurd h (by decide), fun h => absurd h (by decide)⟩, fun h => absurd h (by decide), fun p i h => az_k_X0_bagSpace p i h⟩
theorem az_p_X0_pack : az_midP 6 (yX0_pack, cX0_pack, 2, none, 0, 0) := ⟨az_t3 (List.mem_of_getElem? (i := 105) rfl), az_ini_RX0, rfl, az_pn_RX0.1, az_pn_RX0.2, by decide, rfl, ⟨fun _ => rfl, fun h => absurd h (by decide), fun h => absurd h (by decide), fun h => absurd h (by decide), fun h => absurd h (by decide)⟩, fun h => absurd h (by decide), fun p i h => az_k_X0_pack p i h⟩
theorem az_p_X0_unpack : az_midP 7 (yX0_unpack, cX0_unpack, 5, none, 0, 0) := ⟨az_t3 (List.mem_of_getElem? (i := 50) rfl), az_ini_RX0, rfl, az_pn_RX0.1, az_pn_RX0.2, by decide, rfl, ⟨fun _ => rfl, fun h => absurd h (by decide), fun h => absurd h (by decide), fun h => absurd h (by decide), fun h => absurd h (by decide)⟩, fun h => absurd h (by decide), fun p i h => az_k_X0_unpack p i h⟩
theorem az_p_X0_placeOf : az_midP 8 (yX0_placeOf, cX0_placeOf, 3, some .int, 0, 1) := ⟨az_t2 (List.mem_of_getElem? (i := 163) rfl), az_ini_RX0, rfl, az_pn_RX0.1, az_pn_RX0.2, by decide, rfl, ⟨fun h => absurd h (by decide), fun _ => rfl, fun h => absurd h (by decide), fun h => absurd h (by decide), fun h => absurd h (by decide)⟩, fun h => absurd h (by decide), fun p i h => az_k_X0_placeOf p i h⟩
theorem az_p_X1_init : az_midP 9 (yX1_init, cX1_init, 2, none, 1, 4) := ⟨az_t1 (List.mem_of_getElem? (i := 204) rfl), az_ini_RX1, rfl, az_pn_RX1.1, az_pn_RX1.2, by decide, rfl, ⟨fun h => absurd h (by decide), fun h => absurd h (by decide), fun h => absurd h (by decide), fun h => absurd h (by decide), fun _ => rfl⟩, fun _ => rfl, fun p i h => az_k_X1_init p i h⟩
theorem az_p_X1_size : az_midP 10 (yX1_size, cX1_size, 1, some .int, 1, 1) := ⟨az_t2 (List.mem_of_getElem? (i := 100) rfl), az_ini_RX1, rfl, az_pn_RX1.1, az_pn_RX1.2, by decide, rfl, ⟨fun h => absurd h (by decide), fun _ => rfl, fun h => absurd h (by decide), fun h => absurd h (by decide), fun h => absurd h (by decide)⟩, fun h => absurd h (by decide), fun p i h => az_k_X1_size p i h⟩
theorem az_p_X1_stateAt : az_midP 11 (yX1_stateAt, cX1_stateAt, 2, some (.object "CaravanZones$World"), 1, 3) := ⟨az_t3 (List.mem_of_getElem? (i := 6) rfl), az_ini_RX1, rfl, az_pn_RX1.1, az_pn_RX1.2, by decide, rfl, ⟨fun h => absurd h (by decide), fun h => absurd h (by decide), fun h => absurd h (by decide), fun _ => rfl, fun h => absurd h (by decide)⟩, fun h => absurd h (by decide), fun p i h => az_k_X1_stateAt p i h⟩
theorem az_p_X1_remember : az_midP 12 (yX1_remember, cX1_remember, 3, none, 1, 0) := ⟨az_t2 (List.mem_of_getElem? (i := 239) rfl), az_ini_RX1, rfl, az_pn_RX1.1, az_pn_RX1.2, by decide, rfl, ⟨fun _ => rfl, fun h => absurd h (by decide), fun h => absurd h (by decide), fun h => absurd h (by decide), fun h => absurd h (by decide)⟩, fun h => absurd h (by decide), fun p i h => az_k_X1_remember p i h⟩
theorem az_p_X2_init : az_midP 13 (yX2_init, cX2_init, 1, none, 2, 4) := ⟨az_t1 (List.mem_of_getElem? (i := 111) rfl), az_ini_RX2, rfl, az_pn_RX2.1, az_pn_RX2.2, by decide, rfl, ⟨fun h => absurd h (by decide), fun h => absurd h (by decide), fun h => absurd h (by decide), fun h => absurd h (by decide), fun _ => rfl⟩, fun _ => rfl, fun p i h => az_k_X2_init p i h⟩
theorem az_p_X2_copyFrom : az_midP 14 (yX2_copyFrom, cX2_copyFrom, 2, none, 2, 0) := ⟨az_t2 (List.mem_of_getElem? (i := 204) rfl), az_ini_RX2, rfl, az_pn_RX2.1, az_pn_RX2.2, by decide, rfl, ⟨fun _ => rfl, fun h => absurd h (by decide), fun h => absurd h (by decide), fun h => absurd h (by decide), fun h => absurd h (by decide)⟩, fun h => absurd h (by decide), fun p i h => az_k_X2_copyFrom p i h⟩
theorem az_p_X2_isKnown : az_midP 15 (yX2_isKnown, cX2_isKnown, 2, some .boolean, 2, 2) := ⟨az_t2 (List.mem_of_getElem? (i := 151) rfl), az_ini_RX2, rfl, az_pn_RX2.1, az_pn_RX2.2, by decide, rfl, ⟨fun h => absurd h (by decide), fun h => absurd h (by decide), fun _ => rfl, fun h => absurd h (by decide), fun h => absurd h (by decide)⟩, fun h => absurd h (by decide), fun p i h => az_k_X2_isKnown p i h⟩
theorem az_p_X2_isIn : az_midP 16 (yX2_isIn, cX2_isIn, 3, some .boolean, 2, 2) := ⟨az_t2 (List.mem_of_getElem? (i := 158) rfl), az_ini_RX2, rfl, az_pn_RX2.1, az_pn_RX2.2, by decide, rfl, ⟨fun h => absurd h (by decide), fun h => absurd h (by decide), fun _ => rfl, fun h => absurd h (by decide), fun h => absurd h (by decide)⟩, fun h => absurd h (by decide), fun p i h => az_k_X2_isIn p i h⟩
theorem az_p_X2_liesAt : az_midP 17 (yX2_liesAt, cX2_liesAt, 3, some .boolean, 2, 2) := ⟨az_t2 (List.mem_of_getElem? (i := 69) rfl), az_ini_RX2, rfl, az_pn_RX2.1, az_pn_RX2.2, by decide, rfl, ⟨fun h => absurd h (by decide), fun h => absurd h (by decide), fun _ => rfl, fun h => absurd h (by decide), fun h => absurd h (by decide)⟩, fun h => absurd h (by decide), fun p i h => az_k_X2_liesAt p i h⟩
theorem az_p_X2_anyInSlot : az_midP 18 (yX2_anyInSlot, cX2_anyInSlot, 2, some .boolean, 2, 2) := ⟨az_t3 (List.mem_of_getElem? (i := 231) rfl), az_ini_RX2, rfl, az_pn_RX2.1, az_pn_RX2.2, by decide, rfl, ⟨fun h => absurd h (by decide), fun h => absurd h (by decide), fun _ => rfl, fun h => absurd h (by decide), fun h => absurd h (by decide)⟩, fun h => absurd h (by decide), fun p i h => az_k_X2_anyInSlot p i h⟩
theorem az_p_X2_isHot : az_midP 19 (yX2_isHot, cX2_isHot, 2, some .boolean, 2, 2) := ⟨az_t2 (List.mem_of_getElem? (i := 133) rfl), az_ini_RX2, rfl, az_pn_RX2.1, az_pn_RX2.2, by decide, rfl, ⟨fun h => absurd h (by decide), fun h => absurd h (by decide), fun _ => rfl, fun h => absurd h (by decide), fun h => absurd h (by decide)⟩, fun h => absurd h (by decide), fun p i h => az_k_X2_isHot p i h⟩
theorem az_p_X2_hotCount : az_midP 20 (yX2_hotCount, cX2_hotCount, 3, some .int, 2, 1) := ⟨az_t2 (List.mem_of_getElem? (i := 129) rfl), az_ini_RX2, rfl, az_pn_RX2.1, az_pn_RX2.2, by decide, rfl, ⟨fun h => absurd h (by decide), fun _ => rfl, fun h => absurd h (by decide), fun h => absurd h (by decide), fun h => absurd h (by decide)⟩, fun h => absurd h (by decide), fun p i h => az_k_X2_hotCount p i h⟩
theorem az_p_X2_warm : az_midP 21 (yX2_warm, cX2_warm, 2, none, 2, 0) := ⟨az_t3 (List.mem_of_getElem? (i := 29) rfl), az_ini_RX2, rfl, az_pn_RX2.1, az_pn_RX2.2, by decide, rfl, ⟨fun _ => rfl, fun h => absurd h (by decide), fun h => absurd h (by decide), fun h => absurd h (by decide), fun h => absurd h (by decide)⟩, fun h => absurd h (by decide), fun p i h => az_k_X2_warm p i h⟩
theorem az_p_X2_cool : az_midP 22 (yX2_cool, cX2_cool, 2, none, 2, 0) := ⟨az_t3 (List.mem_of_getElem? (i := 216) rfl), az_ini_RX2, rfl, az_pn_RX2.1, az_pn_RX2.2, by decide, rfl, ⟨fun _ => rfl, fun h => absurd h (by decide), fun h => absurd h (by decide), fun h => absurd h (by decide), fun h => absurd h (by decide)⟩, fun h => absurd h (by decide), fun p i h => az_k_X2_cool p i h⟩
theorem az_p_X2_moveToSlot : az_midP 23 (yX2_moveToSlot, cX2_moveToSlot, 3, none, 2, 0) := ⟨az_t3 (List.mem_of_getElem? (i := 60) rfl), az_ini_RX2, rfl, az_pn_RX2.1, az_pn_RX2.2, by decide, rfl, ⟨fun _ => rfl, fun h => absurd h (by decide), fun h => absurd h (by decide), fun h => absurd h (by decide), fun h => absurd h (by decide)⟩, fun h => absurd h (by decide), fun p i h => az_k_X2_moveToSlot p i h⟩
theorem az_p_X2_moveToBag : az_midP 24 (yX2_moveToBag, cX2_moveToBag, 2, none, 2, 0) := ⟨az_t3 (List.mem_of_getElem? (i := 109) rfl), az_ini_RX2, rfl, az_pn_RX2.1, az_pn_RX2.2, by decide, rfl, ⟨fun _ => rfl, fun h => absurd h (by decide), fun h => absurd h (by decide), fun h => absurd h (by decide), fun h => absurd h (by decide)⟩, fun h => absurd h (by decide), fun p i h => az_k_X2_moveToBag p i h⟩
theorem az_p_X2_forget : az_midP 25 (yX2_forget, cX2_forget, 2, none, 2, 0) := ⟨az_t3 (List.mem_of_getElem? (i := 81) rfl), az_ini_RX2, rfl, az_pn_RX2.1, az_pn_RX2.2, by decide, rfl, ⟨fun _ => rfl, fun h => absurd h (by decide), fun h => absurd h (by decide), fun h => absurd h (by decide), fun h => absurd h (by decide)⟩, fun h => absurd h (by decide), fun p i h => az_k_X2_forget p i h⟩
theorem az_p_X3_init : az_midP 26 (yX3_init, cX3_init, 1, none, 3, 4) := ⟨az_t1 (List.mem_of_getElem? (i := 223) rfl), az_ini_RX3, rfl, az_pn_RX3.1, az_pn_RX3.2, by decide, rfl, ⟨fun h => absurd h (by decide), fun h => absurd h (by decide), fun h => absurd h (by decide), fun h => absurd h (by decide), fun _ => rfl⟩, fun _ => rfl, fun p i h => az_k_X3_init p i h⟩
theorem az_p_X3_length : az_midP 27 (yX3_length, cX3_length, 1, some .int, 3, 1) := ⟨az_t2 (List.mem_of_getElem? (i := 104) rfl), az_ini_RX3, rfl, az_pn_RX3.1, az_pn_RX3.2, by decide, rfl, ⟨fun h => absurd h (by decide), fun _ => rfl, fun h => absurd h (by decide), fun h => absurd h (by decide), fun h => absurd h (by decide)⟩, fun h => absurd h (by decide), fun p i h => az_k_X3_length p i h⟩
theorem az_p_X4_init : az_midP 28 (yX4_init, cX4_init, 1, none, 4, 4) := ⟨az_t1 (List.mem_of_getElem? (i := 29) rfl), az_ini_RX4, rfl, az_pn_RX4.1, az_pn_RX4.2, by decide, rfl, ⟨fun h => absurd h (by decide), fun h => absurd h (by decide), fun h => absurd h (by decide), fun h => absurd h (by decide), fun _ => rfl⟩, fun _ => rfl, fun p i h => az_k_X4_init p i h⟩
theorem az_p_X4_build : az_midP 29 (yX4_build, cX4_build, 3, none, 4, 0) := ⟨az_t1 (List.mem_of_getElem? (i := 48) rfl), az_ini_RX4, rfl, az_pn_RX4.1, az_pn_RX4.2, by decide, rfl, ⟨fun _ => rfl, fun h => absurd h (by decide), fun h => absurd h (by decide), fun h => absurd h (by decide), fun h => absurd h (by decide)⟩, fun h => absurd h (by decide), fun p i h => az_k_X4_build p i h⟩
theorem az_p_X4_copyFrom : az_midP 30 (yX4_copyFrom, cX4_copyFrom, 2, none, 4, 0) := ⟨az_t2 (List.mem_of_getElem? (i := 196) rfl), az_ini_RX4, rfl, az_pn_RX4.1, az_pn_RX4.2, by decide, rfl, ⟨fun _ => rfl, fun h => absurd h (by decide), fun h => absurd h (by decide), fun h => absurd h (by decide), fun h => absurd h (by decide)⟩, fun h => absurd h (by decide), fun p i h => az_k_X4_copyFrom p i h⟩
theorem az_p_X4_hasZone : az_midP 31 (yX4_hasZone, cX4_hasZone, 2, some .boolean, 4, 2) := ⟨az_t2 (List.mem_of_getElem? (i := 48) rfl), az_ini_RX4, rfl, az_pn_RX4.1, az_pn_RX4.2, by decide, rfl, ⟨fun h => absurd h (by decide), fun h => absurd h (by decide), fun _ => rfl, fun h => absurd h (by decide), fun h => absurd h (by decide)⟩, fun h => absurd h (by decide), fun p i h => az_k_X4_hasZone p i h⟩
theorem az_p_X4_hasSlot : az_midP 32 (yX4_hasSlot, cX4_hasSlot, 2, some .boolean, 4, 2) := ⟨az_t2 (List.mem_of_getElem? (i := 90) rfl), az_ini_RX4, rfl, az_pn_RX4.1, az_pn_RX4.2, by decide, rfl, ⟨fun h => absurd h (by decide), fun h => absurd h (by decide), fun _ => rfl, fun h => absurd h (by decide), fun h => absurd h (by decide)⟩, fun h => absurd h (by decide), fun p i h => az_k_X4_hasSlot p i h⟩
theorem az_p_X4_cellAt : az_midP 33 (yX4_cellAt, cX4_cellAt, 3, some .int, 4, 1) := ⟨az_t2 (List.mem_of_getElem? (i := 65) rfl), az_ini_RX4, rfl, az_pn_RX4.1, az_pn_RX4.2, by decide, rfl, ⟨fun h => absurd h (by decide), fun _ => rfl, fun h => absurd h (by decide), fun h => absurd h (by decide), fun h => absurd h (by decide)⟩, fun h => absurd h (by decide), fun p i h => az_k_X4_cellAt p i h⟩
theorem az_p_X4_zoneBehind : az_midP 34 (yX4_zoneBehind, cX4_zoneBehind, 2, some .int, 4, 1) := ⟨az_t2 (List.mem_of_getElem? (i := 226) rfl), az_ini_RX4, rfl, az_pn_RX4.1, az_pn_RX4.2, by decide, rfl, ⟨fun h => absurd h (by decide), fun _ => rfl, fun h => absurd h (by decide), fun h => absurd h (by decide), fun h => absurd h (by decide)⟩, fun h => absurd h (by decide), fun p i h => az_k_X4_zoneBehind p i h⟩
theorem az_p_X4_stepsBetween : az_midP 35 (yX4_stepsBetween, cX4_stepsBetween, 3, some .int, 4, 1) := ⟨az_t2 (List.mem_of_getElem? (i := 79) rfl), az_ini_RX4, rfl, az_pn_RX4.1, az_pn_RX4.2, by decide, rfl, ⟨fun h => absurd h (by decide), fun _ => rfl, fun h => absurd h (by decide), fun h => absurd h (by decide), fun h => absurd h (by decide)⟩, fun h => absurd h (by decide), fun p i h => az_k_X4_stepsBetween p i h⟩
theorem az_p_X4_freeIn : az_midP 36 (yX4_freeIn, cX4_freeIn, 2, some .int, 4, 1) := ⟨az_t3 (List.mem_of_getElem? (i := 136) rfl), az_ini_RX4, rfl, az_pn_RX4.1, az_pn_RX4.2, by decide, rfl, ⟨fun h => absurd h (by decide), fun _ => rfl, fun h => absurd h (by decide), fun h => absurd h (by decide), fun h => absurd h (by decide)⟩, fun h => absurd h (by decide), fun p i h => az_k_X4_freeIn p i h⟩
theorem az_p_X4_wellCount : az_midP 37 (yX4_wellCount, cX4_wellCount, 1, some .int, 4, 1) := ⟨az_t2 (List.mem_of_getElem? (i := 137) rfl), az_ini_RX4, rfl, az_pn_RX4.1, az_pn_RX4.2, by decide, rfl, ⟨fun h => absurd h (by decide), fun _ => rfl, fun h => absurd h (by decide), fun h => absurd h (by decide), fun h => absurd h (by decide)⟩, fun h => absurd h (by decide), fun p i h => az_k_X4_wellCount p i h⟩
theorem az_p_X4_sealCount : az_midP 38 (yX4_sealCount, cX4_sealCount, 1, some .int, 4, 1) := ⟨az_t2 (List.mem_of_getElem? (i := 117) rfl), az_ini_RX4, rfl, az_pn_RX4.1, az_pn_RX4.2, by decide, rfl, ⟨fun h => absurd h (by decide), fun _ => rfl, fun h => absurd h (by decide), fun h => absurd h (by decide), fun h => absurd h (by decide)⟩, fun h => absurd h (by decide), fun p i h => az_k_X4_sealCount p i h⟩
theorem az_p_X4_setIn : az_midP 39 (yX4_setIn, cX4_setIn, 4, some .int, 4, 1) := ⟨az_t2 (List.mem_of_getElem? (i := 121) rfl), az_ini_RX4, rfl, az_pn_RX4.1, az_pn_RX4.2, by decide, rfl, ⟨fun h => absurd h (by decide), fun _ => rfl, fun h => absurd h (by decide), fun h => absurd h (by decide), fun h => absurd h (by decide)⟩, fun h => absurd h (by decide), fun p i h => az_k_X4_setIn p i h⟩
theorem az_p_X4_admits : az_midP 40 (yX4_admits, cX4_admits, 4, some .boolean, 4, 2) := ⟨az_t3 (List.mem_of_getElem? (i := 41) rfl), az_ini_RX4, rfl, az_pn_RX4.1, az_pn_RX4.2, by decide, rfl, ⟨fun h => absurd h (by decide), fun h => absurd h (by decide), fun _ => rfl, fun h => absurd h (by decide), fun h => absurd h (by decide)⟩, fun h => absurd h (by decide), fun p i h => az_k_X4_admits p i h⟩
theorem az_p_X4_append : az_midP 41 (yX4_append, cX4_append, 4, some .int, 4, 1) := ⟨az_t3 (List.mem_of_getElem? (i := 55) rfl), az_ini_RX4, rfl, az_pn_RX4.1, az_pn_RX4.2, by decide, rfl, ⟨fun h => absurd h (by decide), fun _ => rfl, fun h => absurd h (by decide), fun h => absurd h (by decide), fun h => absurd h (by decide)⟩, fun h => absurd h (by decide), fun p i h => az_k_X4_append p i h⟩
theorem az_p_X4_clear : az_midP 42 (yX4_clear, cX4_clear, 2, none, 4, 0) := ⟨az_t3 (List.mem_of_getElem? (i := 148) rfl), az_ini_RX4, rfl, az_pn_RX4.1, az_pn_RX4.2, by decide, rfl, ⟨fun _ => rfl, fun h => absurd h (by decide), fun h => absurd h (by decide), fun h => absurd h (by decide), fun h => absurd h (by decide)⟩, fun h => absurd h (by decide), fun p i h => az_k_X4_clear p i h⟩
theorem az_p_X5_init : az_midP 43 (yX5_init, cX5_init, 2, none, 5, 4) := ⟨az_t1 (List.mem_of_getElem? (i := 35) rfl), az_ini_RX5, rfl, az_pn_RX5.1, az_pn_RX5.2, by decide, rfl, ⟨fun h => absurd h (by decide), fun h => absurd h (by decide), fun h => absurd h (by decide), fun h => absurd h (by decide), fun _ => rfl⟩, fun _ => rfl, fun p i h => az_k_X5_init p i h⟩
theorem az_p_X5_at : az_midP 44 (yX5_at, cX5_at, 2, some .int, 5, 1) := ⟨az_t2 (List.mem_of_getElem? (i := 52) rfl), az_ini_RX5, rfl, az_pn_RX5.1, az_pn_RX5.2, by decide, rfl, ⟨fun h => absurd h (by decide), fun _ => rfl, fun h => absurd h (by decide), fun h => absurd h (by decide), fun h => absurd h (by decide)⟩, fun h => absurd h (by decide), fun p i h => az_k_X5_at p i h⟩
theorem az_p_X5_isSet : az_midP 45 (yX5_isSet, cX5_isSet, 2, some .boolean, 5, 2) := ⟨az_t2 (List.mem_of_getElem? (i := 125) rfl), az_ini_RX5, rfl, az_pn_RX5.1, az_pn_RX5.2, by decide, rfl, ⟨fun h => absurd h (by decide), fun h => absurd h (by decide), fun _ => rfl, fun h => absurd h (by decide), fun h => absurd h (by decide)⟩, fun h => absurd h (by decide), fun p i h => az_k_X5_isSet p i h⟩
theorem az_p_X5_change : az_midP 46 (yX5_change, cX5_change, 3, none, 5, 0) := ⟨az_t1 (List.mem_of_getElem? (i := 56) rfl), az_ini_RX5, rfl, az_pn_RX5.1, az_pn_RX5.2, by decide, rfl, ⟨fun _ => rfl, fun h => absurd h (by decide), fun h => absurd h (by decide), fun h => absurd h (by decide), fun h => absurd h (by decide)⟩, fun h => absurd h (by decide), fun p i h => az_k_X5_change p i h⟩
theorem az_p_X5_fill : az_midP 47 (yX5_fill, cX5_fill, 3, none, 5, 0) := ⟨az_t1 (List.mem_of_getElem? (i := 52) rfl), az_ini_RX5, rfl, az_pn_RX5.1, az_pn_RX5.2, by decide, rfl, ⟨fun _ => rfl, fun h => absurd h (by decide), fun h => absurd h (by decide), fun h => absurd h (by decide), fun h => absurd h (by decide)⟩, fun h => absurd h (by decide), fun p i h => az_k_X5_fill p i h⟩
theorem az_p_X5_copyFrom : az_midP 48 (yX5_copyFrom, cX5_copyFrom, 3, none, 5, 0) := ⟨az_t2 (List.mem_of_getElem? (i := 200) rfl), az_ini_RX5, rfl, az_pn_RX5.1, az_pn_RX5.2, by decide, rfl, ⟨fun _ => rfl, fun h => absurd h (by decide), fun h => absurd h (by decide), fun h => absurd h (by decide), fun h => absurd h (by decide)⟩, fun h => absurd h (by decide), fun p i h => az_k_X5_copyFrom p i h⟩
theorem az_p_X6_ofZone : az_midP 49 (yX6_ofZone, cX6_ofZone, 3, some .int, 6, 1) := ⟨az_t2 (List.mem_of_getElem? (i := 44) rfl), az_ini_RX6, rfl, az_pn_RX6.1, az_pn_RX6.2, by decide, rfl, ⟨fun h => absurd h (by decide), fun _ => rfl, fun h => absurd h (by decide), fun h => absurd h (by decide), fun h => absurd h (by decide)⟩, fun h => absurd h (by decide), fun p i h => az_k_X6_ofZone p i h⟩
theorem az_p_X6_ofSlot : az_midP 50 (yX6_ofSlot, cX6_ofSlot, 4, some .int, 6, 1) := ⟨az_t2 (List.mem_of_getElem? (i := 86) rfl), az_ini_RX6, rfl, az_pn_RX6.1, az_pn_RX6.2, by decide, rfl, ⟨fun h => absurd h (by decide), fun _ => rfl, fun h => absurd h (by decide), fun h => absurd h (by decide), fun h => absurd h (by decide)⟩, fun h => absurd h (by decide), fun p i h => az_k_X6_ofSlot p i h⟩
theorem az_p_X6_ofLoad : az_midP 51 (yX6_ofLoad, cX6_ofLoad, 3, some .int, 6, 1) := ⟨az_t2 (List.mem_of_getElem? (i := 147) rfl), az_ini_RX6, rfl, az_pn_RX6.1, az_pn_RX6.2, by decide, rfl, ⟨fun h => absurd h (by decide), fun _ => rfl, fun h => absurd h (by decide), fun h => absurd h (by decide), fun h => absurd h (by decide)⟩, fun h => absurd h (by decide), fun p i h => az_k_X6_ofLoad p i h⟩
theorem az_p_X6_ofSlotOf : az_midP 52 (yX6_ofSlotOf, cX6_ofSlotOf, 4, some .int, 6, 1) := ⟨az_t2 (List.mem_of_getElem? (i := 154) rfl), az_ini_RX6, rfl, az_pn_RX6.1, az_pn_RX6.2, by decide, rfl, ⟨fun h => absurd h (by decide), fun _ => rfl, fun h => absurd h (by decide), fun h => absurd h (by decide), fun h => absurd h (by decide)⟩, fun h => absurd h (by decide), fun p i h => az_k_X6_ofSlotOf p i h⟩
theorem az_p_X6_ofCaravan : az_midP 53 (yX6_ofCaravan, cX6_ofCaravan, 2, some .int, 6, 1) := ⟨az_t2 (List.mem_of_getElem? (i := 181) rfl), az_ini_RX6, rfl, az_pn_RX6.1, az_pn_RX6.2, by decide, rfl, ⟨fun h => absurd h (by decide), fun _ => rfl, fun h => absurd h (by decide), fun h => absurd h (by decide), fun h => absurd h (by decide)⟩, fun h => absurd h (by decide), fun p i h => az_k_X6_ofCaravan p i h⟩
theorem az_p_X6_ofBag : az_midP 54 (yX6_ofBag, cX6_ofBag, 2, some .int, 6, 1) := ⟨az_t2 (List.mem_of_getElem? (i := 174) rfl), az_ini_RX6, rfl, az_pn_RX6.1, az_pn_RX6.2, by decide, rfl, ⟨fun h => absurd h (by decide), fun _ => rfl, fun h => absurd h (by decide), fun h => absurd h (by decide), fun h => absurd h (by decide)⟩, fun h => absurd h (by decide), fun p i h => az_k_X6_ofBag p i h⟩
theorem az_p_X6_ofAll : az_midP 55 (yX6_ofAll, cX6_ofAll, 2, some .int, 6, 1) := ⟨az_t2 (List.mem_of_getElem? (i := 107) rfl), az_ini_RX6, rfl, az_pn_RX6.1, az_pn_RX6.2, by decide, rfl, ⟨fun h => absurd h (by decide), fun _ => rfl, fun h => absurd h (by decide), fun h => absurd h (by decide), fun h => absurd h (by decide)⟩, fun h => absurd h (by decide), fun p i h => az_k_X6_ofAll p i h⟩
theorem az_p_X6_liveSlots : az_midP 56 (yX6_liveSlots, cX6_liveSlots, 3, some .int, 6, 1) := ⟨az_t2 (List.mem_of_getElem? (i := 110) rfl), az_ini_RX6, rfl, az_pn_RX6.1, az_pn_RX6.2, by decide, rfl, ⟨fun h => absurd h (by decide), fun _ => rfl, fun h => absurd h (by decide), fun h => absurd h (by decide), fun h => absurd h (by decide)⟩, fun h => absurd h (by decide), fun p i h => az_k_X6_liveSlots p i h⟩
theorem az_p_X6_writtenSlots : az_midP 57 (yX6_writtenSlots, cX6_writtenSlots, 3, some .int, 6, 1) := ⟨az_t2 (List.mem_of_getElem? (i := 113) rfl), az_ini_RX6, rfl, az_pn_RX6.1, az_pn_RX6.2, by decide, rfl, ⟨fun h => absurd h (by decide), fun _ => rfl, fun h => absurd h (by decide), fun h => absurd h (by decide), fun h => absurd h (by decide)⟩, fun h => absurd h (by decide), fun p i h => az_k_X6_writtenSlots p i h⟩
theorem az_p_X7_init : az_midP 58 (yX7_init, cX7_init, 1, none, 7, 4) := ⟨az_t1 (List.mem_of_getElem? (i := 23) rfl), az_ini_RX7, rfl, az_pn_RX7.1, az_pn_RX7.2, by decide, rfl, ⟨fun h => absurd h (by decide), fun h => absurd h (by decide), fun h => absurd h (by decide), fun h => absurd h (by decide), fun _ => rfl⟩, fun _ => rfl, fun p i h => az_k_X7_init p i h⟩
theorem az_p_X7_copyFrom : az_midP 59 (yX7_copyFrom, cX7_copyFrom, 2, none, 7, 0) := ⟨az_t2 (List.mem_of_getElem? (i := 192) rfl), az_ini_RX7, rfl, az_pn_RX7.1, az_pn_RX7.2, by decide, rfl, ⟨fun _ => rfl, fun h => absurd h (by decide), fun h => absurd h (by decide), fun h => absurd h (by decide), fun h => absurd h (by decide)⟩, fun h => absurd h (by decide), fun p i h => az_k_X7_copyFrom p i h⟩
theorem az_p_X7_layZones : az_midP 60 (yX7_layZones, cX7_layZones, 3, some .int, 7, 1) := ⟨az_t3 (List.mem_of_getElem? (i := 227) rfl), az_ini_RX7, rfl, az_pn_RX7.1, az_pn_RX7.2, by decide, rfl, ⟨fun h => absurd h (by decide), fun _ => rfl, fun h => absurd h (by decide), fun h => absurd h (by decide), fun h => absurd h (by decide)⟩, fun h => absurd h (by decide), fun p i h => az_k_X7_layZones p i h⟩
theorem az_p_X7_changeKind : az_midP 61 (yX7_changeKind, cX7_changeKind, 4, some .int, 7, 1) := ⟨az_t3 (List.mem_of_getElem? (i := 162) rfl), az_ini_RX7, rfl, az_pn_RX7.1, az_pn_RX7.2, by decide, rfl, ⟨fun h => absurd h (by decide), fun _ => rfl, fun h => absurd h (by decide), fun h => absurd h (by decide), fun h => absurd h (by decide)⟩, fun h => absurd h (by decide), fun p i h => az_k_X7_changeKind p i h⟩
theorem az_p_X7_changeWell : az_midP 62 (yX7_changeWell, cX7_changeWell, 3, some .int, 7, 1) := ⟨az_t3 (List.mem_of_getElem? (i := 171) rfl), az_ini_RX7, rfl, az_pn_RX7.1, az_pn_RX7.2, by decide, rfl, ⟨fun h => absurd h (by decide), fun _ => rfl, fun h => absurd h (by decide), fun h => absurd h (by decide), fun h => absurd h (by decide)⟩, fun h => absurd h (by decide), fun p i h => az_k_X7_changeWell p i h⟩
theorem az_p_X7_changeSetting : az_midP 63 (yX7_changeSetting, cX7_changeSetting, 3, some .int, 7, 1) := ⟨az_t3 (List.mem_of_getElem? (i := 183) rfl), az_ini_RX7, rfl, az_pn_RX7.1, az_pn_RX7.2, by decide, rfl, ⟨fun h => absurd h (by decide), fun _ => rfl, fun h => absurd h (by decide), fun h => absurd h (by decide), fun h => absurd h (by decide)⟩, fun h => absurd h (by decide), fun p i h => az_k_X7_changeSetting p i h⟩
theorem az_p_X7_changeBag : az_midP 64 (yX7_changeBag, cX7_changeBag, 3, some .int, 7, 1) := ⟨az_t3 (List.mem_of_getElem? (i := 187) rfl), az_ini_RX7, rfl, az_pn_RX7.1, az_pn_RX7.2, by decide, rfl, ⟨fun h => absurd h (by decide), fun _ => rfl, fun h => absurd h (by decide), fun h => absurd h (by decide), fun h => absurd h (by decide)⟩, fun h => absurd h (by decide), fun p i h => az_k_X7_changeBag p i h⟩
theorem az_p_X7_changeSkin : az_midP 65 (yX7_changeSkin, cX7_changeSkin, 3, some .int, 7, 1) := ⟨az_t3 (List.mem_of_getElem? (i := 191) rfl), az_ini_RX7, rfl, az_pn_RX7.1, az_pn_RX7.2, by decide, rfl, ⟨fun h => absurd h (by decide), fun _ => rfl, fun h => absurd h (by decide), fun h => absurd h (by decide), fun h => absurd h (by decide)⟩, fun h => absurd h (by decide), fun p i h => az_k_X7_changeSkin p i h⟩
theorem az_p_X7_changeBound : az_midP 66 (yX7_changeBound, cX7_changeBound, 3, some .int, 7, 1) := ⟨az_t3 (List.mem_of_getElem? (i := 200) rfl), az_ini_RX7, rfl, az_pn_RX7.1, az_pn_RX7.2, by decide, rfl, ⟨fun h => absurd h (by decide), fun _ => rfl, fun h => absurd h (by decide), fun h => absurd h (by decide), fun h => absurd h (by decide)⟩, fun h => absurd h (by decide), fun p i h => az_k_X7_changeBound p i h⟩
theorem az_p_X7_travel : az_midP 67 (yX7_travel, cX7_travel, 3, some .int, 7, 1) := ⟨az_t2 (List.mem_of_getElem? (i := 214) rfl), az_ini_RX7, rfl, az_pn_RX7.1, az_pn_RX7.2, by decide, rfl, ⟨fun h => absurd h (by decide), fun _ => rfl, fun h => absurd h (by decide), fun h => absurd h (by decide), fun h => absurd h (by decide)⟩, fun h => absurd h (by decide), fun p i h => az_k_X7_travel p i h⟩
theorem az_p_X7_stepAhead : az_midP 68 (yX7_stepAhead, cX7_stepAhead, 1, some .boolean, 7, 2) := ⟨az_t2 (List.mem_of_getElem? (i := 218) rfl), az_ini_RX7, rfl, az_pn_RX7.1, az_pn_RX7.2, by decide, rfl, ⟨fun h => absurd h (by decide), fun h => absurd h (by decide), fun _ => rfl, fun h => absurd h (by decide), fun h => absurd h (by decide)⟩, fun h => absurd h (by decide), fun p i h => az_k_X7_stepAhead p i h⟩
theorem az_p_X7_writeAnew : az_midP 69 (yX7_writeAnew, cX7_writeAnew, 2, some .int, 7, 1) := ⟨az_t3 (List.mem_of_getElem? (i := 24) rfl), az_ini_RX7, rfl, az_pn_RX7.1, az_pn_RX7.2, by decide, rfl, ⟨fun h => absurd h (by decide), fun _ => rfl, fun h => absurd h (by decide), fun h => absurd h (by decide), fun h => absurd h (by decide)⟩, fun h => absurd h (by decide), fun p i h => az_k_X7_writeAnew p i h⟩
theorem az_p_X7_mayBeWritten : az_midP 70 (yX7_mayBeWritten, cX7_mayBeWritten, 3, some .boolean, 7, 2) := ⟨az_t3 (List.mem_of_getElem? (i := 36) rfl), az_ini_RX7, rfl, az_pn_RX7.1, az_pn_RX7.2, by decide, rfl, ⟨fun h => absurd h (by decide), fun h => absurd h (by decide), fun _ => rfl, fun h => absurd h (by decide), fun h => absurd h (by decide)⟩, fun h => absurd h (by decide), fun p i h => az_k_X7_mayBeWritten p i h⟩
theorem az_p_X7_writeHere : az_midP 71 (yX7_writeHere, cX7_writeHere, 3, some .int, 7, 1) := ⟨az_t3 (List.mem_of_getElem? (i := 46) rfl), az_ini_RX7, rfl, az_pn_RX7.1, az_pn_RX7.2, by decide, rfl, ⟨fun h => absurd h (by decide), fun _ => rfl, fun h => absurd h (by decide), fun h => absurd h (by decide), fun h => absurd h (by decide)⟩, fun h => absurd h (by decide), fun p i h => az_k_X7_writeHere p i h⟩
theorem az_p_X7_takeUp : az_midP 72 (yX7_takeUp, cX7_takeUp, 2, some .int, 7, 1) := ⟨az_t3 (List.mem_of_getElem? (i := 89) rfl), az_ini_RX7, rfl, az_pn_RX7.1, az_pn_RX7.2, by decide, rfl, ⟨fun h => absurd h (by decide), fun _ => rfl, fun h => absurd h (by decide), fun h => absurd h (by decide), fun h => absurd h (by decide)⟩, fun h => absurd h (by decide), fun p i h => az_k_X7_takeUp p i h⟩
theorem az_p_X7_liesInZone : az_midP 73 (yX7_liesInZone, cX7_liesInZone, 3, some .boolean, 7, 2) := ⟨az_t3 (List.mem_of_getElem? (i := 93) rfl), az_ini_RX7, rfl, az_pn_RX7.1, az_pn_RX7.2, by decide, rfl, ⟨fun h => absurd h (by decide), fun h => absurd h (by decide), fun _ => rfl, fun h => absurd h (by decide), fun h => absurd h (by decide)⟩, fun h => absurd h (by decide), fun p i h => az_k_X7_liesInZone p i h⟩
theorem az_p_X7_packUp : az_midP 74 (yX7_packUp, cX7_packUp, 2, none, 7, 0) := ⟨az_t3 (List.mem_of_getElem? (i := 101) rfl), az_ini_RX7, rfl, az_pn_RX7.1, az_pn_RX7.2, by decide, rfl, ⟨fun _ => rfl, fun h => absurd h (by decide), fun h => absurd h (by decide), fun h => absurd h (by decide), fun h => absurd h (by decide)⟩, fun h => absurd h (by decide), fun p i h => az_k_X7_packUp p i h⟩
theorem az_p_X7_putDown : az_midP 75 (yX7_putDown, cX7_putDown, 2, some .int, 7, 1) := ⟨az_t3 (List.mem_of_getElem? (i := 120) rfl), az_ini_RX7, rfl, az_pn_RX7.1, az_pn_RX7.2, by decide, rfl, ⟨fun h => absurd h (by decide), fun _ => rfl, fun h => absurd h (by decide), fun h => absurd h (by decide), fun h => absurd h (by decide)⟩, fun h => absurd h (by decide), fun p i h => az_k_X7_putDown p i h⟩
theorem az_p_X7_giveUp : az_midP 76 (yX7_giveUp, cX7_giveUp, 3, some .int, 7, 1) := ⟨az_t3 (List.mem_of_getElem? (i := 77) rfl), az_ini_RX7, rfl, az_pn_RX7.1, az_pn_RX7.2, by decide, rfl, ⟨fun h => absurd h (by decide), fun _ => rfl, fun h => absurd h (by decide), fun h => absurd h (by decide), fun h => absurd h (by decide)⟩, fun h => absurd h (by decide), fun p i h => az_k_X7_giveUp p i h⟩
theorem az_p_X7_resetHere : az_midP 77 (yX7_resetHere, cX7_resetHere, 2, some .int, 7, 1) := ⟨az_t3 (List.mem_of_getElem? (i := 144) rfl), az_ini_RX7, rfl, az_pn_RX7.1, az_pn_RX7.2, by decide, rfl, ⟨fun h => absurd h (by decide), fun _ => rfl, fun h => absurd h (by decide), fun h => absurd h (by decide), fun h => absurd h (by decide)⟩, fun h => absurd h (by decide), fun p i h => az_k_X7_resetHere p i h⟩
theorem az_p_X7_sealHere : az_midP 78 (yX7_sealHere, cX7_sealHere, 1, some .int, 7, 1) := ⟨az_t3 (List.mem_of_getElem? (i := 131) rfl), az_ini_RX7, rfl, az_pn_RX7.1, az_pn_RX7.2, by decide, rfl, ⟨fun h => absurd h (by decide), fun _ => rfl, fun h => absurd h (by decide), fun h => absurd h (by decide), fun h => absurd h (by decide)⟩, fun h => absurd h (by decide), fun p i h => az_k_X7_sealHere p i h⟩
theorem az_p_X7_endDay : az_midP 79 (yX7_endDay, cX7_endDay, 2, some .int, 7, 1) := ⟨az_t3 (List.mem_of_getElem? (i := 211) rfl), az_ini_RX7, rfl, az_pn_RX7.1, az_pn_RX7.2, by decide, rfl, ⟨fun h => absurd h (by decide), fun _ => rfl, fun h => absurd h (by decide), fun h => absurd h (by decide), fun h => absurd h (by decide)⟩, fun h => absurd h (by decide), fun p i h => az_k_X7_endDay p i h⟩
theorem az_p_X7_isLive : az_midP 80 (yX7_isLive, cX7_isLive, 4, some .boolean, 7, 2) := ⟨az_t2 (List.mem_of_getElem? (i := 61) rfl), az_ini_RX7, rfl, az_pn_RX7.1, az_pn_RX7.2, by decide, rfl, ⟨fun h => absurd h (by decide), fun h => absurd h (by decide), fun _ => rfl, fun h => absurd h (by decide), fun h => absurd h (by decide)⟩, fun h => absurd h (by decide), fun p i h => az_k_X7_isLive p i h⟩
theorem az_p_X7_liveIn : az_midP 81 (yX7_liveIn, cX7_liveIn, 5, some .int, 7, 1) := ⟨az_t2 (List.mem_of_getElem? (i := 56) rfl), az_ini_RX7, rfl, az_pn_RX7.1, az_pn_RX7.2, by decide, rfl, ⟨fun h => absurd h (by decide), fun _ => rfl, fun h => absurd h (by decide), fun h => absurd h (by decide), fun h => absurd h (by decide)⟩, fun h => absurd h (by decide), fun p i h => az_k_X7_liveIn p i h⟩
theorem az_p_X7_deadIn : az_midP 82 (yX7_deadIn, cX7_deadIn, 2, some .int, 7, 1) := ⟨az_t2 (List.mem_of_getElem? (i := 74) rfl), az_ini_RX7, rfl, az_pn_RX7.1, az_pn_RX7.2, by decide, rfl, ⟨fun h => absurd h (by decide), fun _ => rfl, fun h => absurd h (by decide), fun h => absurd h (by decide), fun h => absurd h (by decide)⟩, fun h => absurd h (by decide), fun p i h => az_k_X7_deadIn p i h⟩
theorem az_p_X8_init : az_midP 83 (yX8_init, cX8_init, 1, none, 8, 4) := ⟨az_t1 (List.mem_of_getElem? (i := 15) rfl), az_ini_RX8, rfl, az_pn_RX8.1, az_pn_RX8.2, by decide, rfl, ⟨fun h => absurd h (by decide), fun h => absurd h (by decide), fun h => absurd h (by decide), fun h => absurd h (by decide), fun _ => rfl⟩, fun _ => rfl, fun p i h => az_k_X8_init p i h⟩
theorem az_p_X8_lay : az_midP 84 (yX8_lay, cX8_lay, 3, some .int, 8, 1) := ⟨az_t3 (List.mem_of_getElem? (i := 223) rfl), az_ini_RX8, rfl, az_pn_RX8.1, az_pn_RX8.2, by decide, rfl, ⟨fun h => absurd h (by decide), fun _ => rfl, fun h => absurd h (by decide), fun h => absurd h (by decide), fun h => absurd h (by decide)⟩, fun h => absurd h (by decide), fun p i h => az_k_X8_lay p i h⟩
theorem az_p_X8_setKind : az_midP 85 (yX8_setKind, cX8_setKind, 3, some .int, 8, 1) := ⟨az_t3 (List.mem_of_getElem? (i := 158) rfl), az_ini_RX8, rfl, az_pn_RX8.1, az_pn_RX8.2, by decide, rfl, ⟨fun h => absurd h (by decide), fun _ => rfl, fun h => absurd h (by decide), fun h => absurd h (by decide), fun h => absurd h (by decide)⟩, fun h => absurd h (by decide), fun p i h => az_k_X8_setKind p i h⟩
theorem az_p_X8_setWell : az_midP 86 (yX8_setWell, cX8_setWell, 3, some .int, 8, 1) := ⟨az_t3 (List.mem_of_getElem? (i := 167) rfl), az_ini_RX8, rfl, az_pn_RX8.1, az_pn_RX8.2, by decide, rfl, ⟨fun h => absurd h (by decide), fun _ => rfl, fun h => absurd h (by decide), fun h => absurd h (by decide), fun h => absurd h (by decide)⟩, fun h => absurd h (by decide), fun p i h => az_k_X8_setWell p i h⟩
theorem az_p_X8_set : az_midP 87 (yX8_set, cX8_set, 3, some .int, 8, 1) := ⟨az_t3 (List.mem_of_getElem? (i := 179) rfl), az_ini_RX8, rfl, az_pn_RX8.1, az_pn_RX8.2, by decide, rfl, ⟨fun h => absurd h (by decide), fun _ => rfl, fun h => absurd h (by decide), fun h => absurd h (by decide), fun h => absurd h (by decide)⟩, fun h => absurd h (by decide), fun p i h => az_k_X8_set p i h⟩
theorem az_p_X8_go : az_midP 88 (yX8_go, cX8_go, 2, some .int, 8, 1) := ⟨az_t2 (List.mem_of_getElem? (i := 188) rfl), az_ini_RX8, rfl, az_pn_RX8.1, az_pn_RX8.2, by decide, rfl, ⟨fun h => absurd h (by decide), fun _ => rfl, fun h => absurd h (by decide), fun h => absurd h (by decide), fun h => absurd h (by decide)⟩, fun h => absurd h (by decide), fun p i h => az_k_X8_go p i h⟩
theorem az_p_X8_write : az_midP 89 (yX8_write, cX8_write, 2, some .int, 8, 1) := ⟨az_t3 (List.mem_of_getElem? (i := 20) rfl), az_ini_RX8, rfl, az_pn_RX8.1, az_pn_RX8.2, by decide, rfl, ⟨fun h => absurd h (by decide), fun _ => rfl, fun h => absurd h (by decide), fun h => absurd h (by decide), fun h => absurd h (by decide)⟩, fun h => absurd h (by decide), fun p i h => az_k_X8_write p i h⟩
theorem az_p_X8_take : az_midP 90 (yX8_take, cX8_take, 2, some .int, 8, 1) := ⟨az_t3 (List.mem_of_getElem? (i := 85) rfl), az_ini_RX8, rfl, az_pn_RX8.1, az_pn_RX8.2, by decide, rfl, ⟨fun h => absurd h (by decide), fun _ => rfl, fun h => absurd h (by decide), fun h => absurd h (by decide), fun h => absurd h (by decide)⟩, fun h => absurd h (by decide), fun p i h => az_k_X8_take p i h⟩
theorem az_p_X8_put : az_midP 91 (yX8_put, cX8_put, 2, some .int, 8, 1) := ⟨az_t3 (List.mem_of_getElem? (i := 116) rfl), az_ini_RX8, rfl, az_pn_RX8.1, az_pn_RX8.2, by decide, rfl, ⟨fun h => absurd h (by decide), fun _ => rfl, fun h => absurd h (by decide), fun h => absurd h (by decide), fun h => absurd h (by decide)⟩, fun h => absurd h (by decide), fun p i h => az_k_X8_put p i h⟩
theorem az_p_X8_drop : az_midP 92 (yX8_drop, cX8_drop, 2, some .int, 8, 1) := ⟨az_t3 (List.mem_of_getElem? (i := 73) rfl), az_ini_RX8, rfl, az_pn_RX8.1, az_pn_RX8.2, by decide, rfl, ⟨fun h => absurd h (by decide), fun _ => rfl, fun h => absurd h (by decide), fun h => absurd h (by decide), fun h => absurd h (by decide)⟩, fun h => absurd h (by decide), fun p i h => az_k_X8_drop p i h⟩
theorem az_p_X8_reset : az_midP 93 (yX8_reset, cX8_reset, 1, some .int, 8, 1) := ⟨az_t3 (List.mem_of_getElem? (i := 140) rfl), az_ini_RX8, rfl, az_pn_RX8.1, az_pn_RX8.2, by decide, rfl, ⟨fun h => absurd h (by decide), fun _ => rfl, fun h => absurd h (by decide), fun h => absurd h (by decide), fun h => absurd h (by decide)⟩, fun h => absurd h (by decide), fun p i h => az_k_X8_reset p i h⟩
theorem az_p_X8_seal : az_midP 94 (yX8_seal, cX8_seal, 1, some .int, 8, 1) := ⟨az_t3 (List.mem_of_getElem? (i := 127) rfl), az_ini_RX8, rfl, az_pn_RX8.1, az_pn_RX8.2, by decide, rfl, ⟨fun h => absurd h (by decide), fun _ => rfl, fun h => absurd h (by decide), fun h => absurd h (by decide), fun h => absurd h (by decide)⟩, fun h => absurd h (by decide), fun p i h => az_k_X8_seal p i h⟩
theorem az_p_X8_dusk : az_midP 95 (yX8_dusk, cX8_dusk, 1, some .int, 8, 1) := ⟨az_t3 (List.mem_of_getElem? (i := 207) rfl), az_ini_RX8, rfl, az_pn_RX8.1, az_pn_RX8.2, by decide, rfl, ⟨fun h => absurd h (by decide), fun _ => rfl, fun h => absurd h (by decide), fun h => absurd h (by decide), fun h => absurd h (by decide)⟩, fun h => absurd h (by decide), fun p i h => az_k_X8_dusk p i h⟩
theorem az_p_X8_zone : az_midP 96 (yX8_zone, cX8_zone, 3, some .int, 8, 1) := ⟨az_t2 (List.mem_of_getElem? (i := 41) rfl), az_ini_RX8, rfl, az_pn_RX8.1, az_pn_RX8.2, by decide, rfl, ⟨fun h => absurd h (by decide), fun _ => rfl, fun h => absurd h (by decide), fun h => absurd h (by decide), fun h => absurd h (by decide)⟩, fun h => absurd h (by decide), fun p i h => az_k_X8_zone p i h⟩
theorem az_p_X8_slot : az_midP 97 (yX8_slot, cX8_slot, 4, some .int, 8, 1) := ⟨az_t2 (List.mem_of_getElem? (i := 83) rfl), az_ini_RX8, rfl, az_pn_RX8.1, az_pn_RX8.2, by decide, rfl, ⟨fun h => absurd h (by decide), fun _ => rfl, fun h => absurd h (by decide), fun h => absurd h (by decide), fun h => absurd h (by decide)⟩, fun h => absurd h (by decide), fun p i h => az_k_X8_slot p i h⟩
theorem az_p_X8_load : az_midP 98 (yX8_load, cX8_load, 3, some .int, 8, 1) := ⟨az_t2 (List.mem_of_getElem? (i := 144) rfl), az_ini_RX8, rfl, az_pn_RX8.1, az_pn_RX8.2, by decide, rfl, ⟨fun h => absurd h (by decide), fun _ => rfl, fun h => absurd h (by decide), fun h => absurd h (by decide), fun h => absurd h (by decide)⟩, fun h => absurd h (by decide), fun p i h => az_k_X8_load p i h⟩
theorem az_p_X8_caravan : az_midP 99 (yX8_caravan, cX8_caravan, 2, some .int, 8, 1) := ⟨az_t2 (List.mem_of_getElem? (i := 178) rfl), az_ini_RX8, rfl, az_pn_RX8.1, az_pn_RX8.2, by decide, rfl, ⟨fun h => absurd h (by decide), fun _ => rfl, fun h => absurd h (by decide), fun h => absurd h (by decide), fun h => absurd h (by decide)⟩, fun h => absurd h (by decide), fun p i h => az_k_X8_caravan p i h⟩
theorem az_p_X8_bagAt : az_midP 100 (yX8_bagAt, cX8_bagAt, 2, some .int, 8, 1) := ⟨az_t2 (List.mem_of_getElem? (i := 171) rfl), az_ini_RX8, rfl, az_pn_RX8.1, az_pn_RX8.2, by decide, rfl, ⟨fun h => absurd h (by decide), fun _ => rfl, fun h => absurd h (by decide), fun h => absurd h (by decide), fun h => absurd h (by decide)⟩, fun h => absurd h (by decide), fun p i h => az_k_X8_bagAt p i h⟩
theorem az_p_X8_count : az_midP 101 (yX8_count, cX8_count, 2, some .int, 8, 1) := ⟨az_t2 (List.mem_of_getElem? (i := 96) rfl), az_ini_RX8, rfl, az_pn_RX8.1, az_pn_RX8.2, by decide, rfl, ⟨fun h => absurd h (by decide), fun _ => rfl, fun h => absurd h (by decide), fun h => absurd h (by decide), fun h => absurd h (by decide)⟩, fun h => absurd h (by decide), fun p i h => az_k_X8_count p i h⟩
theorem az_p_X8_settle : az_midP 102 (yX8_settle, cX8_settle, 2, some .int, 8, 1) := ⟨az_t2 (List.mem_of_getElem? (i := 235) rfl), az_ini_RX8, rfl, az_pn_RX8.1, az_pn_RX8.2, by decide, rfl, ⟨fun h => absurd h (by decide), fun _ => rfl, fun h => absurd h (by decide), fun h => absurd h (by decide), fun h => absurd h (by decide)⟩, fun h => absurd h (by decide), fun p i h => az_k_X8_settle p i h⟩
theorem az_p_L_low : az_midP 103 (yL_low, cL_low, 2, some .int, 11, 1) := ⟨az_t2 (List.mem_of_getElem? (i := 27) rfl), az_ini_RL, rfl, az_pn_RL.1, az_pn_RL.2, by decide, rfl, ⟨fun h => absurd h (by decide), fun _ => rfl, fun h => absurd h (by decide), fun h => absurd h (by decide), fun h => absurd h (by decide)⟩, fun h => absurd h (by decide), fun p i h => az_k_L_low p i h⟩
theorem az_p_L_isLive : az_midP 104 (yL_isLive, cL_isLive, 6, some .boolean, 11, 2) := ⟨az_t2 (List.mem_of_getElem? (i := 37) rfl), az_ini_RL, rfl, az_pn_RL.1, az_pn_RL.2, by decide, rfl, ⟨fun h => absurd h (by decide), fun h => absurd h (by decide), fun _ => rfl, fun h => absurd h (by decide), fun h => absurd h (by decide)⟩, fun h => absurd h (by decide), fun p i h => az_k_L_isLive p i h⟩
theorem az_p_L_live : az_midP 105 (yL_live, cL_live, 6, some .int, 11, 1) := ⟨az_t2 (List.mem_of_getElem? (i := 34) rfl), az_ini_RL, rfl, az_pn_RL.1, az_pn_RL.2, by decide, rfl, ⟨fun h => absurd h (by decide), fun _ => rfl, fun h => absurd h (by decide), fun h => absurd h (by decide), fun h => absurd h (by decide)⟩, fun h => absurd h (by decide), fun p i h => az_k_L_live p i h⟩
theorem az_p_L_mayBe : az_midP 106 (yL_mayBe, cL_mayBe, 4, some .boolean, 11, 2) := ⟨az_t3 (List.mem_of_getElem? (i := 16) rfl), az_ini_RL, rfl, az_pn_RL.1, az_pn_RL.2, by decide, rfl, ⟨fun h => absurd h (by decide), fun h => absurd h (by decide), fun _ => rfl, fun h => absurd h (by decide), fun h => absurd h (by decide)⟩, fun h => absurd h (by decide), fun p i h => az_k_L_mayBe p i h⟩
theorem az_p_L_comes : az_midP 107 (yL_comes, cL_comes, 7, some .int, 11, 1) := ⟨az_t3 (List.mem_of_getElem? (i := 63) rfl), az_ini_RL, rfl, az_pn_RL.1, az_pn_RL.2, by decide, rfl, ⟨fun h => absurd h (by decide), fun _ => rfl, fun h => absurd h (by decide), fun h => absurd h (by decide), fun h => absurd h (by decide)⟩, fun h => absurd h (by decide), fun p i h => az_k_L_comes p i h⟩
theorem az_p_L_step : az_midP 108 (yL_step, cL_step, 2, none, 11, 0) := ⟨az_t3 (List.mem_of_getElem? (i := 10) rfl), az_ini_RL, rfl, az_pn_RL.1, az_pn_RL.2, by decide, rfl, ⟨fun _ => rfl, fun h => absurd h (by decide), fun h => absurd h (by decide), fun h => absurd h (by decide), fun h => absurd h (by decide)⟩, fun h => absurd h (by decide), fun p i h => az_k_L_step p i h⟩
theorem az_p_L_place : az_midP 109 (yL_place, cL_place, 3, some .int, 11, 1) := ⟨az_t2 (List.mem_of_getElem? (i := 167) rfl), az_ini_RL, rfl, az_pn_RL.1, az_pn_RL.2, by decide, rfl, ⟨fun h => absurd h (by decide), fun _ => rfl, fun h => absurd h (by decide), fun h => absurd h (by decide), fun h => absurd h (by decide)⟩, fun h => absurd h (by decide), fun p i h => az_k_L_place p i h⟩
theorem az_p_L_leaves : az_midP 110 (yL_leaves, cL_leaves, 3, none, 11, 0) := ⟨az_t3 (List.mem_of_getElem? (i := 69) rfl), az_ini_RL, rfl, az_pn_RL.1, az_pn_RL.2, by decide, rfl, ⟨fun _ => rfl, fun h => absurd h (by decide), fun h => absurd h (by decide), fun h => absurd h (by decide), fun h => absurd h (by decide)⟩, fun h => absurd h (by decide), fun p i h => az_k_L_leaves p i h⟩
theorem az_p_L_resets : az_midP 111 (yL_resets, cL_resets, 3, none, 11, 0) := ⟨az_t3 (List.mem_of_getElem? (i := 151) rfl), az_ini_RL, rfl, az_pn_RL.1, az_pn_RL.2, by decide, rfl, ⟨fun _ => rfl, fun h => absurd h (by decide), fun h => absurd h (by decide), fun h => absurd h (by decide), fun h => absurd h (by decide)⟩, fun h => absurd h (by decide), fun p i h => az_k_L_resets p i h⟩
theorem az_p_L_areZones : az_midP 112 (yL_areZones, cL_areZones, 14, some .boolean, 11, 2) := ⟨az_t2 (List.mem_of_getElem? (i := 31) rfl), az_ini_RL, rfl, az_pn_RL.1, az_pn_RL.2, by decide, rfl, ⟨fun h => absurd h (by decide), fun h => absurd h (by decide), fun _ => rfl, fun h => absurd h (by decide), fun h => absurd h (by decide)⟩, fun h => absurd h (by decide), fun p i h => az_k_L_areZones p i h⟩
theorem az_p_L_areLoads : az_midP 113 (yL_areLoads, cL_areLoads, 8, some .boolean, 11, 2) := ⟨az_t2 (List.mem_of_getElem? (i := 140) rfl), az_ini_RL, rfl, az_pn_RL.1, az_pn_RL.2, by decide, rfl, ⟨fun h => absurd h (by decide), fun h => absurd h (by decide), fun _ => rfl, fun h => absurd h (by decide), fun h => absurd h (by decide)⟩, fun h => absurd h (by decide), fun p i h => az_k_L_areLoads p i h⟩
theorem az_p_L_isGone : az_midP 114 (yL_isGone, cL_isGone, 9, some .boolean, 11, 2) := ⟨az_t2 (List.mem_of_getElem? (i := 184) rfl), az_ini_RL, rfl, az_pn_RL.1, az_pn_RL.2, by decide, rfl, ⟨fun h => absurd h (by decide), fun h => absurd h (by decide), fun _ => rfl, fun h => absurd h (by decide), fun h => absurd h (by decide)⟩, fun h => absurd h (by decide), fun p i h => az_k_L_isGone p i h⟩
theorem az_p_L_isWritten : az_midP 115 (yL_isWritten, cL_isWritten, 8, some .boolean, 11, 2) := ⟨az_t3 (List.mem_of_getElem? (i := 13) rfl), az_ini_RL, rfl, az_pn_RL.1, az_pn_RL.2, by decide, rfl, ⟨fun h => absurd h (by decide), fun h => absurd h (by decide), fun _ => rfl, fun h => absurd h (by decide), fun h => absurd h (by decide)⟩, fun h => absurd h (by decide), fun p i h => az_k_L_isWritten p i h⟩
theorem az_p_L_isTaken : az_midP 116 (yL_isTaken, cL_isTaken, 7, some .boolean, 11, 2) := ⟨az_t3 (List.mem_of_getElem? (i := 66) rfl), az_ini_RL, rfl, az_pn_RL.1, az_pn_RL.2, by decide, rfl, ⟨fun h => absurd h (by decide), fun h => absurd h (by decide), fun _ => rfl, fun h => absurd h (by decide), fun h => absurd h (by decide)⟩, fun h => absurd h (by decide), fun p i h => az_k_L_isTaken p i h⟩
theorem az_p_L_isPut : az_midP 117 (yL_isPut, cL_isPut, 7, some .boolean, 11, 2) := ⟨az_t3 (List.mem_of_getElem? (i := 112) rfl), az_ini_RL, rfl, az_pn_RL.1, az_pn_RL.2, by decide, rfl, ⟨fun h => absurd h (by decide), fun h => absurd h (by decide), fun _ => rfl, fun h => absurd h (by decide), fun h => absurd h (by decide)⟩, fun h => absurd h (by decide), fun p i h => az_k_L_isPut p i h⟩
theorem az_p_L_isReset : az_midP 118 (yL_isReset, cL_isReset, 8, some .boolean, 11, 2) := ⟨az_t3 (List.mem_of_getElem? (i := 123) rfl), az_ini_RL, rfl, az_pn_RL.1, az_pn_RL.2, by decide, rfl, ⟨fun h => absurd h (by decide), fun h => absurd h (by decide), fun _ => rfl, fun h => absurd h (by decide), fun h => absurd h (by decide)⟩, fun h => absurd h (by decide), fun p i h => az_k_L_isReset p i h⟩
theorem az_p_L_isSet : az_midP 119 (yL_isSet, cL_isSet, 10, some .boolean, 11, 2) := ⟨az_t3 (List.mem_of_getElem? (i := 154) rfl), az_ini_RL, rfl, az_pn_RL.1, az_pn_RL.2, by decide, rfl, ⟨fun h => absurd h (by decide), fun h => absurd h (by decide), fun _ => rfl, fun h => absurd h (by decide), fun h => absurd h (by decide)⟩, fun h => absurd h (by decide), fun p i h => az_k_L_isSet p i h⟩
theorem az_p_L_isBounded : az_midP 120 (yL_isBounded, cL_isBounded, 7, some .boolean, 11, 2) := ⟨az_t3 (List.mem_of_getElem? (i := 175) rfl), az_ini_RL, rfl, az_pn_RL.1, az_pn_RL.2, by decide, rfl, ⟨fun h => absurd h (by decide), fun h => absurd h (by decide), fun _ => rfl, fun h => absurd h (by decide), fun h => absurd h (by decide)⟩, fun h => absurd h (by decide), fun p i h => az_k_L_isBounded p i h⟩
theorem az_p_L_isDusk : az_midP 121 (yL_isDusk, cL_isDusk, 5, some .boolean, 11, 2) := ⟨az_t3 (List.mem_of_getElem? (i := 203) rfl), az_ini_RL, rfl, az_pn_RL.1, az_pn_RL.2, by decide, rfl, ⟨fun h => absurd h (by decide), fun h => absurd h (by decide), fun _ => rfl, fun h => absurd h (by decide), fun h => absurd h (by decide)⟩, fun h => absurd h (by decide), fun p i h => az_k_L_isDusk p i h⟩
theorem az_p_L_isLaid : az_midP 122 (yL_isLaid, cL_isLaid, 9, some .boolean, 11, 2) := ⟨az_t3 (List.mem_of_getElem? (i := 219) rfl), az_ini_RL, rfl, az_pn_RL.1, az_pn_RL.2, by decide, rfl, ⟨fun h => absurd h (by decide), fun h => absurd h (by decide), fun _ => rfl, fun h => absurd h (by decide), fun h => absurd h (by decide)⟩, fun h => absurd h (by decide), fun p i h => az_k_L_isLaid p i h⟩
theorem az_pc0 : az_allI az_midP az_M0 0 := ⟨az_p_X0_init, az_p_X0_copyFrom, az_p_X0_pay, az_p_X0_fillSkin, az_p_X0_resizeSkin, az_p_X0_bagSpace, az_p_X0_pack, az_p_X0_unpack, az_p_X0_placeOf, az_p_X1_init, az_p_X1_size, az_p_X1_stateAt, az_p_X1_remember, az_p_X2_init, az_p_X2_copyFrom, az_p_X2_isKnown, az_p_X2_isIn, az_p_X2_liesAt, az_p_X2_anyInSlot, az_p_X2_isHot, az_p_X2_hotCount, az_p_X2_warm, az_p_X2_cool, az_p_X2_moveToSlot, az_p_X2_moveToBag, trivial⟩
theorem az_pc1 : az_allI az_midP az_M1 25 := ⟨az_p_X2_forget, az_p_X3_init, az_p_X3_length, az_p_X4_init, az_p_X4_build, az_p_X4_copyFrom, az_p_X4_hasZone, az_p_X4_hasSlot, az_p_X4_cellAt, az_p_X4_zoneBehind, az_p_X4_stepsBetween, az_p_X4_freeIn, az_p_X4_wellCount, az_p_X4_sealCount, az_p_X4_setIn, az_p_X4_admits, az_p_X4_append, az_p_X4_clear, az_p_X5_init, az_p_X5_at, az_p_X5_isSet, az_p_X5_change, az_p_X5_fill, az_p_X5_copyFrom, az_p_X6_ofZone, trivial⟩
theorem az_pc2 : az_allI az_midP az_M2 50 := ⟨az_p_X6_ofSlot, az_p_X6_ofLoad, az_p_X6_ofSlotOf, az_p_X6_ofCaravan, az_p_X6_ofBag, az_p_X6_ofAll, az_p_X6_liveSlots, az_p_X6_writtenSlots, az_p_X7_init, az_p_X7_copyFrom, az_p_X7_layZones, az_p_X7_changeKind, az_p_X7_changeWell, az_p_X7_changeSetting, az_p_X7_changeBag, az_p_X7_changeSkin, az_p_X7_changeBound, az_p_X7_travel, az_p_X7_stepAhead, az_p_X7_writeAnew, az_p_X7_mayBeWritten, az_p_X7_writeHere, az_p_X7_takeUp, az_p_X7_liesInZone, az_p_X7_packUp, trivial⟩
theorem az_pc3 : az_allI az_midP az_M3 75 := ⟨az_p_X7_putDown, az_p_X7_giveUp, az_p_X7_resetHere, az_p_X7_sealHere, az_p_X7_endDay, az_p_X7_isLive, az_p_X7_liveIn, az_p_X7_deadIn, az_p_X8_init, az_p_X8_lay, az_p_X8_setKind, az_p_X8_setWell, az_p_X8_set, az_p_X8_go, az_p_X8_write, az_p_X8_take, az_p_X8_put, az_p_X8_drop, az_p_X8_reset, az_p_X8_seal, az_p_X8_dusk, az_p_X8_zone, az_p_X8_slot, az_p_X8_load, az_p_X8_caravan, trivial⟩
theorem az_pc4 : az_allI az_midP az_M4 100 := ⟨az_p_X8_bagAt, az_p_X8_count, az_p_X8_settle, az_p_L_low, az_p_L_isLive, az_p_L_live, az_p_L_mayBe, az_p_L_comes, az_p_L_step, az_p_L_place, az_p_L_leaves, az_p_L_resets, az_p_L_areZones, az_p_L_areLoads, az_p_L_isGone, az_p_L_isWritten, az_p_L_isTaken, az_p_L_isPut, az_p_L_isReset, az_p_L_isSet, az_p_L_isBounded, az_p_L_isDusk, az_p_L_isLaid, trivial⟩
theorem az_mids (mid : Nat) (M : az_ME) (h : az_M[mid]? = some M) : az_midP mid M := by
  have h1 := az_allI_get az_M 0 mid M (az_allI_app _ _ _ az_pc0 (az_allI_app _ _ _ az_pc1 (az_allI_app _ _ _ az_pc2 (az_allI_app _ _ _ az_pc3 (az_pc4))))) h
  rw [Nat.zero_add] at h1
  exact h1
theorem az_mono {call : Nat → List Value → az_H → Option az_R} {code : Nat → Option az_I} (hc : ∀ mid as h r h', call mid as h = some (r, h') → h.1 ≤ h'.1 ∧ h.2.2.2 ≤ h'.2.2.2) : ∀ (n p : Nat) (ls : List az_V) (stk : List Value) (h : az_H) (r : Option Value) (h' : az_H), az_run call code n p ls stk h = some (r, h') → h.1 ≤ h'.1 ∧ h.2.2.2 ≤ h'.2.2.2 := by
  intro n
  induction n with
  | zero => intro p ls stk h r h' hr; cases hr
  | succ n ih =>
    intro p ls stk h r h' hr
    have hr : (match code p with | none => none | some i => az_step call i ls stk h (az_run call code n)) = some (r, h') := hr
    cases hi : code p with
    | none => rw [hi] at hr; cases hr
    | some i =>
      rw [hi] at hr
      have hr : az_step call i ls stk h (az_run call code n) = some (r, h') := hr
      unfold az_step at hr
      split at hr
      · next h1 =>
        have q1 := az_mono1 h1
        have q2 := ih _ _ _ _ _ _ hr
        exact ⟨Nat.le_trans q1.1 q2.1, Nat.le_trans q1.2 q2.2⟩
      · split at hr
        · next h1 =>
          have q1 := az_mono2 h1
          simp only [Bool.cond_eq_ite] at hr
          split at hr
          · have q2 := ih _ _ _ _ _ _ hr
            exact ⟨Nat.le_trans q1.1 q2.1, Nat.le_trans q1.2 q2.2⟩
          · cases hr
        · split at hr
          · simp only [Bool.cond_eq_ite] at hr
            split at hr
            · exact ih _ _ _ _ _ _ hr
            · exact ih _ _ _ _ _ _ hr
          · split at hr
            · exact ih _ _ _ _ _ _ hr
            · split at hr
              · simp only [Bool.cond_eq_ite] at hr
                split at hr
                · split at hr
                  · next h1 =>
                    have q1 := hc _ _ _ _ _ h1
                    have q2 := ih _ _ _ _ _ _ hr
                    exact ⟨Nat.le_trans q1.1 q2.1, Nat.le_trans q1.2 q2.2⟩
                  · cases hr
                · cases hr
              · split at hr
                · simp only [Bool.cond_eq_ite] at hr
                  split at hr
                  · cases hr; exact ⟨Nat.le_refl _, Nat.le_refl _⟩
                  · cases hr
                · cases hr
section RUNS
variable {p : Program} {l : Launch} {e : Env} {R : Room} {s : State} {m : MethodId} {args : Array Value} {below : List Frame} {meth : Method} {c : Code}
variable {D : va_G} {nL oi rc z0 : Nat} {cc : ByteArray} {h0 : az_H} {pc : Nat} {ls : List az_V} {stk : List Value} {h : az_H}
theorem az_snd_rt {i : az_I} {g : Bool} {r : Option Value} (X : az_CX p s m args meth c D nL oi rc cc) (hok : az_ok oi rc cc pc i = true) (hs : az_rt i stk = some (g, r)) (hg : g = true) (r1 : h.1 = h0.1 + R.cells) (r2 : h.2.2.2 = h0.2.2.2 + R.slots) : az_MS p l e R s m args below meth c D nL z0 h0 (MQ below (az_Qc D z0 r h) args s R.cells R.slots (fun q => z0 ≤ q)) pc ls stk h := by
  obtain ⟨t, a, b, k, im, nx, sw⟩ := i
  intro H locs cells slots la hH hS hL h1 h2
  obtain rfl : cells = R.cells := by omega
  obtain rfl : slots = R.slots := by omega
  obtain ⟨hx, hb, hml, hown, hts, hK, hTB, hin, hlk, q0, q1, q2, q3, q4⟩ := X
  have fin : ∀ (t : State), t.heap = H → s.WarmedH t.vm → az_HR t D z0 h t.heap ∧ va_F (fun q => z0 ≤ q) s t := by
    intro t ht hW
    refine ⟨?_, ?_⟩
    · rw [ht]
      exact hH.moved hW.alike
    · exact ⟨by rw [ht]; exact hS.1, fun q g1 g2 => by rw [ht]; exact hS.2.1 q g1 g2⟩
  by_cases h62 : t = 62
  · subst h62
    obtain ⟨hdg, hnx, hx2⟩ := az_okd hok (show az_exp pc (62, a, b, k, im, nx, sw) = some (.ireturn, 1) from rfl)
    have hx2 : decide (rc = 1) = true := hx2
    have hs : (match (generalizing := false) stk with | [.int x] => some (true, some (Value.int x)) | _ => none) = some (g, r) := hs
    split at hs
    · next x _ =>
      simp only [Option.some.injEq, Prod.mk.injEq] at hs
      obtain ⟨rfl, rfl⟩ := hs
      exact W.iret hx hb (q1 (of_decide_eq_true hx2)) (fun t ht hW => ⟨⟨rfl, (fin t ht hW).1⟩, (fin t ht hW).2⟩) hS.2.2 hdg hlk
    · cases hs
  by_cases h63 : t = 63
  · subst h63
    obtain ⟨hdg, hnx, hx2⟩ := az_okd hok (show az_exp pc (63, a, b, k, im, nx, sw) = some (.return_, 1) from rfl)
    have hx2 : decide (rc = 0 ∨ rc = 4) = true := hx2
    have hs : (match (generalizing := false) stk with | [] => some (true, (none : Option Value)) | _ => none) = some (g, r) := hs
    split at hs
    · simp only [Option.some.injEq, Prod.mk.injEq] at hs
      obtain ⟨rfl, rfl⟩ := hs
      exact W.vret hx hb ((of_decide_eq_true hx2).elim q0 q4) (fun t ht hW => ⟨⟨rfl, (fin t ht hW).1⟩, (fin t ht hW).2⟩) hS.2.2 hdg hlk
    · cases hs
  by_cases h64 : t = 64
  · subst h64
    obtain ⟨hdg, hnx, hx2⟩ := az_okd hok (show az_exp pc (64, a, b, k, im, nx, sw) = some (.areturn, 1) from rfl)
    have hx2 : decide (rc = 3) = true := hx2
    have hs : (match (generalizing := false) stk with | [.ref q] => some (true, some (Value.ref q)) | [.null] => some (true, some Value.null) | _ => none) = some (g, r) := hs
    split at hs
    · next q _ =>
      simp only [Option.some.injEq, Prod.mk.injEq] at hs
      obtain ⟨rfl, rfl⟩ := hs
      exact W.aret (v := .ref (z0 + q)) hx hb (q3 (of_decide_eq_true hx2)) (Or.inl ⟨_, rfl⟩) (Or.inr ⟨_, rfl⟩) (fun t ht hW => ⟨⟨rfl, (fin t ht hW).1⟩, (fin t ht hW).2⟩) hS.2.2 hdg hlk
    · simp only [Option.some.injEq, Prod.mk.injEq] at hs
      obtain ⟨rfl, rfl⟩ := hs
      exact W.aret (v := .null) hx hb (q3 (of_decide_eq_true hx2)) (Or.inl ⟨_, rfl⟩) (Or.inl rfl) (fun t ht hW => ⟨⟨rfl, (fin t ht hW).1⟩, (fin t ht hW).2⟩) hS.2.2 hdg hlk
    · cases hs
  by_cases h65 : t = 65
  · subst h65
    obtain ⟨hdg, hnx, hx2⟩ := az_okd hok (show az_exp pc (65, a, b, k, im, nx, sw) = some (.ireturn, 1) from rfl)
    have hx2 : decide (rc = 2) = true := hx2
    have hs : (match (generalizing := false) stk with | [.int x] => some (az_bit x, some (Value.int x)) | _ => none) = some (g, r) := hs
    split at hs
    · next x _ =>
      simp only [Option.some.injEq, Prod.mk.injEq] at hs
      obtain ⟨rfl, rfl⟩ := hs
      exact W.zret hx hb (q2 (of_decide_eq_true hx2)) (az_bit_nar hg) (fun t ht hW => ⟨⟨rfl, (fin t ht hW).1⟩, (fin t ht hW).2⟩) hS.2.2 hdg hlk
    · cases hs
  · exfalso
    simp only [az_rt, az_eF h62, az_eF h63, az_eF h64, az_eF h65, cond_false] at hs
    cases hs
theorem az_snd_run {d : Nat} {call : Nat → List Value → az_H → Option az_R} {code : Nat → Option az_I} {rf : Option Value} {hf : az_H} (X : az_CX p s m args meth c D nL oi rc cc) (hcode : ∀ p i, code p = some i → az_ok oi rc cc p i = true) (hcall : ∀ mid as h r h', call mid as h = some (r, h') → az_CT l d mid as h r h') (hRf : d + 1 ≤ R.frames) (hRl : 33 * (d + 1) ≤ R.locals) (hR1 : hf.1 = h0.1 + R.cells) (hR2 : hf.2.2.2 = h0.2.2.2 + R.slots) : ∀ (n pc : Nat) (ls : List az_V) (stk : List Value) (h : az_H), az_run call code n pc ls stk h = some (rf, hf) → az_MS p l e R s m args below meth c D nL z0 h0 (MQ below (az_Qc D z0 rf hf) args s R.cells R.slots (fun q => z0 ≤ q)) pc ls stk h := by
  have hcm : ∀ mid as h r h', call mid as h = some (r, h') → h.1 ≤ h'.1 ∧ h.2.2.2 ≤ h'.2.2.2 := fun mid as h r h' q => ⟨(hcall mid as h r h' q).1, (hcall mid as h r h' q).2.1⟩
  intro n
  induction n with
  | zero => intro pc ls stk h hr; cases hr
  | succ n ih =>
    intro pc ls stk h hr
    have hr : (match code pc with | none => none | some i => az_step call i ls stk h (az_run call code n)) = some (rf, hf) := hr
    cases hi : code pc with
    | none => rw [hi] at hr; cases hr
    | some i =>
      rw [hi] at hr
      have hr : az_step call i ls stk h (az_run call code n) = some (rf, hf) := hr
      have hok := hcode pc i hi
      unfold az_step at hr
      split at hr
      · next h1 =>
        have q2 := az_mono hcm _ _ _ _ _ _ _ hr
        exact az_snd_st1 X hok h1 (by omega) (by omega) (by omega) (by omega) (ih _ _ _ _ hr)
      · split at hr
        · next h1 =>
          simp only [Bool.cond_eq_ite] at hr
          split at hr
          · next hg =>
            have q2 := az_mono hcm _ _ _ _ _ _ _ hr
            exact az_snd_gd X hok h1 hg (by omega) (by omega) (ih _ _ _ _ hr)
          · cases hr
        · split at hr
          · next h1 =>
            refine az_snd_br X hok h1 (fun hg => ?_) (fun hg => ?_)
            · rw [hg] at hr
              exact ih _ _ _ _ hr
            · rw [hg] at hr
              exact ih _ _ _ _ hr
          · split at hr
            · next h1 => exact az_snd_sw X hok h1 (ih _ _ _ _ hr)
            · split at hr
              · next h1 =>
                simp only [Bool.cond_eq_ite] at hr
                split at hr
                · next hcat =>
                  split at hr
                  · next h2 =>
                    have q2 := az_mono hcm _ _ _ _ _ _ _ hr
                    exact az_snd_cl az_mids X hok h1 (Nat.le_of_ble_eq_true hcat) (hcall _ _ _ _ _ h2) hRf hRl (by omega) (by omega) (ih _ _ _ _ hr)
                  · cases hr
                · cases hr
              · split at hr
                · next h1 =>
                  simp only [Bool.cond_eq_ite] at hr
                  split at hr
                  · next hg =>
                    have e : (_, h) = (rf, hf) := Option.some.inj hr
                    simp only [Prod.mk.injEq] at e
                    obtain ⟨rfl, rfl⟩ := e
                    exact az_snd_rt X hok h1 hg hR1 hR2
                  · cases hr
                · cases hr
end RUNS
theorem az_ev_mono : ∀ (d n mid : Nat) (as : List Value) (h : az_H) (r : Option Value) (h' : az_H), az_ev d n mid as h = some (r, h') → h.1 ≤ h'.1 ∧ h.2.2.2 ≤ h'.2.2.2 := by
  intro d
  induction d with
  | zero => intro n mid as h r h' hr; cases hr
  | succ d ih =>
    intro n mid as h r h' hr
    have hr : (bif Nat.ble as.length (az_ml mid) then az_run (az_ev d n) (az_code mid) n 0 (az_lin as (az_ml mid)) [] h else none) = some (r, h') := hr
    cases hb : Nat.ble as.length (az_ml mid) with
    | false => rw [hb] at hr; cases hr
    | true => rw [hb] at hr; exact az_mono (fun mid as h r h' q => ih n mid as h r h' q) _ _ _ _ _ _ _ hr
/-- THE BRIDGE: a call that the abstract machine ends is a contract of the machine's -/
theorem az_sound (l : Launch) : ∀ (d n mid : Nat) (as : List Value) (h : az_H) (r : Option Value) (h' : az_H), az_ev d n mid as h = some (r, h') → az_CT l d mid as h r h' := by
  intro d
  induction d with
  | zero => intro n mid as h r h' hr; cases hr
  | succ d ih =>
    intro n mid as h r h' hr0
    have hmm := az_ev_mono _ _ _ _ _ _ _ hr0
    have hr : (bif Nat.ble as.length (az_ml mid) then az_run (az_ev d n) (az_code mid) n 0 (az_lin as (az_ml mid)) [] h else none) = some (r, h') := hr0
    cases hble : Nat.ble as.length (az_ml mid) with
    | false => rw [hble] at hr; cases hr
    | true =>
      rw [hble, cond_true] at hr
      refine ⟨hmm.1, hmm.2, fun M hM hc D z0 => ?_⟩
      obtain ⟨g1, g2, g3, g4, g5, g6, g7, g8, g9, g10⟩ := az_mids mid M hM
      refine Met.ofW (cc := M.2.1) (maxL := M.2.2.1) (ret := M.2.2.2.1) g4 rfl ?_
      intro p e s m args below meth c s₁ B hml hv
      obtain ⟨rfl, hHR, hK, hTB⟩ := hv
      have hts0 := atoms_spec (ws := .code M.1 M.2.1 M.2.2.1 M.2.2.2.1 :: az_W) B.pre
      have hts : ∀ w ∈ az_W, w.before (as.map (az_sv z0)).toArray s = true := fun w hw => hts0 w (List.mem_cons_of_mem _ hw)
      have hown : s.vm.findClass M.1.cls = some m.cls := findClass_of_methodNamed B.named
      rw [g3] at hown
      have hname : meth.name = M.1.name := (name_of_methodNamed B.named B.method).1
      have X : az_CX p s m (as.map (az_sv z0)).toArray meth c D M.2.2.1 M.2.2.2.2.1 M.2.2.2.2.2 M.2.1 := ⟨B.exec, B.bytes, hml, hown, hts, hK, hTB, fun q => by rw [hname]; exact g9 q, B.notSynchronized, by rw [B.returns]; exact g8⟩
      have hlen : as.length ≤ M.2.2.1 := by rw [← g7]; exact Nat.le_of_ble_eq_true hble
      have hLR := az_LR.entry z0 M.2.2.1 as hc hlen
      rw [lg_entry_eq]
      rw [g7] at hr
      exact az_snd_run (R := az_rm (d + 1) (h'.1 - h.1) (h'.2.2.2 - h.2.2.2)) (d := d) (h0 := h) X g10 (fun mid as h r h' q => ih n mid as h r h' q) (Nat.le_refl _) (Nat.le_refl _) (by show h'.1 = h.1 + (h'.1 - h.1); omega) (by show h'.2.2.2 = h.2.2.2 + (h'.2.2.2 - h.2.2.2); omega) n 0 _ [] h hr s.heap [] 0 0 _ hHR va_S.rf hLR rfl rfl
