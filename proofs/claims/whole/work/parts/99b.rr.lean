/-! REFERENCE: what its row says of the class's world; written by wip/whole/mkrr.py -/
def rU (r : Nat → Int32) (k : Nat) (x : Int32) : Nat → Int32 := fun j => if j = k then x else r j
theorem rU_up (M : az_Mem) (k : Nat) (x : Int32) : az_up M 193 k x 193 = rU (M 193) k x := by
  funext j
  simp [az_up, rU]
def RR (W : az_Mem) (r : Nat → Int32) : Prop := (r 0 = W 2 0) ∧ (r 1 = W 2 1) ∧ (r 2 = W 24 0) ∧ (r 3 = W 24 1) ∧ (r 4 = W 24 2) ∧ (r 5 = W 24 3) ∧ (r 6 = W 17 0) ∧ (r 7 = W 2 2) ∧ (r 8 = W 24 5) ∧ (r 9 = W 24 6) ∧ (r 10 = W 2 3) ∧ (r 11 = W 24 7) ∧ (r 12 = W 24 4) ∧ (∀ i, i < 6 → r (13 + i) = W 26 i) ∧ (∀ i, i < 8 → r (19 + 5 * i + 0) = W 4 i) ∧ (∀ i, i < 8 → r (19 + 5 * i + 1) = W 8 i) ∧ (∀ i, i < 8 → r (19 + 5 * i + 2) = W 6 i) ∧ (∀ i, i < 8 → r (19 + 5 * i + 3) = W 10 i) ∧ (∀ i, i < 8 → r (19 + 5 * i + 4) = W 12 i) ∧ (∀ i, i < 96 → r (59 + 2 * i) = W 14 i) ∧ (∀ i, i < 96 → r (59 + 2 * i + 1) = W 16 i) ∧ (∀ i, i < 40 → r (251 + 4 * i + 0) = W 19 i) ∧ (∀ i, i < 40 → r (251 + 4 * i + 3) = W 23 i) ∧ (∀ i, i < 40 → r (251 + 4 * i + 1) = W 21 i / 12) ∧ (∀ i, i < 40 → r (251 + 4 * i + 2) = W 21 i - W 21 i / 12 * 12)
theorem RR.zones {W : az_Mem} {r : Nat → Int32} (h : RR W r) : r 0 = W 2 0 := h.1
theorem RR.slots {W : az_Mem} {r : Nat → Int32} (h : RR W r) : r 1 = W 2 1 := h.2.1
theorem RR.at_ {W : az_Mem} {r : Nat → Int32} (h : RR W r) : r 2 = W 24 0 := h.2.2.1
theorem RR.water {W : az_Mem} {r : Nat → Int32} (h : RR W r) : r 3 = W 24 1 := h.2.2.2.1
theorem RR.skin {W : az_Mem} {r : Nat → Int32} (h : RR W r) : r 4 = W 24 2 := h.2.2.2.2.1
theorem RR.room {W : az_Mem} {r : Nat → Int32} (h : RR W r) : r 5 = W 24 3 := h.2.2.2.2.2.1
theorem RR.bound {W : az_Mem} {r : Nat → Int32} (h : RR W r) : r 6 = W 17 0 := h.2.2.2.2.2.2.1
theorem RR.mark {W : az_Mem} {r : Nat → Int32} (h : RR W r) : r 7 = W 2 2 := h.2.2.2.2.2.2.2.1
theorem RR.steps {W : az_Mem} {r : Nat → Int32} (h : RR W r) : r 8 = W 24 5 := h.2.2.2.2.2.2.2.2.1
theorem RR.used {W : az_Mem} {r : Nat → Int32} (h : RR W r) : r 9 = W 24 6 := h.2.2.2.2.2.2.2.2.2.1
theorem RR.resets {W : az_Mem} {r : Nat → Int32} (h : RR W r) : r 10 = W 2 3 := h.2.2.2.2.2.2.2.2.2.2.1
theorem RR.moved {W : az_Mem} {r : Nat → Int32} (h : RR W r) : r 11 = W 24 7 := h.2.2.2.2.2.2.2.2.2.2.2.1
theorem RR.many {W : az_Mem} {r : Nat → Int32} (h : RR W r) : r 12 = W 24 4 := h.2.2.2.2.2.2.2.2.2.2.2.2.1
theorem RR.bag {W : az_Mem} {r : Nat → Int32} (h : RR W r) : ∀ i, i < 6 → r (13 + i) = W 26 i := h.2.2.2.2.2.2.2.2.2.2.2.2.2.1
theorem RR.zp {W : az_Mem} {r : Nat → Int32} (h : RR W r) : ∀ i, i < 8 → r (19 + 5 * i + 0) = W 4 i := h.2.2.2.2.2.2.2.2.2.2.2.2.2.2.1
theorem RR.zs {W : az_Mem} {r : Nat → Int32} (h : RR W r) : ∀ i, i < 8 → r (19 + 5 * i + 1) = W 8 i := h.2.2.2.2.2.2.2.2.2.2.2.2.2.2.2.1
theorem RR.zk {W : az_Mem} {r : Nat → Int32} (h : RR W r) : ∀ i, i < 8 → r (19 + 5 * i + 2) = W 6 i := h.2.2.2.2.2.2.2.2.2.2.2.2.2.2.2.2.1
theorem RR.zw {W : az_Mem} {r : Nat → Int32} (h : RR W r) : ∀ i, i < 8 → r (19 + 5 * i + 3) = W 10 i := h.2.2.2.2.2.2.2.2.2.2.2.2.2.2.2.2.2.1
theorem RR.zr {W : az_Mem} {r : Nat → Int32} (h : RR W r) : ∀ i, i < 8 → r (19 + 5 * i + 4) = W 12 i := h.2.2.2.2.2.2.2.2.2.2.2.2.2.2.2.2.2.2.1
theorem RR.cl {W : az_Mem} {r : Nat → Int32} (h : RR W r) : ∀ i, i < 96 → r (59 + 2 * i) = W 14 i := h.2.2.2.2.2.2.2.2.2.2.2.2.2.2.2.2.2.2.2.1
theorem RR.cm {W : az_Mem} {r : Nat → Int32} (h : RR W r) : ∀ i, i < 96 → r (59 + 2 * i + 1) = W 16 i := h.2.2.2.2.2.2.2.2.2.2.2.2.2.2.2.2.2.2.2.2.1
theorem RR.lw {W : az_Mem} {r : Nat → Int32} (h : RR W r) : ∀ i, i < 40 → r (251 + 4 * i + 0) = W 19 i := h.2.2.2.2.2.2.2.2.2.2.2.2.2.2.2.2.2.2.2.2.2.1
theorem RR.lh {W : az_Mem} {r : Nat → Int32} (h : RR W r) : ∀ i, i < 40 → r (251 + 4 * i + 3) = W 23 i := h.2.2.2.2.2.2.2.2.2.2.2.2.2.2.2.2.2.2.2.2.2.2.1
theorem RR.li {W : az_Mem} {r : Nat → Int32} (h : RR W r) : ∀ i, i < 40 → r (251 + 4 * i + 1) = W 21 i / 12 := h.2.2.2.2.2.2.2.2.2.2.2.2.2.2.2.2.2.2.2.2.2.2.2.1
theorem RR.lp {W : az_Mem} {r : Nat → Int32} (h : RR W r) : ∀ i, i < 40 → r (251 + 4 * i + 2) = W 21 i - W 21 i / 12 * 12 := h.2.2.2.2.2.2.2.2.2.2.2.2.2.2.2.2.2.2.2.2.2.2.2.2
theorem RR.mk {W : az_Mem} {r : Nat → Int32} (zones : r 0 = W 2 0) (slots : r 1 = W 2 1) (at_ : r 2 = W 24 0) (water : r 3 = W 24 1) (skin : r 4 = W 24 2) (room : r 5 = W 24 3) (bound : r 6 = W 17 0) (mark : r 7 = W 2 2) (steps : r 8 = W 24 5) (used : r 9 = W 24 6) (resets : r 10 = W 2 3) (moved : r 11 = W 24 7) (many : r 12 = W 24 4) (bag : ∀ i, i < 6 → r (13 + i) = W 26 i) (zp : ∀ i, i < 8 → r (19 + 5 * i + 0) = W 4 i) (zs : ∀ i, i < 8 → r (19 + 5 * i + 1) = W 8 i) (zk : ∀ i, i < 8 → r (19 + 5 * i + 2) = W 6 i) (zw : ∀ i, i < 8 → r (19 + 5 * i + 3) = W 10 i) (zr : ∀ i, i < 8 → r (19 + 5 * i + 4) = W 12 i) (cl : ∀ i, i < 96 → r (59 + 2 * i) = W 14 i) (cm : ∀ i, i < 96 → r (59 + 2 * i + 1) = W 16 i) (lw : ∀ i, i < 40 → r (251 + 4 * i + 0) = W 19 i) (lh : ∀ i, i < 40 → r (251 + 4 * i + 3) = W 23 i) (li : ∀ i, i < 40 → r (251 + 4 * i + 1) = W 21 i / 12) (lp : ∀ i, i < 40 → r (251 + 4 * i + 2) = W 21 i - W 21 i / 12 * 12) : RR W r := ⟨zones, slots, at_, water, skin, room, bound, mark, steps, used, resets, moved, many, bag, zp, zs, zk, zw, zr, cl, cm, lw, lh, li, lp⟩
theorem RR.u_zones {W : az_Mem} {r : Nat → Int32} (h : RR W r) (x : Int32) : RR (az_up W 2 0 x) (rU r 0 x) := RR.mk
  (zones := by
    have e := h.zones
    simp only [rU, az_up]
    repeat' split
    all_goals first | rfl | exact e | omega | (clear h; simp_all <;> omega))
  (slots := by
    have e := h.slots
    simp only [rU, az_up]
    repeat' split
    all_goals first | rfl | exact e | omega | (clear h; simp_all <;> omega))
  (at_ := by
    have e := h.at_
    simp only [rU, az_up]
    repeat' split
    all_goals first | rfl | exact e | omega | (clear h; simp_all <;> omega))
  (water := by
    have e := h.water
    simp only [rU, az_up]
    repeat' split
    all_goals first | rfl | exact e | omega | (clear h; simp_all <;> omega))
  (skin := by
    have e := h.skin
    simp only [rU, az_up]
    repeat' split
    all_goals first | rfl | exact e | omega | (clear h; simp_all <;> omega))
  (room := by
    have e := h.room
    simp only [rU, az_up]
    repeat' split
    all_goals first | rfl | exact e | omega | (clear h; simp_all <;> omega))
  (bound := by
    have e := h.bound
    simp only [rU, az_up]
    repeat' split
    all_goals first | rfl | exact e | omega | (clear h; simp_all <;> omega))
  (mark := by
    have e := h.mark
    simp only [rU, az_up]
    repeat' split
    all_goals first | rfl | exact e | omega | (clear h; simp_all <;> omega))
  (steps := by
    have e := h.steps
    simp only [rU, az_up]
    repeat' split
    all_goals first | rfl | exact e | omega | (clear h; simp_all <;> omega))
  (used := by
    have e := h.used
    simp only [rU, az_up]
    repeat' split
    all_goals first | rfl | exact e | omega | (clear h; simp_all <;> omega))
  (resets := by
    have e := h.resets
    simp only [rU, az_up]
    repeat' split
    all_goals first | rfl | exact e | omega | (clear h; simp_all <;> omega))
  (moved := by
    have e := h.moved
    simp only [rU, az_up]
    repeat' split
    all_goals first | rfl | exact e | omega | (clear h; simp_all <;> omega))
  (many := by
    have e := h.many
    simp only [rU, az_up]
    repeat' split
    all_goals first | rfl | exact e | omega | (clear h; simp_all <;> omega))
  (bag := fun i hi => by
    have e := h.bag i hi
    simp only [rU, az_up]
    repeat' split
    all_goals first | rfl | exact e | omega | (clear h; simp_all <;> omega))
  (zp := fun i hi => by
    have e := h.zp i hi
    simp only [rU, az_up]
    repeat' split
    all_goals first | rfl | exact e | omega | (clear h; simp_all <;> omega))
  (zs := fun i hi => by
    have e := h.zs i hi
    simp only [rU, az_up]
    repeat' split
    all_goals first | rfl | exact e | omega | (clear h; simp_all <;> omega))
  (zk := fun i hi => by
    have e := h.zk i hi
    simp only [rU, az_up]
    repeat' split
    all_goals first | rfl | exact e | omega | (clear h; simp_all <;> omega))
  (zw := fun i hi => by
    have e := h.zw i hi
    simp only [rU, az_up]
    repeat' split
    all_goals first | rfl | exact e | omega | (clear h; simp_all <;> omega))
  (zr := fun i hi => by
    have e := h.zr i hi
    simp only [rU, az_up]
    repeat' split
    all_goals first | rfl | exact e | omega | (clear h; simp_all <;> omega))
  (cl := fun i hi => by
    have e := h.cl i hi
    simp only [rU, az_up]
    repeat' split
    all_goals first | rfl | exact e | omega | (clear h; simp_all <;> omega))
  (cm := fun i hi => by
    have e := h.cm i hi
    simp only [rU, az_up]
    repeat' split
    all_goals first | rfl | exact e | omega | (clear h; simp_all <;> omega))
  (lw := fun i hi => by
    have e := h.lw i hi
    simp only [rU, az_up]
    repeat' split
    all_goals first | rfl | exact e | omega | (clear h; simp_all <;> omega))
  (lh := fun i hi => by
    have e := h.lh i hi
    simp only [rU, az_up]
    repeat' split
    all_goals first | rfl | exact e | omega | (clear h; simp_all <;> omega))
  (li := fun i hi => by
    have e := h.li i hi
    simp only [rU, az_up]
    repeat' split
    all_goals first | rfl | exact e | omega | (clear h; simp_all <;> omega))
  (lp := fun i hi => by
    have e := h.lp i hi
    simp only [rU, az_up]
    repeat' split
    all_goals first | rfl | exact e | omega | (clear h; simp_all <;> omega))
theorem RR.u_slots {W : az_Mem} {r : Nat → Int32} (h : RR W r) (x : Int32) : RR (az_up W 2 1 x) (rU r 1 x) := RR.mk
  (zones := by
    have e := h.zones
    simp only [rU, az_up]
    repeat' split
    all_goals first | rfl | exact e | omega | (clear h; simp_all <;> omega))
  (slots := by
    have e := h.slots
    simp only [rU, az_up]
    repeat' split
    all_goals first | rfl | exact e | omega | (clear h; simp_all <;> omega))
  (at_ := by
    have e := h.at_
    simp only [rU, az_up]
    repeat' split
    all_goals first | rfl | exact e | omega | (clear h; simp_all <;> omega))
  (water := by
    have e := h.water
    simp only [rU, az_up]
    repeat' split
    all_goals first | rfl | exact e | omega | (clear h; simp_all <;> omega))
  (skin := by
    have e := h.skin
    simp only [rU, az_up]
    repeat' split
    all_goals first | rfl | exact e | omega | (clear h; simp_all <;> omega))
  (room := by
    have e := h.room
    simp only [rU, az_up]
    repeat' split
    all_goals first | rfl | exact e | omega | (clear h; simp_all <;> omega))
  (bound := by
    have e := h.bound
    simp only [rU, az_up]
    repeat' split
    all_goals first | rfl | exact e | omega | (clear h; simp_all <;> omega))
  (mark := by
    have e := h.mark
    simp only [rU, az_up]
    repeat' split
    all_goals first | rfl | exact e | omega | (clear h; simp_all <;> omega))
  (steps := by
    have e := h.steps
    simp only [rU, az_up]
    repeat' split
    all_goals first | rfl | exact e | omega | (clear h; simp_all <;> omega))
  (used := by
    have e := h.used
    simp only [rU, az_up]
    repeat' split
    all_goals first | rfl | exact e | omega | (clear h; simp_all <;> omega))
  (resets := by
    have e := h.resets
    simp only [rU, az_up]
    repeat' split
    all_goals first | rfl | exact e | omega | (clear h; simp_all <;> omega))
  (moved := by
    have e := h.moved
    simp only [rU, az_up]
    repeat' split
    all_goals first | rfl | exact e | omega | (clear h; simp_all <;> omega))
  (many := by
    have e := h.many
    simp only [rU, az_up]
    repeat' split
    all_goals first | rfl | exact e | omega | (clear h; simp_all <;> omega))
  (bag := fun i hi => by
    have e := h.bag i hi
    simp only [rU, az_up]
    repeat' split
    all_goals first | rfl | exact e | omega | (clear h; simp_all <;> omega))
  (zp := fun i hi => by
    have e := h.zp i hi
    simp only [rU, az_up]
    repeat' split
    all_goals first | rfl | exact e | omega | (clear h; simp_all <;> omega))
  (zs := fun i hi => by
    have e := h.zs i hi
    simp only [rU, az_up]
    repeat' split
    all_goals first | rfl | exact e | omega | (clear h; simp_all <;> omega))
  (zk := fun i hi => by
    have e := h.zk i hi
    simp only [rU, az_up]
    repeat' split
    all_goals first | rfl | exact e | omega | (clear h; simp_all <;> omega))
  (zw := fun i hi => by
    have e := h.zw i hi
    simp only [rU, az_up]
    repeat' split
    all_goals first | rfl | exact e | omega | (clear h; simp_all <;> omega))
  (zr := fun i hi => by
    have e := h.zr i hi
    simp only [rU, az_up]
    repeat' split
    all_goals first | rfl | exact e | omega | (clear h; simp_all <;> omega))
  (cl := fun i hi => by
    have e := h.cl i hi
    simp only [rU, az_up]
    repeat' split
    all_goals first | rfl | exact e | omega | (clear h; simp_all <;> omega))
  (cm := fun i hi => by
    have e := h.cm i hi
    simp only [rU, az_up]
    repeat' split
    all_goals first | rfl | exact e | omega | (clear h; simp_all <;> omega))
  (lw := fun i hi => by
    have e := h.lw i hi
    simp only [rU, az_up]
    repeat' split
    all_goals first | rfl | exact e | omega | (clear h; simp_all <;> omega))
  (lh := fun i hi => by
    have e := h.lh i hi
    simp only [rU, az_up]
    repeat' split
    all_goals first | rfl | exact e | omega | (clear h; simp_all <;> omega))
  (li := fun i hi => by
    have e := h.li i hi
    simp only [rU, az_up]
    repeat' split
    all_goals first | rfl | exact e | omega | (clear h; simp_all <;> omega))
  (lp := fun i hi => by
    have e := h.lp i hi
    simp only [rU, az_up]
    repeat' split
    all_goals first | rfl | exact e | omega | (clear h; simp_all <;> omega))
theorem RR.u_at_ {W : az_Mem} {r : Nat → Int32} (h : RR W r) (x : Int32) : RR (az_up W 24 0 x) (rU r 2 x) := RR.mk
  (zones := by
    have e := h.zones
    simp only [rU, az_up]
    repeat' split
    all_goals first | rfl | exact e | omega | (clear h; simp_all <;> omega))
  (slots := by
    have e := h.slots
    simp only [rU, az_up]
    repeat' split
    all_goals first | rfl | exact e | omega | (clear h; simp_all <;> omega))
  (at_ := by
    have e := h.at_
    simp only [rU, az_up]
    repeat' split
    all_goals first | rfl | exact e | omega | (clear h; simp_all <;> omega))
  (water := by
    have e := h.water
    simp only [rU, az_up]
    repeat' split
    all_goals first | rfl | exact e | omega | (clear h; simp_all <;> omega))
  (skin := by
    have e := h.skin
    simp only [rU, az_up]
    repeat' split
    all_goals first | rfl | exact e | omega | (clear h; simp_all <;> omega))
  (room := by
    have e := h.room
    simp only [rU, az_up]
    repeat' split
    all_goals first | rfl | exact e | omega | (clear h; simp_all <;> omega))
  (bound := by
    have e := h.bound
    simp only [rU, az_up]
    repeat' split
    all_goals first | rfl | exact e | omega | (clear h; simp_all <;> omega))
  (mark := by
    have e := h.mark
    simp only [rU, az_up]
    repeat' split
    all_goals first | rfl | exact e | omega | (clear h; simp_all <;> omega))
  (steps := by
    have e := h.steps
    simp only [rU, az_up]
    repeat' split
    all_goals first | rfl | exact e | omega | (clear h; simp_all <;> omega))
  (used := by
    have e := h.used
    simp only [rU, az_up]
    repeat' split
    all_goals first | rfl | exact e | omega | (clear h; simp_all <;> omega))
  (resets := by
    have e := h.resets
    simp only [rU, az_up]
    repeat' split
    all_goals first | rfl | exact e | omega | (clear h; simp_all <;> omega))
  (moved := by
    have e := h.moved
    simp only [rU, az_up]
    repeat' split
    all_goals first | rfl | exact e | omega | (clear h; simp_all <;> omega))
  (many := by
    have e := h.many
    simp only [rU, az_up]
    repeat' split
    all_goals first | rfl | exact e | omega | (clear h; simp_all <;> omega))
  (bag := fun i hi => by
    have e := h.bag i hi
    simp only [rU, az_up]
    repeat' split
    all_goals first | rfl | exact e | omega | (clear h; simp_all <;> omega))
  (zp := fun i hi => by
    have e := h.zp i hi
    simp only [rU, az_up]
    repeat' split
    all_goals first | rfl | exact e | omega | (clear h; simp_all <;> omega))
  (zs := fun i hi => by
    have e := h.zs i hi
    simp only [rU, az_up]
    repeat' split
    all_goals first | rfl | exact e | omega | (clear h; simp_all <;> omega))
  (zk := fun i hi => by
    have e := h.zk i hi
    simp only [rU, az_up]
    repeat' split
    all_goals first | rfl | exact e | omega | (clear h; simp_all <;> omega))
  (zw := fun i hi => by
    have e := h.zw i hi
    simp only [rU, az_up]
    repeat' split
    all_goals first | rfl | exact e | omega | (clear h; simp_all <;> omega))
  (zr := fun i hi => by
    have e := h.zr i hi
    simp only [rU, az_up]
    repeat' split
    all_goals first | rfl | exact e | omega | (clear h; simp_all <;> omega))
  (cl := fun i hi => by
    have e := h.cl i hi
    simp only [rU, az_up]
    repeat' split
    all_goals first | rfl | exact e | omega | (clear h; simp_all <;> omega))
  (cm := fun i hi => by
    have e := h.cm i hi
    simp only [rU, az_up]
    repeat' split
    all_goals first | rfl | exact e | omega | (clear h; simp_all <;> omega))
  (lw := fun i hi => by
    have e := h.lw i hi
    simp only [rU, az_up]
    repeat' split
    all_goals first | rfl | exact e | omega | (clear h; simp_all <;> omega))
  (lh := fun i hi => by
    have e := h.lh i hi
    simp only [rU, az_up]
    repeat' split
    all_goals first | rfl | exact e | omega | (clear h; simp_all <;> omega))
  (li := fun i hi => by
    have e := h.li i hi
    simp only [rU, az_up]
    repeat' split
    all_goals first | rfl | exact e | omega | (clear h; simp_all <;> omega))
  (lp := fun i hi => by
    have e := h.lp i hi
    simp only [rU, az_up]
    repeat' split
    all_goals first | rfl | exact e | omega | (clear h; simp_all <;> omega))
theorem RR.u_water {W : az_Mem} {r : Nat → Int32} (h : RR W r) (x : Int32) : RR (az_up W 24 1 x) (rU r 3 x) := RR.mk
  (zones := by
    have e := h.zones
    simp only [rU, az_up]
    repeat' split
    all_goals first | rfl | exact e | omega | (clear h; simp_all <;> omega))
  (slots := by
    have e := h.slots
    simp only [rU, az_up]
    repeat' split
    all_goals first | rfl | exact e | omega | (clear h; simp_all <;> omega))
  (at_ := by
    have e := h.at_
    simp only [rU, az_up]
    repeat' split
    all_goals first | rfl | exact e | omega | (clear h; simp_all <;> omega))
  (water := by
    have e := h.water
    simp only [rU, az_up]
    repeat' split
    all_goals first | rfl | exact e | omega | (clear h; simp_all <;> omega))
  (skin := by
    have e := h.skin
    simp only [rU, az_up]
    repeat' split
    all_goals first | rfl | exact e | omega | (clear h; simp_all <;> omega))
  (room := by
    have e := h.room
    simp only [rU, az_up]
    repeat' split
    all_goals first | rfl | exact e | omega | (clear h; simp_all <;> omega))
  (bound := by
    have e := h.bound
    simp only [rU, az_up]
    repeat' split
    all_goals first | rfl | exact e | omega | (clear h; simp_all <;> omega))
  (mark := by
    have e := h.mark
    simp only [rU, az_up]
    repeat' split
    all_goals first | rfl | exact e | omega | (clear h; simp_all <;> omega))
  (steps := by
    have e := h.steps
    simp only [rU, az_up]
    repeat' split
    all_goals first | rfl | exact e | omega | (clear h; simp_all <;> omega))
  (used := by
    have e := h.used
    simp only [rU, az_up]
    repeat' split
    all_goals first | rfl | exact e | omega | (clear h; simp_all <;> omega))
  (resets := by
    have e := h.resets
    simp only [rU, az_up]
    repeat' split
    all_goals first | rfl | exact e | omega | (clear h; simp_all <;> omega))
  (moved := by
    have e := h.moved
    simp only [rU, az_up]
    repeat' split
    all_goals first | rfl | exact e | omega | (clear h; simp_all <;> omega))
  (many := by
    have e := h.many
    simp only [rU, az_up]
    repeat' split
    all_goals first | rfl | exact e | omega | (clear h; simp_all <;> omega))
  (bag := fun i hi => by
    have e := h.bag i hi
    simp only [rU, az_up]
    repeat' split
    all_goals first | rfl | exact e | omega | (clear h; simp_all <;> omega))
  (zp := fun i hi => by
    have e := h.zp i hi
    simp only [rU, az_up]
    repeat' split
    all_goals first | rfl | exact e | omega | (clear h; simp_all <;> omega))
  (zs := fun i hi => by
    have e := h.zs i hi
    simp only [rU, az_up]
    repeat' split
    all_goals first | rfl | exact e | omega | (clear h; simp_all <;> omega))
  (zk := fun i hi => by
    have e := h.zk i hi
    simp only [rU, az_up]
    repeat' split
    all_goals first | rfl | exact e | omega | (clear h; simp_all <;> omega))
  (zw := fun i hi => by
    have e := h.zw i hi
    simp only [rU, az_up]
    repeat' split
    all_goals first | rfl | exact e | omega | (clear h; simp_all <;> omega))
  (zr := fun i hi => by
    have e := h.zr i hi
    simp only [rU, az_up]
    repeat' split
    all_goals first | rfl | exact e | omega | (clear h; simp_all <;> omega))
  (cl := fun i hi => by
    have e := h.cl i hi
    simp only [rU, az_up]
    repeat' split
    all_goals first | rfl | exact e | omega | (clear h; simp_all <;> omega))
  (cm := fun i hi => by
    have e := h.cm i hi
    simp only [rU, az_up]
    repeat' split
    all_goals first | rfl | exact e | omega | (clear h; simp_all <;> omega))
  (lw := fun i hi => by
    have e := h.lw i hi
    simp only [rU, az_up]
    repeat' split
    all_goals first | rfl | exact e | omega | (clear h; simp_all <;> omega))
  (lh := fun i hi => by
    have e := h.lh i hi
    simp only [rU, az_up]
    repeat' split
    all_goals first | rfl | exact e | omega | (clear h; simp_all <;> omega))
  (li := fun i hi => by
    have e := h.li i hi
    simp only [rU, az_up]
    repeat' split
    all_goals first | rfl | exact e | omega | (clear h; simp_all <;> omega))
  (lp := fun i hi => by
    have e := h.lp i hi
    simp only [rU, az_up]
    repeat' split
    all_goals first | rfl | exact e | omega | (clear h; simp_all <;> omega))
theorem RR.u_skin {W : az_Mem} {r : Nat → Int32} (h : RR W r) (x : Int32) : RR (az_up W 24 2 x) (rU r 4 x) := RR.mk
  (zones := by
    have e := h.zones
    simp only [rU, az_up]
    repeat' split
    all_goals first | rfl | exact e | omega | (clear h; simp_all <;> omega))
  (slots := by
    have e := h.slots
    simp only [rU, az_up]
    repeat' split
    all_goals first | rfl | exact e | omega | (clear h; simp_all <;> omega))
  (at_ := by
    have e := h.at_
    simp only [rU, az_up]
    repeat' split
    all_goals first | rfl | exact e | omega | (clear h; simp_all <;> omega))
  (water := by
    have e := h.water
    simp only [rU, az_up]
    repeat' split
    all_goals first | rfl | exact e | omega | (clear h; simp_all <;> omega))
  (skin := by
    have e := h.skin
    simp only [rU, az_up]
    repeat' split
    all_goals first | rfl | exact e | omega | (clear h; simp_all <;> omega))
  (room := by
    have e := h.room
    simp only [rU, az_up]
    repeat' split
    all_goals first | rfl | exact e | omega | (clear h; simp_all <;> omega))
  (bound := by
    have e := h.bound
    simp only [rU, az_up]
    repeat' split
    all_goals first | rfl | exact e | omega | (clear h; simp_all <;> omega))
  (mark := by
    have e := h.mark
    simp only [rU, az_up]
    repeat' split
    all_goals first | rfl | exact e | omega | (clear h; simp_all <;> omega))
  (steps := by
    have e := h.steps
    simp only [rU, az_up]
    repeat' split
    all_goals first | rfl | exact e | omega | (clear h; simp_all <;> omega))
  (used := by
    have e := h.used
    simp only [rU, az_up]
    repeat' split
    all_goals first | rfl | exact e | omega | (clear h; simp_all <;> omega))
  (resets := by
    have e := h.resets
    simp only [rU, az_up]
    repeat' split
    all_goals first | rfl | exact e | omega | (clear h; simp_all <;> omega))
  (moved := by
    have e := h.moved
    simp only [rU, az_up]
    repeat' split
    all_goals first | rfl | exact e | omega | (clear h; simp_all <;> omega))
  (many := by
    have e := h.many
    simp only [rU, az_up]
    repeat' split
    all_goals first | rfl | exact e | omega | (clear h; simp_all <;> omega))
  (bag := fun i hi => by
    have e := h.bag i hi
    simp only [rU, az_up]
    repeat' split
    all_goals first | rfl | exact e | omega | (clear h; simp_all <;> omega))
  (zp := fun i hi => by
    have e := h.zp i hi
    simp only [rU, az_up]
    repeat' split
    all_goals first | rfl | exact e | omega | (clear h; simp_all <;> omega))
  (zs := fun i hi => by
    have e := h.zs i hi
    simp only [rU, az_up]
    repeat' split
    all_goals first | rfl | exact e | omega | (clear h; simp_all <;> omega))
  (zk := fun i hi => by
    have e := h.zk i hi
    simp only [rU, az_up]
    repeat' split
    all_goals first | rfl | exact e | omega | (clear h; simp_all <;> omega))
  (zw := fun i hi => by
    have e := h.zw i hi
    simp only [rU, az_up]
    repeat' split
    all_goals first | rfl | exact e | omega | (clear h; simp_all <;> omega))
  (zr := fun i hi => by
    have e := h.zr i hi
    simp only [rU, az_up]
    repeat' split
    all_goals first | rfl | exact e | omega | (clear h; simp_all <;> omega))
  (cl := fun i hi => by
    have e := h.cl i hi
    simp only [rU, az_up]
    repeat' split
    all_goals first | rfl | exact e | omega | (clear h; simp_all <;> omega))
  (cm := fun i hi => by
    have e := h.cm i hi
    simp only [rU, az_up]
    repeat' split
    all_goals first | rfl | exact e | omega | (clear h; simp_all <;> omega))
  (lw := fun i hi => by
    have e := h.lw i hi
    simp only [rU, az_up]
    repeat' split
    all_goals first | rfl | exact e | omega | (clear h; simp_all <;> omega))
  (lh := fun i hi => by
    have e := h.lh i hi
    simp only [rU, az_up]
    repeat' split
    all_goals first | rfl | exact e | omega | (clear h; simp_all <;> omega))
  (li := fun i hi => by
    have e := h.li i hi
    simp only [rU, az_up]
    repeat' split
    all_goals first | rfl | exact e | omega | (clear h; simp_all <;> omega))
  (lp := fun i hi => by
    have e := h.lp i hi
    simp only [rU, az_up]
    repeat' split
    all_goals first | rfl | exact e | omega | (clear h; simp_all <;> omega))
theorem RR.u_room {W : az_Mem} {r : Nat → Int32} (h : RR W r) (x : Int32) : RR (az_up W 24 3 x) (rU r 5 x) := RR.mk
  (zones := by
    have e := h.zones
    simp only [rU, az_up]
    repeat' split
    all_goals first | rfl | exact e | omega | (clear h; simp_all <;> omega))
  (slots := by
    have e := h.slots
    simp only [rU, az_up]
    repeat' split
    all_goals first | rfl | exact e | omega | (clear h; simp_all <;> omega))
  (at_ := by
    have e := h.at_
    simp only [rU, az_up]
    repeat' split
    all_goals first | rfl | exact e | omega | (clear h; simp_all <;> omega))
  (water := by
    have e := h.water
    simp only [rU, az_up]
    repeat' split
    all_goals first | rfl | exact e | omega | (clear h; simp_all <;> omega))
  (skin := by
    have e := h.skin
    simp only [rU, az_up]
    repeat' split
    all_goals first | rfl | exact e | omega | (clear h; simp_all <;> omega))
  (room := by
    have e := h.room
    simp only [rU, az_up]
    repeat' split
    all_goals first | rfl | exact e | omega | (clear h; simp_all <;> omega))
  (bound := by
    have e := h.bound
    simp only [rU, az_up]
    repeat' split
    all_goals first | rfl | exact e | omega | (clear h; simp_all <;> omega))
  (mark := by
    have e := h.mark
    simp only [rU, az_up]
    repeat' split
    all_goals first | rfl | exact e | omega | (clear h; simp_all <;> omega))
  (steps := by
    have e := h.steps
    simp only [rU, az_up]
    repeat' split
    all_goals first | rfl | exact e | omega | (clear h; simp_all <;> omega))
  (used := by
    have e := h.used
    simp only [rU, az_up]
    repeat' split
    all_goals first | rfl | exact e | omega | (clear h; simp_all <;> omega))
  (resets := by
    have e := h.resets
    simp only [rU, az_up]
    repeat' split
    all_goals first | rfl | exact e | omega | (clear h; simp_all <;> omega))
  (moved := by
    have e := h.moved
    simp only [rU, az_up]
    repeat' split
    all_goals first | rfl | exact e | omega | (clear h; simp_all <;> omega))
  (many := by
    have e := h.many
    simp only [rU, az_up]
    repeat' split
    all_goals first | rfl | exact e | omega | (clear h; simp_all <;> omega))
  (bag := fun i hi => by
    have e := h.bag i hi
    simp only [rU, az_up]
    repeat' split
    all_goals first | rfl | exact e | omega | (clear h; simp_all <;> omega))
  (zp := fun i hi => by
    have e := h.zp i hi
    simp only [rU, az_up]
    repeat' split
    all_goals first | rfl | exact e | omega | (clear h; simp_all <;> omega))
  (zs := fun i hi => by
    have e := h.zs i hi
    simp only [rU, az_up]
    repeat' split
    all_goals first | rfl | exact e | omega | (clear h; simp_all <;> omega))
  (zk := fun i hi => by
    have e := h.zk i hi
    simp only [rU, az_up]
    repeat' split
    all_goals first | rfl | exact e | omega | (clear h; simp_all <;> omega))
  (zw := fun i hi => by
    have e := h.zw i hi
    simp only [rU, az_up]
    repeat' split
    all_goals first | rfl | exact e | omega | (clear h; simp_all <;> omega))
  (zr := fun i hi => by
    have e := h.zr i hi
    simp only [rU, az_up]
    repeat' split
    all_goals first | rfl | exact e | omega | (clear h; simp_all <;> omega))
  (cl := fun i hi => by
    have e := h.cl i hi
    simp only [rU, az_up]
    repeat' split
    all_goals first | rfl | exact e | omega | (clear h; simp_all <;> omega))
  (cm := fun i hi => by
    have e := h.cm i hi
    simp only [rU, az_up]
    repeat' split
    all_goals first | rfl | exact e | omega | (clear h; simp_all <;> omega))
  (lw := fun i hi => by
    have e := h.lw i hi
    simp only [rU, az_up]
    repeat' split
    all_goals first | rfl | exact e | omega | (clear h; simp_all <;> omega))
  (lh := fun i hi => by
    have e := h.lh i hi
    simp only [rU, az_up]
    repeat' split
    all_goals first | rfl | exact e | omega | (clear h; simp_all <;> omega))
  (li := fun i hi => by
    have e := h.li i hi
    simp only [rU, az_up]
    repeat' split
    all_goals first | rfl | exact e | omega | (clear h; simp_all <;> omega))
  (lp := fun i hi => by
    have e := h.lp i hi
    simp only [rU, az_up]
    repeat' split
    all_goals first | rfl | exact e | omega | (clear h; simp_all <;> omega))
theorem RR.u_bound {W : az_Mem} {r : Nat → Int32} (h : RR W r) (x : Int32) : RR (az_up W 17 0 x) (rU r 6 x) := RR.mk
  (zones := by
    have e := h.zones
    simp only [rU, az_up]
    repeat' split
    all_goals first | rfl | exact e | omega | (clear h; simp_all <;> omega))
  (slots := by
    have e := h.slots
    simp only [rU, az_up]
    repeat' split
    all_goals first | rfl | exact e | omega | (clear h; simp_all <;> omega))
  (at_ := by
    have e := h.at_
    simp only [rU, az_up]
    repeat' split
    all_goals first | rfl | exact e | omega | (clear h; simp_all <;> omega))
  (water := by
    have e := h.water
    simp only [rU, az_up]
    repeat' split
    all_goals first | rfl | exact e | omega | (clear h; simp_all <;> omega))
  (skin := by
    have e := h.skin
    simp only [rU, az_up]
    repeat' split
    all_goals first | rfl | exact e | omega | (clear h; simp_all <;> omega))
  (room := by
    have e := h.room
    simp only [rU, az_up]
    repeat' split
    all_goals first | rfl | exact e | omega | (clear h; simp_all <;> omega))
  (bound := by
    have e := h.bound
    simp only [rU, az_up]
    repeat' split
    all_goals first | rfl | exact e | omega | (clear h; simp_all <;> omega))
  (mark := by
    have e := h.mark
    simp only [rU, az_up]
    repeat' split
    all_goals first | rfl | exact e | omega | (clear h; simp_all <;> omega))
  (steps := by
    have e := h.steps
    simp only [rU, az_up]
    repeat' split
    all_goals first | rfl | exact e | omega | (clear h; simp_all <;> omega))
  (used := by
    have e := h.used
    simp only [rU, az_up]
    repeat' split
    all_goals first | rfl | exact e | omega | (clear h; simp_all <;> omega))
  (resets := by
    have e := h.resets
    simp only [rU, az_up]
    repeat' split
    all_goals first | rfl | exact e | omega | (clear h; simp_all <;> omega))
  (moved := by
    have e := h.moved
    simp only [rU, az_up]
    repeat' split
    all_goals first | rfl | exact e | omega | (clear h; simp_all <;> omega))
  (many := by
    have e := h.many
    simp only [rU, az_up]
    repeat' split
    all_goals first | rfl | exact e | omega | (clear h; simp_all <;> omega))
  (bag := fun i hi => by
    have e := h.bag i hi
    simp only [rU, az_up]
    repeat' split
    all_goals first | rfl | exact e | omega | (clear h; simp_all <;> omega))
  (zp := fun i hi => by
    have e := h.zp i hi
    simp only [rU, az_up]
    repeat' split
    all_goals first | rfl | exact e | omega | (clear h; simp_all <;> omega))
  (zs := fun i hi => by
    have e := h.zs i hi
    simp only [rU, az_up]
    repeat' split
    all_goals first | rfl | exact e | omega | (clear h; simp_all <;> omega))
  (zk := fun i hi => by
    have e := h.zk i hi
    simp only [rU, az_up]
    repeat' split
    all_goals first | rfl | exact e | omega | (clear h; simp_all <;> omega))
  (zw := fun i hi => by
    have e := h.zw i hi
    simp only [rU, az_up]
    repeat' split
    all_goals first | rfl | exact e | omega | (clear h; simp_all <;> omega))
  (zr := fun i hi => by
    have e := h.zr i hi
    simp only [rU, az_up]
    repeat' split
    all_goals first | rfl | exact e | omega | (clear h; simp_all <;> omega))
  (cl := fun i hi => by
    have e := h.cl i hi
    simp only [rU, az_up]
    repeat' split
    all_goals first | rfl | exact e | omega | (clear h; simp_all <;> omega))
  (cm := fun i hi => by
    have e := h.cm i hi
    simp only [rU, az_up]
    repeat' split
    all_goals first | rfl | exact e | omega | (clear h; simp_all <;> omega))
  (lw := fun i hi => by
    have e := h.lw i hi
    simp only [rU, az_up]
    repeat' split
    all_goals first | rfl | exact e | omega | (clear h; simp_all <;> omega))
  (lh := fun i hi => by
    have e := h.lh i hi
    simp only [rU, az_up]
    repeat' split
    all_goals first | rfl | exact e | omega | (clear h; simp_all <;> omega))
  (li := fun i hi => by
    have e := h.li i hi
    simp only [rU, az_up]
    repeat' split
    all_goals first | rfl | exact e | omega | (clear h; simp_all <;> omega))
  (lp := fun i hi => by
    have e := h.lp i hi
    simp only [rU, az_up]
    repeat' split
    all_goals first | rfl | exact e | omega | (clear h; simp_all <;> omega))
theorem RR.u_mark {W : az_Mem} {r : Nat → Int32} (h : RR W r) (x : Int32) : RR (az_up W 2 2 x) (rU r 7 x) := RR.mk
  (zones := by
    have e := h.zones
    simp only [rU, az_up]
    repeat' split
    all_goals first | rfl | exact e | omega | (clear h; simp_all <;> omega))
  (slots := by
    have e := h.slots
    simp only [rU, az_up]
    repeat' split
    all_goals first | rfl | exact e | omega | (clear h; simp_all <;> omega))
  (at_ := by
    have e := h.at_
    simp only [rU, az_up]
    repeat' split
    all_goals first | rfl | exact e | omega | (clear h; simp_all <;> omega))
  (water := by
    have e := h.water
    simp only [rU, az_up]
    repeat' split
    all_goals first | rfl | exact e | omega | (clear h; simp_all <;> omega))
  (skin := by
    have e := h.skin
    simp only [rU, az_up]
    repeat' split
    all_goals first | rfl | exact e | omega | (clear h; simp_all <;> omega))
  (room := by
    have e := h.room
    simp only [rU, az_up]
    repeat' split
    all_goals first | rfl | exact e | omega | (clear h; simp_all <;> omega))
  (bound := by
    have e := h.bound
    simp only [rU, az_up]
    repeat' split
    all_goals first | rfl | exact e | omega | (clear h; simp_all <;> omega))
  (mark := by
    have e := h.mark
    simp only [rU, az_up]
    repeat' split
    all_goals first | rfl | exact e | omega | (clear h; simp_all <;> omega))
  (steps := by
    have e := h.steps
    simp only [rU, az_up]
    repeat' split
    all_goals first | rfl | exact e | omega | (clear h; simp_all <;> omega))
  (used := by
    have e := h.used
    simp only [rU, az_up]
    repeat' split
    all_goals first | rfl | exact e | omega | (clear h; simp_all <;> omega))
  (resets := by
    have e := h.resets
    simp only [rU, az_up]
    repeat' split
    all_goals first | rfl | exact e | omega | (clear h; simp_all <;> omega))
  (moved := by
    have e := h.moved
    simp only [rU, az_up]
    repeat' split
    all_goals first | rfl | exact e | omega | (clear h; simp_all <;> omega))
  (many := by
    have e := h.many
    simp only [rU, az_up]
    repeat' split
    all_goals first | rfl | exact e | omega | (clear h; simp_all <;> omega))
  (bag := fun i hi => by
    have e := h.bag i hi
    simp only [rU, az_up]
    repeat' split
    all_goals first | rfl | exact e | omega | (clear h; simp_all <;> omega))
  (zp := fun i hi => by
    have e := h.zp i hi
    simp only [rU, az_up]
    repeat' split
    all_goals first | rfl | exact e | omega | (clear h; simp_all <;> omega))
  (zs := fun i hi => by
    have e := h.zs i hi
    simp only [rU, az_up]
    repeat' split
    all_goals first | rfl | exact e | omega | (clear h; simp_all <;> omega))
  (zk := fun i hi => by
    have e := h.zk i hi
    simp only [rU, az_up]
    repeat' split
    all_goals first | rfl | exact e | omega | (clear h; simp_all <;> omega))
  (zw := fun i hi => by
    have e := h.zw i hi
    simp only [rU, az_up]
    repeat' split
    all_goals first | rfl | exact e | omega | (clear h; simp_all <;> omega))
  (zr := fun i hi => by
    have e := h.zr i hi
    simp only [rU, az_up]
    repeat' split
    all_goals first | rfl | exact e | omega | (clear h; simp_all <;> omega))
  (cl := fun i hi => by
    have e := h.cl i hi
    simp only [rU, az_up]
    repeat' split
    all_goals first | rfl | exact e | omega | (clear h; simp_all <;> omega))
  (cm := fun i hi => by
    have e := h.cm i hi
    simp only [rU, az_up]
    repeat' split
    all_goals first | rfl | exact e | omega | (clear h; simp_all <;> omega))
  (lw := fun i hi => by
    have e := h.lw i hi
    simp only [rU, az_up]
    repeat' split
    all_goals first | rfl | exact e | omega | (clear h; simp_all <;> omega))
  (lh := fun i hi => by
    have e := h.lh i hi
    simp only [rU, az_up]
    repeat' split
    all_goals first | rfl | exact e | omega | (clear h; simp_all <;> omega))
  (li := fun i hi => by
    have e := h.li i hi
    simp only [rU, az_up]
    repeat' split
    all_goals first | rfl | exact e | omega | (clear h; simp_all <;> omega))
  (lp := fun i hi => by
    have e := h.lp i hi
    simp only [rU, az_up]
    repeat' split
    all_goals first | rfl | exact e | omega | (clear h; simp_all <;> omega))
theorem RR.u_steps {W : az_Mem} {r : Nat → Int32} (h : RR W r) (x : Int32) : RR (az_up W 24 5 x) (rU r 8 x) := RR.mk
  (zones := by
    have e := h.zones
    simp only [rU, az_up]
    repeat' split
    all_goals first | rfl | exact e | omega | (clear h; simp_all <;> omega))
  (slots := by
    have e := h.slots
    simp only [rU, az_up]
    repeat' split
    all_goals first | rfl | exact e | omega | (clear h; simp_all <;> omega))
  (at_ := by
    have e := h.at_
    simp only [rU, az_up]
    repeat' split
    all_goals first | rfl | exact e | omega | (clear h; simp_all <;> omega))
  (water := by
    have e := h.water
    simp only [rU, az_up]
    repeat' split
    all_goals first | rfl | exact e | omega | (clear h; simp_all <;> omega))
  (skin := by
    have e := h.skin
    simp only [rU, az_up]
    repeat' split
    all_goals first | rfl | exact e | omega | (clear h; simp_all <;> omega))
  (room := by
    have e := h.room
    simp only [rU, az_up]
    repeat' split
    all_goals first | rfl | exact e | omega | (clear h; simp_all <;> omega))
  (bound := by
    have e := h.bound
    simp only [rU, az_up]
    repeat' split
    all_goals first | rfl | exact e | omega | (clear h; simp_all <;> omega))
  (mark := by
    have e := h.mark
    simp only [rU, az_up]
    repeat' split
    all_goals first | rfl | exact e | omega | (clear h; simp_all <;> omega))
  (steps := by
    have e := h.steps
    simp only [rU, az_up]
    repeat' split
    all_goals first | rfl | exact e | omega | (clear h; simp_all <;> omega))
  (used := by
    have e := h.used
    simp only [rU, az_up]
    repeat' split
    all_goals first | rfl | exact e | omega | (clear h; simp_all <;> omega))
  (resets := by
    have e := h.resets
    simp only [rU, az_up]
    repeat' split
    all_goals first | rfl | exact e | omega | (clear h; simp_all <;> omega))
  (moved := by
    have e := h.moved
    simp only [rU, az_up]
    repeat' split
    all_goals first | rfl | exact e | omega | (clear h; simp_all <;> omega))
  (many := by
    have e := h.many
    simp only [rU, az_up]
    repeat' split
    all_goals first | rfl | exact e | omega | (clear h; simp_all <;> omega))
  (bag := fun i hi => by
    have e := h.bag i hi
    simp only [rU, az_up]
    repeat' split
    all_goals first | rfl | exact e | omega | (clear h; simp_all <;> omega))
  (zp := fun i hi => by
    have e := h.zp i hi
    simp only [rU, az_up]
    repeat' split
    all_goals first | rfl | exact e | omega | (clear h; simp_all <;> omega))
  (zs := fun i hi => by
    have e := h.zs i hi
    simp only [rU, az_up]
    repeat' split
    all_goals first | rfl | exact e | omega | (clear h; simp_all <;> omega))
  (zk := fun i hi => by
    have e := h.zk i hi
    simp only [rU, az_up]
    repeat' split
    all_goals first | rfl | exact e | omega | (clear h; simp_all <;> omega))
  (zw := fun i hi => by
    have e := h.zw i hi
    simp only [rU, az_up]
    repeat' split
    all_goals first | rfl | exact e | omega | (clear h; simp_all <;> omega))
  (zr := fun i hi => by
    have e := h.zr i hi
    simp only [rU, az_up]
    repeat' split
    all_goals first | rfl | exact e | omega | (clear h; simp_all <;> omega))
  (cl := fun i hi => by
    have e := h.cl i hi
    simp only [rU, az_up]
    repeat' split
    all_goals first | rfl | exact e | omega | (clear h; simp_all <;> omega))
  (cm := fun i hi => by
    have e := h.cm i hi
    simp only [rU, az_up]
    repeat' split
    all_goals first | rfl | exact e | omega | (clear h; simp_all <;> omega))
  (lw := fun i hi => by
    have e := h.lw i hi
    simp only [rU, az_up]
    repeat' split
    all_goals first | rfl | exact e | omega | (clear h; simp_all <;> omega))
  (lh := fun i hi => by
    have e := h.lh i hi
    simp only [rU, az_up]
    repeat' split
    all_goals first | rfl | exact e | omega | (clear h; simp_all <;> omega))
  (li := fun i hi => by
    have e := h.li i hi
    simp only [rU, az_up]
    repeat' split
    all_goals first | rfl | exact e | omega | (clear h; simp_all <;> omega))
  (lp := fun i hi => by
    have e := h.lp i hi
    simp only [rU, az_up]
    repeat' split
    all_goals first | rfl | exact e | omega | (clear h; simp_all <;> omega))
theorem RR.u_used {W : az_Mem} {r : Nat → Int32} (h : RR W r) (x : Int32) : RR (az_up W 24 6 x) (rU r 9 x) := RR.mk
  (zones := by
    have e := h.zones
    simp only [rU, az_up]
    repeat' split
    all_goals first | rfl | exact e | omega | (clear h; simp_all <;> omega))
  (slots := by
    have e := h.slots
    simp only [rU, az_up]
    repeat' split
    all_goals first | rfl | exact e | omega | (clear h; simp_all <;> omega))
  (at_ := by
    have e := h.at_
    simp only [rU, az_up]
    repeat' split
    all_goals first | rfl | exact e | omega | (clear h; simp_all <;> omega))
  (water := by
    have e := h.water
    simp only [rU, az_up]
    repeat' split
    all_goals first | rfl | exact e | omega | (clear h; simp_all <;> omega))
  (skin := by
    have e := h.skin
    simp only [rU, az_up]
    repeat' split
    all_goals first | rfl | exact e | omega | (clear h; simp_all <;> omega))
  (room := by
    have e := h.room
    simp only [rU, az_up]
    repeat' split
    all_goals first | rfl | exact e | omega | (clear h; simp_all <;> omega))
  (bound := by
    have e := h.bound
    simp only [rU, az_up]
    repeat' split
    all_goals first | rfl | exact e | omega | (clear h; simp_all <;> omega))
  (mark := by
    have e := h.mark
    simp only [rU, az_up]
    repeat' split
    all_goals first | rfl | exact e | omega | (clear h; simp_all <;> omega))
  (steps := by
    have e := h.steps
    simp only [rU, az_up]
    repeat' split
    all_goals first | rfl | exact e | omega | (clear h; simp_all <;> omega))
  (used := by
    have e := h.used
    simp only [rU, az_up]
    repeat' split
    all_goals first | rfl | exact e | omega | (clear h; simp_all <;> omega))
  (resets := by
    have e := h.resets
    simp only [rU, az_up]
    repeat' split
    all_goals first | rfl | exact e | omega | (clear h; simp_all <;> omega))
  (moved := by
    have e := h.moved
    simp only [rU, az_up]
    repeat' split
    all_goals first | rfl | exact e | omega | (clear h; simp_all <;> omega))
  (many := by
    have e := h.many
    simp only [rU, az_up]
    repeat' split
    all_goals first | rfl | exact e | omega | (clear h; simp_all <;> omega))
  (bag := fun i hi => by
    have e := h.bag i hi
    simp only [rU, az_up]
    repeat' split
    all_goals first | rfl | exact e | omega | (clear h; simp_all <;> omega))
  (zp := fun i hi => by
    have e := h.zp i hi
    simp only [rU, az_up]
    repeat' split
    all_goals first | rfl | exact e | omega | (clear h; simp_all <;> omega))
  (zs := fun i hi => by
    have e := h.zs i hi
    simp only [rU, az_up]
    repeat' split
    all_goals first | rfl | exact e | omega | (clear h; simp_all <;> omega))
  (zk := fun i hi => by
    have e := h.zk i hi
    simp only [rU, az_up]
    repeat' split
    all_goals first | rfl | exact e | omega | (clear h; simp_all <;> omega))
  (zw := fun i hi => by
    have e := h.zw i hi
    simp only [rU, az_up]
    repeat' split
    all_goals first | rfl | exact e | omega | (clear h; simp_all <;> omega))
  (zr := fun i hi => by
    have e := h.zr i hi
    simp only [rU, az_up]
    repeat' split
    all_goals first | rfl | exact e | omega | (clear h; simp_all <;> omega))
  (cl := fun i hi => by
    have e := h.cl i hi
    simp only [rU, az_up]
    repeat' split
    all_goals first | rfl | exact e | omega | (clear h; simp_all <;> omega))
  (cm := fun i hi => by
    have e := h.cm i hi
    simp only [rU, az_up]
    repeat' split
    all_goals first | rfl | exact e | omega | (clear h; simp_all <;> omega))
  (lw := fun i hi => by
    have e := h.lw i hi
    simp only [rU, az_up]
    repeat' split
    all_goals first | rfl | exact e | omega | (clear h; simp_all <;> omega))
  (lh := fun i hi => by
    have e := h.lh i hi
    simp only [rU, az_up]
    repeat' split
    all_goals first | rfl | exact e | omega | (clear h; simp_all <;> omega))
  (li := fun i hi => by
    have e := h.li i hi
    simp only [rU, az_up]
    repeat' split
    all_goals first | rfl | exact e | omega | (clear h; simp_all <;> omega))
  (lp := fun i hi => by
    have e := h.lp i hi
    simp only [rU, az_up]
    repeat' split
    all_goals first | rfl | exact e | omega | (clear h; simp_all <;> omega))
theorem RR.u_resets {W : az_Mem} {r : Nat → Int32} (h : RR W r) (x : Int32) : RR (az_up W 2 3 x) (rU r 10 x) := RR.mk
  (zones := by
    have e := h.zones
    simp only [rU, az_up]
    repeat' split
    all_goals first | rfl | exact e | omega | (clear h; simp_all <;> omega))
  (slots := by
    have e := h.slots
    simp only [rU, az_up]
    repeat' split
    all_goals first | rfl | exact e | omega | (clear h; simp_all <;> omega))
  (at_ := by
    have e := h.at_
    simp only [rU, az_up]
    repeat' split
    all_goals first | rfl | exact e | omega | (clear h; simp_all <;> omega))
  (water := by
    have e := h.water
    simp only [rU, az_up]
    repeat' split
    all_goals first | rfl | exact e | omega | (clear h; simp_all <;> omega))
  (skin := by
    have e := h.skin
    simp only [rU, az_up]
    repeat' split
    all_goals first | rfl | exact e | omega | (clear h; simp_all <;> omega))
  (room := by
    have e := h.room
    simp only [rU, az_up]
    repeat' split
    all_goals first | rfl | exact e | omega | (clear h; simp_all <;> omega))
  (bound := by
    have e := h.bound
    simp only [rU, az_up]
    repeat' split
    all_goals first | rfl | exact e | omega | (clear h; simp_all <;> omega))
  (mark := by
    have e := h.mark
    simp only [rU, az_up]
    repeat' split
    all_goals first | rfl | exact e | omega | (clear h; simp_all <;> omega))
  (steps := by
    have e := h.steps
    simp only [rU, az_up]
    repeat' split
    all_goals first | rfl | exact e | omega | (clear h; simp_all <;> omega))
  (used := by
    have e := h.used
    simp only [rU, az_up]
    repeat' split
    all_goals first | rfl | exact e | omega | (clear h; simp_all <;> omega))
  (resets := by
    have e := h.resets
    simp only [rU, az_up]
    repeat' split
    all_goals first | rfl | exact e | omega | (clear h; simp_all <;> omega))
  (moved := by
    have e := h.moved
    simp only [rU, az_up]
    repeat' split
    all_goals first | rfl | exact e | omega | (clear h; simp_all <;> omega))
  (many := by
    have e := h.many
    simp only [rU, az_up]
    repeat' split
    all_goals first | rfl | exact e | omega | (clear h; simp_all <;> omega))
  (bag := fun i hi => by
    have e := h.bag i hi
    simp only [rU, az_up]
    repeat' split
    all_goals first | rfl | exact e | omega | (clear h; simp_all <;> omega))
  (zp := fun i hi => by
    have e := h.zp i hi
    simp only [rU, az_up]
    repeat' split
    all_goals first | rfl | exact e | omega | (clear h; simp_all <;> omega))
  (zs := fun i hi => by
    have e := h.zs i hi
    simp only [rU, az_up]
    repeat' split
    all_goals first | rfl | exact e | omega | (clear h; simp_all <;> omega))
  (zk := fun i hi => by
    have e := h.zk i hi
    simp only [rU, az_up]
    repeat' split
    all_goals first | rfl | exact e | omega | (clear h; simp_all <;> omega))
  (zw := fun i hi => by
    have e := h.zw i hi
    simp only [rU, az_up]
    repeat' split
    all_goals first | rfl | exact e | omega | (clear h; simp_all <;> omega))
  (zr := fun i hi => by
    have e := h.zr i hi
    simp only [rU, az_up]
    repeat' split
    all_goals first | rfl | exact e | omega | (clear h; simp_all <;> omega))
  (cl := fun i hi => by
    have e := h.cl i hi
    simp only [rU, az_up]
    repeat' split
    all_goals first | rfl | exact e | omega | (clear h; simp_all <;> omega))
  (cm := fun i hi => by
    have e := h.cm i hi
    simp only [rU, az_up]
    repeat' split
    all_goals first | rfl | exact e | omega | (clear h; simp_all <;> omega))
  (lw := fun i hi => by
    have e := h.lw i hi
    simp only [rU, az_up]
    repeat' split
    all_goals first | rfl | exact e | omega | (clear h; simp_all <;> omega))
  (lh := fun i hi => by
    have e := h.lh i hi
    simp only [rU, az_up]
    repeat' split
    all_goals first | rfl | exact e | omega | (clear h; simp_all <;> omega))
  (li := fun i hi => by
    have e := h.li i hi
    simp only [rU, az_up]
    repeat' split
    all_goals first | rfl | exact e | omega | (clear h; simp_all <;> omega))
  (lp := fun i hi => by
    have e := h.lp i hi
    simp only [rU, az_up]
    repeat' split
    all_goals first | rfl | exact e | omega | (clear h; simp_all <;> omega))
theorem RR.u_moved {W : az_Mem} {r : Nat → Int32} (h : RR W r) (x : Int32) : RR (az_up W 24 7 x) (rU r 11 x) := RR.mk
  (zones := by
    have e := h.zones
    simp only [rU, az_up]
    repeat' split
    all_goals first | rfl | exact e | omega | (clear h; simp_all <;> omega))
  (slots := by
    have e := h.slots
    simp only [rU, az_up]
    repeat' split
    all_goals first | rfl | exact e | omega | (clear h; simp_all <;> omega))
  (at_ := by
    have e := h.at_
    simp only [rU, az_up]
    repeat' split
    all_goals first | rfl | exact e | omega | (clear h; simp_all <;> omega))
  (water := by
    have e := h.water
    simp only [rU, az_up]
    repeat' split
    all_goals first | rfl | exact e | omega | (clear h; simp_all <;> omega))
  (skin := by
    have e := h.skin
    simp only [rU, az_up]
    repeat' split
    all_goals first | rfl | exact e | omega | (clear h; simp_all <;> omega))
  (room := by
    have e := h.room
    simp only [rU, az_up]
    repeat' split
    all_goals first | rfl | exact e | omega | (clear h; simp_all <;> omega))
  (bound := by
    have e := h.bound
    simp only [rU, az_up]
    repeat' split
    all_goals first | rfl | exact e | omega | (clear h; simp_all <;> omega))
  (mark := by
    have e := h.mark
    simp only [rU, az_up]
    repeat' split
    all_goals first | rfl | exact e | omega | (clear h; simp_all <;> omega))
  (steps := by
    have e := h.steps
    simp only [rU, az_up]
    repeat' split
    all_goals first | rfl | exact e | omega | (clear h; simp_all <;> omega))
  (used := by
    have e := h.used
    simp only [rU, az_up]
    repeat' split
    all_goals first | rfl | exact e | omega | (clear h; simp_all <;> omega))
  (resets := by
    have e := h.resets
    simp only [rU, az_up]
    repeat' split
    all_goals first | rfl | exact e | omega | (clear h; simp_all <;> omega))
  (moved := by
    have e := h.moved
    simp only [rU, az_up]
    repeat' split
    all_goals first | rfl | exact e | omega | (clear h; simp_all <;> omega))
  (many := by
    have e := h.many
    simp only [rU, az_up]
    repeat' split
    all_goals first | rfl | exact e | omega | (clear h; simp_all <;> omega))
  (bag := fun i hi => by
    have e := h.bag i hi
    simp only [rU, az_up]
    repeat' split
    all_goals first | rfl | exact e | omega | (clear h; simp_all <;> omega))
  (zp := fun i hi => by
    have e := h.zp i hi
    simp only [rU, az_up]
    repeat' split
    all_goals first | rfl | exact e | omega | (clear h; simp_all <;> omega))
  (zs := fun i hi => by
    have e := h.zs i hi
    simp only [rU, az_up]
    repeat' split
    all_goals first | rfl | exact e | omega | (clear h; simp_all <;> omega))
  (zk := fun i hi => by
    have e := h.zk i hi
    simp only [rU, az_up]
    repeat' split
    all_goals first | rfl | exact e | omega | (clear h; simp_all <;> omega))
  (zw := fun i hi => by
    have e := h.zw i hi
    simp only [rU, az_up]
    repeat' split
    all_goals first | rfl | exact e | omega | (clear h; simp_all <;> omega))
  (zr := fun i hi => by
    have e := h.zr i hi
    simp only [rU, az_up]
    repeat' split
    all_goals first | rfl | exact e | omega | (clear h; simp_all <;> omega))
  (cl := fun i hi => by
    have e := h.cl i hi
    simp only [rU, az_up]
    repeat' split
    all_goals first | rfl | exact e | omega | (clear h; simp_all <;> omega))
  (cm := fun i hi => by
    have e := h.cm i hi
    simp only [rU, az_up]
    repeat' split
    all_goals first | rfl | exact e | omega | (clear h; simp_all <;> omega))
  (lw := fun i hi => by
    have e := h.lw i hi
    simp only [rU, az_up]
    repeat' split
    all_goals first | rfl | exact e | omega | (clear h; simp_all <;> omega))
  (lh := fun i hi => by
    have e := h.lh i hi
    simp only [rU, az_up]
    repeat' split
    all_goals first | rfl | exact e | omega | (clear h; simp_all <;> omega))
  (li := fun i hi => by
    have e := h.li i hi
    simp only [rU, az_up]
    repeat' split
    all_goals first | rfl | exact e | omega | (clear h; simp_all <;> omega))
  (lp := fun i hi => by
    have e := h.lp i hi
    simp only [rU, az_up]
    repeat' split
    all_goals first | rfl | exact e | omega | (clear h; simp_all <;> omega))
theorem RR.u_many {W : az_Mem} {r : Nat → Int32} (h : RR W r) (x : Int32) : RR (az_up W 24 4 x) (rU r 12 x) := RR.mk
  (zones := by
    have e := h.zones
    simp only [rU, az_up]
    repeat' split
    all_goals first | rfl | exact e | omega | (clear h; simp_all <;> omega))
  (slots := by
    have e := h.slots
    simp only [rU, az_up]
    repeat' split
    all_goals first | rfl | exact e | omega | (clear h; simp_all <;> omega))
  (at_ := by
    have e := h.at_
    simp only [rU, az_up]
    repeat' split
    all_goals first | rfl | exact e | omega | (clear h; simp_all <;> omega))
  (water := by
    have e := h.water
    simp only [rU, az_up]
    repeat' split
    all_goals first | rfl | exact e | omega | (clear h; simp_all <;> omega))
  (skin := by
    have e := h.skin
    simp only [rU, az_up]
    repeat' split
    all_goals first | rfl | exact e | omega | (clear h; simp_all <;> omega))
  (room := by
    have e := h.room
    simp only [rU, az_up]
    repeat' split
    all_goals first | rfl | exact e | omega | (clear h; simp_all <;> omega))
  (bound := by
    have e := h.bound
    simp only [rU, az_up]
    repeat' split
    all_goals first | rfl | exact e | omega | (clear h; simp_all <;> omega))
  (mark := by
    have e := h.mark
    simp only [rU, az_up]
    repeat' split
    all_goals first | rfl | exact e | omega | (clear h; simp_all <;> omega))
  (steps := by
    have e := h.steps
    simp only [rU, az_up]
    repeat' split
    all_goals first | rfl | exact e | omega | (clear h; simp_all <;> omega))
  (used := by
    have e := h.used
    simp only [rU, az_up]
    repeat' split
    all_goals first | rfl | exact e | omega | (clear h; simp_all <;> omega))
  (resets := by
    have e := h.resets
    simp only [rU, az_up]
    repeat' split
    all_goals first | rfl | exact e | omega | (clear h; simp_all <;> omega))
  (moved := by
    have e := h.moved
    simp only [rU, az_up]
    repeat' split
    all_goals first | rfl | exact e | omega | (clear h; simp_all <;> omega))
  (many := by
    have e := h.many
    simp only [rU, az_up]
    repeat' split
    all_goals first | rfl | exact e | omega | (clear h; simp_all <;> omega))
  (bag := fun i hi => by
    have e := h.bag i hi
    simp only [rU, az_up]
    repeat' split
    all_goals first | rfl | exact e | omega | (clear h; simp_all <;> omega))
  (zp := fun i hi => by
    have e := h.zp i hi
    simp only [rU, az_up]
    repeat' split
    all_goals first | rfl | exact e | omega | (clear h; simp_all <;> omega))
  (zs := fun i hi => by
    have e := h.zs i hi
    simp only [rU, az_up]
    repeat' split
    all_goals first | rfl | exact e | omega | (clear h; simp_all <;> omega))
  (zk := fun i hi => by
    have e := h.zk i hi
    simp only [rU, az_up]
    repeat' split
    all_goals first | rfl | exact e | omega | (clear h; simp_all <;> omega))
  (zw := fun i hi => by
    have e := h.zw i hi
    simp only [rU, az_up]
    repeat' split
    all_goals first | rfl | exact e | omega | (clear h; simp_all <;> omega))
  (zr := fun i hi => by
    have e := h.zr i hi
    simp only [rU, az_up]
    repeat' split
    all_goals first | rfl | exact e | omega | (clear h; simp_all <;> omega))
  (cl := fun i hi => by
    have e := h.cl i hi
    simp only [rU, az_up]
    repeat' split
    all_goals first | rfl | exact e | omega | (clear h; simp_all <;> omega))
  (cm := fun i hi => by
    have e := h.cm i hi
    simp only [rU, az_up]
    repeat' split
    all_goals first | rfl | exact e | omega | (clear h; simp_all <;> omega))
  (lw := fun i hi => by
    have e := h.lw i hi
    simp only [rU, az_up]
    repeat' split
    all_goals first | rfl | exact e | omega | (clear h; simp_all <;> omega))
  (lh := fun i hi => by
    have e := h.lh i hi
    simp only [rU, az_up]
    repeat' split
    all_goals first | rfl | exact e | omega | (clear h; simp_all <;> omega))
  (li := fun i hi => by
    have e := h.li i hi
    simp only [rU, az_up]
    repeat' split
    all_goals first | rfl | exact e | omega | (clear h; simp_all <;> omega))
  (lp := fun i hi => by
    have e := h.lp i hi
    simp only [rU, az_up]
    repeat' split
    all_goals first | rfl | exact e | omega | (clear h; simp_all <;> omega))
theorem RR.u_bag {W : az_Mem} {r : Nat → Int32} (h : RR W r) {q : Nat} (hq : q < 6) (x : Int32) : RR (az_up W 26 q x) (rU r (13 + q) x) := RR.mk
  (zones := by
    have e := h.zones
    simp only [rU, az_up]
    repeat' split
    all_goals first | rfl | exact e | omega | (clear h; simp_all <;> omega))
  (slots := by
    have e := h.slots
    simp only [rU, az_up]
    repeat' split
    all_goals first | rfl | exact e | omega | (clear h; simp_all <;> omega))
  (at_ := by
    have e := h.at_
    simp only [rU, az_up]
    repeat' split
    all_goals first | rfl | exact e | omega | (clear h; simp_all <;> omega))
  (water := by
    have e := h.water
    simp only [rU, az_up]
    repeat' split
    all_goals first | rfl | exact e | omega | (clear h; simp_all <;> omega))
  (skin := by
    have e := h.skin
    simp only [rU, az_up]
    repeat' split
    all_goals first | rfl | exact e | omega | (clear h; simp_all <;> omega))
  (room := by
    have e := h.room
    simp only [rU, az_up]
    repeat' split
    all_goals first | rfl | exact e | omega | (clear h; simp_all <;> omega))
  (bound := by
    have e := h.bound
    simp only [rU, az_up]
    repeat' split
    all_goals first | rfl | exact e | omega | (clear h; simp_all <;> omega))
  (mark := by
    have e := h.mark
    simp only [rU, az_up]
    repeat' split
    all_goals first | rfl | exact e | omega | (clear h; simp_all <;> omega))
  (steps := by
    have e := h.steps
    simp only [rU, az_up]
    repeat' split
    all_goals first | rfl | exact e | omega | (clear h; simp_all <;> omega))
  (used := by
    have e := h.used
    simp only [rU, az_up]
    repeat' split
    all_goals first | rfl | exact e | omega | (clear h; simp_all <;> omega))
  (resets := by
    have e := h.resets
    simp only [rU, az_up]
    repeat' split
    all_goals first | rfl | exact e | omega | (clear h; simp_all <;> omega))
  (moved := by
    have e := h.moved
    simp only [rU, az_up]
    repeat' split
    all_goals first | rfl | exact e | omega | (clear h; simp_all <;> omega))
  (many := by
    have e := h.many
    simp only [rU, az_up]
    repeat' split
    all_goals first | rfl | exact e | omega | (clear h; simp_all <;> omega))
  (bag := fun i hi => by
    have e := h.bag i hi
    simp only [rU, az_up]
    repeat' split
    all_goals first | rfl | exact e | omega | (clear h; simp_all <;> omega))
  (zp := fun i hi => by
    have e := h.zp i hi
    simp only [rU, az_up]
    repeat' split
    all_goals first | rfl | exact e | omega | (clear h; simp_all <;> omega))
  (zs := fun i hi => by
    have e := h.zs i hi
    simp only [rU, az_up]
    repeat' split
    all_goals first | rfl | exact e | omega | (clear h; simp_all <;> omega))
  (zk := fun i hi => by
    have e := h.zk i hi
    simp only [rU, az_up]
    repeat' split
    all_goals first | rfl | exact e | omega | (clear h; simp_all <;> omega))
  (zw := fun i hi => by
    have e := h.zw i hi
    simp only [rU, az_up]
    repeat' split
    all_goals first | rfl | exact e | omega | (clear h; simp_all <;> omega))
  (zr := fun i hi => by
    have e := h.zr i hi
    simp only [rU, az_up]
    repeat' split
    all_goals first | rfl | exact e | omega | (clear h; simp_all <;> omega))
  (cl := fun i hi => by
    have e := h.cl i hi
    simp only [rU, az_up]
    repeat' split
    all_goals first | rfl | exact e | omega | (clear h; simp_all <;> omega))
  (cm := fun i hi => by
    have e := h.cm i hi
    simp only [rU, az_up]
    repeat' split
    all_goals first | rfl | exact e | omega | (clear h; simp_all <;> omega))
  (lw := fun i hi => by
    have e := h.lw i hi
    simp only [rU, az_up]
    repeat' split
    all_goals first | rfl | exact e | omega | (clear h; simp_all <;> omega))
  (lh := fun i hi => by
    have e := h.lh i hi
    simp only [rU, az_up]
    repeat' split
    all_goals first | rfl | exact e | omega | (clear h; simp_all <;> omega))
  (li := fun i hi => by
    have e := h.li i hi
    simp only [rU, az_up]
    repeat' split
    all_goals first | rfl | exact e | omega | (clear h; simp_all <;> omega))
  (lp := fun i hi => by
    have e := h.lp i hi
    simp only [rU, az_up]
    repeat' split
    all_goals first | rfl | exact e | omega | (clear h; simp_all <;> omega))
theorem RR.u_zp {W : az_Mem} {r : Nat → Int32} (h : RR W r) {q : Nat} (hq : q < 8) (x : Int32) : RR (az_up W 4 q x) (rU r (19 + 5 * q + 0) x) := RR.mk
  (zones := by
    have e := h.zones
    simp only [rU, az_up]
    repeat' split
    all_goals first | rfl | exact e | omega | (clear h; simp_all <;> omega))
  (slots := by
    have e := h.slots
    simp only [rU, az_up]
    repeat' split
    all_goals first | rfl | exact e | omega | (clear h; simp_all <;> omega))
  (at_ := by
    have e := h.at_
    simp only [rU, az_up]
    repeat' split
    all_goals first | rfl | exact e | omega | (clear h; simp_all <;> omega))
  (water := by
    have e := h.water
    simp only [rU, az_up]
    repeat' split
    all_goals first | rfl | exact e | omega | (clear h; simp_all <;> omega))
  (skin := by
    have e := h.skin
    simp only [rU, az_up]
    repeat' split
    all_goals first | rfl | exact e | omega | (clear h; simp_all <;> omega))
  (room := by
    have e := h.room
    simp only [rU, az_up]
    repeat' split
    all_goals first | rfl | exact e | omega | (clear h; simp_all <;> omega))
  (bound := by
    have e := h.bound
    simp only [rU, az_up]
    repeat' split
    all_goals first | rfl | exact e | omega | (clear h; simp_all <;> omega))
  (mark := by
    have e := h.mark
    simp only [rU, az_up]
    repeat' split
    all_goals first | rfl | exact e | omega | (clear h; simp_all <;> omega))
  (steps := by
    have e := h.steps
    simp only [rU, az_up]
    repeat' split
    all_goals first | rfl | exact e | omega | (clear h; simp_all <;> omega))
  (used := by
    have e := h.used
    simp only [rU, az_up]
    repeat' split
    all_goals first | rfl | exact e | omega | (clear h; simp_all <;> omega))
  (resets := by
    have e := h.resets
    simp only [rU, az_up]
    repeat' split
    all_goals first | rfl | exact e | omega | (clear h; simp_all <;> omega))
  (moved := by
    have e := h.moved
    simp only [rU, az_up]
    repeat' split
    all_goals first | rfl | exact e | omega | (clear h; simp_all <;> omega))
  (many := by
    have e := h.many
    simp only [rU, az_up]
    repeat' split
    all_goals first | rfl | exact e | omega | (clear h; simp_all <;> omega))
  (bag := fun i hi => by
    have e := h.bag i hi
    simp only [rU, az_up]
    repeat' split
    all_goals first | rfl | exact e | omega | (clear h; simp_all <;> omega))
  (zp := fun i hi => by
    have e := h.zp i hi
    simp only [rU, az_up]
    repeat' split
    all_goals first | rfl | exact e | omega | (clear h; simp_all <;> omega))
  (zs := fun i hi => by
    have e := h.zs i hi
    simp only [rU, az_up]
    repeat' split
    all_goals first | rfl | exact e | omega | (clear h; simp_all <;> omega))
  (zk := fun i hi => by
    have e := h.zk i hi
    simp only [rU, az_up]
    repeat' split
    all_goals first | rfl | exact e | omega | (clear h; simp_all <;> omega))
  (zw := fun i hi => by
    have e := h.zw i hi
    simp only [rU, az_up]
    repeat' split
    all_goals first | rfl | exact e | omega | (clear h; simp_all <;> omega))
  (zr := fun i hi => by
    have e := h.zr i hi
    simp only [rU, az_up]
    repeat' split
    all_goals first | rfl | exact e | omega | (clear h; simp_all <;> omega))
  (cl := fun i hi => by
    have e := h.cl i hi
    simp only [rU, az_up]
    repeat' split
    all_goals first | rfl | exact e | omega | (clear h; simp_all <;> omega))
  (cm := fun i hi => by
    have e := h.cm i hi
    simp only [rU, az_up]
    repeat' split
    all_goals first | rfl | exact e | omega | (clear h; simp_all <;> omega))
  (lw := fun i hi => by
    have e := h.lw i hi
    simp only [rU, az_up]
    repeat' split
    all_goals first | rfl | exact e | omega | (clear h; simp_all <;> omega))
  (lh := fun i hi => by
    have e := h.lh i hi
    simp only [rU, az_up]
    repeat' split
    all_goals first | rfl | exact e | omega | (clear h; simp_all <;> omega))
  (li := fun i hi => by
    have e := h.li i hi
    simp only [rU, az_up]
    repeat' split
    all_goals first | rfl | exact e | omega | (clear h; simp_all <;> omega))
  (lp := fun i hi => by
    have e := h.lp i hi
    simp only [rU, az_up]
    repeat' split
    all_goals first | rfl | exact e | omega | (clear h; simp_all <;> omega))
theorem RR.u_zs {W : az_Mem} {r : Nat → Int32} (h : RR W r) {q : Nat} (hq : q < 8) (x : Int32) : RR (az_up W 8 q x) (rU r (19 + 5 * q + 1) x) := RR.mk
  (zones := by
    have e := h.zones
    simp only [rU, az_up]
    repeat' split
    all_goals first | rfl | exact e | omega | (clear h; simp_all <;> omega))
  (slots := by
    have e := h.slots
    simp only [rU, az_up]
    repeat' split
    all_goals first | rfl | exact e | omega | (clear h; simp_all <;> omega))
  (at_ := by
    have e := h.at_
    simp only [rU, az_up]
    repeat' split
    all_goals first | rfl | exact e | omega | (clear h; simp_all <;> omega))
  (water := by
    have e := h.water
    simp only [rU, az_up]
    repeat' split
    all_goals first | rfl | exact e | omega | (clear h; simp_all <;> omega))
  (skin := by
    have e := h.skin
    simp only [rU, az_up]
    repeat' split
    all_goals first | rfl | exact e | omega | (clear h; simp_all <;> omega))
  (room := by
    have e := h.room
    simp only [rU, az_up]
    repeat' split
    all_goals first | rfl | exact e | omega | (clear h; simp_all <;> omega))
  (bound := by
    have e := h.bound
    simp only [rU, az_up]
    repeat' split
    all_goals first | rfl | exact e | omega | (clear h; simp_all <;> omega))
  (mark := by
    have e := h.mark
    simp only [rU, az_up]
    repeat' split
    all_goals first | rfl | exact e | omega | (clear h; simp_all <;> omega))
  (steps := by
    have e := h.steps
    simp only [rU, az_up]
    repeat' split
    all_goals first | rfl | exact e | omega | (clear h; simp_all <;> omega))
  (used := by
    have e := h.used
    simp only [rU, az_up]
    repeat' split
    all_goals first | rfl | exact e | omega | (clear h; simp_all <;> omega))
  (resets := by
    have e := h.resets
    simp only [rU, az_up]
    repeat' split
    all_goals first | rfl | exact e | omega | (clear h; simp_all <;> omega))
  (moved := by
    have e := h.moved
    simp only [rU, az_up]
    repeat' split
    all_goals first | rfl | exact e | omega | (clear h; simp_all <;> omega))
  (many := by
    have e := h.many
    simp only [rU, az_up]
    repeat' split
    all_goals first | rfl | exact e | omega | (clear h; simp_all <;> omega))
  (bag := fun i hi => by
    have e := h.bag i hi
    simp only [rU, az_up]
    repeat' split
    all_goals first | rfl | exact e | omega | (clear h; simp_all <;> omega))
  (zp := fun i hi => by
    have e := h.zp i hi
    simp only [rU, az_up]
    repeat' split
    all_goals first | rfl | exact e | omega | (clear h; simp_all <;> omega))
  (zs := fun i hi => by
    have e := h.zs i hi
    simp only [rU, az_up]
    repeat' split
    all_goals first | rfl | exact e | omega | (clear h; simp_all <;> omega))
  (zk := fun i hi => by
    have e := h.zk i hi
    simp only [rU, az_up]
    repeat' split
    all_goals first | rfl | exact e | omega | (clear h; simp_all <;> omega))
  (zw := fun i hi => by
    have e := h.zw i hi
    simp only [rU, az_up]
    repeat' split
    all_goals first | rfl | exact e | omega | (clear h; simp_all <;> omega))
  (zr := fun i hi => by
    have e := h.zr i hi
    simp only [rU, az_up]
    repeat' split
    all_goals first | rfl | exact e | omega | (clear h; simp_all <;> omega))
  (cl := fun i hi => by
    have e := h.cl i hi
    simp only [rU, az_up]
    repeat' split
    all_goals first | rfl | exact e | omega | (clear h; simp_all <;> omega))
  (cm := fun i hi => by
    have e := h.cm i hi
    simp only [rU, az_up]
    repeat' split
    all_goals first | rfl | exact e | omega | (clear h; simp_all <;> omega))
  (lw := fun i hi => by
    have e := h.lw i hi
    simp only [rU, az_up]
    repeat' split
    all_goals first | rfl | exact e | omega | (clear h; simp_all <;> omega))
  (lh := fun i hi => by
    have e := h.lh i hi
    simp only [rU, az_up]
    repeat' split
    all_goals first | rfl | exact e | omega | (clear h; simp_all <;> omega))
  (li := fun i hi => by
    have e := h.li i hi
    simp only [rU, az_up]
    repeat' split
    all_goals first | rfl | exact e | omega | (clear h; simp_all <;> omega))
  (lp := fun i hi => by
    have e := h.lp i hi
    simp only [rU, az_up]
    repeat' split
    all_goals first | rfl | exact e | omega | (clear h; simp_all <;> omega))
theorem RR.u_zk {W : az_Mem} {r : Nat → Int32} (h : RR W r) {q : Nat} (hq : q < 8) (x : Int32) : RR (az_up W 6 q x) (rU r (19 + 5 * q + 2) x) := RR.mk
  (zones := by
    have e := h.zones
    simp only [rU, az_up]
    repeat' split
    all_goals first | rfl | exact e | omega | (clear h; simp_all <;> omega))
  (slots := by
    have e := h.slots
    simp only [rU, az_up]
    repeat' split
    all_goals first | rfl | exact e | omega | (clear h; simp_all <;> omega))
  (at_ := by
    have e := h.at_
    simp only [rU, az_up]
    repeat' split
    all_goals first | rfl | exact e | omega | (clear h; simp_all <;> omega))
  (water := by
    have e := h.water
    simp only [rU, az_up]
    repeat' split
    all_goals first | rfl | exact e | omega | (clear h; simp_all <;> omega))
  (skin := by
    have e := h.skin
    simp only [rU, az_up]
    repeat' split
    all_goals first | rfl | exact e | omega | (clear h; simp_all <;> omega))
  (room := by
    have e := h.room
    simp only [rU, az_up]
    repeat' split
    all_goals first | rfl | exact e | omega | (clear h; simp_all <;> omega))
  (bound := by
    have e := h.bound
    simp only [rU, az_up]
    repeat' split
    all_goals first | rfl | exact e | omega | (clear h; simp_all <;> omega))
  (mark := by
    have e := h.mark
    simp only [rU, az_up]
    repeat' split
    all_goals first | rfl | exact e | omega | (clear h; simp_all <;> omega))
  (steps := by
    have e := h.steps
    simp only [rU, az_up]
    repeat' split
    all_goals first | rfl | exact e | omega | (clear h; simp_all <;> omega))
  (used := by
    have e := h.used
    simp only [rU, az_up]
    repeat' split
    all_goals first | rfl | exact e | omega | (clear h; simp_all <;> omega))
  (resets := by
    have e := h.resets
    simp only [rU, az_up]
    repeat' split
    all_goals first | rfl | exact e | omega | (clear h; simp_all <;> omega))
  (moved := by
    have e := h.moved
    simp only [rU, az_up]
    repeat' split
    all_goals first | rfl | exact e | omega | (clear h; simp_all <;> omega))
  (many := by
    have e := h.many
    simp only [rU, az_up]
    repeat' split
    all_goals first | rfl | exact e | omega | (clear h; simp_all <;> omega))
  (bag := fun i hi => by
    have e := h.bag i hi
    simp only [rU, az_up]
    repeat' split
    all_goals first | rfl | exact e | omega | (clear h; simp_all <;> omega))
  (zp := fun i hi => by
    have e := h.zp i hi
    simp only [rU, az_up]
    repeat' split
    all_goals first | rfl | exact e | omega | (clear h; simp_all <;> omega))
  (zs := fun i hi => by
    have e := h.zs i hi
    simp only [rU, az_up]
    repeat' split
    all_goals first | rfl | exact e | omega | (clear h; simp_all <;> omega))
  (zk := fun i hi => by
    have e := h.zk i hi
    simp only [rU, az_up]
    repeat' split
    all_goals first | rfl | exact e | omega | (clear h; simp_all <;> omega))
  (zw := fun i hi => by
    have e := h.zw i hi
    simp only [rU, az_up]
    repeat' split
    all_goals first | rfl | exact e | omega | (clear h; simp_all <;> omega))
  (zr := fun i hi => by
    have e := h.zr i hi
    simp only [rU, az_up]
    repeat' split
    all_goals first | rfl | exact e | omega | (clear h; simp_all <;> omega))
  (cl := fun i hi => by
    have e := h.cl i hi
    simp only [rU, az_up]
    repeat' split
    all_goals first | rfl | exact e | omega | (clear h; simp_all <;> omega))
  (cm := fun i hi => by
    have e := h.cm i hi
    simp only [rU, az_up]
    repeat' split
    all_goals first | rfl | exact e | omega | (clear h; simp_all <;> omega))
  (lw := fun i hi => by
    have e := h.lw i hi
    simp only [rU, az_up]
    repeat' split
    all_goals first | rfl | exact e | omega | (clear h; simp_all <;> omega))
  (lh := fun i hi => by
    have e := h.lh i hi
    simp only [rU, az_up]
    repeat' split
    all_goals first | rfl | exact e | omega | (clear h; simp_all <;> omega))
  (li := fun i hi => by
    have e := h.li i hi
    simp only [rU, az_up]
    repeat' split
    all_goals first | rfl | exact e | omega | (clear h; simp_all <;> omega))
  (lp := fun i hi => by
    have e := h.lp i hi
    simp only [rU, az_up]
    repeat' split
    all_goals first | rfl | exact e | omega | (clear h; simp_all <;> omega))
theorem RR.u_zw {W : az_Mem} {r : Nat → Int32} (h : RR W r) {q : Nat} (hq : q < 8) (x : Int32) : RR (az_up W 10 q x) (rU r (19 + 5 * q + 3) x) := RR.mk
  (zones := by
    have e := h.zones
    simp only [rU, az_up]
    repeat' split
    all_goals first | rfl | exact e | omega | (clear h; simp_all <;> omega))
  (slots := by
    have e := h.slots
    simp only [rU, az_up]
    repeat' split
    all_goals first | rfl | exact e | omega | (clear h; simp_all <;> omega))
  (at_ := by
    have e := h.at_
    simp only [rU, az_up]
    repeat' split
    all_goals first | rfl | exact e | omega | (clear h; simp_all <;> omega))
  (water := by
    have e := h.water
    simp only [rU, az_up]
    repeat' split
    all_goals first | rfl | exact e | omega | (clear h; simp_all <;> omega))
  (skin := by
    have e := h.skin
    simp only [rU, az_up]
    repeat' split
    all_goals first | rfl | exact e | omega | (clear h; simp_all <;> omega))
  (room := by
    have e := h.room
    simp only [rU, az_up]
    repeat' split
    all_goals first | rfl | exact e | omega | (clear h; simp_all <;> omega))
  (bound := by
    have e := h.bound
    simp only [rU, az_up]
    repeat' split
    all_goals first | rfl | exact e | omega | (clear h; simp_all <;> omega))
  (mark := by
    have e := h.mark
    simp only [rU, az_up]
    repeat' split
    all_goals first | rfl | exact e | omega | (clear h; simp_all <;> omega))
  (steps := by
    have e := h.steps
    simp only [rU, az_up]
    repeat' split
    all_goals first | rfl | exact e | omega | (clear h; simp_all <;> omega))
  (used := by
    have e := h.used
    simp only [rU, az_up]
    repeat' split
    all_goals first | rfl | exact e | omega | (clear h; simp_all <;> omega))
  (resets := by
    have e := h.resets
    simp only [rU, az_up]
    repeat' split
    all_goals first | rfl | exact e | omega | (clear h; simp_all <;> omega))
  (moved := by
    have e := h.moved
    simp only [rU, az_up]
    repeat' split
    all_goals first | rfl | exact e | omega | (clear h; simp_all <;> omega))
  (many := by
    have e := h.many
    simp only [rU, az_up]
    repeat' split
    all_goals first | rfl | exact e | omega | (clear h; simp_all <;> omega))
  (bag := fun i hi => by
    have e := h.bag i hi
    simp only [rU, az_up]
    repeat' split
    all_goals first | rfl | exact e | omega | (clear h; simp_all <;> omega))
  (zp := fun i hi => by
    have e := h.zp i hi
    simp only [rU, az_up]
    repeat' split
    all_goals first | rfl | exact e | omega | (clear h; simp_all <;> omega))
  (zs := fun i hi => by
    have e := h.zs i hi
    simp only [rU, az_up]
    repeat' split
    all_goals first | rfl | exact e | omega | (clear h; simp_all <;> omega))
  (zk := fun i hi => by
    have e := h.zk i hi
    simp only [rU, az_up]
    repeat' split
    all_goals first | rfl | exact e | omega | (clear h; simp_all <;> omega))
  (zw := fun i hi => by
    have e := h.zw i hi
    simp only [rU, az_up]
    repeat' split
    all_goals first | rfl | exact e | omega | (clear h; simp_all <;> omega))
  (zr := fun i hi => by
    have e := h.zr i hi
    simp only [rU, az_up]
    repeat' split
    all_goals first | rfl | exact e | omega | (clear h; simp_all <;> omega))
  (cl := fun i hi => by
    have e := h.cl i hi
    simp only [rU, az_up]
    repeat' split
    all_goals first | rfl | exact e | omega | (clear h; simp_all <;> omega))
  (cm := fun i hi => by
    have e := h.cm i hi
    simp only [rU, az_up]
    repeat' split
    all_goals first | rfl | exact e | omega | (clear h; simp_all <;> omega))
  (lw := fun i hi => by
    have e := h.lw i hi
    simp only [rU, az_up]
    repeat' split
    all_goals first | rfl | exact e | omega | (clear h; simp_all <;> omega))
  (lh := fun i hi => by
    have e := h.lh i hi
    simp only [rU, az_up]
    repeat' split
    all_goals first | rfl | exact e | omega | (clear h; simp_all <;> omega))
  (li := fun i hi => by
    have e := h.li i hi
    simp only [rU, az_up]
    repeat' split
    all_goals first | rfl | exact e | omega | (clear h; simp_all <;> omega))
  (lp := fun i hi => by
    have e := h.lp i hi
    simp only [rU, az_up]
    repeat' split
    all_goals first | rfl | exact e | omega | (clear h; simp_all <;> omega))
theorem RR.u_zr {W : az_Mem} {r : Nat → Int32} (h : RR W r) {q : Nat} (hq : q < 8) (x : Int32) : RR (az_up W 12 q x) (rU r (19 + 5 * q + 4) x) := RR.mk
  (zones := by
    have e := h.zones
    simp only [rU, az_up]
    repeat' split
    all_goals first | rfl | exact e | omega | (clear h; simp_all <;> omega))
  (slots := by
    have e := h.slots
    simp only [rU, az_up]
    repeat' split
    all_goals first | rfl | exact e | omega | (clear h; simp_all <;> omega))
  (at_ := by
    have e := h.at_
    simp only [rU, az_up]
    repeat' split
    all_goals first | rfl | exact e | omega | (clear h; simp_all <;> omega))
  (water := by
    have e := h.water
    simp only [rU, az_up]
    repeat' split
    all_goals first | rfl | exact e | omega | (clear h; simp_all <;> omega))
  (skin := by
    have e := h.skin
    simp only [rU, az_up]
    repeat' split
    all_goals first | rfl | exact e | omega | (clear h; simp_all <;> omega))
  (room := by
    have e := h.room
    simp only [rU, az_up]
    repeat' split
    all_goals first | rfl | exact e | omega | (clear h; simp_all <;> omega))
  (bound := by
    have e := h.bound
    simp only [rU, az_up]
    repeat' split
    all_goals first | rfl | exact e | omega | (clear h; simp_all <;> omega))
  (mark := by
    have e := h.mark
    simp only [rU, az_up]
    repeat' split
    all_goals first | rfl | exact e | omega | (clear h; simp_all <;> omega))
  (steps := by
    have e := h.steps
    simp only [rU, az_up]
    repeat' split
    all_goals first | rfl | exact e | omega | (clear h; simp_all <;> omega))
  (used := by
    have e := h.used
    simp only [rU, az_up]
    repeat' split
    all_goals first | rfl | exact e | omega | (clear h; simp_all <;> omega))
  (resets := by
    have e := h.resets
    simp only [rU, az_up]
    repeat' split
    all_goals first | rfl | exact e | omega | (clear h; simp_all <;> omega))
  (moved := by
    have e := h.moved
    simp only [rU, az_up]
    repeat' split
    all_goals first | rfl | exact e | omega | (clear h; simp_all <;> omega))
  (many := by
    have e := h.many
    simp only [rU, az_up]
    repeat' split
    all_goals first | rfl | exact e | omega | (clear h; simp_all <;> omega))
  (bag := fun i hi => by
    have e := h.bag i hi
    simp only [rU, az_up]
    repeat' split
    all_goals first | rfl | exact e | omega | (clear h; simp_all <;> omega))
  (zp := fun i hi => by
    have e := h.zp i hi
    simp only [rU, az_up]
    repeat' split
    all_goals first | rfl | exact e | omega | (clear h; simp_all <;> omega))
  (zs := fun i hi => by
    have e := h.zs i hi
    simp only [rU, az_up]
    repeat' split
    all_goals first | rfl | exact e | omega | (clear h; simp_all <;> omega))
  (zk := fun i hi => by
    have e := h.zk i hi
    simp only [rU, az_up]
    repeat' split
    all_goals first | rfl | exact e | omega | (clear h; simp_all <;> omega))
  (zw := fun i hi => by
    have e := h.zw i hi
    simp only [rU, az_up]
    repeat' split
    all_goals first | rfl | exact e | omega | (clear h; simp_all <;> omega))
  (zr := fun i hi => by
    have e := h.zr i hi
    simp only [rU, az_up]
    repeat' split
    all_goals first | rfl | exact e | omega | (clear h; simp_all <;> omega))
  (cl := fun i hi => by
    have e := h.cl i hi
    simp only [rU, az_up]
    repeat' split
    all_goals first | rfl | exact e | omega | (clear h; simp_all <;> omega))
  (cm := fun i hi => by
    have e := h.cm i hi
    simp only [rU, az_up]
    repeat' split
    all_goals first | rfl | exact e | omega | (clear h; simp_all <;> omega))
  (lw := fun i hi => by
    have e := h.lw i hi
    simp only [rU, az_up]
    repeat' split
    all_goals first | rfl | exact e | omega | (clear h; simp_all <;> omega))
  (lh := fun i hi => by
    have e := h.lh i hi
    simp only [rU, az_up]
    repeat' split
    all_goals first | rfl | exact e | omega | (clear h; simp_all <;> omega))
  (li := fun i hi => by
    have e := h.li i hi
    simp only [rU, az_up]
    repeat' split
    all_goals first | rfl | exact e | omega | (clear h; simp_all <;> omega))
  (lp := fun i hi => by
    have e := h.lp i hi
    simp only [rU, az_up]
    repeat' split
    all_goals first | rfl | exact e | omega | (clear h; simp_all <;> omega))
theorem RR.u_cl {W : az_Mem} {r : Nat → Int32} (h : RR W r) {q : Nat} (hq : q < 96) (x : Int32) : RR (az_up W 14 q x) (rU r (59 + 2 * q) x) := RR.mk
  (zones := by
    have e := h.zones
    simp only [rU, az_up]
    repeat' split
    all_goals first | rfl | exact e | omega | (clear h; simp_all <;> omega))
  (slots := by
    have e := h.slots
    simp only [rU, az_up]
    repeat' split
    all_goals first | rfl | exact e | omega | (clear h; simp_all <;> omega))
  (at_ := by
    have e := h.at_
    simp only [rU, az_up]
    repeat' split
    all_goals first | rfl | exact e | omega | (clear h; simp_all <;> omega))
  (water := by
    have e := h.water
    simp only [rU, az_up]
    repeat' split
    all_goals first | rfl | exact e | omega | (clear h; simp_all <;> omega))
  (skin := by
    have e := h.skin
    simp only [rU, az_up]
    repeat' split
    all_goals first | rfl | exact e | omega | (clear h; simp_all <;> omega))
  (room := by
    have e := h.room
    simp only [rU, az_up]
    repeat' split
    all_goals first | rfl | exact e | omega | (clear h; simp_all <;> omega))
  (bound := by
    have e := h.bound
    simp only [rU, az_up]
    repeat' split
    all_goals first | rfl | exact e | omega | (clear h; simp_all <;> omega))
  (mark := by
    have e := h.mark
    simp only [rU, az_up]
    repeat' split
    all_goals first | rfl | exact e | omega | (clear h; simp_all <;> omega))
  (steps := by
    have e := h.steps
    simp only [rU, az_up]
    repeat' split
    all_goals first | rfl | exact e | omega | (clear h; simp_all <;> omega))
  (used := by
    have e := h.used
    simp only [rU, az_up]
    repeat' split
    all_goals first | rfl | exact e | omega | (clear h; simp_all <;> omega))
  (resets := by
    have e := h.resets
    simp only [rU, az_up]
    repeat' split
    all_goals first | rfl | exact e | omega | (clear h; simp_all <;> omega))
  (moved := by
    have e := h.moved
    simp only [rU, az_up]
    repeat' split
    all_goals first | rfl | exact e | omega | (clear h; simp_all <;> omega))
  (many := by
    have e := h.many
    simp only [rU, az_up]
    repeat' split
    all_goals first | rfl | exact e | omega | (clear h; simp_all <;> omega))
  (bag := fun i hi => by
    have e := h.bag i hi
    simp only [rU, az_up]
    repeat' split
    all_goals first | rfl | exact e | omega | (clear h; simp_all <;> omega))
  (zp := fun i hi => by
    have e := h.zp i hi
    simp only [rU, az_up]
    repeat' split
    all_goals first | rfl | exact e | omega | (clear h; simp_all <;> omega))
  (zs := fun i hi => by
    have e := h.zs i hi
    simp only [rU, az_up]
    repeat' split
    all_goals first | rfl | exact e | omega | (clear h; simp_all <;> omega))
  (zk := fun i hi => by
    have e := h.zk i hi
    simp only [rU, az_up]
    repeat' split
    all_goals first | rfl | exact e | omega | (clear h; simp_all <;> omega))
  (zw := fun i hi => by
    have e := h.zw i hi
    simp only [rU, az_up]
    repeat' split
    all_goals first | rfl | exact e | omega | (clear h; simp_all <;> omega))
  (zr := fun i hi => by
    have e := h.zr i hi
    simp only [rU, az_up]
    repeat' split
    all_goals first | rfl | exact e | omega | (clear h; simp_all <;> omega))
  (cl := fun i hi => by
    have e := h.cl i hi
    simp only [rU, az_up]
    repeat' split
    all_goals first | rfl | exact e | omega | (clear h; simp_all <;> omega))
  (cm := fun i hi => by
    have e := h.cm i hi
    simp only [rU, az_up]
    repeat' split
    all_goals first | rfl | exact e | omega | (clear h; simp_all <;> omega))
  (lw := fun i hi => by
    have e := h.lw i hi
    simp only [rU, az_up]
    repeat' split
    all_goals first | rfl | exact e | omega | (clear h; simp_all <;> omega))
  (lh := fun i hi => by
    have e := h.lh i hi
    simp only [rU, az_up]
    repeat' split
    all_goals first | rfl | exact e | omega | (clear h; simp_all <;> omega))
  (li := fun i hi => by
    have e := h.li i hi
    simp only [rU, az_up]
    repeat' split
    all_goals first | rfl | exact e | omega | (clear h; simp_all <;> omega))
  (lp := fun i hi => by
    have e := h.lp i hi
    simp only [rU, az_up]
    repeat' split
    all_goals first | rfl | exact e | omega | (clear h; simp_all <;> omega))
theorem RR.u_cm {W : az_Mem} {r : Nat → Int32} (h : RR W r) {q : Nat} (hq : q < 96) (x : Int32) : RR (az_up W 16 q x) (rU r (59 + 2 * q + 1) x) := RR.mk
  (zones := by
    have e := h.zones
    simp only [rU, az_up]
    repeat' split
    all_goals first | rfl | exact e | omega | (clear h; simp_all <;> omega))
  (slots := by
    have e := h.slots
    simp only [rU, az_up]
    repeat' split
    all_goals first | rfl | exact e | omega | (clear h; simp_all <;> omega))
  (at_ := by
    have e := h.at_
    simp only [rU, az_up]
    repeat' split
    all_goals first | rfl | exact e | omega | (clear h; simp_all <;> omega))
  (water := by
    have e := h.water
    simp only [rU, az_up]
    repeat' split
    all_goals first | rfl | exact e | omega | (clear h; simp_all <;> omega))
  (skin := by
    have e := h.skin
    simp only [rU, az_up]
    repeat' split
    all_goals first | rfl | exact e | omega | (clear h; simp_all <;> omega))
  (room := by
    have e := h.room
    simp only [rU, az_up]
    repeat' split
    all_goals first | rfl | exact e | omega | (clear h; simp_all <;> omega))
  (bound := by
    have e := h.bound
    simp only [rU, az_up]
    repeat' split
    all_goals first | rfl | exact e | omega | (clear h; simp_all <;> omega))
  (mark := by
    have e := h.mark
    simp only [rU, az_up]
    repeat' split
    all_goals first | rfl | exact e | omega | (clear h; simp_all <;> omega))
  (steps := by
    have e := h.steps
    simp only [rU, az_up]
    repeat' split
    all_goals first | rfl | exact e | omega | (clear h; simp_all <;> omega))
  (used := by
    have e := h.used
    simp only [rU, az_up]
    repeat' split
    all_goals first | rfl | exact e | omega | (clear h; simp_all <;> omega))
  (resets := by
    have e := h.resets
    simp only [rU, az_up]
    repeat' split
    all_goals first | rfl | exact e | omega | (clear h; simp_all <;> omega))
  (moved := by
    have e := h.moved
    simp only [rU, az_up]
    repeat' split
    all_goals first | rfl | exact e | omega | (clear h; simp_all <;> omega))
  (many := by
    have e := h.many
    simp only [rU, az_up]
    repeat' split
    all_goals first | rfl | exact e | omega | (clear h; simp_all <;> omega))
  (bag := fun i hi => by
    have e := h.bag i hi
    simp only [rU, az_up]
    repeat' split
    all_goals first | rfl | exact e | omega | (clear h; simp_all <;> omega))
  (zp := fun i hi => by
    have e := h.zp i hi
    simp only [rU, az_up]
    repeat' split
    all_goals first | rfl | exact e | omega | (clear h; simp_all <;> omega))
  (zs := fun i hi => by
    have e := h.zs i hi
    simp only [rU, az_up]
    repeat' split
    all_goals first | rfl | exact e | omega | (clear h; simp_all <;> omega))
  (zk := fun i hi => by
    have e := h.zk i hi
    simp only [rU, az_up]
    repeat' split
    all_goals first | rfl | exact e | omega | (clear h; simp_all <;> omega))
  (zw := fun i hi => by
    have e := h.zw i hi
    simp only [rU, az_up]
    repeat' split
    all_goals first | rfl | exact e | omega | (clear h; simp_all <;> omega))
  (zr := fun i hi => by
    have e := h.zr i hi
    simp only [rU, az_up]
    repeat' split
    all_goals first | rfl | exact e | omega | (clear h; simp_all <;> omega))
  (cl := fun i hi => by
    have e := h.cl i hi
    simp only [rU, az_up]
    repeat' split
    all_goals first | rfl | exact e | omega | (clear h; simp_all <;> omega))
  (cm := fun i hi => by
    have e := h.cm i hi
    simp only [rU, az_up]
    repeat' split
    all_goals first | rfl | exact e | omega | (clear h; simp_all <;> omega))
  (lw := fun i hi => by
    have e := h.lw i hi
    simp only [rU, az_up]
    repeat' split
    all_goals first | rfl | exact e | omega | (clear h; simp_all <;> omega))
  (lh := fun i hi => by
    have e := h.lh i hi
    simp only [rU, az_up]
    repeat' split
    all_goals first | rfl | exact e | omega | (clear h; simp_all <;> omega))
  (li := fun i hi => by
    have e := h.li i hi
    simp only [rU, az_up]
    repeat' split
    all_goals first | rfl | exact e | omega | (clear h; simp_all <;> omega))
  (lp := fun i hi => by
    have e := h.lp i hi
    simp only [rU, az_up]
    repeat' split
    all_goals first | rfl | exact e | omega | (clear h; simp_all <;> omega))
theorem RR.u_lw {W : az_Mem} {r : Nat → Int32} (h : RR W r) {q : Nat} (hq : q < 40) (x : Int32) : RR (az_up W 19 q x) (rU r (251 + 4 * q + 0) x) := RR.mk
  (zones := by
    have e := h.zones
    simp only [rU, az_up]
    repeat' split
    all_goals first | rfl | exact e | omega | (clear h; simp_all <;> omega))
  (slots := by
    have e := h.slots
    simp only [rU, az_up]
    repeat' split
    all_goals first | rfl | exact e | omega | (clear h; simp_all <;> omega))
  (at_ := by
    have e := h.at_
    simp only [rU, az_up]
    repeat' split
    all_goals first | rfl | exact e | omega | (clear h; simp_all <;> omega))
  (water := by
    have e := h.water
    simp only [rU, az_up]
    repeat' split
    all_goals first | rfl | exact e | omega | (clear h; simp_all <;> omega))
  (skin := by
    have e := h.skin
    simp only [rU, az_up]
    repeat' split
    all_goals first | rfl | exact e | omega | (clear h; simp_all <;> omega))
  (room := by
    have e := h.room
    simp only [rU, az_up]
    repeat' split
    all_goals first | rfl | exact e | omega | (clear h; simp_all <;> omega))
  (bound := by
    have e := h.bound
    simp only [rU, az_up]
    repeat' split
    all_goals first | rfl | exact e | omega | (clear h; simp_all <;> omega))
  (mark := by
    have e := h.mark
    simp only [rU, az_up]
    repeat' split
    all_goals first | rfl | exact e | omega | (clear h; simp_all <;> omega))
  (steps := by
    have e := h.steps
    simp only [rU, az_up]
    repeat' split
    all_goals first | rfl | exact e | omega | (clear h; simp_all <;> omega))
  (used := by
    have e := h.used
    simp only [rU, az_up]
    repeat' split
    all_goals first | rfl | exact e | omega | (clear h; simp_all <;> omega))
  (resets := by
    have e := h.resets
    simp only [rU, az_up]
    repeat' split
    all_goals first | rfl | exact e | omega | (clear h; simp_all <;> omega))
  (moved := by
    have e := h.moved
    simp only [rU, az_up]
    repeat' split
    all_goals first | rfl | exact e | omega | (clear h; simp_all <;> omega))
  (many := by
    have e := h.many
    simp only [rU, az_up]
    repeat' split
    all_goals first | rfl | exact e | omega | (clear h; simp_all <;> omega))
  (bag := fun i hi => by
    have e := h.bag i hi
    simp only [rU, az_up]
    repeat' split
    all_goals first | rfl | exact e | omega | (clear h; simp_all <;> omega))
  (zp := fun i hi => by
    have e := h.zp i hi
    simp only [rU, az_up]
    repeat' split
    all_goals first | rfl | exact e | omega | (clear h; simp_all <;> omega))
  (zs := fun i hi => by
    have e := h.zs i hi
    simp only [rU, az_up]
    repeat' split
    all_goals first | rfl | exact e | omega | (clear h; simp_all <;> omega))
  (zk := fun i hi => by
    have e := h.zk i hi
    simp only [rU, az_up]
    repeat' split
    all_goals first | rfl | exact e | omega | (clear h; simp_all <;> omega))
  (zw := fun i hi => by
    have e := h.zw i hi
    simp only [rU, az_up]
    repeat' split
    all_goals first | rfl | exact e | omega | (clear h; simp_all <;> omega))
  (zr := fun i hi => by
    have e := h.zr i hi
    simp only [rU, az_up]
    repeat' split
    all_goals first | rfl | exact e | omega | (clear h; simp_all <;> omega))
  (cl := fun i hi => by
    have e := h.cl i hi
    simp only [rU, az_up]
    repeat' split
    all_goals first | rfl | exact e | omega | (clear h; simp_all <;> omega))
  (cm := fun i hi => by
    have e := h.cm i hi
    simp only [rU, az_up]
    repeat' split
    all_goals first | rfl | exact e | omega | (clear h; simp_all <;> omega))
  (lw := fun i hi => by
    have e := h.lw i hi
    simp only [rU, az_up]
    repeat' split
    all_goals first | rfl | exact e | omega | (clear h; simp_all <;> omega))
  (lh := fun i hi => by
    have e := h.lh i hi
    simp only [rU, az_up]
    repeat' split
    all_goals first | rfl | exact e | omega | (clear h; simp_all <;> omega))
  (li := fun i hi => by
    have e := h.li i hi
    simp only [rU, az_up]
    repeat' split
    all_goals first | rfl | exact e | omega | (clear h; simp_all <;> omega))
  (lp := fun i hi => by
    have e := h.lp i hi
    simp only [rU, az_up]
    repeat' split
    all_goals first | rfl | exact e | omega | (clear h; simp_all <;> omega))
theorem RR.u_lh {W : az_Mem} {r : Nat → Int32} (h : RR W r) {q : Nat} (hq : q < 40) (x : Int32) : RR (az_up W 23 q x) (rU r (251 + 4 * q + 3) x) := RR.mk
  (zones := by
    have e := h.zones
    simp only [rU, az_up]
    repeat' split
    all_goals first | rfl | exact e | omega | (clear h; simp_all <;> omega))
  (slots := by
    have e := h.slots
    simp only [rU, az_up]
    repeat' split
    all_goals first | rfl | exact e | omega | (clear h; simp_all <;> omega))
  (at_ := by
    have e := h.at_
    simp only [rU, az_up]
    repeat' split
    all_goals first | rfl | exact e | omega | (clear h; simp_all <;> omega))
  (water := by
    have e := h.water
    simp only [rU, az_up]
    repeat' split
    all_goals first | rfl | exact e | omega | (clear h; simp_all <;> omega))
  (skin := by
    have e := h.skin
    simp only [rU, az_up]
    repeat' split
    all_goals first | rfl | exact e | omega | (clear h; simp_all <;> omega))
  (room := by
    have e := h.room
    simp only [rU, az_up]
    repeat' split
    all_goals first | rfl | exact e | omega | (clear h; simp_all <;> omega))
  (bound := by
    have e := h.bound
    simp only [rU, az_up]
    repeat' split
    all_goals first | rfl | exact e | omega | (clear h; simp_all <;> omega))
  (mark := by
    have e := h.mark
    simp only [rU, az_up]
    repeat' split
    all_goals first | rfl | exact e | omega | (clear h; simp_all <;> omega))
  (steps := by
    have e := h.steps
    simp only [rU, az_up]
    repeat' split
    all_goals first | rfl | exact e | omega | (clear h; simp_all <;> omega))
  (used := by
    have e := h.used
    simp only [rU, az_up]
    repeat' split
    all_goals first | rfl | exact e | omega | (clear h; simp_all <;> omega))
  (resets := by
    have e := h.resets
    simp only [rU, az_up]
    repeat' split
    all_goals first | rfl | exact e | omega | (clear h; simp_all <;> omega))
  (moved := by
    have e := h.moved
    simp only [rU, az_up]
    repeat' split
    all_goals first | rfl | exact e | omega | (clear h; simp_all <;> omega))
  (many := by
    have e := h.many
    simp only [rU, az_up]
    repeat' split
    all_goals first | rfl | exact e | omega | (clear h; simp_all <;> omega))
  (bag := fun i hi => by
    have e := h.bag i hi
    simp only [rU, az_up]
    repeat' split
    all_goals first | rfl | exact e | omega | (clear h; simp_all <;> omega))
  (zp := fun i hi => by
    have e := h.zp i hi
    simp only [rU, az_up]
    repeat' split
    all_goals first | rfl | exact e | omega | (clear h; simp_all <;> omega))
  (zs := fun i hi => by
    have e := h.zs i hi
    simp only [rU, az_up]
    repeat' split
    all_goals first | rfl | exact e | omega | (clear h; simp_all <;> omega))
  (zk := fun i hi => by
    have e := h.zk i hi
    simp only [rU, az_up]
    repeat' split
    all_goals first | rfl | exact e | omega | (clear h; simp_all <;> omega))
  (zw := fun i hi => by
    have e := h.zw i hi
    simp only [rU, az_up]
    repeat' split
    all_goals first | rfl | exact e | omega | (clear h; simp_all <;> omega))
  (zr := fun i hi => by
    have e := h.zr i hi
    simp only [rU, az_up]
    repeat' split
    all_goals first | rfl | exact e | omega | (clear h; simp_all <;> omega))
  (cl := fun i hi => by
    have e := h.cl i hi
    simp only [rU, az_up]
    repeat' split
    all_goals first | rfl | exact e | omega | (clear h; simp_all <;> omega))
  (cm := fun i hi => by
    have e := h.cm i hi
    simp only [rU, az_up]
    repeat' split
    all_goals first | rfl | exact e | omega | (clear h; simp_all <;> omega))
  (lw := fun i hi => by
    have e := h.lw i hi
    simp only [rU, az_up]
    repeat' split
    all_goals first | rfl | exact e | omega | (clear h; simp_all <;> omega))
  (lh := fun i hi => by
    have e := h.lh i hi
    simp only [rU, az_up]
    repeat' split
    all_goals first | rfl | exact e | omega | (clear h; simp_all <;> omega))
  (li := fun i hi => by
    have e := h.li i hi
    simp only [rU, az_up]
    repeat' split
    all_goals first | rfl | exact e | omega | (clear h; simp_all <;> omega))
  (lp := fun i hi => by
    have e := h.lp i hi
    simp only [rU, az_up]
    repeat' split
    all_goals first | rfl | exact e | omega | (clear h; simp_all <;> omega))
theorem RR.u_cell {W : az_Mem} {r : Nat → Int32} (h : RR W r) {q : Nat} (hq : q < 40) {x y z : Int32} (hy : y = x / 12) (hz : z = x - x / 12 * 12) : RR (az_up W 21 q x) (rU (rU r (251 + 4 * q + 1) y) (251 + 4 * q + 2) z) := RR.mk
  (zones := by
    have e := h.zones
    simp only [rU, az_up]
    repeat' split
    all_goals first | rfl | exact hy | exact hz | exact e | omega | (clear h; simp_all <;> omega))
  (slots := by
    have e := h.slots
    simp only [rU, az_up]
    repeat' split
    all_goals first | rfl | exact hy | exact hz | exact e | omega | (clear h; simp_all <;> omega))
  (at_ := by
    have e := h.at_
    simp only [rU, az_up]
    repeat' split
    all_goals first | rfl | exact hy | exact hz | exact e | omega | (clear h; simp_all <;> omega))
  (water := by
    have e := h.water
    simp only [rU, az_up]
    repeat' split
    all_goals first | rfl | exact hy | exact hz | exact e | omega | (clear h; simp_all <;> omega))
  (skin := by
    have e := h.skin
    simp only [rU, az_up]
    repeat' split
    all_goals first | rfl | exact hy | exact hz | exact e | omega | (clear h; simp_all <;> omega))
  (room := by
    have e := h.room
    simp only [rU, az_up]
    repeat' split
    all_goals first | rfl | exact hy | exact hz | exact e | omega | (clear h; simp_all <;> omega))
  (bound := by
    have e := h.bound
    simp only [rU, az_up]
    repeat' split
    all_goals first | rfl | exact hy | exact hz | exact e | omega | (clear h; simp_all <;> omega))
  (mark := by
    have e := h.mark
    simp only [rU, az_up]
    repeat' split
    all_goals first | rfl | exact hy | exact hz | exact e | omega | (clear h; simp_all <;> omega))
  (steps := by
    have e := h.steps
    simp only [rU, az_up]
    repeat' split
    all_goals first | rfl | exact hy | exact hz | exact e | omega | (clear h; simp_all <;> omega))
  (used := by
    have e := h.used
    simp only [rU, az_up]
    repeat' split
    all_goals first | rfl | exact hy | exact hz | exact e | omega | (clear h; simp_all <;> omega))
  (resets := by
    have e := h.resets
    simp only [rU, az_up]
    repeat' split
    all_goals first | rfl | exact hy | exact hz | exact e | omega | (clear h; simp_all <;> omega))
  (moved := by
    have e := h.moved
    simp only [rU, az_up]
    repeat' split
    all_goals first | rfl | exact hy | exact hz | exact e | omega | (clear h; simp_all <;> omega))
  (many := by
    have e := h.many
    simp only [rU, az_up]
    repeat' split
    all_goals first | rfl | exact hy | exact hz | exact e | omega | (clear h; simp_all <;> omega))
  (bag := fun i hi => by
    have e := h.bag i hi
    simp only [rU, az_up]
    repeat' split
    all_goals first | rfl | exact hy | exact hz | exact e | omega | (clear h; simp_all <;> omega))
  (zp := fun i hi => by
    have e := h.zp i hi
    simp only [rU, az_up]
    repeat' split
    all_goals first | rfl | exact hy | exact hz | exact e | omega | (clear h; simp_all <;> omega))
  (zs := fun i hi => by
    have e := h.zs i hi
    simp only [rU, az_up]
    repeat' split
    all_goals first | rfl | exact hy | exact hz | exact e | omega | (clear h; simp_all <;> omega))
  (zk := fun i hi => by
    have e := h.zk i hi
    simp only [rU, az_up]
    repeat' split
    all_goals first | rfl | exact hy | exact hz | exact e | omega | (clear h; simp_all <;> omega))
  (zw := fun i hi => by
    have e := h.zw i hi
    simp only [rU, az_up]
    repeat' split
    all_goals first | rfl | exact hy | exact hz | exact e | omega | (clear h; simp_all <;> omega))
  (zr := fun i hi => by
    have e := h.zr i hi
    simp only [rU, az_up]
    repeat' split
    all_goals first | rfl | exact hy | exact hz | exact e | omega | (clear h; simp_all <;> omega))
  (cl := fun i hi => by
    have e := h.cl i hi
    simp only [rU, az_up]
    repeat' split
    all_goals first | rfl | exact hy | exact hz | exact e | omega | (clear h; simp_all <;> omega))
  (cm := fun i hi => by
    have e := h.cm i hi
    simp only [rU, az_up]
    repeat' split
    all_goals first | rfl | exact hy | exact hz | exact e | omega | (clear h; simp_all <;> omega))
  (lw := fun i hi => by
    have e := h.lw i hi
    simp only [rU, az_up]
    repeat' split
    all_goals first | rfl | exact hy | exact hz | exact e | omega | (clear h; simp_all <;> omega))
  (lh := fun i hi => by
    have e := h.lh i hi
    simp only [rU, az_up]
    repeat' split
    all_goals first | rfl | exact hy | exact hz | exact e | omega | (clear h; simp_all <;> omega))
  (li := fun i hi => by
    have e := h.li i hi
    simp only [rU, az_up]
    repeat' split
    all_goals first | rfl | exact hy | exact hz | exact e | omega | (clear h; simp_all <;> omega))
  (lp := fun i hi => by
    have e := h.lp i hi
    simp only [rU, az_up]
    repeat' split
    all_goals first | rfl | exact hy | exact hz | exact e | omega | (clear h; simp_all <;> omega))
def rw_len : Nat → Nat
  | 2 => 4 | 4 => 8 | 6 => 8 | 8 => 8 | 10 => 8 | 12 => 8 | 14 => 96 | 16 => 96 | 17 => 1 | 19 => 40 | 21 => 40 | 23 => 40 | 24 => 8 | 26 => 6
  | _ => 0
/-- two worlds that agree where a world has places -/
def sW (W W' : az_Mem) : Prop := ∀ c k, k < rw_len c → W c k = W' c k
theorem RR.cg {W W' : az_Mem} {r : Nat → Int32} (h : RR W r) (e : sW W W') : RR W' r := RR.mk
  (zones := by rw [← e 2 0 (by decide)]; exact h.zones)
  (slots := by rw [← e 2 1 (by decide)]; exact h.slots)
  (at_ := by rw [← e 24 0 (by decide)]; exact h.at_)
  (water := by rw [← e 24 1 (by decide)]; exact h.water)
  (skin := by rw [← e 24 2 (by decide)]; exact h.skin)
  (room := by rw [← e 24 3 (by decide)]; exact h.room)
  (bound := by rw [← e 17 0 (by decide)]; exact h.bound)
  (mark := by rw [← e 2 2 (by decide)]; exact h.mark)
  (steps := by rw [← e 24 5 (by decide)]; exact h.steps)
  (used := by rw [← e 24 6 (by decide)]; exact h.used)
  (resets := by rw [← e 2 3 (by decide)]; exact h.resets)
  (moved := by rw [← e 24 7 (by decide)]; exact h.moved)
  (many := by rw [← e 24 4 (by decide)]; exact h.many)
  (bag := fun i hi => by rw [← e 26 i hi]; exact h.bag i hi)
  (zp := fun i hi => by rw [← e 4 i hi]; exact h.zp i hi)
  (zs := fun i hi => by rw [← e 8 i hi]; exact h.zs i hi)
  (zk := fun i hi => by rw [← e 6 i hi]; exact h.zk i hi)
  (zw := fun i hi => by rw [← e 10 i hi]; exact h.zw i hi)
  (zr := fun i hi => by rw [← e 12 i hi]; exact h.zr i hi)
  (cl := fun i hi => by rw [← e 14 i hi]; exact h.cl i hi)
  (cm := fun i hi => by rw [← e 16 i hi]; exact h.cm i hi)
  (lw := fun i hi => by rw [← e 19 i hi]; exact h.lw i hi)
  (lh := fun i hi => by rw [← e 23 i hi]; exact h.lh i hi)
  (li := fun i hi => by rw [← e 21 i hi]; exact h.li i hi)
  (lp := fun i hi => by rw [← e 21 i hi]; exact h.lp i hi)
theorem RR.cr {W : az_Mem} {r r' : Nat → Int32} (h : RR W r) (e : ∀ j, j < 411 → r' j = r j) : RR W r' := RR.mk
  (zones := by rw [e _ (by decide)]; exact h.zones)
  (slots := by rw [e _ (by decide)]; exact h.slots)
  (at_ := by rw [e _ (by decide)]; exact h.at_)
  (water := by rw [e _ (by decide)]; exact h.water)
  (skin := by rw [e _ (by decide)]; exact h.skin)
  (room := by rw [e _ (by decide)]; exact h.room)
  (bound := by rw [e _ (by decide)]; exact h.bound)
  (mark := by rw [e _ (by decide)]; exact h.mark)
  (steps := by rw [e _ (by decide)]; exact h.steps)
  (used := by rw [e _ (by decide)]; exact h.used)
  (resets := by rw [e _ (by decide)]; exact h.resets)
  (moved := by rw [e _ (by decide)]; exact h.moved)
  (many := by rw [e _ (by decide)]; exact h.many)
  (bag := fun i hi => by rw [e _ (by omega)]; exact h.bag i hi)
  (zp := fun i hi => by rw [e _ (by omega)]; exact h.zp i hi)
  (zs := fun i hi => by rw [e _ (by omega)]; exact h.zs i hi)
  (zk := fun i hi => by rw [e _ (by omega)]; exact h.zk i hi)
  (zw := fun i hi => by rw [e _ (by omega)]; exact h.zw i hi)
  (zr := fun i hi => by rw [e _ (by omega)]; exact h.zr i hi)
  (cl := fun i hi => by rw [e _ (by omega)]; exact h.cl i hi)
  (cm := fun i hi => by rw [e _ (by omega)]; exact h.cm i hi)
  (lw := fun i hi => by rw [e _ (by omega)]; exact h.lw i hi)
  (lh := fun i hi => by rw [e _ (by omega)]; exact h.lh i hi)
  (li := fun i hi => by rw [e _ (by omega)]; exact h.li i hi)
  (lp := fun i hi => by rw [e _ (by omega)]; exact h.lp i hi)
