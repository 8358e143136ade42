/-! BEHIND BOTH CONSTRUCTORS, by closed evaluation -/
def zi_none : Nat → az_Sh := fun _ => (99, 0, [])
def zi_hE : az_H := (0, zi_none, fun _ _ => 0, 0)
def zi_h00 : az_H := (1, az_put zi_none 0 (7, 0, az_dflt 7), az_put (fun _ _ => 0) 0 (fun _ => 0), 6)
def zi_nx (h : az_H) : az_H := (h.1 + 1, az_put h.2.1 h.1 (8, 0, az_dflt 8), az_put h.2.2.1 h.1 (fun _ => 0), h.2.2.2 + 13)
def zi_shEq (a b : az_Sh) : Bool := Nat.beq a.1 b.1 && Nat.beq a.2.1 b.2.1 && decide (a.2.2 = b.2.2)
def zi_e0 (c k : Nat) : Int32 :=
  if c = 2 then (if k = 0 then 4 else if k = 1 then 6 else 0)
  else if c = 10 then (if k = 0 then 1 else 0)
  else if c = 17 then 3
  else if c = 24 then (if k = 1 then 60 else if k = 2 then 60 else if k = 3 then 3 else 0)
  else if c = 193 then (if k = 0 then 4 else if k = 1 then 6 else if k = 3 then 60 else if k = 4 then 60 else if k = 5 then 3 else if k = 6 then 3 else if k = 22 then 1 else 0)
  else if c = 79 then (if k = 1 then 3 else 0)
  else 0
def zi_ck : List (Nat × Nat) := [(0, 6), (2, 4), (4, 8), (6, 8), (8, 8), (10, 8), (12, 8), (14, 96), (16, 96), (17, 1), (19, 40), (21, 40), (23, 40), (24, 8), (26, 6), (79, 3), (185, 5), (192, 13), (193, 411)]
def zi_ckM (M : az_Mem) : Bool := zi_ck.all (fun q => (List.range q.2).all (fun k => decide (M q.1 k = zi_e0 q.1 k)))
def zi_o1 : Option az_R := az_ev 7 100000 m_X8_init [.ref 0] zi_h00
def zi_o2 : Option az_R := match zi_o1 with
  | some (none, h) => az_ev 7 100000 m_X9_init [.ref 192] (zi_nx h)
  | _ => none
def zi_okI : Bool := match zi_o1, zi_o2 with
  | some (none, h1), some (none, h2) => Nat.beq h1.1 192 && Nat.ble h1.2.2.2 6000 && Nat.beq h2.1 200 && Nat.ble h2.2.2.2 6000 && (List.range 200).all (fun k => zi_shEq (h2.2.1 k) (az_shp k)) && zi_ckM h2.2.2.1
  | _, _ => false
theorem zi_okI_t : zi_okI = true := by decide +kernel
