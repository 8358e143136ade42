/-! THE ENGINE: an abstract machine for the bytecode that this claim holds, over a heap of numbered cells. A cell: a shape (kind, length, its references) and its ints. Kinds 0 to 8: objects of vwCl; 9 int rows, 10 boolean rows, 11 rows of World; 99 none. -/
abbrev az_V : Type := Option Value
abbrev az_Sh : Type := Nat × Nat × List (Option (Option Nat))
abbrev az_H : Type := Nat × (Nat → az_Sh) × (Nat → Nat → Int32) × Nat
abbrev az_I : Type := Nat × Nat × Nat × Nat × Int32 × Nat × List (Int32 × Nat)
abbrev az_R : Type := Option Value × az_H
abbrev az_S : Type := Nat × List az_V × List Value × az_H
def az_up (f : Nat → Nat → Int32) (a k : Nat) (x : Int32) : Nat → Nat → Int32 := fun b j => if b = a ∧ j = k then x else f b j
def az_put {α : Type} (f : Nat → α) (a : Nat) (x : α) : Nat → α := fun b => if b = a then x else f b
def az_get : List az_V → Nat → az_V
  | [], _ => none
  | x :: _, 0 => x
  | _ :: r, n + 1 => az_get r n
def az_set {β : Type} : List az_V → Nat → Value → (List az_V → Option β) → Option β
  | [], _, _, _ => none
  | _ :: r, 0, v, k => k (some v :: r)
  | x :: r, n + 1, v, k => az_set r n v (fun ys => k (x :: ys))
def az_nth {α : Type} : List α → Nat → Option α
  | [], _ => none
  | x :: _, 0 => some x
  | _ :: r, n + 1 => az_nth r n
def az_sub {α : Type} : List α → Nat → α → List α
  | [], _, _ => []
  | _ :: r, 0, v => v :: r
  | x :: r, n + 1, v => x :: az_sub r n v
def az_pop {β : Type} : Nat → List Value → List Value → (List Value → List Value → Option β) → Option β
  | 0, st, acc, k => k acc st
  | n + 1, .int x :: r, acc, k => az_pop n r (.int x :: acc) k
  | n + 1, .ref q :: r, acc, k => az_pop n r (.ref q :: acc) k
  | n + 1, .null :: r, acc, k => az_pop n r (.null :: acc) k
  | _ + 1, _, _, _ => none
def az_app : Option Value → List Value → List Value
  | none, r => r
  | some v, r => v :: r
def az_cat : List Value → Nat
  | [] => 0
  | v :: r => v.category + az_cat r
def az_in (i : Int32) (n : Nat) : Bool := decide (0 ≤ i.toInt) && decide (i.toInt < n)
def az_bit (x : Int32) : Bool := decide (x = 0) || decide (x = 1)
def az_rv : Option (Option (Option Nat)) → Value
  | some (some (some q)) => .ref q
  | _ => .null
def az_dflt : Nat → List (Option (Option Nat))
  | 0 => [none, none, none, none, none, none, none, none, some none]
  | 1 => [some none, none, none]
  | 2 => [none, some none, some none, some none]
  | 3 => [some none, none, some none, some none, none]
  | 4 => [none, none, none, none, some none, some none, some none, some none, some none, some none, some none]
  | 5 => [some none]
  | 6 => [some none, some none, some none]
  | _ => [some none, some none, some none, none, some none, some none]
/-- the straight instructions: 0..2 a constant, 3 4 iload, 5 6 aload, 7 8 istore, 9 10 astore, 11 iinc, 12 iadd, 13 isub, 14 imul, 15 iand, 16 dup, 17 pop, 18 i2c, 19 goto, 20 aconst_null, 21 22 getfield, 23 24 putfield of an int, 25 of a final reference, 26 arraylength, 27 new, 28 Object.<init>, 29 ifnull, 30 ifnonnull, 66 dup2, 67 Math.max, 68 Math.min, 69 ldc of an int, 70 ishr -/
def az_st1 : az_I → List az_V → List Value → az_H → Option az_S
  | (t, a, b, c, im, nx, _), ls, stk, (hz, hS, hM, hw) =>
    bif Nat.ble t 10 then
      bif Nat.ble t 2 then some (nx, ls, .int im :: stk, (hz, hS, hM, hw))
      else bif Nat.ble t 4 then (match az_get ls a with
        | some (.int x) => some (nx, ls, .int x :: stk, (hz, hS, hM, hw))
        | _ => none)
      else bif Nat.ble t 6 then (match az_get ls a with
        | some (.ref q) => some (nx, ls, .ref q :: stk, (hz, hS, hM, hw))
        | some .null => some (nx, ls, .null :: stk, (hz, hS, hM, hw))
        | _ => none)
      else bif Nat.ble t 8 then (match stk with
        | .int x :: r => az_set ls a (.int x) (fun ls' => some (nx, ls', r, (hz, hS, hM, hw)))
        | _ => none)
      else (match stk with
        | .ref q :: r => az_set ls a (.ref q) (fun ls' => some (nx, ls', r, (hz, hS, hM, hw)))
        | .null :: r => az_set ls a .null (fun ls' => some (nx, ls', r, (hz, hS, hM, hw)))
        | _ => none)
    else bif Nat.ble t 15 then
      bif Nat.beq t 11 then (match az_get ls a with
        | some (.int x) => az_set ls a (.int (x + im)) (fun ls' => some (nx, ls', stk, (hz, hS, hM, hw)))
        | _ => none)
      else (match stk with
        | .int y :: .int x :: r =>
          bif Nat.beq t 12 then some (nx, ls, .int (x + y) :: r, (hz, hS, hM, hw))
          else bif Nat.beq t 13 then some (nx, ls, .int (x - y) :: r, (hz, hS, hM, hw))
          else bif Nat.beq t 14 then some (nx, ls, .int (x * y) :: r, (hz, hS, hM, hw))
          else some (nx, ls, .int (x &&& y) :: r, (hz, hS, hM, hw))
        | _ => none)
    else bif Nat.ble t 20 then
      bif Nat.beq t 16 then (match stk with
        | .ref q :: r => some (nx, ls, .ref q :: .ref q :: r, (hz, hS, hM, hw))
        | _ => none)
      else bif Nat.beq t 17 then (match stk with
        | .int _ :: r => some (nx, ls, r, (hz, hS, hM, hw))
        | _ => none)
      else bif Nat.beq t 18 then (match stk with
        | .int x :: r => some (nx, ls, .int ((x.toUInt32 % 65536).toInt32) :: r, (hz, hS, hM, hw))
        | _ => none)
      else bif Nat.beq t 19 then some (a, ls, stk, (hz, hS, hM, hw))
      else some (nx, ls, .null :: stk, (hz, hS, hM, hw))
    else bif Nat.ble t 25 then
      bif Nat.ble t 22 then (match stk with
        | .ref q :: r => (match hS q with
          | (kd, _, rs) => bif Nat.beq kd b then (match az_nth rs c with
            | some none => some (nx, ls, .int (hM q c) :: r, (hz, hS, hM, hw))
            | some (some none) => some (nx, ls, .null :: r, (hz, hS, hM, hw))
            | some (some (some q2)) => some (nx, ls, .ref q2 :: r, (hz, hS, hM, hw))
            | none => none) else none)
        | _ => none)
      else bif Nat.ble t 24 then (match stk with
        | .int x :: .ref q :: r => (match hS q with
          | (kd, _, rs) => bif Nat.beq kd b then (match az_nth rs c with
            | some none => some (nx, ls, r, (hz, hS, az_up hM q c x, hw))
            | _ => none) else none)
        | _ => none)
      else (match stk with
        | .ref v :: .ref q :: r => (match hS q with
          | (kd, ln, rs) => bif Nat.beq kd b then (match az_nth rs c with
            | some (some _) => some (nx, ls, r, (hz, az_put hS q (kd, ln, az_sub rs c (some (some v))), hM, hw))
            | _ => none) else none)
        | _ => none)
    else bif Nat.ble t 30 then
      bif Nat.beq t 26 then (match stk with
        | .ref q :: r => (match hS q with
          | (kd, ln, _) => bif Nat.ble 9 kd && Nat.ble kd 11 then some (nx, ls, .int (Int32.ofNat ln) :: r, (hz, hS, hM, hw)) else none)
        | _ => none)
      else bif Nat.beq t 27 then some (nx, ls, .ref hz :: stk, (hz + 1, az_put hS hz (b, 0, az_dflt b), az_put hM hz (fun _ => 0), hw + c))
      else bif Nat.beq t 28 then (match stk with
        | .ref _ :: r => bif Nat.ble (az_cat r) 8 then some (nx, ls, r, (hz, hS, hM, hw)) else none
        | _ => none)
      else bif Nat.beq t 29 then (match stk with
        | .ref _ :: r => some (nx, ls, r, (hz, hS, hM, hw))
        | .null :: r => some (a, ls, r, (hz, hS, hM, hw))
        | _ => none)
      else (match stk with
        | .ref _ :: r => some (a, ls, r, (hz, hS, hM, hw))
        | .null :: r => some (nx, ls, r, (hz, hS, hM, hw))
        | _ => none)
    else bif Nat.beq t 66 then (match stk with
      | .int x :: .ref q :: r => some (nx, ls, .int x :: .ref q :: .int x :: .ref q :: r, (hz, hS, hM, hw))
      | _ => none)
    else bif Nat.beq t 67 then (match stk with
      | .int y :: .int x :: r => bif Nat.ble (az_cat r) 8 then some (nx, ls, .int (if x < y then y else x) :: r, (hz, hS, hM, hw)) else none
      | _ => none)
    else bif Nat.beq t 68 then (match stk with
      | .int y :: .int x :: r => bif Nat.ble (az_cat r) 8 then some (nx, ls, .int (if y < x then y else x) :: r, (hz, hS, hM, hw)) else none
      | _ => none)
    else bif Nat.beq t 69 then some (nx, ls, .int im :: stk, (hz, hS, hM, hw))
    else bif Nat.beq t 70 then (match stk with
      | .int y :: .int x :: r => some (nx, ls, .int (x >>> (y &&& 31)) :: r, (hz, hS, hM, hw))
      | _ => none)
    else none
/-- those with a guard: 31 idiv, 32 irem, 33 iaload, 34 iastore, 35 baload, 36 bastore, 37 aaload, 38 aastore, 39 putfield of a boolean, 40 new int[], 41 new boolean[], 42 new World[] -/
def az_gd : az_I → List Value → az_H → Option (Bool × Nat × List Value × az_H)
  | (t, _, b, c, _, nx, _), stk, (hz, hS, hM, hw) =>
    bif Nat.ble t 30 then none
    else bif Nat.ble t 32 then (match stk with
      | .int y :: .int x :: r => some (!decide (y = 0), nx, .int (bif Nat.beq t 31 then x / y else x - x / y * y) :: r, (hz, hS, hM, hw))
      | _ => none)
    else bif Nat.beq t 33 then (match stk with
      | .int i :: .ref q :: r => (match hS q with
        | (kd, ln, _) => bif Nat.beq kd 9 then some (az_in i ln, nx, .int (hM q i.toNatClampNeg) :: r, (hz, hS, hM, hw)) else none)
      | _ => none)
    else bif Nat.beq t 34 then (match stk with
      | .int x :: .int i :: .ref q :: r => (match hS q with
        | (kd, ln, _) => bif Nat.beq kd 9 then some (az_in i ln, nx, r, (hz, hS, az_up hM q i.toNatClampNeg x, hw)) else none)
      | _ => none)
    else bif Nat.beq t 35 then (match stk with
      | .int i :: .ref q :: r => (match hS q with
        | (kd, ln, _) => bif Nat.beq kd 10 then some (az_in i ln, nx, .int (hM q i.toNatClampNeg) :: r, (hz, hS, hM, hw)) else none)
      | _ => none)
    else bif Nat.beq t 36 then (match stk with
      | .int x :: .int i :: .ref q :: r => (match hS q with
        | (kd, ln, _) => bif Nat.beq kd 10 then some (az_in i ln && az_bit x, nx, r, (hz, hS, az_up hM q i.toNatClampNeg x, hw)) else none)
      | _ => none)
    else bif Nat.beq t 37 then (match stk with
      | .int i :: .ref q :: r => (match hS q with
        | (kd, ln, rs) => bif Nat.beq kd 11 then some (az_in i ln, nx, az_rv (az_nth rs i.toNatClampNeg) :: r, (hz, hS, hM, hw)) else none)
      | _ => none)
    else bif Nat.beq t 38 then (match stk with
      | .ref v :: .int i :: .ref q :: r => (match hS q with
        | (kd, ln, rs) => bif Nat.beq kd 11 then some (az_in i ln && Nat.beq (hS v).1 6 && Nat.beq rs.length ln, nx, r, (hz, az_put hS q (kd, ln, az_sub rs i.toNatClampNeg (some (some v))), hM, hw)) else none)
      | _ => none)
    else bif Nat.beq t 39 then (match stk with
      | .int x :: .ref q :: r => (match hS q with
        | (kd, _, rs) => bif Nat.beq kd b then (match az_nth rs c with
          | some none => some (az_bit x, nx, r, (hz, hS, az_up hM q c x, hw))
          | _ => none) else none)
      | _ => none)
    else bif Nat.ble t 41 then (match stk with
      | .int n :: r => some (az_in n 65536, nx, .ref hz :: r, (hz + 1, az_put hS hz (bif Nat.beq t 40 then 9 else 10, n.toNatClampNeg, []), az_put hM hz (fun _ => 0), hw + n.toNatClampNeg))
      | _ => none)
    else bif Nat.beq t 42 then (match stk with
      | .int n :: r => some (az_in n 65536, nx, .ref hz :: r, (hz + 1, az_put hS hz (11, n.toNatClampNeg, List.replicate n.toNatClampNeg (some none)), az_put hM hz (fun _ => 0), hw + n.toNatClampNeg))
      | _ => none)
    else none
/-- the branches: 43 ifeq, 44 ifne, 45 iflt, 46 ifge, 47 ifgt, 48 ifle, 49 if_icmpeq, 50 ne, 51 lt, 52 ge, 53 gt, 54 le -/
def az_br : az_I → List Value → Option (Bool × Nat × Nat × List Value)
  | (t, a, _, _, _, nx, _), stk =>
    bif Nat.ble t 42 then none
    else bif Nat.ble t 48 then (match stk with
      | .int x :: r =>
        bif Nat.beq t 43 then some (decide (x = 0), a, nx, r)
        else bif Nat.beq t 44 then some (decide (x = 0), nx, a, r)
        else bif Nat.beq t 45 then some (decide (x < 0), a, nx, r)
        else bif Nat.beq t 46 then some (decide (0 ≤ x), a, nx, r)
        else bif Nat.beq t 47 then some (decide (0 < x), a, nx, r)
        else some (decide (x ≤ 0), a, nx, r)
      | _ => none)
    else bif Nat.ble t 54 then (match stk with
      | .int y :: .int x :: r =>
        bif Nat.beq t 49 then some (decide (x = y), a, nx, r)
        else bif Nat.beq t 50 then some (decide (x = y), nx, a, r)
        else bif Nat.beq t 51 then some (decide (x < y), a, nx, r)
        else bif Nat.beq t 52 then some (decide (y ≤ x), a, nx, r)
        else bif Nat.beq t 53 then some (decide (y < x), a, nx, r)
        else some (decide (x ≤ y), a, nx, r)
      | _ => none)
    else none
/-- 55 tableswitch, 56 lookupswitch -/
def az_sw : az_I → List Value → Option (Int32 × List (Int32 × Nat) × Nat × List Value)
  | (t, a, _, _, _, _, cs), stk =>
    bif Nat.ble 55 t && Nat.ble t 56 then (match stk with
      | .int x :: r => some (x, cs, a, r)
      | _ => none)
    else none
def az_swt : List (Int32 × Nat) → Nat → Int32 → Nat
  | [], d, _ => d
  | (k, t) :: r, d, x => bif decide (x = k) then t else az_swt r d x
/-- 57 invokevirtual (the receiver's kind: the first number of the list), 59 invokestatic, 60 a constructor, 61 a nest mate's -/
def az_cl : az_I → List Value → az_H → Option (Nat × List Value × List Value × Nat)
  | (t, _, b, c, _, nx, cs), stk, h =>
    bif Nat.beq t 57 then az_pop c stk [] (fun as r => match as, cs with
      | .ref q :: as', (_, kd) :: _ => bif Nat.beq (h.2.1 q).1 kd then some (b, .ref q :: as', r, nx) else none
      | _, _ => none)
    else bif Nat.beq t 59 then az_pop c stk [] (fun as r => some (b, as, r, nx))
    else bif Nat.beq t 60 || Nat.beq t 61 then az_pop c stk [] (fun as r => match as with
      | .ref q :: as' => some (b, .ref q :: as', r, nx)
      | _ => none)
    else none
/-- 62 ireturn, 63 return, 64 areturn, 65 ireturn of a boolean -/
def az_rt : az_I → List Value → Option (Bool × Option Value)
  | (t, _, _, _, _, _, _), stk =>
    bif Nat.beq t 62 then (match stk with
      | [.int x] => some (true, some (.int x))
      | _ => none)
    else bif Nat.beq t 63 then (match stk with
      | [] => some (true, none)
      | _ => none)
    else bif Nat.beq t 64 then (match stk with
      | [.ref q] => some (true, some (.ref q))
      | [.null] => some (true, some .null)
      | _ => none)
    else bif Nat.beq t 65 then (match stk with
      | [.int x] => some (az_bit x, some (.int x))
      | _ => none)
    else none
def az_step (call : Nat → List Value → az_H → Option az_R) (i : az_I) (ls : List az_V) (stk : List Value) (h : az_H) (k : Nat → List az_V → List Value → az_H → Option az_R) : Option az_R :=
  match az_st1 i ls stk h with
  | some (p', ls', stk', h') => k p' ls' stk' h'
  | none => match az_gd i stk h with
    | some (g, p', stk', h') => bif g then k p' ls stk' h' else none
    | none => match az_br i stk with
      | some (g, t, f, stk') => bif g then k t ls stk' h else k f ls stk' h
      | none => match az_sw i stk with
        | some (x, cs, d, stk') => k (az_swt cs d x) ls stk' h
        | none => match az_cl i stk h with
          | some (mid, as, rest, nx) => bif Nat.ble (az_cat rest) 8 then (match call mid as h with
            | some (r, h') => k nx ls (az_app r rest) h'
            | none => none) else none
          | none => match az_rt i stk with
            | some (g, r) => bif g then some (r, h) else none
            | none => none
def az_run (call : Nat → List Value → az_H → Option az_R) (code : Nat → Option az_I) : Nat → Nat → List az_V → List Value → az_H → Option az_R
  | 0, _, _, _, _ => none
  | n + 1, p, ls, stk, h => match code p with
    | none => none
    | some i => az_step call i ls stk h (az_run call code n)
def az_lin : List Value → Nat → List az_V
  | _, 0 => []
  | [], n + 1 => none :: az_lin [] n
  | v :: r, n + 1 => some v :: az_lin r n
