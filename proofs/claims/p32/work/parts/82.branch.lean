section BRA
variable {p : Program} {l : Launch} {e : Env} {R : Room} {s : State} {m : MethodId} {args : Array Value} {below : List Frame} {meth : Method} {c : Code} {Q : State → Prop}
variable {D : va_G} {nL oi rc z0 : Nat} {cc : ByteArray} {h0 : az_H} {pc : Nat} {ls : List az_V} {stk : List Value} {h : az_H}
theorem az_snd_br {i : az_I} {g : Bool} {t1 f1 : Nat} {stk' : List Value} (X : az_CX p s m args meth c D nL oi rc cc) (hok : az_ok oi rc cc pc i = true) (hs : az_br i stk = some (g, t1, f1, stk')) (kt : g = true → az_MS p l e R s m args below meth c D nL z0 h0 Q t1 ls stk' h) (kf : g = false → az_MS p l e R s m args below meth c D nL z0 h0 Q f1 ls stk' h) : az_MS p l e R s m args below meth c D nL z0 h0 Q pc ls stk h := by
  obtain ⟨t, a, b, k, im, nx, sw⟩ := i
  by_cases h55 : 55 ≤ t
  · rw [az_br_hi h55] at hs
    cases hs
  by_cases h43 : t ≤ 42
  · simp only [az_br, show Nat.ble t 42 = true from Nat.ble_eq.mpr h43, cond_true] at hs
    cases hs
  rcases (show t = 43 ∨ t = 44 ∨ t = 45 ∨ t = 46 ∨ t = 47 ∨ t = 48 ∨ t = 49 ∨ t = 50 ∨ t = 51 ∨ t = 52 ∨ t = 53 ∨ t = 54 by omega) with rfl | rfl | rfl | rfl | rfl | rfl | rfl | rfl | rfl | rfl | rfl | rfl
  · obtain ⟨hdg, hnx, hx2⟩ := az_okd hok (show az_exp pc (43, a, b, k, im, nx, sw) = some (.ifCond .eq (az_off pc a), 3) from rfl)
    have hnx : nx = pc + 3 := hnx (show 43 ≠ 55 by decide) (show 43 ≠ 56 by decide)
    subst hnx
    have hs : (match (generalizing := false) stk with | .int x :: r => some (decide (x = 0), a, pc + 3, r) | _ => none) = some (g, t1, f1, stk') := hs
    split at hs
    · next x r _ =>
      simp only [Option.some.injEq, Prod.mk.injEq] at hs
      obtain ⟨rfl, rfl, rfl, rfl⟩ := hs
      intro H locs cells slots la hH hS hL h1 h2
      exact lv_if_eq X.1 X.2.1 hdg (by unfold az_off; omega) (fun z => kt (decide_eq_true z) H locs cells slots la hH hS hL h1 h2) (fun z => kf (decide_eq_false z) H locs cells slots la hH hS hL h1 h2)
    · cases hs
  · obtain ⟨hdg, hnx, hx2⟩ := az_okd hok (show az_exp pc (44, a, b, k, im, nx, sw) = some (.ifCond .ne (az_off pc a), 3) from rfl)
    have hnx : nx = pc + 3 := hnx (show 44 ≠ 55 by decide) (show 44 ≠ 56 by decide)
    subst hnx
    have hs : (match (generalizing := false) stk with | .int x :: r => some (decide (x = 0), pc + 3, a, r) | _ => none) = some (g, t1, f1, stk') := hs
    split at hs
    · next x r _ =>
      simp only [Option.some.injEq, Prod.mk.injEq] at hs
      obtain ⟨rfl, rfl, rfl, rfl⟩ := hs
      intro H locs cells slots la hH hS hL h1 h2
      exact lv_if_ne X.1 X.2.1 hdg (by unfold az_off; omega) (fun z => kf (decide_eq_false z) H locs cells slots la hH hS hL h1 h2) (fun z => kt (decide_eq_true z) H locs cells slots la hH hS hL h1 h2)
    · cases hs
  · obtain ⟨hdg, hnx, hx2⟩ := az_okd hok (show az_exp pc (45, a, b, k, im, nx, sw) = some (.ifCond .lt (az_off pc a), 3) from rfl)
    have hnx : nx = pc + 3 := hnx (show 45 ≠ 55 by decide) (show 45 ≠ 56 by decide)
    subst hnx
    have hs : (match (generalizing := false) stk with | .int x :: r => some (decide (x < 0), a, pc + 3, r) | _ => none) = some (g, t1, f1, stk') := hs
    split at hs
    · next x r _ =>
      simp only [Option.some.injEq, Prod.mk.injEq] at hs
      obtain ⟨rfl, rfl, rfl, rfl⟩ := hs
      intro H locs cells slots la hH hS hL h1 h2
      exact lv_if_lt X.1 X.2.1 hdg (by unfold az_off; omega) (fun z => kt (decide_eq_true z) H locs cells slots la hH hS hL h1 h2) (fun z => kf (decide_eq_false z) H locs cells slots la hH hS hL h1 h2)
    · cases hs
  · obtain ⟨hdg, hnx, hx2⟩ := az_okd hok (show az_exp pc (46, a, b, k, im, nx, sw) = some (.ifCond .ge (az_off pc a), 3) from rfl)
    have hnx : nx = pc + 3 := hnx (show 46 ≠ 55 by decide) (show 46 ≠ 56 by decide)
    subst hnx
    have hs : (match (generalizing := false) stk with | .int x :: r => some (decide (0 ≤ x), a, pc + 3, r) | _ => none) = some (g, t1, f1, stk') := hs
    split at hs
    · next x r _ =>
      simp only [Option.some.injEq, Prod.mk.injEq] at hs
      obtain ⟨rfl, rfl, rfl, rfl⟩ := hs
      intro H locs cells slots la hH hS hL h1 h2
      exact lv_if_ge X.1 X.2.1 hdg (by unfold az_off; omega) (fun z => kt (decide_eq_true z) H locs cells slots la hH hS hL h1 h2) (fun z => kf (decide_eq_false z) H locs cells slots la hH hS hL h1 h2)
    · cases hs
  · obtain ⟨hdg, hnx, hx2⟩ := az_okd hok (show az_exp pc (47, a, b, k, im, nx, sw) = some (.ifCond .gt (az_off pc a), 3) from rfl)
    have hnx : nx = pc + 3 := hnx (show 47 ≠ 55 by decide) (show 47 ≠ 56 by decide)
    subst hnx
    have hs : (match (generalizing := false) stk with | .int x :: r => some (decide (0 < x), a, pc + 3, r) | _ => none) = some (g, t1, f1, stk') := hs
    split at hs
    · next x r _ =>
      simp only [Option.some.injEq, Prod.mk.injEq] at hs
      obtain ⟨rfl, rfl, rfl, rfl⟩ := hs
      intro H locs cells slots la hH hS hL h1 h2
      exact lv_if_gt X.1 X.2.1 hdg (by unfold az_off; omega) (fun z => kt (decide_eq_true z) H locs cells slots la hH hS hL h1 h2) (fun z => kf (decide_eq_false z) H locs cells slots la hH hS hL h1 h2)
    · cases hs
  · obtain ⟨hdg, hnx, hx2⟩ := az_okd hok (show az_exp pc (48, a, b, k, im, nx, sw) = some (.ifCond .le (az_off pc a), 3) from rfl)
    have hnx : nx = pc + 3 := hnx (show 48 ≠ 55 by decide) (show 48 ≠ 56 by decide)
    subst hnx
    have hs : (match (generalizing := false) stk with | .int x :: r => some (decide (x ≤ 0), a, pc + 3, r) | _ => none) = some (g, t1, f1, stk') := hs
    split at hs
    · next x r _ =>
      simp only [Option.some.injEq, Prod.mk.injEq] at hs
      obtain ⟨rfl, rfl, rfl, rfl⟩ := hs
      intro H locs cells slots la hH hS hL h1 h2
      exact lv_if_le X.1 X.2.1 hdg (by unfold az_off; omega) (fun z => kt (decide_eq_true z) H locs cells slots la hH hS hL h1 h2) (fun z => kf (decide_eq_false z) H locs cells slots la hH hS hL h1 h2)
    · cases hs
  · obtain ⟨hdg, hnx, hx2⟩ := az_okd hok (show az_exp pc (49, a, b, k, im, nx, sw) = some (.if_icmp .eq (az_off pc a), 3) from rfl)
    have hnx : nx = pc + 3 := hnx (show 49 ≠ 55 by decide) (show 49 ≠ 56 by decide)
    subst hnx
    have hs : (match (generalizing := false) stk with | .int y :: .int x :: r => some (decide (x = y), a, pc + 3, r) | _ => none) = some (g, t1, f1, stk') := hs
    split at hs
    · next y x r _ =>
      simp only [Option.some.injEq, Prod.mk.injEq] at hs
      obtain ⟨rfl, rfl, rfl, rfl⟩ := hs
      intro H locs cells slots la hH hS hL h1 h2
      exact lv_icmp_eq X.1 X.2.1 hdg (by unfold az_off; omega) (fun z => kt (decide_eq_true z) H locs cells slots la hH hS hL h1 h2) (fun z => kf (decide_eq_false z) H locs cells slots la hH hS hL h1 h2)
    · cases hs
  · obtain ⟨hdg, hnx, hx2⟩ := az_okd hok (show az_exp pc (50, a, b, k, im, nx, sw) = some (.if_icmp .ne (az_off pc a), 3) from rfl)
    have hnx : nx = pc + 3 := hnx (show 50 ≠ 55 by decide) (show 50 ≠ 56 by decide)
    subst hnx
    have hs : (match (generalizing := false) stk with | .int y :: .int x :: r => some (decide (x = y), pc + 3, a, r) | _ => none) = some (g, t1, f1, stk') := hs
    split at hs
    · next y x r _ =>
      simp only [Option.some.injEq, Prod.mk.injEq] at hs
      obtain ⟨rfl, rfl, rfl, rfl⟩ := hs
      intro H locs cells slots la hH hS hL h1 h2
      exact lv_icmp_ne X.1 X.2.1 hdg (by unfold az_off; omega) (fun z => kf (decide_eq_false z) H locs cells slots la hH hS hL h1 h2) (fun z => kt (decide_eq_true z) H locs cells slots la hH hS hL h1 h2)
    · cases hs
  · obtain ⟨hdg, hnx, hx2⟩ := az_okd hok (show az_exp pc (51, a, b, k, im, nx, sw) = some (.if_icmp .lt (az_off pc a), 3) from rfl)
    have hnx : nx = pc + 3 := hnx (show 51 ≠ 55 by decide) (show 51 ≠ 56 by decide)
    subst hnx
    have hs : (match (generalizing := false) stk with | .int y :: .int x :: r => some (decide (x < y), a, pc + 3, r) | _ => none) = some (g, t1, f1, stk') := hs
    split at hs
    · next y x r _ =>
      simp only [Option.some.injEq, Prod.mk.injEq] at hs
      obtain ⟨rfl, rfl, rfl, rfl⟩ := hs
      intro H locs cells slots la hH hS hL h1 h2
      exact lv_icmp_lt X.1 X.2.1 hdg (by unfold az_off; omega) (fun z => kt (decide_eq_true z) H locs cells slots la hH hS hL h1 h2) (fun z => kf (decide_eq_false z) H locs cells slots la hH hS hL h1 h2)
    · cases hs
  · obtain ⟨hdg, hnx, hx2⟩ := az_okd hok (show az_exp pc (52, a, b, k, im, nx, sw) = some (.if_icmp .ge (az_off pc a), 3) from rfl)
    have hnx : nx = pc + 3 := hnx (show 52 ≠ 55 by decide) (show 52 ≠ 56 by decide)
    subst hnx
    have hs : (match (generalizing := false) stk with | .int y :: .int x :: r => some (decide (y ≤ x), a, pc + 3, r) | _ => none) = some (g, t1, f1, stk') := hs
    split at hs
    · next y x r _ =>
      simp only [Option.some.injEq, Prod.mk.injEq] at hs
      obtain ⟨rfl, rfl, rfl, rfl⟩ := hs
      intro H locs cells slots la hH hS hL h1 h2
      exact lv_icmp_ge X.1 X.2.1 hdg (by unfold az_off; omega) (fun z => kt (decide_eq_true z) H locs cells slots la hH hS hL h1 h2) (fun z => kf (decide_eq_false z) H locs cells slots la hH hS hL h1 h2)
    · cases hs
  · obtain ⟨hdg, hnx, hx2⟩ := az_okd hok (show az_exp pc (53, a, b, k, im, nx, sw) = some (.if_icmp .gt (az_off pc a), 3) from rfl)
    have hnx : nx = pc + 3 := hnx (show 53 ≠ 55 by decide) (show 53 ≠ 56 by decide)
    subst hnx
    have hs : (match (generalizing := false) stk with | .int y :: .int x :: r => some (decide (y < x), a, pc + 3, r) | _ => none) = some (g, t1, f1, stk') := hs
    split at hs
    · next y x r _ =>
      simp only [Option.some.injEq, Prod.mk.injEq] at hs
      obtain ⟨rfl, rfl, rfl, rfl⟩ := hs
      intro H locs cells slots la hH hS hL h1 h2
      exact lv_icmp_gt X.1 X.2.1 hdg (by unfold az_off; omega) (fun z => kt (decide_eq_true z) H locs cells slots la hH hS hL h1 h2) (fun z => kf (decide_eq_false z) H locs cells slots la hH hS hL h1 h2)
    · cases hs
  · obtain ⟨hdg, hnx, hx2⟩ := az_okd hok (show az_exp pc (54, a, b, k, im, nx, sw) = some (.if_icmp .le (az_off pc a), 3) from rfl)
    have hnx : nx = pc + 3 := hnx (show 54 ≠ 55 by decide) (show 54 ≠ 56 by decide)
    subst hnx
    have hs : (match (generalizing := false) stk with | .int y :: .int x :: r => some (decide (x ≤ y), a, pc + 3, r) | _ => none) = some (g, t1, f1, stk') := hs
    split at hs
    · next y x r _ =>
      simp only [Option.some.injEq, Prod.mk.injEq] at hs
      obtain ⟨rfl, rfl, rfl, rfl⟩ := hs
      intro H locs cells slots la hH hS hL h1 h2
      exact lv_icmp_le X.1 X.2.1 hdg (by unfold az_off; omega) (fun z => kt (decide_eq_true z) H locs cells slots la hH hS hL h1 h2) (fun z => kf (decide_eq_false z) H locs cells slots la hH hS hL h1 h2)
    · cases hs
theorem az_zip_all {f : Int32 × Nat → Int × Int} {sw : List (Int32 × Nat)} {P : (Int × Int) × (Int × Int) → Bool} : ((sw.map f).zip ((sw.map f).drop 1)).all P = (sw.zip (sw.drop 1)).all (fun q => P (f q.1, f q.2)) := by
  rw [← List.map_drop, List.zip_map, List.all_map]
  rfl
theorem az_sw_look (pc : Nat) (x : Int32) (d : Nat) : ∀ (sw : List (Int32 × Nat)), Op.lookupswitch.offset (sw.map fun q => (q.1.toInt, az_off pc q.2)) (az_off pc d) x.toInt = az_off pc (az_swt sw d x) := by
  intro sw
  induction sw with
  | nil => rfl
  | cons q r ih =>
    obtain ⟨k, t⟩ := q
    show (if k.toInt = x.toInt then az_off pc t else Op.lookupswitch.offset (r.map fun q => (q.1.toInt, az_off pc q.2)) (az_off pc d) x.toInt) = az_off pc (bif decide (x = k) then t else az_swt r d x)
    by_cases hk : x = k
    · subst hk
      simp
    · rw [if_neg (fun z => hk (Int32.toInt_inj.mp z.symm)), ih, decide_eq_false hk, cond_false]
theorem az_sw_tab (x : Int32) (d : Nat) : ∀ (sw : List (Int32 × Nat)) (lo : Int), az_inc sw lo = true → (∃ q, sw[(x.toInt - lo).toNat]? = some q ∧ lo ≤ x.toInt ∧ x.toInt < lo + sw.length ∧ az_swt sw d x = q.2) ∨ ((x.toInt < lo ∨ lo + sw.length ≤ x.toInt) ∧ az_swt sw d x = d) := by
  intro sw
  induction sw with
  | nil => intro lo _; exact Or.inr ⟨by simp; omega, rfl⟩
  | cons q r ih =>
    intro lo h
    obtain ⟨k, t⟩ := q
    have h : (decide (k.toInt = lo) && az_inc r (lo + 1)) = true := h
    rw [Bool.and_eq_true, decide_eq_true_eq] at h
    obtain ⟨hk, hr⟩ := h
    have e : az_swt ((k, t) :: r) d x = bif decide (x = k) then t else az_swt r d x := rfl
    by_cases hx : x = k
    · subst hx
      refine Or.inl ⟨(x, t), ?_, by omega, by simp; omega, by rw [e]; simp⟩
      rw [hk]
      simp
    · have hne : x.toInt ≠ lo := fun z => hx (Int32.toInt_inj.mp (z.trans hk.symm))
      rw [e, decide_eq_false hx, cond_false]
      rcases ih (lo + 1) hr with ⟨q, g1, g2, g3, g4⟩ | ⟨g1, g2⟩
      · refine Or.inl ⟨q, ?_, by omega, by simp; omega, g4⟩
        rw [show (x.toInt - lo).toNat = (x.toInt - (lo + 1)).toNat + 1 by omega, List.getElem?_cons_succ]
        exact g1
      · exact Or.inr ⟨by simp; omega, g2⟩
theorem az_snd_sw {i : az_I} {x : Int32} {cs : List (Int32 × Nat)} {d : Nat} {stk' : List Value} (X : az_CX p s m args meth c D nL oi rc cc) (hok : az_ok oi rc cc pc i = true) (hs : az_sw i stk = some (x, cs, d, stk')) (kk : az_MS p l e R s m args below meth c D nL z0 h0 Q (az_swt cs d x) ls stk' h) : az_MS p l e R s m args below meth c D nL z0 h0 Q pc ls stk h := by
  obtain ⟨t, a, b, k, im, nx, sw⟩ := i
  by_cases h57 : 57 ≤ t
  · rw [az_sw_hi h57] at hs
    cases hs
  by_cases h54 : t ≤ 54
  · simp only [az_sw, az_bF (show t < 55 by omega), Bool.false_and, cond_false] at hs
    cases hs
  rcases (show t = 55 ∨ t = 56 by omega) with rfl | rfl
  · have hs : (match (generalizing := false) stk with | .int x :: r => some (x, sw, a, r) | _ => none) = some (x, cs, d, stk') := hs
    split at hs
    · next y r _ =>
      simp only [Option.some.injEq, Prod.mk.injEq] at hs
      obtain ⟨rfl, rfl, rfl, rfl⟩ := hs
      cases sw with
      | nil => cases hok
      | cons q r2 =>
        obtain ⟨hdg, hnx, hx2⟩ := az_okd hok (show az_exp pc (55, a, b, k, im, nx, q :: r2) = some (.tableswitch (az_off pc a) q.1.toInt (q.1.toInt + ((q :: r2).length : Int) - 1) ((q :: r2).map fun x => az_off pc x.2).toArray, nx - pc) from rfl)
        have hx2 : az_inc (q :: r2) q.1.toInt = true := hx2
        intro H locs cells slots la hH hS hL h1 h2
        have k1 := kk H locs cells slots la hH hS hL h1 h2
        rcases az_sw_tab y a (q :: r2) q.1.toInt hx2 with ⟨q2, g1, g2, g3, g4⟩ | ⟨g1, g4⟩
        · refine lv_tableIn X.1 X.2.1 hdg (by omega) (by omega) (off := az_off pc q2.2) (tgt := q2.2) ?_ (by unfold az_off; omega) (by rw [g4] at k1; exact k1)
          simp only [List.getElem?_toArray, List.getElem?_map, g1, Option.map_some]
        · exact lv_tableOut (tgt := a) X.1 X.2.1 hdg (by omega) (by unfold az_off; omega) (by rw [g4] at k1; exact k1)
    · cases hs
  · have hs : (match (generalizing := false) stk with | .int x :: r => some (x, sw, a, r) | _ => none) = some (x, cs, d, stk') := hs
    split at hs
    · next y r _ =>
      simp only [Option.some.injEq, Prod.mk.injEq] at hs
      obtain ⟨rfl, rfl, rfl, rfl⟩ := hs
      obtain ⟨hdg, hnx, hx2⟩ := az_okd hok (show az_exp pc (56, a, b, k, im, nx, sw) = some (.lookupswitch (az_off pc a) (sw.map fun x => (x.1.toInt, az_off pc x.2)).toArray, nx - pc) from rfl)
      have hx2 : ((sw.map fun x => (x.1.toInt, (0 : Int))).zip ((sw.map fun x => (x.1.toInt, (0 : Int))).drop 1)).all (fun q => decide (q.1.1 < q.2.1)) = true := hx2
      intro H locs cells slots la hH hS hL h1 h2
      have k1 := kk H locs cells slots la hH hS hL h1 h2
      refine lv_lookup X.1 X.2.1 hdg ?_ (az_sw_look pc y a sw) (by unfold az_off; omega) k1
      rw [az_zip_all] at hx2 ⊢
      exact hx2
    · cases hs
end BRA
