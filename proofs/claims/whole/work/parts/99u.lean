/-! REFERENCE: set -/
section REFS
variable {M M1 N W : az_Mem} {a : Int32} {n : Nat}
theorem iw_set (hI : IW W) (w v : Int32) (ho : ¬ (cg_set W w v).1 < 0) : IW (cg_set W w v).2 := by
  have hv : ∀ (lo hi : Nat), hi < 1000 → ¬ (v < nI lo ∨ ¬ v ≤ nI hi) → lo < 1000 → ∃ k, k ≤ hi ∧ lo ≤ k ∧ v = nI k := by
    intro lo hi h1 h2 h3
    have a1 : ¬ v < nI lo := fun c => h2 (Or.inl c)
    have a2 : v ≤ nI hi := by
      by_cases c : v ≤ nI hi
      · exact c
      · exact absurd (Or.inr c) h2
    have a0 : ¬ v < 0 := fun c => a1 (Int32.lt_of_lt_of_le c (nI_pos' (by omega)))
    obtain ⟨k, hk, rfl⟩ := nI_of a0
    rw [nI_ltI hk (by omega)] at a1
    rw [nI_leI hk (by omega)] at a2
    exact ⟨k, a2, by omega, rfl⟩
  unfold cg_set at ho ⊢
  by_cases c0 : w = 0
  · rw [if_pos c0] at ho ⊢
    unfold cg_setBag at ho ⊢
    by_cases c1 : v < 0 ∨ ¬ v ≤ 6
    · rw [if_pos c1]
      exact hI
    rw [if_neg c1]
    by_cases c2 : W 24 4 ≤ v
    · have n2 : ¬ ¬ W 24 4 ≤ v := fun c => c c2
      rw [if_neg n2]
      obtain ⟨k, k1, k2, rfl⟩ := hv 0 6 (by decide) c1 (by decide)
      obtain ⟨B, R, e1, e2, e3, e4, e5, e6, e7⟩ := hI.bag
      rw [e1, nI_leI (by omega) (by omega)] at c2
      exact IW.mk hI.zn hI.sl hI.sld hI.well hI.load hI.cell hI.heat hI.water ⟨B, k, e1, rfl, c2, k1, e5, e6, e7⟩
    · rw [if_pos c2]
      exact hI
  rw [if_neg c0] at ho ⊢
  by_cases c1 : w = 1
  · rw [if_pos c1] at ho ⊢
    unfold cg_setSkin at ho ⊢
    by_cases c1 : v < 10 ∨ ¬ v ≤ 200
    · rw [if_pos c1]
      exact hI
    rw [if_neg c1]
    obtain ⟨k, k1, k2, rfl⟩ := hv 10 200 (by decide) c1 (by decide)
    obtain ⟨x, y, e1, e2, e3, e4⟩ := hI.water
    refine IW.mk hI.zn hI.sl hI.sld hI.well hI.load hI.cell hI.heat ⟨if k < x then k else x, k, ?_, by simp [az_up], by split <;> omega, k1⟩ hI.bag
    show (if nI k < W 24 1 then nI k else W 24 1) = _
    rw [e1]
    by_cases q : k < x
    · rw [if_pos q, if_pos (nI_lt q (by omega))]
    · rw [if_neg q, if_neg (nI_nlt (by omega) (by omega))]
  rw [if_neg c1] at ho ⊢
  by_cases c2 : w = 2
  · rw [if_pos c2] at ho ⊢
    unfold cg_setBound at ho ⊢
    split
    · exact hI
    · exact hI.u_17 _
  · rw [if_neg c2]
    exact hI
theorem ex9_setX (d : Nat) {w v : Int32} (h0 : ¬ w = 0) (h1 : ¬ w = 1) (h2 : ¬ w = 2) : ∃ M4, az_EX (d + 6) m_X9_set [.ref 192, .int w, .int v] (az_hp M1) (some (.int (-2))) (az_hp M4) ∧ PF M1 N (-2) n M4 := by
  refine ⟨rg_as M1, ?_, pf_early (by decide)⟩
  refine az_EX.of (az_in0 (code := k_X9_set) (ls := [some (.ref 192), some (.int w), some (.int v), none, none, none, none]) rfl rfl rfl ?_)
  refine az_sgp rfl rfl rfl rfl ?_
  refine az_can rfl rfl rfl rfl (ex_aside (d + 4)) ?_
  refine az_sgp rfl rfl rfl rfl ?_
  refine az_bra rfl rfl rfl (fun q => absurd q h0) (fun _ => ?_)
  refine az_sgp rfl rfl rfl rfl ?_
  refine az_bra rfl rfl rfl (fun q => absurd q h1) (fun _ => ?_)
  refine az_sgp rfl rfl rfl rfl ?_
  refine az_bra rfl rfl rfl (fun q => absurd q h0) (fun _ => ?_)
  refine az_sgp rfl rfl rfl rfl ?_
  refine az_bra rfl rfl rfl (fun q => absurd q h1) (fun _ => ?_)
  refine az_sgp rfl rfl rfl rfl ?_
  refine az_cav rfl rfl rfl rfl ((ex_in (d + 4) w 0 2).2 (fun q => ?_)) ?_
  · obtain ⟨k, hk, rfl⟩ := (in_iff (m := 2) (n := 2) rfl (by decide)).mp q
    rcases (show k = 0 ∨ k = 1 ∨ k = 2 by omega) with rfl | rfl | rfl
    · exact h0 rfl
    · exact h1 rfl
    · exact h2 rfl
  (with_reducible apply az_ifeqT); rfl
  refine az_sgp rfl rfl rfl rfl ?_
  refine az_ret rfl rfl rfl rfl ?_
  exact ⟨rfl, rfl⟩
theorem ex9_setB0 (d : Nat) (v : Int32) (hb : v < 0 ∨ ¬ v ≤ 6) : ∃ M4, az_EX (d + 6) m_X9_set [.ref 192, .int 0, .int v] (az_hp M1) (some (.int (-2))) (az_hp M4) ∧ PF M1 N (-2) n M4 := by
  refine ⟨rg_as M1, ?_, pf_early (by decide)⟩
  refine az_EX.of (az_in0 (code := k_X9_set) (ls := [some (.ref 192), some (.int 0), some (.int v), none, none, none, none]) rfl rfl rfl ?_)
  refine az_sgp rfl rfl rfl rfl ?_
  refine az_can rfl rfl rfl rfl (ex_aside (d + 4)) ?_
  refine az_sgp rfl rfl rfl rfl ?_
  refine az_bra rfl rfl rfl (fun _ => ?_) (fun q => absurd rfl q)
  refine az_sgp rfl rfl rfl rfl ?_
  refine az_bra rfl rfl rfl (fun _ => ?_) (fun q => absurd rfl q)
  refine az_sgp rfl rfl rfl rfl ?_
  refine az_cav rfl rfl rfl rfl ((ex_in (d + 4) 0 0 2).1 (by decide)) ?_
  (with_reducible apply az_ifeqF); rfl
  refine az_sgp rfl rfl rfl rfl ?_
  refine az_cav rfl rfl rfl rfl ((ex_in (d + 4) v 0 6).2 (fun q => ?_)) ?_
  · rcases hb with h | h
    · exact q.1 h
    · exact h (Int32.not_lt.mp q.2)
  (with_reducible apply az_ifneF); rfl
  refine az_sgp rfl rfl rfl rfl ?_
  refine az_ret rfl rfl rfl rfl ?_
  exact ⟨rfl, rfl⟩
theorem ex9_setN0 (d : Nat) (v : Int32) (hR : RR W (M1 193)) (hb : ¬ (v < 0 ∨ ¬ v ≤ 6)) (h2 : ¬ W 24 4 ≤ v) : ∃ M4, az_EX (d + 6) m_X9_set [.ref 192, .int 0, .int v] (az_hp M1) (some (.int (-4))) (az_hp M4) ∧ PF M1 N (-4) n M4 := by
  have r2 := ex_start hR
  refine ⟨rg_as M1, ?_, pf_early (by decide)⟩
  refine az_EX.of (az_in0 (code := k_X9_set) (ls := [some (.ref 192), some (.int 0), some (.int v), none, none, none, none]) rfl rfl rfl ?_)
  refine az_sgp rfl rfl rfl rfl ?_
  refine az_can rfl rfl rfl rfl (ex_aside (d + 4)) ?_
  refine az_sgp rfl rfl rfl rfl ?_
  refine az_bra rfl rfl rfl (fun _ => ?_) (fun q => absurd rfl q)
  refine az_sgp rfl rfl rfl rfl ?_
  refine az_bra rfl rfl rfl (fun _ => ?_) (fun q => absurd rfl q)
  refine az_sgp rfl rfl rfl rfl ?_
  refine az_cav rfl rfl rfl rfl ((ex_in (d + 4) 0 0 2).1 (by decide)) ?_
  (with_reducible apply az_ifeqF); rfl
  refine az_sgp rfl rfl rfl rfl ?_
  refine az_cav rfl rfl rfl rfl ((ex_in (d + 4) v 0 6).1 ⟨fun c => hb (Or.inl c), fun c => hb (Or.inr (Int32.not_le.mpr c))⟩) ?_
  (with_reducible apply az_ifneT); rfl
  refine az_sgp rfl rfl rfl rfl ?_
  refine az_bra rfl rfl rfl (fun _ => ?_) (fun q => absurd rfl q)
  refine az_sgp rfl rfl rfl rfl ?_
  refine az_ald rfl rfl (k := 12) rfl (by decide) (by decide) r2.many ?_
  refine az_sgp rfl rfl rfl rfl ?_
  refine az_bra rfl rfl rfl (fun q => absurd q h2) (fun _ => ?_)
  refine az_sgp rfl rfl rfl rfl ?_
  refine az_ret rfl rfl rfl rfl ?_
  exact ⟨rfl, rfl⟩
theorem ex9_setK0 (d : Nat) (v : Int32) (hR : RR W (M1 193)) (hI : IW W) (hn : M1 192 6 = nI n) (h4 : n ≤ 4) (hb : ¬ (v < 0 ∨ ¬ v ≤ 6)) (h2 : W 24 4 ≤ v) : ∃ M4, az_EX (d + 6) m_X9_set [.ref 192, .int 0, .int v] (az_hp M1) (some (.int (if W 24 3 = v then -5 else W 24 3))) (az_hp M4) ∧ PF M1 (az_up W 24 3 v) (if W 24 3 = v then -5 else W 24 3) n M4 := by
  have r2 := ex_start hR
  obtain ⟨g, gk, g1, g2, g3, g4⟩ := hI.water
  have r3 := r2.m_room v
  have r4 : RR (az_up W 24 3 v) (az_up (az_up (rg_as M1) 193 5 v) 193 3 (W 24 1) 193) := by
    have := r3.m_water (W 24 1)
    rw [az_up_id (M := az_up W 24 3 v) (a := 24) (k := 1) (x := W 24 1) rfl] at this
    exact this
  obtain ⟨M4, e4, p4⟩ := ex_end (M1 := M1) (a := if W 24 3 = v then -5 else W 24 3) (N := (az_up W 24 3 v)) (d + 4) hn h4 (fr2.w ((((fr1.rf (rg_as M1)).up 5 v).up 3 (W 24 1)).w)) (fun _ => r4)
  refine ⟨M4, ?_, p4⟩
  have last : ∀ M5, az_EX (d + 5) m_X9_acted [.ref 192, .int (if W 24 3 = v then -5 else W 24 3)] (az_hp M5) (some (.int (if W 24 3 = v then -5 else W 24 3))) (az_hp M4) → az_RUN (d + 5) k_X9_set 162 [some (.ref 192), some (.int 0), some (.int v), some (.int 0), some (.int 6), some (.int 5), some (.int (W 24 3))] [] (az_hp M5) (fun r1 h1 => r1 = some (.int (if W 24 3 = v then -5 else W 24 3)) ∧ h1 = az_hp M4) := by
    intro M5 e5
    refine az_sgp rfl rfl rfl rfl ?_
    refine az_bra rfl rfl rfl (fun q => ?_) (fun q => ?_)
    · rw [if_pos q] at e5 ⊢
      refine az_sgp rfl rfl rfl rfl ?_
      refine az_cav rfl rfl rfl rfl e5 ?_
      refine az_ret rfl rfl rfl rfl ?_
      exact ⟨rfl, rfl⟩
    · rw [if_neg q] at e5 ⊢
      refine az_sgp rfl rfl rfl rfl ?_
      refine az_cav rfl rfl rfl rfl e5 ?_
      refine az_ret rfl rfl rfl rfl ?_
      exact ⟨rfl, rfl⟩
  refine az_EX.of (az_in0 (code := k_X9_set) (ls := [some (.ref 192), some (.int 0), some (.int v), none, none, none, none]) rfl rfl rfl ?_)
  refine az_sgp rfl rfl rfl rfl ?_
  refine az_can rfl rfl rfl rfl (ex_aside (d + 4)) ?_
  refine az_sgp rfl rfl rfl rfl ?_
  refine az_bra rfl rfl rfl (fun _ => ?_) (fun q => absurd rfl q)
  refine az_sgp rfl rfl rfl rfl ?_
  refine az_bra rfl rfl rfl (fun _ => ?_) (fun q => absurd rfl q)
  refine az_sgp rfl rfl rfl rfl ?_
  refine az_cav rfl rfl rfl rfl ((ex_in (d + 4) 0 0 2).1 (by decide)) ?_
  (with_reducible apply az_ifeqF); rfl
  refine az_sgp rfl rfl rfl rfl ?_
  refine az_cav rfl rfl rfl rfl ((ex_in (d + 4) v 0 6).1 ⟨fun c => hb (Or.inl c), fun c => hb (Or.inr (Int32.not_le.mpr c))⟩) ?_
  (with_reducible apply az_ifneT); rfl
  refine az_sgp rfl rfl rfl rfl ?_
  refine az_bra rfl rfl rfl (fun _ => ?_) (fun q => absurd rfl q)
  refine az_sgp rfl rfl rfl rfl ?_
  refine az_ald rfl rfl (k := 12) rfl (by decide) (by decide) r2.many ?_
  refine az_sgp rfl rfl rfl rfl ?_
  refine az_bra rfl rfl rfl (fun _ => ?_) (fun q => absurd h2 q)
  refine az_sgp rfl rfl rfl rfl ?_
  refine az_bra rfl rfl rfl (fun _ => ?_) (fun q => absurd rfl q)
  refine az_sgp rfl rfl rfl rfl ?_
  refine az_ald rfl rfl (k := 5) rfl (by decide) (by decide) r2.room ?_
  refine az_sgp rfl rfl rfl rfl ?_
  refine az_ast rfl rfl (k := 5) rfl (by decide) (by decide) ?_
  refine az_sgp rfl rfl rfl rfl ?_
  refine az_ald rfl rfl (k := 3) rfl (by decide) (by decide) r3.water ?_
  refine az_sgp rfl rfl rfl rfl ?_
  refine az_ald rfl rfl (k := 4) rfl (by decide) (by decide) r3.skin ?_
  refine az_bra rfl rfl rfl (fun q => ?_) (fun q => ?_)
  · refine az_sgp rfl rfl rfl rfl ?_
    refine az_ald rfl rfl (k := 3) rfl (by decide) (by decide) r3.water ?_
    refine az_ast rfl rfl (k := 3) rfl (by decide) (by decide) ?_
    exact last _ e4
  · have q : ¬ W 24 1 ≤ W 24 2 := q
    exact absurd (by rw [g1, g2]; exact nI_le g3 (by omega)) q
theorem ex9_setB1 (d : Nat) (v : Int32) (hb : v < 10 ∨ ¬ v ≤ 200) : ∃ M4, az_EX (d + 6) m_X9_set [.ref 192, .int 1, .int v] (az_hp M1) (some (.int (-2))) (az_hp M4) ∧ PF M1 N (-2) n M4 := by
  refine ⟨rg_as M1, ?_, pf_early (by decide)⟩
  refine az_EX.of (az_in0 (code := k_X9_set) (ls := [some (.ref 192), some (.int 1), some (.int v), none, none, none, none]) rfl rfl rfl ?_)
  refine az_sgp rfl rfl rfl rfl ?_
  refine az_can rfl rfl rfl rfl (ex_aside (d + 4)) ?_
  refine az_sgp rfl rfl rfl rfl ?_
  refine az_bra rfl rfl rfl (fun q => absurd q (by decide)) (fun _ => ?_)
  refine az_sgp rfl rfl rfl rfl ?_
  refine az_bra rfl rfl rfl (fun _ => ?_) (fun q => absurd rfl q)
  refine az_sgp rfl rfl rfl rfl ?_
  refine az_bra rfl rfl rfl (fun q => absurd q (by decide)) (fun _ => ?_)
  refine az_sgp rfl rfl rfl rfl ?_
  refine az_bra rfl rfl rfl (fun _ => ?_) (fun q => absurd rfl q)
  refine az_sgp rfl rfl rfl rfl ?_
  refine az_cav rfl rfl rfl rfl ((ex_in (d + 4) 1 0 2).1 (by decide)) ?_
  (with_reducible apply az_ifeqF); rfl
  refine az_sgp rfl rfl rfl rfl ?_
  refine az_cav rfl rfl rfl rfl ((ex_in (d + 4) v 10 200).2 (fun q => ?_)) ?_
  · rcases hb with h | h
    · exact q.1 h
    · exact h (Int32.not_lt.mp q.2)
  (with_reducible apply az_ifneF); rfl
  refine az_sgp rfl rfl rfl rfl ?_
  refine az_ret rfl rfl rfl rfl ?_
  exact ⟨rfl, rfl⟩
theorem ex9_setK1 (d : Nat) (v : Int32) (hR : RR W (M1 193)) (hI : IW W) (hn : M1 192 6 = nI n) (h4 : n ≤ 4) (hb : ¬ (v < 10 ∨ ¬ v ≤ 200)) : ∃ M4, az_EX (d + 6) m_X9_set [.ref 192, .int 1, .int v] (az_hp M1) (some (.int (if W 24 2 = v then -5 else W 24 2))) (az_hp M4) ∧ PF M1 (az_up (az_up W 24 2 v) 24 1 (if v < W 24 1 then v else W 24 1)) (if W 24 2 = v then -5 else W 24 2) n M4 := by
  have r2 := ex_start hR
  obtain ⟨g, gk, g1, g2, g3, g4⟩ := hI.water
  have r3 := r2.m_skin v
  have r4 : RR (az_up (az_up W 24 2 v) 24 1 (if v < W 24 1 then v else W 24 1)) (az_up (az_up (rg_as M1) 193 4 v) 193 3 (if v < W 24 1 then v else W 24 1) 193) := r3.m_water _
  obtain ⟨M4, e4, p4⟩ := ex_end (M1 := M1) (a := if W 24 2 = v then -5 else W 24 2) (N := (az_up (az_up W 24 2 v) 24 1 (if v < W 24 1 then v else W 24 1))) (d + 4) hn h4 (fr2.w ((((fr1.rf (rg_as M1)).up 4 v).up 3 (if v < W 24 1 then v else W 24 1)).w)) (fun _ => r4)
  refine ⟨M4, ?_, p4⟩
  have last : ∀ M5, az_EX (d + 5) m_X9_acted [.ref 192, .int (if W 24 2 = v then -5 else W 24 2)] (az_hp M5) (some (.int (if W 24 2 = v then -5 else W 24 2))) (az_hp M4) → az_RUN (d + 5) k_X9_set 162 [some (.ref 192), some (.int 1), some (.int v), some (.int 10), some (.int 200), some (.int 4), some (.int (W 24 2))] [] (az_hp M5) (fun r1 h1 => r1 = some (.int (if W 24 2 = v then -5 else W 24 2)) ∧ h1 = az_hp M4) := by
    intro M5 e5
    refine az_sgp rfl rfl rfl rfl ?_
    refine az_bra rfl rfl rfl (fun q => ?_) (fun q => ?_)
    · rw [if_pos q] at e5 ⊢
      refine az_sgp rfl rfl rfl rfl ?_
      refine az_cav rfl rfl rfl rfl e5 ?_
      refine az_ret rfl rfl rfl rfl ?_
      exact ⟨rfl, rfl⟩
    · rw [if_neg q] at e5 ⊢
      refine az_sgp rfl rfl rfl rfl ?_
      refine az_cav rfl rfl rfl rfl e5 ?_
      refine az_ret rfl rfl rfl rfl ?_
      exact ⟨rfl, rfl⟩
  refine az_EX.of (az_in0 (code := k_X9_set) (ls := [some (.ref 192), some (.int 1), some (.int v), none, none, none, none]) rfl rfl rfl ?_)
  refine az_sgp rfl rfl rfl rfl ?_
  refine az_can rfl rfl rfl rfl (ex_aside (d + 4)) ?_
  refine az_sgp rfl rfl rfl rfl ?_
  refine az_bra rfl rfl rfl (fun q => absurd q (by decide)) (fun _ => ?_)
  refine az_sgp rfl rfl rfl rfl ?_
  refine az_bra rfl rfl rfl (fun _ => ?_) (fun q => absurd rfl q)
  refine az_sgp rfl rfl rfl rfl ?_
  refine az_bra rfl rfl rfl (fun q => absurd q (by decide)) (fun _ => ?_)
  refine az_sgp rfl rfl rfl rfl ?_
  refine az_bra rfl rfl rfl (fun _ => ?_) (fun q => absurd rfl q)
  refine az_sgp rfl rfl rfl rfl ?_
  refine az_cav rfl rfl rfl rfl ((ex_in (d + 4) 1 0 2).1 (by decide)) ?_
  (with_reducible apply az_ifeqF); rfl
  refine az_sgp rfl rfl rfl rfl ?_
  refine az_cav rfl rfl rfl rfl ((ex_in (d + 4) v 10 200).1 ⟨fun c => hb (Or.inl c), fun c => hb (Or.inr (Int32.not_le.mpr c))⟩) ?_
  (with_reducible apply az_ifneT); rfl
  refine az_sgp rfl rfl rfl rfl ?_
  refine az_bra rfl rfl rfl (fun q => absurd q (by decide)) (fun _ => ?_)
  refine az_sgp rfl rfl rfl rfl ?_
  refine az_bra rfl rfl rfl (fun q => absurd q (by decide)) (fun _ => ?_)
  refine az_sgp rfl rfl rfl rfl ?_
  refine az_bra rfl rfl rfl (fun _ => ?_) (fun q => absurd rfl q)
  refine az_sgp rfl rfl rfl rfl ?_
  refine az_ald rfl rfl (k := 4) rfl (by decide) (by decide) r2.skin ?_
  refine az_sgp rfl rfl rfl rfl ?_
  refine az_ast rfl rfl (k := 4) rfl (by decide) (by decide) ?_
  refine az_sgp rfl rfl rfl rfl ?_
  refine az_ald rfl rfl (k := 3) rfl (by decide) (by decide) r3.water ?_
  refine az_sgp rfl rfl rfl rfl ?_
  refine az_ald rfl rfl (k := 4) rfl (by decide) (by decide) r3.skin ?_
  refine az_bra rfl rfl rfl (fun q => ?_) (fun q => ?_)
  · have q : W 24 1 ≤ v := q
    rw [if_neg (Int32.not_lt.mpr q)] at e4
    refine az_sgp rfl rfl rfl rfl ?_
    refine az_ald rfl rfl (k := 3) rfl (by decide) (by decide) r3.water ?_
    refine az_ast rfl rfl (k := 3) rfl (by decide) (by decide) ?_
    exact last _ e4
  · have q : ¬ W 24 1 ≤ v := q
    rw [if_pos (Int32.not_le.mp q)] at e4
    refine az_sgp rfl rfl rfl rfl ?_
    refine az_ald rfl rfl (k := 4) rfl (by decide) (by decide) (x := v) r3.skin ?_
    refine az_sgp rfl rfl rfl rfl ?_
    refine az_ast rfl rfl (k := 3) rfl (by decide) (by decide) ?_
    exact last _ e4
theorem ex9_setB2 (d : Nat) (v : Int32) (hb : v < 1 ∨ ¬ v ≤ 9) : ∃ M4, az_EX (d + 6) m_X9_set [.ref 192, .int 2, .int v] (az_hp M1) (some (.int (-2))) (az_hp M4) ∧ PF M1 N (-2) n M4 := by
  refine ⟨rg_as M1, ?_, pf_early (by decide)⟩
  refine az_EX.of (az_in0 (code := k_X9_set) (ls := [some (.ref 192), some (.int 2), some (.int v), none, none, none, none]) rfl rfl rfl ?_)
  refine az_sgp rfl rfl rfl rfl ?_
  refine az_can rfl rfl rfl rfl (ex_aside (d + 4)) ?_
  refine az_sgp rfl rfl rfl rfl ?_
  refine az_bra rfl rfl rfl (fun q => absurd q (by decide)) (fun _ => ?_)
  refine az_sgp rfl rfl rfl rfl ?_
  refine az_bra rfl rfl rfl (fun q => absurd q (by decide)) (fun _ => ?_)
  refine az_sgp rfl rfl rfl rfl ?_
  refine az_bra rfl rfl rfl (fun q => absurd q (by decide)) (fun _ => ?_)
  refine az_sgp rfl rfl rfl rfl ?_
  refine az_bra rfl rfl rfl (fun q => absurd q (by decide)) (fun _ => ?_)
  refine az_sgp rfl rfl rfl rfl ?_
  refine az_cav rfl rfl rfl rfl ((ex_in (d + 4) 2 0 2).1 (by decide)) ?_
  (with_reducible apply az_ifeqF); rfl
  refine az_sgp rfl rfl rfl rfl ?_
  refine az_cav rfl rfl rfl rfl ((ex_in (d + 4) v 1 9).2 (fun q => ?_)) ?_
  · rcases hb with h | h
    · exact q.1 h
    · exact h (Int32.not_lt.mp q.2)
  (with_reducible apply az_ifneF); rfl
  refine az_sgp rfl rfl rfl rfl ?_
  refine az_ret rfl rfl rfl rfl ?_
  exact ⟨rfl, rfl⟩
theorem ex9_setK2 (d : Nat) (v : Int32) (hR : RR W (M1 193)) (hI : IW W) (hn : M1 192 6 = nI n) (h4 : n ≤ 4) (hb : ¬ (v < 1 ∨ ¬ v ≤ 9)) : ∃ M4, az_EX (d + 6) m_X9_set [.ref 192, .int 2, .int v] (az_hp M1) (some (.int (if W 17 0 = v then -5 else W 17 0))) (az_hp M4) ∧ PF M1 (az_up W 17 0 v) (if W 17 0 = v then -5 else W 17 0) n M4 := by
  have r2 := ex_start hR
  obtain ⟨g, gk, g1, g2, g3, g4⟩ := hI.water
  have r3 := r2.m_bound v
  have r4 : RR (az_up W 17 0 v) (az_up (az_up (rg_as M1) 193 6 v) 193 3 (W 24 1) 193) := by
    have := r3.m_water (W 24 1)
    rw [az_up_id (M := az_up W 17 0 v) (a := 24) (k := 1) (x := W 24 1) rfl] at this
    exact this
  obtain ⟨M4, e4, p4⟩ := ex_end (M1 := M1) (a := if W 17 0 = v then -5 else W 17 0) (N := (az_up W 17 0 v)) (d + 4) hn h4 (fr2.w ((((fr1.rf (rg_as M1)).up 6 v).up 3 (W 24 1)).w)) (fun _ => r4)
  refine ⟨M4, ?_, p4⟩
  have last : ∀ M5, az_EX (d + 5) m_X9_acted [.ref 192, .int (if W 17 0 = v then -5 else W 17 0)] (az_hp M5) (some (.int (if W 17 0 = v then -5 else W 17 0))) (az_hp M4) → az_RUN (d + 5) k_X9_set 162 [some (.ref 192), some (.int 2), some (.int v), some (.int 1), some (.int 9), some (.int 6), some (.int (W 17 0))] [] (az_hp M5) (fun r1 h1 => r1 = some (.int (if W 17 0 = v then -5 else W 17 0)) ∧ h1 = az_hp M4) := by
    intro M5 e5
    refine az_sgp rfl rfl rfl rfl ?_
    refine az_bra rfl rfl rfl (fun q => ?_) (fun q => ?_)
    · rw [if_pos q] at e5 ⊢
      refine az_sgp rfl rfl rfl rfl ?_
      refine az_cav rfl rfl rfl rfl e5 ?_
      refine az_ret rfl rfl rfl rfl ?_
      exact ⟨rfl, rfl⟩
    · rw [if_neg q] at e5 ⊢
      refine az_sgp rfl rfl rfl rfl ?_
      refine az_cav rfl rfl rfl rfl e5 ?_
      refine az_ret rfl rfl rfl rfl ?_
      exact ⟨rfl, rfl⟩
  refine az_EX.of (az_in0 (code := k_X9_set) (ls := [some (.ref 192), some (.int 2), some (.int v), none, none, none, none]) rfl rfl rfl ?_)
  refine az_sgp rfl rfl rfl rfl ?_
  refine az_can rfl rfl rfl rfl (ex_aside (d + 4)) ?_
  refine az_sgp rfl rfl rfl rfl ?_
  refine az_bra rfl rfl rfl (fun q => absurd q (by decide)) (fun _ => ?_)
  refine az_sgp rfl rfl rfl rfl ?_
  refine az_bra rfl rfl rfl (fun q => absurd q (by decide)) (fun _ => ?_)
  refine az_sgp rfl rfl rfl rfl ?_
  refine az_bra rfl rfl rfl (fun q => absurd q (by decide)) (fun _ => ?_)
  refine az_sgp rfl rfl rfl rfl ?_
  refine az_bra rfl rfl rfl (fun q => absurd q (by decide)) (fun _ => ?_)
  refine az_sgp rfl rfl rfl rfl ?_
  refine az_cav rfl rfl rfl rfl ((ex_in (d + 4) 2 0 2).1 (by decide)) ?_
  (with_reducible apply az_ifeqF); rfl
  refine az_sgp rfl rfl rfl rfl ?_
  refine az_cav rfl rfl rfl rfl ((ex_in (d + 4) v 1 9).1 ⟨fun c => hb (Or.inl c), fun c => hb (Or.inr (Int32.not_le.mpr c))⟩) ?_
  (with_reducible apply az_ifneT); rfl
  refine az_sgp rfl rfl rfl rfl ?_
  refine az_bra rfl rfl rfl (fun q => absurd q (by decide)) (fun _ => ?_)
  refine az_sgp rfl rfl rfl rfl ?_
  refine az_bra rfl rfl rfl (fun q => absurd q (by decide)) (fun _ => ?_)
  refine az_sgp rfl rfl rfl rfl ?_
  refine az_bra rfl rfl rfl (fun q => absurd q (by decide)) (fun _ => ?_)
  refine az_sgp rfl rfl rfl rfl ?_
  refine az_ald rfl rfl (k := 6) rfl (by decide) (by decide) r2.bound ?_
  refine az_sgp rfl rfl rfl rfl ?_
  refine az_ast rfl rfl (k := 6) rfl (by decide) (by decide) ?_
  refine az_sgp rfl rfl rfl rfl ?_
  refine az_ald rfl rfl (k := 3) rfl (by decide) (by decide) r3.water ?_
  refine az_sgp rfl rfl rfl rfl ?_
  refine az_ald rfl rfl (k := 4) rfl (by decide) (by decide) r3.skin ?_
  refine az_bra rfl rfl rfl (fun q => ?_) (fun q => ?_)
  · refine az_sgp rfl rfl rfl rfl ?_
    refine az_ald rfl rfl (k := 3) rfl (by decide) (by decide) r3.water ?_
    refine az_ast rfl rfl (k := 3) rfl (by decide) (by decide) ?_
    exact last _ e4
  · have q : ¬ W 24 1 ≤ W 24 2 := q
    exact absurd (by rw [g1, g2]; exact nI_le g3 (by omega)) q
theorem ex9_set (d : Nat) (hR : RR W (M1 193)) (hI : IW W) (hn : M1 192 6 = nI n) (h4 : n ≤ 4) (w v : Int32) : ∃ M4, az_EX (d + 6) m_X9_set [.ref 192, .int w, .int v] (az_hp M1) (some (.int (cg_set W w v).1)) (az_hp M4) ∧ PF M1 (cg_set W w v).2 (cg_set W w v).1 n M4 := by
  unfold cg_set
  by_cases c0 : w = 0
  · subst c0
    rw [if_pos rfl]
    unfold cg_setBag
    by_cases c1 : v < 0 ∨ ¬ v ≤ 6
    · rw [if_pos c1]
      exact ex9_setB0 d v c1
    rw [if_neg c1]
    by_cases c2 : W 24 4 ≤ v
    · have n2 : ¬ ¬ W 24 4 ≤ v := fun c => c c2
      rw [if_neg n2]
      exact ex9_setK0 d v hR hI hn h4 c1 c2
    · rw [if_pos c2]
      exact ex9_setN0 d v hR c1 c2
  rw [if_neg c0]
  by_cases c1 : w = 1
  · subst c1
    rw [if_pos rfl]
    unfold cg_setSkin
    by_cases c1 : v < 10 ∨ ¬ v ≤ 200
    · rw [if_pos c1]
      exact ex9_setB1 d v c1
    rw [if_neg c1]
    exact ex9_setK1 d v hR hI hn h4 c1
  rw [if_neg c1]
  by_cases c2 : w = 2
  · subst c2
    rw [if_pos rfl]
    unfold cg_setBound
    by_cases c1 : v < 1 ∨ ¬ v ≤ 9
    · rw [if_pos c1]
      exact ex9_setB2 d v c1
    rw [if_neg c1]
    exact ex9_setK2 d v hR hI hn h4 c1
  rw [if_neg c2]
  exact ex9_setX d c0 c1 c2
end REFS
