/-! THE LAW'S LEAVES: low, isLive, live, mayBe -/
def lw (v : Int32) (n : Nat) : Nat := v.toBitVec.toNat % 2 ^ 31 % n
theorem lw_lt (v : Int32) {n : Nat} (h : 0 < n) : lw v n < n := Nat.mod_lt _ h
theorem ix5 (a : Nat) : 5 * nI a = nI (5 * a) := nI_mul 5 a
theorem ix5c (a c : Nat) : 5 * nI a + nI c = nI (5 * a + c) := by rw [ix5, nI_add]
theorem ix4 (a : Nat) : 4 * nI a = nI (4 * a) := nI_mul 4 a
theorem ix4c (a c : Nat) : 4 * nI a + nI c = nI (4 * a + c) := by rw [ix4, nI_add]
theorem ix12 (z s : Nat) : 12 * nI z + 2 * nI s = nI (12 * z + 2 * s) := by
  rw [show (12 : Int32) * nI z = nI (12 * z) from nI_mul 12 z, show (2 : Int32) * nI s = nI (2 * s) from nI_mul 2 s, nI_add]
theorem ix12c (z s c : Nat) : 12 * nI z + 2 * nI s + nI c = nI (12 * z + 2 * s + c) := by rw [ix12, nI_add]
section LEAFL
variable {M W : az_Mem}
theorem el_low (d : Nat) (v : Int32) {n : Nat} (h : 0 < n) (hn : n < 2 ^ 31) : az_EX (d + 1) m_L_low [.int v, .int (nI n)] (az_hp M) (some (.int (nI (lw v n)))) (az_hp M) := by
  refine az_EX.of (az_in0 (code := k_L_low) (ls := [some (.int v), some (.int (nI n))]) rfl rfl rfl ?_)
  refine az_sgp rfl rfl rfl rfl ?_
  refine az_grd rfl rfl rfl ?_ ?_
  · rw [decide_eq_false (nI_ne0 h hn)]
    rfl
  refine az_ret rfl rfl rfl rfl ?_
  refine ⟨?_, rfl⟩
  show some (Value.int ((v &&& 2147483647) - (v &&& 2147483647) / nI n * nI n)) = _
  rw [pk_and v (m := 2147483647) 31 (by decide +kernel), nI_mod (Nat.mod_lt _ (by decide)) hn]
  rfl
theorem LX.slot (hX : LX W) {z s : Nat} (h4 : z < 4) (h6 : s < 6) : ∃ l y x : Nat, l < 12 ∧ y < 4 ∧ x < 6 ∧ W 14 (12 * z + s) = nI l ∧ W 21 l = nI (12 * y + x) ∧ (cg_liveB W (nI z) (nI s) = true ↔ W 19 l = 1 ∧ y = z ∧ x = s) := by
  obtain ⟨l, hl, el⟩ := hX.ld (12 * z + s) (by omega)
  obtain ⟨y, x, hy, hx, ec⟩ := hX.ce l (by omega)
  refine ⟨l, y, x, hl, hy, hx, el, ec, ?_⟩
  unfold cg_liveB
  rw [nI_cell, az_rdN (by omega) (by decide), el, az_rdN (by omega) (by decide), az_rdN (by omega) (by decide), ec, Bool.and_eq_true, decide_eq_true_eq, decide_eq_true_eq, nI_eq (by omega) (by omega)]
  constructor
  · rintro ⟨h1, h2⟩
    exact ⟨h1, by omega, by omega⟩
  · rintro ⟨h1, h2, h3⟩
    exact ⟨h1, by omega⟩
theorem nI_d12 {y x : Nat} (hy : y < 4) (hx : x < 6) : nI (12 * y + x) / 12 = nI y ∧ nI (12 * y + x) - nI (12 * y + x) / 12 * 12 = nI x := by
  refine ⟨?_, ?_⟩
  · rw [show nI (12 * y + x) / 12 = nI ((12 * y + x) / 12) from nI_div (b := 12) (by omega) (by decide)]
    congr 1
    omega
  · rw [show nI (12 * y + x) - nI (12 * y + x) / 12 * 12 = nI ((12 * y + x) % 12) from nI_mod (b := 12) (by omega) (by decide)]
    congr 1
    omega
theorem el_isLive (d : Nat) (hR : LR W M) (hX : LX W) {z s p : Nat} (h4 : z < 4) (h6 : s < 6) (hp : W 4 z = nI p) (hp6 : p ≤ 6) : az_E2 (s < p ∧ cg_liveB W (nI z) (nI s) = true) (d + 1) m_L_isLive [.ref 193, .ref 194, .ref 195, .int (nI z), .int (nI s)] (az_hp M) (some (.int 1)) (az_hp M) (some (.int 0)) (az_hp M) := by
  obtain ⟨l, y, x, hl, hy, hx, el, ec, hiff⟩ := hX.slot h4 h6
  rw [hiff]
  have k0 := (hR.zp h4).trans hp
  have k1 := hR.lw hl
  have k2 := (hR.li hl).trans ((by rw [ec] : W 21 l / 12 = nI (12 * y + x) / 12).trans (nI_d12 hy hx).1)
  have k3 := (hR.lp hl).trans ((by rw [ec] : W 21 l - W 21 l / 12 * 12 = nI (12 * y + x) - nI (12 * y + x) / 12 * 12).trans (nI_d12 hy hx).2)
  refine ⟨fun hc => ?_, fun hc => ?_⟩ <;> refine az_EX.of (az_in0 (code := k_L_isLive) (ls := [some (.ref 193), some (.ref 194), some (.ref 195), some (.int (nI z)), some (.int (nI s)), none]) rfl rfl rfl ?_)
  all_goals
    refine az_sgp rfl rfl rfl rfl ?_
    refine az_ald rfl rfl (k := 12 * z + 2 * s) (ix12 z s) (by omega) (by decide) ((hR.cl h4 h6).trans el) ?_
    refine az_sgp rfl rfl rfl rfl ?_
    refine az_ald rfl rfl (k := 5 * z) (ix5 z) (by omega) (by decide) k0 ?_
    refine az_bra rfl rfl rfl (fun q1 => ?_) (fun q1 => ?_)
  all_goals rw [nI_leI (by omega) (by omega)] at q1
  · exact absurd q1 (by omega)
  · refine az_sgp rfl rfl rfl rfl ?_
    refine az_ald rfl rfl (k := 4 * l) (ix4 l) (by omega) (by decide) (k1) ?_
    refine az_sgp rfl rfl rfl rfl ?_
    refine az_bra rfl rfl rfl (fun q2 => ?_) (fun q2 => ?_)
    · refine az_sgp rfl rfl rfl rfl ?_
      refine az_ald rfl rfl (k := 4 * l + 1) (ix4c l 1) (by omega) (by decide) (k2) ?_
      refine az_sgp rfl rfl rfl rfl ?_
      refine az_bra rfl rfl rfl (fun q3 => ?_) (fun q3 => ?_)
      · refine az_sgp rfl rfl rfl rfl ?_
        refine az_ald rfl rfl (k := 4 * l + 2) (ix4c l 2) (by omega) (by decide) (k3) ?_
        refine az_sgp rfl rfl rfl rfl ?_
        refine az_bra rfl rfl rfl (fun q4 => ?_) (fun q4 => ?_)
        · refine az_sgp rfl rfl rfl rfl ?_
          refine az_ret rfl rfl rfl rfl ?_
          exact ⟨rfl, rfl⟩
        · rw [nI_eq (by omega) (by omega)] at q4
          exact absurd hc.2.2.2 q4
      · rw [nI_eq (by omega) (by omega)] at q3
        exact absurd hc.2.2.1 q3
    · exact absurd hc.2.1 q2
  · refine az_sgp rfl rfl rfl rfl ?_
    refine az_ret rfl rfl rfl rfl ?_
    exact ⟨rfl, rfl⟩
  · refine az_sgp rfl rfl rfl rfl ?_
    refine az_ald rfl rfl (k := 4 * l) (ix4 l) (by omega) (by decide) (k1) ?_
    refine az_sgp rfl rfl rfl rfl ?_
    refine az_bra rfl rfl rfl (fun q2 => ?_) (fun q2 => ?_)
    · refine az_sgp rfl rfl rfl rfl ?_
      refine az_ald rfl rfl (k := 4 * l + 1) (ix4c l 1) (by omega) (by decide) (k2) ?_
      refine az_sgp rfl rfl rfl rfl ?_
      refine az_bra rfl rfl rfl (fun q3 => ?_) (fun q3 => ?_)
      · refine az_sgp rfl rfl rfl rfl ?_
        refine az_ald rfl rfl (k := 4 * l + 2) (ix4c l 2) (by omega) (by decide) (k3) ?_
        refine az_sgp rfl rfl rfl rfl ?_
        refine az_bra rfl rfl rfl (fun q4 => ?_) (fun q4 => ?_)
        · rw [nI_eq (by omega) (by omega)] at q3 q4
          exact absurd ⟨by omega, q2, q3, q4⟩ hc
        · refine az_sgp rfl rfl rfl rfl ?_
          refine az_ret rfl rfl rfl rfl ?_
          exact ⟨rfl, rfl⟩
      · refine az_sgp rfl rfl rfl rfl ?_
        refine az_ret rfl rfl rfl rfl ?_
        exact ⟨rfl, rfl⟩
    · refine az_sgp rfl rfl rfl rfl ?_
      refine az_ret rfl rfl rfl rfl ?_
      exact ⟨rfl, rfl⟩
theorem el_live (d : Nat) (hR : LR W M) (hX : LX W) {z p : Nat} (h4 : z < 4) (hp : W 4 z = nI p) (hp6 : p ≤ 6) : az_EX (d + 2) m_L_live [.ref 193, .ref 194, .ref 195, .int (nI z)] (az_hp M) (some (.int (nI (cg_cl W (nI z) p)))) (az_hp M) := by
  have k0 := (hR.zp h4).trans hp
  have K : ∀ (m s : Nat), s + m = p → az_RUN (d + 1) k_L_live 6 [some (.ref 193), some (.ref 194), some (.ref 195), some (.int (nI z)), some (.int (nI (az_cnt (fun s => cg_liveB W (nI z) (nI s)) s))), some (.int (nI s))] [] (az_hp M) (fun r1 h1 => r1 = some (.int (nI (cg_cl W (nI z) p))) ∧ h1 = az_hp M) := by
    intro m
    induction m with
    | zero =>
      intro s hs
      have e : s = p := by omega
      subst e
      refine az_sgp rfl rfl rfl rfl ?_
      refine az_ald rfl rfl (k := 5 * z) (ix5 z) (by omega) (by decide) (k0) ?_
      refine az_bra rfl rfl rfl (fun q => ?_) (fun q => ?_)
      · refine az_sgp rfl rfl rfl rfl ?_
        refine az_ret rfl rfl rfl rfl ?_
        exact ⟨rfl, rfl⟩
      · exact absurd (nI_le (Nat.le_refl _) (by omega)) q
    | succ m ih =>
      intro s hs
      refine az_sgp rfl rfl rfl rfl ?_
      refine az_ald rfl rfl (k := 5 * z) (ix5 z) (by omega) (by decide) (k0) ?_
      refine az_bra rfl rfl rfl (fun q0 => ?_) (fun q0 => ?_)
      · exact absurd q0 (nI_ge (by omega) (by omega))
      refine az_sgp rfl rfl rfl rfl ?_
      refine az_ca2 rfl rfl rfl rfl (el_isLive d hR hX h4 (show s < 6 by omega) hp hp6) (fun q => ?_) (fun q => ?_)
      · refine az_ifeqF rfl ?_
        refine az_sgp rfl rfl rfl rfl ?_
        refine az_sg 1 rfl ?_
        have e : az_cnt (fun s => cg_liveB W (nI z) (nI s)) (s + 1) = az_cnt (fun s => cg_liveB W (nI z) (nI s)) s + 1 := by
          show az_cnt _ s + (if cg_liveB W (nI z) (nI s) = true then 1 else 0) = _
          rw [if_pos q.2]
        have i1 := ih (s + 1) (by omega)
        rw [e, ← nI_1, ← nI_1] at i1
        exact i1
      · refine az_ifeqT rfl ?_
        refine az_sgp rfl rfl rfl rfl ?_
        refine az_sg 1 rfl ?_
        have e : az_cnt (fun s => cg_liveB W (nI z) (nI s)) (s + 1) = az_cnt (fun s => cg_liveB W (nI z) (nI s)) s + 0 := by
          show az_cnt _ s + (if cg_liveB W (nI z) (nI s) = true then 1 else 0) = _
          rw [if_neg (fun h => q ⟨by omega, h⟩)]
        have i1 := ih (s + 1) (by omega)
        rw [e, ← nI_1 s, ← nI_add] at i1
        exact i1
  refine az_EX.of (az_in0 (code := k_L_live) (ls := [some (.ref 193), some (.ref 194), some (.ref 195), some (.int (nI z)), none, none]) rfl rfl rfl ?_)
  refine az_sg 4 rfl ?_
  exact K p 0 (by omega)
theorem el_mayBe (d : Nat) (hR : LR W M) (hX : LX W) {z : Nat} (h4 : z < 4) (h : Int32) : az_E2 (cg_adm W (nI z) (if W 17 0 ≤ h then 1 else 0)) (d + 1) m_L_mayBe [.ref 192, .ref 193, .int (nI z), .int h] (az_hp M) (some (.int 1)) (az_hp M) (some (.int 0)) (az_hp M) := by
  have e8 : az_rd (W 8) 8 (nI z) = W 8 z := az_rdN (by omega) (by decide)
  have e6 : az_rd (W 6) 8 (nI z) = W 6 z := az_rdN (by omega) (by decide)
  unfold cg_adm
  rw [e8, e6]
  have k1 := hR.zs h4
  have k2 := hR.zk h4
  rcases hX.kd z (by omega) with q6 | q6 | q6
  all_goals rw [q6] at k2 ⊢
  all_goals refine ⟨fun hc => ?_, fun hc => ?_⟩ <;> refine az_EX.of (az_in0 (code := k_L_mayBe) (ls := [some (.ref 192), some (.ref 193), some (.int (nI z)), some (.int h)]) rfl rfl rfl ?_)
  all_goals
    repeat' (first
      | (refine az_ret rfl rfl rfl rfl ?_)
      | (refine az_sgp rfl rfl rfl rfl ?_)
      | (refine az_ald rfl rfl (k := 5 * z + 1) (ix5c z 1) (by omega) (by decide) k1 ?_)
      | (refine az_ald rfl rfl (k := 5 * z + 2) (ix5c z 2) (by omega) (by decide) k2 ?_)
      | (refine az_ald rfl rfl (k := 6) rfl (by decide) (by decide) hR.bound ?_)
      | ((with_reducible apply az_ifeqT); rfl)
      | ((with_reducible apply az_ifeqF); rfl)
      | ((with_reducible apply az_ifneF); rfl)
      | ((with_reducible apply az_ifneT); rfl)
      | (refine az_bra rfl rfl rfl (fun _ => ?_) (fun _ => ?_)))
  all_goals first | contradiction | (exact absurd (by assumption) (by decide)) | (simp_all <;> done) | skip
end LEAFL
