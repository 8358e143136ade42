/-! REFERENCE, ACTS: put, take, drop -/
section REFC
variable {M W : az_Mem}
theorem IW.bagl (hI : IW W) {l : Nat} (hl : l < 40) (h2 : W 19 l = 2) : ∃ B R q : Nat, W 24 4 = nI B ∧ W 24 3 = nI R ∧ B ≤ R ∧ R ≤ 6 ∧ q < B ∧ W 26 q = nI l ∧ (∀ i, i < B → W 26 i = nI l → i = q) := by
  obtain ⟨B, R, e1, e2, e3, e4, e5, e6, e7⟩ := hI.bag
  obtain ⟨q, f1, f2⟩ := e7 l hl h2
  exact ⟨B, R, q, e1, e2, e3, e4, f1, f2, fun i hi c => e6 i q hi f1 (c.trans f2.symm)⟩
theorem IW.bagn (hI : IW W) {l : Nat} (hl : l < 40) (h2 : ¬ W 19 l = 2) : cg_unp W (nI l) = W := by
  obtain ⟨B, R, e1, e2, e3, e4, e5, e6, e7⟩ := hI.bag
  refine cg_unpA e1 (by omega) (fun i hi c => ?_)
  obtain ⟨j, f1, f2, f3⟩ := e5 i hi
  rw [f2, nI_eq (by omega) (by omega)] at c
  exact h2 (c ▸ f3)
theorem cg_whN {l q B : Nat} (hl : l < 40) (h2 : W 19 l = 2) (hB : W 24 4 = nI B) (h6 : B ≤ 6) (hq : q < B) (e : W 26 q = nI l) (hu : ∀ i, i < B → W 26 i = nI l → i = q) : cg_wh1 W (nI l) = az_up (cg_ub (cg_pay W 1) q B) 24 7 (W 24 7 + 1) := by
  unfold cg_wh1
  rw [az_rdN hl (by decide), if_pos h2, cg_unpN (W := cg_pay W 1) hB hq h6 e hu]
  simp [cg_ub, cg_pay, az_up]
theorem cg_putN {l a p : Nat} (hl : l < 40) (ha : W 24 0 = nI a) (ha8 : a < 8) (hp : W 4 a = nI p) (hI : IW W) :
    cg_put W (nI l) = if ¬ W 19 l = 2 then (-4, W) else if ¬ cg_adm W (nI a) (if W 17 0 ≤ W 23 l then 1 else 0) then (-4, W) else if ¬ 1 ≤ W 24 1 then (-6, W) else (nI p, cg_cm (cg_wh1 W (nI l)) (nI l)) := by
  have hk : cg_known (nI l) := kn_iff.mpr ⟨l, hl, rfl⟩
  unfold cg_put
  rw [if_neg (fun c => c hk), az_rdN hl (by decide)]
  have e2 : (cg_may W (nI l) (W 24 0)) = cg_adm W (nI a) (if W 17 0 ≤ W 23 l then 1 else 0) := by
    unfold cg_may
    rw [az_rdN hl (by decide), ha]
  by_cases q : W 19 l = 2
  · rw [if_neg (show ¬ ¬ W 19 l = 2 from fun c => c q), if_neg (show ¬ ¬ W 19 l = 2 from fun c => c q)]
    obtain ⟨B, R, k, e1, f2, f3, f4, f5, f6, f7⟩ := hI.bagl hl q
    have e5 : az_rd (cg_wh1 W (nI l) 4) 8 (cg_wh1 W (nI l) 24 0) = nI p := by
      rw [cg_whN hl q e1 (by omega) f5 f6 f7]
      have e6 : az_up (cg_ub (cg_pay W 1) k B) 24 7 (W 24 7 + 1) 24 0 = nI a := by
        simp [cg_ub, cg_pay, az_up, ha]
      have e7 : az_up (cg_ub (cg_pay W 1) k B) 24 7 (W 24 7 + 1) 4 a = nI p := by
        simp [cg_ub, cg_pay, az_up, hp]
      rw [e6, az_rdN ha8 (by decide), e7]
    rw [e5]
    by_cases q2 : cg_may W (nI l) (W 24 0)
    · rw [if_neg (show ¬ ¬ cg_may W (nI l) (W 24 0) from fun c => c q2), if_neg (show ¬ ¬ cg_adm W (nI a) (if W 17 0 ≤ W 23 l then 1 else 0) from fun c => c (cast e2 q2))]
      rfl
    · rw [if_pos (show ¬ cg_may W (nI l) (W 24 0) from q2), if_pos (show ¬ cg_adm W (nI a) (if W 17 0 ≤ W 23 l then 1 else 0) from fun c => q2 (cast e2.symm c))]
  · rw [if_pos q, if_pos q]
theorem ex_puts (d : Nat) (hR : RR W (M 193)) (hI : IW W) (li : Int32) : AC (d + 3) m_X9_puts [.ref 192, .int li] M (cg_put W li).1 (cg_put W li).2 := by
  by_cases hk : ∃ k, k < 40 ∧ li = nI k
  case neg =>
    have e : cg_put W li = (-1, W) := if_pos (fun c => hk (kn_iff.mp c))
    rw [e]
    refine AC.of (az_in0 (code := k_X9_puts) (ls := [some (.ref 192), some (.int li)]) rfl rfl rfl ?_)
    refine az_sgp rfl rfl rfl rfl ?_
    refine az_cav rfl rfl rfl rfl ((ex_isLoad d li).2 hk) ?_
    (with_reducible apply az_ifneF); rfl
    refine az_sgp rfl rfl rfl rfl ?_
    refine az_ret rfl rfl rfl rfl ?_
    exact ⟨M, rfl, rfl, fr1.rf M, fun _ => hR⟩
  case pos =>
  obtain ⟨l, hl, rfl⟩ := hk
  obtain ⟨Z, a, S, p, hZ, ha, h2, h8, haZ, ha8, hS, h2S, h12, hp, hpS, hps⟩ := hI.pt
  rw [cg_putN hl ha ha8 hp hI]
  refine AC.of (az_in0 (code := k_X9_puts) (ls := [some (.ref 192), some (.int (nI l))]) rfl rfl rfl ?_)
  refine az_sgp rfl rfl rfl rfl ?_
  refine az_cav rfl rfl rfl rfl ((ex_isLoad d (nI l)).1 ⟨l, hl, rfl⟩) ?_
  (with_reducible apply az_ifneT); rfl
  refine az_sgp rfl rfl rfl rfl ?_
  refine az_cav rfl rfl rfl rfl (ex_ofLoad (d + 1) (z := l) (w := 0) rfl rfl (by omega) (hR.lw l hl)) ?_
  refine az_sgp rfl rfl rfl rfl ?_
  refine az_bra rfl rfl rfl (fun q => ?_) (fun q => ?_)
  case refine_2 =>
    rw [if_pos q]
    refine az_sgp rfl rfl rfl rfl ?_
    refine az_ret rfl rfl rfl rfl ?_
    exact ⟨M, rfl, rfl, fr1.rf M, fun c => absurd c (by decide : ¬ okA (-4))⟩
  rw [if_neg (fun c => c q)]
  refine az_sgp rfl rfl rfl rfl ?_
  refine az_ald rfl rfl (k := 2) rfl (by decide) (by decide) (hR.at_.trans ha) ?_
  refine az_sgp rfl rfl rfl rfl ?_
  refine az_cav rfl rfl rfl rfl (ex_ofLoad (d + 1) (z := l) (w := 3) rfl rfl (by omega) (hR.lh l hl)) ?_
  refine az_ca2 rfl rfl rfl rfl (ex_mayBe d hR rfl ha8 _) (fun q2 => ?_) (fun q2 => ?_)
  · (with_reducible apply az_ifneT); rfl
    rw [if_neg (fun c => c q2)]
    refine az_sgp rfl rfl rfl rfl ?_
    refine az_ca2 rfl rfl rfl rfl (ex_uses (d + 1) hR 1) (fun q3 => ?_) (fun q3 => ?_)
    · (with_reducible apply az_ifneT); rfl
      rw [if_neg (fun c => c q3)]
      obtain ⟨B, R, k, e1, f2, f3, f4, f5, f6, f7⟩ := hI.bagl hl q
      rw [cg_whN hl q e1 (by omega) f5 f6 f7]
      have r1 := hR.uses 1
      have r2 := r1.ub f5 (show B ≤ 6 by omega)
      have r3 := r2.m_moved (W 24 7 + 1)
      have hs := q2.1
      rw [az_rdN ha8 (by decide)] at hs
      have w1 : cg_ub (cg_pay W 1) k B 24 7 = W 24 7 := by simp [cg_ub, cg_pay, az_up]
      obtain ⟨M', hf, hr, hE⟩ := ex_comes d r3 (a := a) (S := S) (p := p) (li := nI l) (by simp [cg_ub, cg_pay, az_up, ha]) ha8 (by simp [cg_ub, cg_pay, az_up, hS]) h12 (by simp [cg_ub, cg_pay, az_up, hp]) (hps hs) rfl hl
      refine az_sgp rfl rfl rfl rfl ?_
      refine az_cav rfl rfl rfl rfl (ex_placeInBag (d + 1) r1 (nI l) e1 (by omega)) ?_
      refine az_can rfl rfl rfl rfl (ex_unbag (d + 1) r1 (az_findN f5 f6 f7) e1 f5 (by omega)) ?_
      refine az_sgp rfl rfl rfl rfl ?_
      refine az_ald rfl rfl (k := 11) rfl (by decide) (by decide) (r2.moved.trans w1) ?_
      refine az_sgp rfl rfl rfl rfl ?_
      refine az_ast rfl rfl (k := 11) rfl (by decide) (by decide) ?_
      refine az_sgp rfl rfl rfl rfl ?_
      refine az_cav rfl rfl rfl rfl hE ?_
      refine az_ret rfl rfl rfl rfl ?_
      refine ⟨M', rfl, rfl, ?_, fun _ => hr⟩
      refine fr1.tr (M' := rg_uses W M 1) (((fr1.rf M).up _ _).up _ _) ?_
      refine fr1.tr (M' := rg_sh (rg_uses W M 1) k (B - 1)) (fun c h1 => ?_) ((((fr1.rf _).up _ _).up _ _).tr hf)
      funext j
      simp [rg_sh, h1]
    · (with_reducible apply az_ifneF); rfl
      rw [if_pos q3]
      refine az_sgp rfl rfl rfl rfl ?_
      refine az_ret rfl rfl rfl rfl ?_
      exact ⟨M, rfl, rfl, fr1.rf M, fun c => absurd c (by decide : ¬ okA (-6))⟩
  · (with_reducible apply az_ifneF); rfl
    rw [if_pos q2]
    refine az_sgp rfl rfl rfl rfl ?_
    refine az_ret rfl rfl rfl rfl ?_
    exact ⟨M, rfl, rfl, fr1.rf M, fun c => absurd c (by decide : ¬ okA (-4))⟩
theorem iw_wh (hI : IW W) {l a p S : Nat} (hl : l < 40) (q : W 19 l = 2) (q3 : 1 ≤ W 24 1) (ha : W 24 0 = nI a) (ha8 : a < 8) (hS : W 2 1 = nI S) (h12 : S ≤ 12) (hp : W 4 a = nI p) (hpS : p < S) : IW (cg_cm (cg_wh1 W (nI l)) (nI l)) := by
  obtain ⟨B, R, k, e1, f2, f3, f4, f5, f6, f7⟩ := hI.bagl hl q
  rw [cg_whN hl q e1 (by omega) f5 f6 f7]
  have i1 := hI.u_pay (n := 1) rfl (by decide) q3
  have i2 := (i1.u_ub (q := k) (x := 1) hl e1 f5 f6 (by decide) (by omega)).u_247 (W 24 7 + 1)
  rw [az_up_comm (a := 19) (b := 24) (Or.inl (by decide))] at i2
  exact i2.u_cm hl (by simp [cg_ub, cg_pay, az_up, ha]) ha8 (by simp [cg_ub, cg_pay, az_up, hS]) h12 (by simp [cg_ub, cg_pay, az_up, hp]) hpS
theorem iw_put (hI : IW W) (li : Int32) (ho : okA (cg_put W li).1) : IW (cg_put W li).2 := by
  by_cases hk : ∃ k, k < 40 ∧ li = nI k
  case neg =>
    have e : cg_put W li = (-1, W) := if_pos (fun c => hk (kn_iff.mp c))
    rw [e]
    exact hI
  case pos =>
  obtain ⟨l, hl, rfl⟩ := hk
  obtain ⟨Z, a, S, p, hZ, ha, h2, h8, haZ, ha8, hS, h2S, h12, hp, hpS, hps⟩ := hI.pt
  rw [cg_putN hl ha ha8 hp hI] at ho ⊢
  by_cases q : W 19 l = 2
  case neg =>
    rw [if_pos q]
    exact hI
  rw [if_neg (fun c => c q)] at ho ⊢
  by_cases q2 : cg_adm W (nI a) (if W 17 0 ≤ W 23 l then 1 else 0)
  case neg =>
    rw [if_pos q2]
    exact hI
  rw [if_neg (fun c => c q2)] at ho ⊢
  by_cases q3 : 1 ≤ W 24 1
  case neg =>
    rw [if_pos q3]
    exact hI
  rw [if_neg (fun c => c q3)]
  have hs := q2.1
  rw [az_rdN ha8 (by decide)] at hs
  exact iw_wh hI hl q q3 ha ha8 hS h12 hp (hps hs)
def cg_tak (W : az_Mem) (l : Int32) : Int32 × az_Mem := if ¬ cg_known l then (-1, W) else if ¬ (az_rd (W 19) 40 l = 1 ∧ az_rd (W 21) 40 l / 12 = W 24 0) then (-4, W) else if ¬ 1 ≤ W 24 3 - W 24 4 then (-3, W) else (W 24 4 + 1, cg_packUp W l)
theorem ec_tak (d : Nat) (l : Int32) : az_EX (d + 4) m_X7_takeUp [.ref 1, .int l] (az_hp W) (some (.int (cg_tak W l).1)) (az_hp (cg_tak W l).2) := by
  have h := ec_takeUp (M := W) d l
  have e1 : (cg_tak W l).1 = (if ¬ (¬ l < 0 ∧ ¬ 40 ≤ l) then -1 else if ¬ (az_rd (W 19) 40 l = 1 ∧ az_rd (W 21) 40 l / 12 = W 24 0) then -4 else if ¬ 1 ≤ W 24 3 - W 24 4 then -3 else W 24 4 + 1) := by
    unfold cg_tak
    repeat' split
    all_goals first | rfl | contradiction
  have e2 : (cg_tak W l).2 = (if ¬ (¬ l < 0 ∧ ¬ 40 ≤ l) then W else if ¬ (az_rd (W 19) 40 l = 1 ∧ az_rd (W 21) 40 l / 12 = W 24 0) then W else if ¬ 1 ≤ W 24 3 - W 24 4 then W else cg_packUp W l) := by
    unfold cg_tak
    repeat' split
    all_goals first | rfl | contradiction
  rw [e1, e2]
  exact h
theorem cg_takN {l a B R : Nat} (hl : l < 40) (ha : W 24 0 = nI a) (hB : W 24 4 = nI B) (hR : W 24 3 = nI R) (h : B ≤ R) (h6 : R ≤ 6) : cg_tak W (nI l) = if ¬ (W 19 l = 1 ∧ W 21 l / 12 = nI a) then (-4, W) else if ¬ B < R then (-3, W) else (nI (B + 1), cg_packUp W (nI l)) := by
  unfold cg_tak
  rw [if_neg (fun c => c (kn_iff.mpr ⟨l, hl, rfl⟩)), az_rdN hl (by decide), az_rdN hl (by decide), ha, hB, hR, nI_sub h, nI_1]
  have e : (1 ≤ nI (R - B)) = (B < R) := by
    show (nI 1 ≤ nI (R - B)) = _
    rw [nI_leI (by decide) (by omega)]
    apply propext
    omega
  simp only [e]
theorem ex_takes (d : Nat) (hR : RR W (M 193)) (hI : IW W) (li : Int32) : AC (d + 3) m_X9_takes [.ref 192, .int li] M (cg_tak W li).1 (cg_tak W li).2 := by
  by_cases hk : ∃ k, k < 40 ∧ li = nI k
  case neg =>
    have e : cg_tak W li = (-1, W) := if_pos (fun c => hk (kn_iff.mp c))
    rw [e]
    refine AC.of (az_in0 (code := k_X9_takes) (ls := [some (.ref 192), some (.int li)]) rfl rfl rfl ?_)
    refine az_sgp rfl rfl rfl rfl ?_
    refine az_cav rfl rfl rfl rfl ((ex_isLoad d li).2 hk) ?_
    (with_reducible apply az_ifneF); rfl
    refine az_sgp rfl rfl rfl rfl ?_
    refine az_ret rfl rfl rfl rfl ?_
    exact ⟨M, rfl, rfl, fr1.rf M, fun _ => hR⟩
  case pos =>
  obtain ⟨l, hl, rfl⟩ := hk
  obtain ⟨Z, a, hZ, ha, h2, h8, haZ⟩ := hI.zn
  obtain ⟨B, R, e1, e2, e3, e4, e5, e6, e7⟩ := hI.bag
  rw [cg_takN hl ha e1 e2 e3 e4]
  refine AC.of (az_in0 (code := k_X9_takes) (ls := [some (.ref 192), some (.int (nI l))]) rfl rfl rfl ?_)
  refine az_sgp rfl rfl rfl rfl ?_
  refine az_cav rfl rfl rfl rfl ((ex_isLoad d (nI l)).1 ⟨l, hl, rfl⟩) ?_
  (with_reducible apply az_ifneT); rfl
  refine az_sgp rfl rfl rfl rfl ?_
  refine az_cav rfl rfl rfl rfl (ex_ofLoad (d + 1) (z := l) (w := 0) rfl rfl (by omega) (hR.lw l hl)) ?_
  refine az_sgp rfl rfl rfl rfl ?_
  refine az_bra rfl rfl rfl (fun q => ?_) (fun q => ?_)
  case refine_2 =>
    rw [if_pos (fun c => q c.1)]
    refine az_sgp rfl rfl rfl rfl ?_
    refine az_ret rfl rfl rfl rfl ?_
    exact ⟨M, rfl, rfl, fr1.rf M, fun c => absurd c (by decide : ¬ okA (-4))⟩
  refine az_sgp rfl rfl rfl rfl ?_
  refine az_cav rfl rfl rfl rfl (ex_ofLoad (d + 1) (z := l) (w := 1) rfl rfl (by omega) (hR.li l hl)) ?_
  refine az_sgp rfl rfl rfl rfl ?_
  refine az_ald rfl rfl (k := 2) rfl (by decide) (by decide) (hR.at_.trans ha) ?_
  refine az_bra rfl rfl rfl (fun q2 => ?_) (fun q2 => ?_)
  case refine_2 =>
    rw [if_pos (fun c => q2 c.2)]
    refine az_sgp rfl rfl rfl rfl ?_
    refine az_ret rfl rfl rfl rfl ?_
    exact ⟨M, rfl, rfl, fr1.rf M, fun c => absurd c (by decide : ¬ okA (-4))⟩
  rw [if_neg (fun c => c ⟨q, q2⟩)]
  refine az_sgp rfl rfl rfl rfl ?_
  refine az_ald rfl rfl (k := 12) rfl (by decide) (by decide) (hR.many.trans e1) ?_
  refine az_sgp rfl rfl rfl rfl ?_
  refine az_ald rfl rfl (k := 5) rfl (by decide) (by decide) (hR.room.trans e2) ?_
  refine az_bra rfl rfl rfl (fun q3 => ?_) (fun q3 => ?_)
  · rw [nI_ltI (by omega) (by omega)] at q3
    rw [if_neg (fun c => c q3)]
    obtain ⟨M', hf, hr, hE⟩ := ex_bag d hR (li := nI l) e1 (by omega) rfl hl
    refine az_sgp rfl rfl rfl rfl ?_
    refine az_can rfl rfl rfl rfl hE ?_
    refine az_sgp rfl rfl rfl rfl ?_
    refine az_ald rfl rfl (k := 12) rfl (by decide) (by decide) (x := nI (B + 1)) ?_ ?_
    · rw [hr.many]
      unfold cg_packUp cg_pack
      rw [az_wr_row (by decide), az_up_same, e1, nI_1]
    refine az_ret rfl rfl rfl rfl ?_
    exact ⟨M', rfl, rfl, hf, fun _ => hr⟩
  · rw [nI_ltI (by omega) (by omega)] at q3
    rw [if_pos q3]
    refine az_sgp rfl rfl rfl rfl ?_
    refine az_ret rfl rfl rfl rfl ?_
    exact ⟨M, rfl, rfl, fr1.rf M, fun c => absurd c (by decide : ¬ okA (-3))⟩
theorem iw_tak (hI : IW W) (li : Int32) : IW (cg_tak W li).2 := by
  by_cases hk : ∃ k, k < 40 ∧ li = nI k
  case neg =>
    have e : cg_tak W li = (-1, W) := if_pos (fun c => hk (kn_iff.mp c))
    rw [e]
    exact hI
  case pos =>
  obtain ⟨l, hl, rfl⟩ := hk
  obtain ⟨Z, a, hZ, ha, h2, h8, haZ⟩ := hI.zn
  obtain ⟨B, R, e1, e2, e3, e4, e5, e6, e7⟩ := hI.bag
  rw [cg_takN hl ha e1 e2 e3 e4]
  by_cases q : W 19 l = 1 ∧ W 21 l / 12 = nI a
  · rw [if_neg (fun c => c q)]
    by_cases q2 : B < R
    · rw [if_neg (fun c => c q2)]
      exact hI.u_pack hl (by rw [q.1]; decide) e1 e2 e4 q2
    · rw [if_pos q2]
      exact hI
  · rw [if_pos q]
    exact hI
theorem cg_dropN {l : Nat} (hl : l < 40) : cg_drop W (nI l) = if W 19 l = 0 then (-5, W) else (W 19 l, az_up (az_up (cg_unp W (nI l)) 19 l 0) 23 l 0) := by
  unfold cg_drop cg_forget
  rw [if_neg (fun c => c (kn_iff.mpr ⟨l, hl, rfl⟩)), az_rdN hl (by decide), az_wrN hl (by decide), az_wrN hl (by decide)]
theorem ex_drops (d : Nat) (hR : RR W (M 193)) (hI : IW W) (li : Int32) : AC (d + 3) m_X9_drops [.ref 192, .int li] M (cg_drop W li).1 (cg_drop W li).2 := by
  by_cases hk : ∃ k, k < 40 ∧ li = nI k
  case neg =>
    have e : cg_drop W li = (-1, W) := if_pos (fun c => hk (kn_iff.mp c))
    rw [e]
    refine AC.of (az_in0 (code := k_X9_drops) (ls := [some (.ref 192), some (.int li), none]) rfl rfl rfl ?_)
    refine az_sgp rfl rfl rfl rfl ?_
    refine az_cav rfl rfl rfl rfl ((ex_isLoad d li).2 hk) ?_
    (with_reducible apply az_ifneF); rfl
    refine az_sgp rfl rfl rfl rfl ?_
    refine az_ret rfl rfl rfl rfl ?_
    exact ⟨M, rfl, rfl, fr1.rf M, fun _ => hR⟩
  case pos =>
  obtain ⟨l, hl, rfl⟩ := hk
  rw [cg_dropN hl]
  have step : ∀ (X M2 : az_Mem), fr1 M M2 → RR X (M2 193) → az_RUN (d + 2) k_X9_drops 37 [some (.ref 192), some (.int (nI l)), some (.int (W 19 l))] [] (az_hp M2) (QA (az_up (az_up X 19 l 0) 23 l 0) (W 19 l) M) := by
    intro X M2 hf hr
    refine az_sgp rfl rfl rfl rfl ?_
    refine az_can rfl rfl rfl rfl (ex_loadIs (d + 1) (w := 0) rfl rfl (by omega)) ?_
    refine az_sgp rfl rfl rfl rfl ?_
    refine az_can rfl rfl rfl rfl (ex_loadIs (d + 1) (w := 3) rfl rfl (by omega)) ?_
    refine az_sgp rfl rfl rfl rfl ?_
    refine az_ret rfl rfl rfl rfl ?_
    exact ⟨_, rfl, rfl, (hf.up _ _).up _ _, fun _ => (hr.m_lw hl 0).m_lh hl 0⟩
  refine AC.of (az_in0 (code := k_X9_drops) (ls := [some (.ref 192), some (.int (nI l)), none]) rfl rfl rfl ?_)
  refine az_sgp rfl rfl rfl rfl ?_
  refine az_cav rfl rfl rfl rfl ((ex_isLoad d (nI l)).1 ⟨l, hl, rfl⟩) ?_
  (with_reducible apply az_ifneT); rfl
  refine az_sgp rfl rfl rfl rfl ?_
  refine az_cav rfl rfl rfl rfl (ex_ofLoad (d + 1) (z := l) (w := 0) rfl rfl (by omega) (hR.lw l hl)) ?_
  refine az_sgp rfl rfl rfl rfl ?_
  refine az_bra rfl rfl rfl (fun q => ?_) (fun q => ?_)
  · rw [if_pos q]
    refine az_sgp rfl rfl rfl rfl ?_
    refine az_ret rfl rfl rfl rfl ?_
    exact ⟨M, rfl, rfl, fr1.rf M, fun _ => hR⟩
  rw [if_neg q]
  refine az_sgp rfl rfl rfl rfl ?_
  refine az_bra rfl rfl rfl (fun q2 => ?_) (fun q2 => ?_)
  · obtain ⟨B, R, k, e1, f2, f3, f4, f5, f6, f7⟩ := hI.bagl hl q2
    rw [cg_unpN e1 f5 (by omega) f6 f7]
    refine az_sgp rfl rfl rfl rfl ?_
    refine az_cav rfl rfl rfl rfl (ex_placeInBag (d + 1) hR (nI l) e1 (by omega)) ?_
    refine az_can rfl rfl rfl rfl (ex_unbag (d + 1) hR (az_findN f5 f6 f7) e1 f5 (by omega)) ?_
    refine step _ _ ?_ (hR.ub f5 (by omega))
    refine fr1.tr (M' := rg_sh M k (B - 1)) (fun c h1 => ?_) ((fr1.rf _).up _ _)
    funext j
    simp [rg_sh, h1]
  · rw [hI.bagn hl q2]
    exact step W M (fr1.rf M) hR
theorem iw_drop (hI : IW W) (li : Int32) : IW (cg_drop W li).2 := by
  by_cases hk : ∃ k, k < 40 ∧ li = nI k
  case neg =>
    have e : cg_drop W li = (-1, W) := if_pos (fun c => hk (kn_iff.mp c))
    rw [e]
    exact hI
  case pos =>
  obtain ⟨l, hl, rfl⟩ := hk
  rw [cg_dropN hl]
  by_cases q : W 19 l = 0
  · rw [if_pos q]
    exact hI
  rw [if_neg q]
  refine IW.u_heat (x := 0) ?_ (by omega)
  by_cases q2 : W 19 l = 2
  · obtain ⟨B, R, k, e1, f2, f3, f4, f5, f6, f7⟩ := hI.bagl hl q2
    rw [cg_unpN e1 f5 (by omega) f6 f7]
    exact hI.u_ub hl e1 f5 f6 (by decide) (by omega)
  · rw [hI.bagn hl q2]
    exact hI.u_place hl q2 (by decide)
end REFC
