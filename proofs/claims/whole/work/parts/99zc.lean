/-! CLASS AND REFERENCE: questions: count -/
section QCO
variable {M N W : az_Mem} {a : Int32}
def sumN (f : Nat → Nat) : Nat → Nat
  | 0 => 0
  | n + 1 => sumN f n + f n
theorem cg_smW_sum {P : Nat → Nat} {Z : Nat} (h8 : Z ≤ 8) (hP : ∀ z, z < 8 → M 4 z = nI (P z) ∧ P z ≤ 12) : ∀ (m i : Nat), i + m = Z → cg_smW M m i (nI (sumN P i)) = nI (sumN P Z) := by
  intro m
  induction m with
  | zero =>
    intro i hs
    have ei : i = Z := by omega
    subst ei
    rfl
  | succ m ih =>
    intro i hs
    show cg_smW M m (i + 1) (nI (sumN P i) + az_rd (M 4) 8 (nI i)) = _
    rw [az_rdN (by omega) (by decide), (hP i (by omega)).1, nI_add]
    exact ih (i + 1) (by omega)
theorem cg_smL_sum {P : Nat → Nat} {Z : Nat} : ∀ (m i : Nat), i + m = Z → cg_smL M P m i (nI (sumN (fun z => cg_cl M (nI z) (P z)) i)) = nI (sumN (fun z => cg_cl M (nI z) (P z)) Z) := by
  intro m
  induction m with
  | zero =>
    intro i hs
    have ei : i = Z := by omega
    subst ei
    rfl
  | succ m ih =>
    intro i hs
    show cg_smL M P m (i + 1) (nI (sumN (fun z => cg_cl M (nI z) (P z)) i) + nI (cg_cl M (nI i) (P i))) = _
    rw [nI_add]
    exact ih (i + 1) (by omega)
theorem sumN_sub {f g : Nat → Nat} (h : ∀ z, g z ≤ f z) : ∀ n, sumN f n = sumN g n + sumN (fun z => f z - g z) n := by
  intro n
  induction n with
  | zero => rfl
  | succ n ih =>
    show sumN f n + f n = (sumN g n + g n) + (sumN (fun z => f z - g z) n + (f n - g n))
    have := h n
    omega
theorem sumN_mul (S : Nat) {P : Nat → Nat} : ∀ n, (∀ z, z < n → P z ≤ S) → n * S = sumN P n + sumN (fun z => S - P z) n := by
  intro n
  induction n with
  | zero => intro _; rw [Nat.zero_mul]; rfl
  | succ n ih =>
    intro h
    show (n + 1) * S = (sumN P n + P n) + (sumN (fun z => S - P z) n + (S - P n))
    have := ih (fun z hz => h z (by omega))
    have := h n (by omega)
    rw [Nat.succ_mul]
    omega
theorem ex_sum (d : Nat) (hR : RR W (M 193)) (hI : IW W) {Z S : Nat} {P : Nat → Nat} (w : Int32) (hZ : W 2 0 = nI Z) (h8 : Z ≤ 8) (hS : W 2 1 = nI S) (h12 : S ≤ 12) (hP : ∀ z, z < 8 → W 4 z = nI (P z) ∧ P z ≤ S) : az_EX (d + 4) m_X9_sum [.ref 192, .int w] (az_hp M) (some (.int (if w = 2 then nI (sumN (fun z => cg_cl W (nI z) (P z)) Z) else if w = 3 then nI (sumN (fun z => P z - cg_cl W (nI z) (P z)) Z) else if w = 4 then nI (sumN (fun z => S - P z) Z) else nI (cg_nz W 8 Z)))) (az_hp M) := by
  have live : ∀ z, z < 8 → az_EX (d + 3) m_X9_live [.ref 192, .int (nI z)] (az_hp M) (some (.int (nI (cg_cl W (nI z) (P z))))) (az_hp M) := fun z hz =>
    ex_live d hR hI rfl hz hS h12 (hP z hz).1 (hP z hz).2
  have ptr : ∀ z, z < 8 → az_EX (d + 3) m_X9_ofZone [.ref 192, .int (nI z), .int 0] (az_hp M) (some (.int (nI (P z)))) (az_hp M) := fun z hz =>
    ex_ofZone (d + 2) (z := z) (w := 0) rfl rfl (by omega) ((hR.zp z hz).trans (hP z hz).1)
  have K : ∀ (F : Nat → Nat), (∀ (z x : Nat), z < 8 → az_RUN (d + 3) k_X9_sum 75 [some (.ref 192), some (.int w), some (.int (nI x)), some (.int (nI z))] [.int (nI (F z)), .int (nI x)] (az_hp M) = az_RUN (d + 3) k_X9_sum 75 [some (.ref 192), some (.int w), some (.int (nI x)), some (.int (nI z))] [.int (nI (F z)), .int (nI x)] (az_hp M)) → (∀ (z x : Nat) (Q : Option Value → az_H → Prop), z < 8 → az_RUN (d + 3) k_X9_sum 75 [some (.ref 192), some (.int w), some (.int (nI x)), some (.int (nI z))] [.int (nI (F z)), .int (nI x)] (az_hp M) Q → az_RUN (d + 3) k_X9_sum 14 [some (.ref 192), some (.int w), some (.int (nI x)), some (.int (nI z))] [] (az_hp M) Q) → ∀ (m i : Nat), i + m = Z → az_RUN (d + 3) k_X9_sum 4 [some (.ref 192), some (.int w), some (.int (nI (sumN F i))), some (.int (nI i))] [] (az_hp M) (fun r1 h1 => r1 = some (.int (nI (sumN F Z))) ∧ h1 = az_hp M) := by
    intro F _ hF m
    induction m with
    | zero =>
      intro i hs
      have ei : i = Z := by omega
      subst ei
      refine az_sgp rfl rfl rfl rfl ?_
      refine az_ald rfl rfl (k := 0) rfl (by decide) (by decide) (hR.zones.trans hZ) ?_
      refine az_bra rfl rfl rfl (fun q => ?_) (fun q => ?_)
      · refine az_sgp rfl rfl rfl rfl ?_
        refine az_ret rfl rfl rfl rfl ?_
        exact ⟨rfl, rfl⟩
      · exact absurd (nI_le (by omega) (by omega)) q
    | succ m ih =>
      intro i hs
      refine az_sgp rfl rfl rfl rfl ?_
      refine az_ald rfl rfl (k := 0) rfl (by decide) (by decide) (hR.zones.trans hZ) ?_
      refine az_bra rfl rfl rfl (fun q => ?_) (fun q => ?_)
      · exact absurd q (nI_ge (by omega) (by omega))
      refine hF i (sumN F i) _ (by omega) ?_
      refine az_sg 4 rfl ?_
      rw [nI_add, nI_1]
      exact ih (i + 1) (by omega)
  have enz : ∀ n, n ≤ 8 → sumN (fun z => if W 8 z = 0 then 0 else 1) n = cg_nz W 8 n := by
    intro n
    induction n with
    | zero => intro _; rfl
    | succ n ih =>
      intro hn
      show sumN _ n + (if W 8 n = 0 then 0 else 1) = cg_nz W 8 n + (if decide (W 8 n ≠ 0) = true then 1 else 0)
      rw [ih (by omega)]
      by_cases c : W 8 n = 0 <;> simp [c]
  refine az_EX.of (az_in0 (code := k_X9_sum) (ls := [some (.ref 192), some (.int w), none, none]) rfl rfl rfl ?_)
  refine az_sg 4 rfl ?_
  by_cases w2 : w = 2
  · subst w2
    rw [if_pos rfl]
    refine K (fun z => cg_cl W (nI z) (P z)) (fun _ _ _ => rfl) (fun z x Q hz k => ?_) Z 0 (by omega)
    refine az_sgp rfl rfl rfl rfl ?_
    refine az_bra rfl rfl rfl (fun _ => ?_) (fun q => absurd rfl q)
    refine az_sgp rfl rfl rfl rfl ?_
    refine az_cav rfl rfl rfl rfl (live z hz) ?_
    refine az_sg 1 rfl ?_
    exact k
  rw [if_neg w2]
  by_cases w3 : w = 3
  · subst w3
    rw [if_pos rfl]
    refine K (fun z => P z - cg_cl W (nI z) (P z)) (fun _ _ _ => rfl) (fun z x Q hz k => ?_) Z 0 (by omega)
    refine az_sgp rfl rfl rfl rfl ?_
    refine az_bra rfl rfl rfl (fun q => absurd q (by decide)) (fun _ => ?_)
    refine az_sgp rfl rfl rfl rfl ?_
    refine az_bra rfl rfl rfl (fun _ => ?_) (fun q => absurd rfl q)
    refine az_sgp rfl rfl rfl rfl ?_
    refine az_cav rfl rfl rfl rfl (ptr z hz) ?_
    refine az_sgp rfl rfl rfl rfl ?_
    refine az_cav rfl rfl rfl rfl (live z hz) ?_
    refine az_sg 2 rfl ?_
    rw [nI_sub (show cg_cl W (nI z) (P z) ≤ P z from az_cnt_le _ _)]
    exact k
  rw [if_neg w3]
  by_cases w4 : w = 4
  · subst w4
    rw [if_pos rfl]
    refine K (fun z => S - P z) (fun _ _ _ => rfl) (fun z x Q hz k => ?_) Z 0 (by omega)
    refine az_sgp rfl rfl rfl rfl ?_
    refine az_bra rfl rfl rfl (fun q => absurd q (by decide)) (fun _ => ?_)
    refine az_sgp rfl rfl rfl rfl ?_
    refine az_bra rfl rfl rfl (fun q => absurd q (by decide)) (fun _ => ?_)
    refine az_sgp rfl rfl rfl rfl ?_
    refine az_bra rfl rfl rfl (fun _ => ?_) (fun q => absurd rfl q)
    refine az_sgp rfl rfl rfl rfl ?_
    refine az_ald rfl rfl (k := 1) rfl (by decide) (by decide) (hR.slots.trans hS) ?_
    refine az_sgp rfl rfl rfl rfl ?_
    refine az_cav rfl rfl rfl rfl (ptr z hz) ?_
    refine az_sg 2 rfl ?_
    rw [nI_sub (hP z hz).2]
    exact k
  rw [if_neg w4, ← enz Z h8]
  refine K (fun z => if W 8 z = 0 then 0 else 1) (fun _ _ _ => rfl) (fun z x Q hz k => ?_) Z 0 (by omega)
  refine az_sgp rfl rfl rfl rfl ?_
  refine az_bra rfl rfl rfl (fun q => absurd q w2) (fun _ => ?_)
  refine az_sgp rfl rfl rfl rfl ?_
  refine az_bra rfl rfl rfl (fun q => absurd q w3) (fun _ => ?_)
  refine az_sgp rfl rfl rfl rfl ?_
  refine az_bra rfl rfl rfl (fun q => absurd q w4) (fun _ => ?_)
  refine az_sgp rfl rfl rfl rfl ?_
  refine az_cav rfl rfl rfl rfl (ex_ofZone (d + 2) (z := z) (w := 1) rfl rfl (by omega) (x := nI (if W 8 z = 0 then 0 else 1)) ?_) ?_
  · refine (hR.zs z hz).trans ?_
    rcases hI.sld z hz with c | c <;> rw [c] <;> rfl
  exact k
theorem ex_hot (d : Nat) (hR : RR W (M 193)) : az_EX (d + 2) m_X9_hot [.ref 192] (az_hp M) (some (.int (nI (cg_hc W 40)))) (az_hp M) := by
  have K : ∀ (m i : Nat), i + m = 40 → az_RUN (d + 1) k_X9_hot 4 [some (.ref 192), some (.int (nI (cg_hc W i))), some (.int (nI i))] [] (az_hp M) (fun r1 h1 => r1 = some (.int (nI (cg_hc W 40))) ∧ h1 = az_hp M) := by
    intro m
    induction m with
    | zero =>
      intro i hs
      have ei : i = 40 := by omega
      subst ei
      refine az_sgp rfl rfl rfl rfl ?_
      refine az_bra rfl rfl rfl (fun q => ?_) (fun q => ?_)
      · refine az_sgp rfl rfl rfl rfl ?_
        refine az_ret rfl rfl rfl rfl ?_
        exact ⟨rfl, rfl⟩
      · exact absurd (nI_le (a := 40) (b := 40) (by omega) (by omega)) q
    | succ m ih =>
      intro i hs
      have ec := cg_hcS W i
      refine az_sgp rfl rfl rfl rfl ?_
      refine az_bra rfl rfl rfl (fun q => ?_) (fun q => ?_)
      · exact absurd q (nI_ge (a := i) (b := 40) (by omega) (by omega))
      refine az_sgp rfl rfl rfl rfl ?_
      refine az_cav rfl rfl rfl rfl (ex_ofLoad d (z := i) (w := 3) rfl rfl (by omega) (hR.lh i (by omega))) ?_
      refine az_sgp rfl rfl rfl rfl ?_
      refine az_ald rfl rfl (k := 6) rfl (by decide) (by decide) hR.bound ?_
      refine az_bra rfl rfl rfl (fun q => ?_) (fun q => ?_)
      · rw [if_neg (by simp [Int32.not_le.mpr q])] at ec
        refine az_sg 5 rfl ?_
        rw [show nI (cg_hc W i) + 0 = nI (cg_hc W (i + 1)) by rw [ec]; exact nI_add _ 0, nI_1]
        exact ih (i + 1) (by omega)
      · rw [if_pos (by simp [Int32.not_lt.mp q])] at ec
        refine az_sg 6 rfl ?_
        rw [show nI (cg_hc W i) + 1 = nI (cg_hc W (i + 1)) by rw [ec]; exact nI_add _ 1, nI_1]
        exact ih (i + 1) (by omega)
  refine az_EX.of (az_in0 (code := k_X9_hot) (ls := [some (.ref 192), none, none]) rfl rfl rfl ?_)
  refine az_sg 4 rfl ?_
  exact K 40 0 (by omega)
theorem pair_count (hM : INV M) (w : Int32) : PAIR M m_X8_count m_X9_count [.int w] := by
  have hR : RR M (az_up M 192 0 0 193) := hM.1
  have hI := hM.2.1
  obtain ⟨L, n, hH⟩ := hM.2.2.2.1
  obtain ⟨t, ht, t1, t2, t3⟩ := hM.2.2.2.2
  obtain ⟨Z, za, hZ, ha, h2, h8, haZ⟩ := hI.zn
  obtain ⟨P, hP⟩ := hI.pts
  obtain ⟨S, hS, hS2, hS12, hSP⟩ := hI.sl
  have hPS : ∀ z, z < 8 → P z ≤ S := by
    intro z hz
    obtain ⟨p, e1, e2, e3⟩ := hSP z hz
    have e := hP z hz
    rw [e1, nI_eq (by omega) (by omega)] at e
    omega
  have hcl : ∀ z, cg_cl M (nI z) (P z) ≤ P z := fun z => az_cnt_le _ _
  have sW0 : cg_smW M Z 0 0 = nI (sumN P Z) := cg_smW_sum h8 hP Z 0 (by omega)
  have sL0 : cg_smL M P Z 0 0 = nI (sumN (fun z => cg_cl M (nI z) (P z)) Z) := cg_smL_sum Z 0 (by omega)
  have s3 : cg_smW M Z 0 0 - cg_smL M P Z 0 0 = nI (sumN (fun z => P z - cg_cl M (nI z) (P z)) Z) := by
    rw [sW0, sL0, sumN_sub hcl Z, nI_sub (by omega), Nat.add_sub_cancel_left]
  have s4 : M 2 0 * M 2 1 - cg_smW M Z 0 0 = nI (sumN (fun z => S - P z) Z) := by
    rw [sW0, hZ, hS, nI_mul, sumN_mul S Z (fun z hz => hPS z (by omega)), nI_sub (by omega), Nat.add_sub_cancel_left]
  have hof := fun d => ec_ofAll (M := M) d w (Z := Z) (P := P) hZ h8 (fun i hi => ⟨by rw [az_rdN (by omega) (by decide)]; exact (hP i (by omega)).1, (hP i (by omega)).2⟩)
  refine pair_qry hM (ec8_count 1 (fun _ _ => hof 1)) ?_
  have sm := ex_sum (M := az_up M 192 0 0) (W := M) 3 hR hI w hZ h8 hS hS12 (fun z hz => ⟨(hP z hz).1, hPS z hz⟩)
  unfold cg_all
  rw [sL0, s4] at *
  rw [sL0] at s3
  rw [s3]
  refine az_EX.of (az_in0 (code := k_X9_count) (ls := [some (.ref 192), some (.int w)]) rfl rfl rfl ?_)
  refine az_sgp rfl rfl rfl rfl ?_
  refine az_swi rfl rfl rfl ?_
  by_cases h0_ : w = 0
  · subst h0_
    refine az_sgp rfl rfl rfl rfl ?_
    refine az_ald rfl rfl (k := 0) rfl (by decide) (by decide) hR.zones ?_
    refine az_ret rfl rfl rfl rfl ?_
    exact ⟨rfl, rfl⟩
  by_cases h1_ : w = 1
  · subst h1_
    refine az_sgp rfl rfl rfl rfl ?_
    refine az_ald rfl rfl (k := 1) rfl (by decide) (by decide) hR.slots ?_
    refine az_ret rfl rfl rfl rfl ?_
    exact ⟨rfl, rfl⟩
  by_cases h2_ : w = 2
  · subst h2_
    refine az_sgp rfl rfl rfl rfl ?_
    refine az_cav rfl rfl rfl rfl (sm) ?_
    refine az_ret rfl rfl rfl rfl ?_
    exact ⟨rfl, rfl⟩
  by_cases h3_ : w = 3
  · subst h3_
    refine az_sgp rfl rfl rfl rfl ?_
    refine az_cav rfl rfl rfl rfl (sm) ?_
    refine az_ret rfl rfl rfl rfl ?_
    exact ⟨rfl, rfl⟩
  by_cases h4_ : w = 4
  · subst h4_
    refine az_sgp rfl rfl rfl rfl ?_
    refine az_cav rfl rfl rfl rfl (sm) ?_
    refine az_ret rfl rfl rfl rfl ?_
    exact ⟨rfl, rfl⟩
  by_cases h5_ : w = 5
  · subst h5_
    refine az_sgp rfl rfl rfl rfl ?_
    refine az_cav rfl rfl rfl rfl (sm) ?_
    refine az_ret rfl rfl rfl rfl ?_
    exact ⟨rfl, rfl⟩
  by_cases h6_ : w = 6
  · subst h6_
    refine az_sgp rfl rfl rfl rfl ?_
    refine az_cav rfl rfl rfl rfl (ex_hot 5 hR) ?_
    refine az_ret rfl rfl rfl rfl ?_
    rw [cg_hotC M]
    exact ⟨rfl, rfl⟩
  by_cases h7_ : w = 7
  · subst h7_
    refine az_sgp rfl rfl rfl rfl ?_
    refine az_ald rfl rfl (k := 6) rfl (by decide) (by decide) hR.bound ?_
    refine az_ret rfl rfl rfl rfl ?_
    exact ⟨rfl, rfl⟩
  by_cases h8_ : w = 8
  · subst h8_
    refine az_sgp rfl rfl rfl rfl ?_
    refine az_ald rfl rfl (k := 7) rfl (by decide) (by decide) hR.mark ?_
    refine az_ret rfl rfl rfl rfl ?_
    exact ⟨rfl, rfl⟩
  by_cases h9_ : w = 9
  · subst h9_
    refine az_sgp rfl rfl rfl rfl ?_
    refine az_ald rfl rfl (k := 10) rfl (by decide) (by decide) hR.resets ?_
    refine az_ret rfl rfl rfl rfl ?_
    exact ⟨rfl, rfl⟩
  by_cases h10_ : w = 10
  · subst h10_
    refine az_sgp rfl rfl rfl rfl ?_
    refine az_cav rfl rfl rfl rfl (ex_wells 5 hR hI.well hZ h8) ?_
    refine az_ret rfl rfl rfl rfl ?_
    exact ⟨rfl, rfl⟩
  by_cases h11_ : w = 11
  · subst h11_
    refine az_sgp rfl rfl rfl rfl ?_
    refine az_ald rfl rfl (k := 11) rfl (by decide) (by decide) hR.moved ?_
    refine az_ret rfl rfl rfl rfl ?_
    exact ⟨rfl, rfl⟩
  by_cases h12_ : w = 12
  · subst h12_
    refine az_sgp rfl rfl rfl rfl ?_
    refine az_ret rfl rfl rfl rfl ?_
    refine ⟨?_, rfl⟩
    show some (Value.int (M 192 6)) = some (Value.int (M 79 2))
    rw [hH.2.2.2.1, hH.2.2.2.2.1]
  by_cases h13_ : w = 13
  · subst h13_
    refine az_sgp rfl rfl rfl rfl ?_
    refine az_ret rfl rfl rfl rfl ?_
    refine ⟨?_, rfl⟩
    show some (Value.int (M 192 8)) = some (Value.int (M 185 1))
    rw [t1, t2]
  simp only [az_swt, h0_, h1_, h2_, h3_, h4_, h5_, h6_, h7_, h8_, h9_, h10_, h11_, h12_, h13_, decide_false, cond_false]
  refine az_sgp rfl rfl rfl rfl ?_
  refine az_ret rfl rfl rfl rfl ?_
  simp only [h0_, h1_, h2_, h3_, h4_, h5_, h6_, h7_, h8_, h9_, h10_, h11_, h12_, h13_, if_false, and_self]
end QCO
