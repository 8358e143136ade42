/-! REFERENCE, ACTS: write, take, put, drop -/
section REFB
variable {M W : az_Mem}
theorem kn_iff {l : Int32} : cg_known l ↔ ∃ k, k < 40 ∧ l = nI k := ix_iff (m := 40) (n := 40) rfl (by decide)
def cg_hb (h : Nat) : Nat := if h < 99 then h + 1 else 99
theorem cg_warmN {l h : Nat} (hl : l < 40) (e : W 23 l = nI h) (h99 : h ≤ 99) : cg_warm W (nI l) = az_up W 23 l (nI (cg_hb h)) := by
  unfold cg_warm cg_hb
  rw [az_rdN hl (by decide), az_wrN hl (by decide), e, nI_1]
  by_cases q : h < 99
  · rw [if_pos q, if_neg (show ¬ (99 : Int32) < nI (h + 1) from nI_nlt (a := 99) (b := h + 1) (by omega) (by decide))]
  · rw [if_neg q, show h = 99 by omega, if_pos (by decide)]
    rfl
theorem cg_writeN {l h a p : Nat} (hl : l < 40) (e : W 23 l = nI h) (h99 : h ≤ 99) (ha : W 24 0 = nI a) (ha8 : a < 8) (hp : W 4 a = nI p) :
    cg_write W (nI l) = if W 19 l = 2 then (-4, az_up W 23 l (nI (cg_hb h))) else if ¬ cg_adm W (nI a) (if W 17 0 ≤ nI (cg_hb h) then 1 else 0) then (-4, az_up W 23 l (nI (cg_hb h))) else if ¬ 1 ≤ W 24 1 then (-6, az_up W 23 l (nI (cg_hb h))) else (nI p, cg_cm (az_up (cg_pay W 1) 23 l (nI (cg_hb h))) (nI l)) := by
  have hk : cg_known (nI l) := kn_iff.mpr ⟨l, hl, rfl⟩
  unfold cg_write
  rw [if_neg (fun c => c hk), cg_warmN hl e h99]
  have e1 : az_rd (az_up W 23 l (nI (cg_hb h)) 19) 40 (nI l) = W 19 l := by rw [az_rdN hl (by decide)]; rfl
  have e2 : (cg_may (az_up W 23 l (nI (cg_hb h))) (nI l) (az_up W 23 l (nI (cg_hb h)) 24 0)) = cg_adm W (nI a) (if W 17 0 ≤ nI (cg_hb h) then 1 else 0) := by
    unfold cg_may
    rw [az_rdN hl (by decide), az_up_same, show az_up W 23 l (nI (cg_hb h)) 24 0 = nI a from ha]
    rfl
  rw [e1]
  by_cases q : W 19 l = 2
  · rw [if_pos q, if_pos q]
  · rw [if_neg q, if_neg q]
    have e3 : cg_wh1 (az_up W 23 l (nI (cg_hb h))) (nI l) = az_up (cg_pay W 1) 23 l (nI (cg_hb h)) := by
      unfold cg_wh1
      rw [e1, if_neg q]
      unfold cg_pay
      rw [az_up_comm (a := 23) (b := 24) (Or.inl (by decide)), az_up_comm (a := 23) (b := 24) (Or.inl (by decide))]
      rfl
    have e4 : cg_wh (az_up W 23 l (nI (cg_hb h))) (nI l) = cg_cm (az_up (cg_pay W 1) 23 l (nI (cg_hb h))) (nI l) := by
      unfold cg_wh
      rw [e3]
      rfl
    rw [e3, e4]
    have e5 : az_rd (az_up (cg_pay W 1) 23 l (nI (cg_hb h)) 4) 8 (az_up (cg_pay W 1) 23 l (nI (cg_hb h)) 24 0) = nI p := by
      rw [show az_up (cg_pay W 1) 23 l (nI (cg_hb h)) 24 0 = nI a from ha, az_rdN ha8 (by decide)]
      exact hp
    rw [e5]
    simp only [e2]
    rfl
theorem ex_writes (d : Nat) (hR : RR W (M 193)) (hI : IW W) (li : Int32) : AC (d + 3) m_X9_writes [.ref 192, .int li] M (cg_write W li).1 (cg_write W li).2 := by
  by_cases hk : ∃ k, k < 40 ∧ li = nI k
  case neg =>
    have e : cg_write W li = (-1, W) := if_pos (fun c => hk (kn_iff.mp c))
    rw [e]
    refine AC.of (az_in0 (code := k_X9_writes) (ls := [some (.ref 192), some (.int li), none]) rfl rfl rfl ?_)
    refine az_sgp rfl rfl rfl rfl ?_
    refine az_cav rfl rfl rfl rfl ((ex_isLoad d li).2 hk) ?_
    (with_reducible apply az_ifneF); rfl
    refine az_sgp rfl rfl rfl rfl ?_
    refine az_ret rfl rfl rfl rfl ?_
    exact ⟨M, rfl, rfl, fr1.rf M, fun _ => hR⟩
  case pos =>
  obtain ⟨l, hl, rfl⟩ := hk
  obtain ⟨Z, a, S, p, hZ, ha, h2, h8, haZ, ha8, hS, h2S, h12, hp, hpS, hps⟩ := hI.pt
  obtain ⟨h, h99, eh⟩ := hI.heat l hl
  rw [cg_writeN hl eh h99 ha ha8 hp]
  have kh := ex_ofLoad (d + 1) (M := M) (z := l) (w := 3) rfl rfl (by omega) ((hR.lh l hl).trans eh)
  have step : az_RUN (d + 2) k_X9_writes 33 [some (.ref 192), some (.int (nI l)), none] [.int (nI (cg_hb h))] (az_hp M) (QA (if W 19 l = 2 then ((-4 : Int32), az_up W 23 l (nI (cg_hb h))) else if ¬ cg_adm W (nI a) (if W 17 0 ≤ nI (cg_hb h) then 1 else 0) then (-4, az_up W 23 l (nI (cg_hb h))) else if ¬ 1 ≤ W 24 1 then (-6, az_up W 23 l (nI (cg_hb h))) else (nI p, cg_cm (az_up (cg_pay W 1) 23 l (nI (cg_hb h))) (nI l))).2 (if W 19 l = 2 then ((-4 : Int32), az_up W 23 l (nI (cg_hb h))) else if ¬ cg_adm W (nI a) (if W 17 0 ≤ nI (cg_hb h) then 1 else 0) then (-4, az_up W 23 l (nI (cg_hb h))) else if ¬ 1 ≤ W 24 1 then (-6, az_up W 23 l (nI (cg_hb h))) else (nI p, cg_cm (az_up (cg_pay W 1) 23 l (nI (cg_hb h))) (nI l))).1 M) := by
    refine az_sgp rfl rfl rfl rfl ?_
    refine az_cav rfl rfl rfl rfl (ex_ofLoad (d + 1) (z := l) (w := 0) rfl rfl (by omega) (hR.lw l hl)) ?_
    refine az_sgp rfl rfl rfl rfl ?_
    refine az_bra rfl rfl rfl (fun q => ?_) (fun q => ?_)
    · rw [if_pos q]
      refine az_sgp rfl rfl rfl rfl ?_
      refine az_ret rfl rfl rfl rfl ?_
      exact ⟨M, rfl, rfl, fr1.rf M, fun c => absurd c (by decide : ¬ okA (-4))⟩
    rw [if_neg q]
    refine az_sgp rfl rfl rfl rfl ?_
    refine az_ald rfl rfl (k := 2) rfl (by decide) (by decide) (hR.at_.trans ha) ?_
    refine az_sgp rfl rfl rfl rfl ?_
    refine az_ca2 rfl rfl rfl rfl (ex_mayBe d hR rfl ha8 _) (fun q2 => ?_) (fun q2 => ?_)
    · (with_reducible apply az_ifneT); rfl
      rw [if_neg (fun c => c q2)]
      refine az_sgp rfl rfl rfl rfl ?_
      refine az_ca2 rfl rfl rfl rfl (ex_uses (d + 1) hR 1) (fun q3 => ?_) (fun q3 => ?_)
      · (with_reducible apply az_ifneT); rfl
        rw [if_neg (fun c => c q3)]
        have r1 := (hR.uses 1).m_lh hl (nI (cg_hb h))
        obtain ⟨M', hf, hr, hE⟩ := ex_comes d r1 (a := a) (S := S) (p := p) (li := nI l) ha ha8 hS h12 hp (hps (by have := q2.1; rw [az_rdN ha8 (by decide)] at this; exact this)) rfl hl
        refine az_sgp rfl rfl rfl rfl ?_
        refine az_can rfl rfl rfl rfl (ex_loadIs (d + 1) (w := 3) rfl rfl (by omega)) ?_
        refine az_sgp rfl rfl rfl rfl ?_
        refine az_cav rfl rfl rfl rfl hE ?_
        refine az_ret rfl rfl rfl rfl ?_
        exact ⟨M', rfl, rfl, ((((fr1.rf M).up _ _).up _ _).up _ _).tr hf, fun _ => hr⟩
      · (with_reducible apply az_ifneF); rfl
        rw [if_pos q3]
        refine az_sgp rfl rfl rfl rfl ?_
        refine az_ret rfl rfl rfl rfl ?_
        exact ⟨M, rfl, rfl, fr1.rf M, fun c => absurd c (by decide : ¬ okA (-6))⟩
    · (with_reducible apply az_ifneF); rfl
      rw [if_pos q2]
      refine az_sgp rfl rfl rfl rfl ?_
      refine az_ret rfl rfl rfl rfl ?_
      exact ⟨M, rfl, rfl, fr1.rf M, fun c => absurd c (by decide : ¬ okA (-4))⟩
  refine AC.of (az_in0 (code := k_X9_writes) (ls := [some (.ref 192), some (.int (nI l)), none]) rfl rfl rfl ?_)
  refine az_sgp rfl rfl rfl rfl ?_
  refine az_cav rfl rfl rfl rfl ((ex_isLoad d (nI l)).1 ⟨l, hl, rfl⟩) ?_
  (with_reducible apply az_ifneT); rfl
  refine az_sgp rfl rfl rfl rfl ?_
  refine az_cav rfl rfl rfl rfl kh ?_
  refine az_sgp rfl rfl rfl rfl ?_
  refine az_bra rfl rfl rfl (fun q => ?_) (fun q => ?_)
  · have e : cg_hb h = 99 := if_neg (fun c => nI_ge (b := 99) (a := h) c (by decide) q)
    rw [e] at step ⊢
    refine az_sg 1 rfl ?_
    exact step
  · have e : cg_hb h = h + 1 := by
      have : h < 99 := by
        by_cases c : h < 99
        · exact c
        · exact absurd (nI_le (a := 99) (b := h) (by omega) (by omega)) q
      exact if_pos this
    rw [e] at step ⊢
    refine az_sgp rfl rfl rfl rfl ?_
    refine az_cav rfl rfl rfl rfl kh ?_
    refine az_sg 3 rfl ?_
    rw [nI_1]
    exact step
theorem iw_write (hI : IW W) (li : Int32) (ho : okA (cg_write W li).1) : IW (cg_write W li).2 := by
  by_cases hk : ∃ k, k < 40 ∧ li = nI k
  case neg =>
    have e : cg_write W li = (-1, W) := if_pos (fun c => hk (kn_iff.mp c))
    rw [e]
    exact hI
  case pos =>
  obtain ⟨l, hl, rfl⟩ := hk
  obtain ⟨Z, a, S, p, hZ, ha, h2, h8, haZ, ha8, hS, h2S, h12, hp, hpS, hps⟩ := hI.pt
  obtain ⟨h, h99, eh⟩ := hI.heat l hl
  rw [cg_writeN hl eh h99 ha ha8 hp] at ho ⊢
  have hh : cg_hb h ≤ 99 := by
    unfold cg_hb
    split <;> omega
  by_cases q : W 19 l = 2
  · rw [if_pos q] at ho
    exact absurd ho (by decide : ¬ okA (-4))
  rw [if_neg q] at ho ⊢
  by_cases q2 : cg_adm W (nI a) (if W 17 0 ≤ nI (cg_hb h) then 1 else 0)
  case neg =>
    rw [if_pos q2] at ho
    exact absurd ho (by decide : ¬ okA (-4))
  rw [if_neg (fun c => c q2)] at ho ⊢
  by_cases q3 : 1 ≤ W 24 1
  case neg =>
    rw [if_pos q3] at ho
    exact absurd ho (by decide : ¬ okA (-6))
  rw [if_neg (fun c => c q3)] at ho ⊢
  have i1 := (hI.u_pay (n := 1) rfl (by decide) q3).u_heat (l := l) hh
  have i2 := i1.u_place (x := 1) hl q (by decide)
  have hs := q2.1
  rw [az_rdN ha8 (by decide)] at hs
  exact IW.u_cm (W := az_up (cg_pay W 1) 23 l (nI (cg_hb h))) hl i2 ha ha8 hS h12 hp (hps hs)
end REFB
