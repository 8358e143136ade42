/-! CLASS AND REFERENCE: perform -/
section PERF
variable {M N W : az_Mem} {a : Int32}
theorem rdo_fr : ∀ (m i : Nat) (a : Int32) (M : az_Mem), (∀ c, c ≠ 185 → c ≠ 189 → c ≠ 191 → (cg_rdo m i a M).2 c = M c) ∧ (cg_rdo m i a M).2 185 1 = M 185 1 := by
  have rs : ∀ (a x : Int32) (M : az_Mem), (∀ c, c ≠ 185 → c ≠ 189 → c ≠ 191 → (cg_rs M a x).2 c = M c) := by
    intro a x M c h1 h2 h3
    unfold cg_rs
    split
    · show cg_rl M x c = M c
      unfold cg_rl
      rw [az_up_row h1, az_wr_row h3, az_wr_row h2]
    split
    · exact az_wr_row h3
    split
    · exact az_wr_row h3
    · rfl
  intro m
  induction m with
  | zero => intro i a M; exact ⟨fun _ _ _ _ => rfl, rfl⟩
  | succ m ih =>
    intro i a M
    unfold cg_rdo
    split
    · exact ⟨rs a _ M, cg_rs_len a _⟩
    · obtain ⟨g1, g2⟩ := ih (i + 1) (cg_rs M a (az_rd (M 187) 60 (nI i))).1 (cg_rs M a (az_rd (M 187) 60 (nI i))).2
      exact ⟨fun c h1 h2 h3 => (g1 c h1 h2 h3).trans (rs a _ M c h1 h2 h3), g2.trans (cg_rs_len a _)⟩
theorem INV.tr2 {M M' : az_Mem} (h : INV M) (hc : ∀ c, c < 192 → c ≠ 185 → c ≠ 189 → c ≠ 191 → M' c = M c) (h1 : M' 185 1 = M 185 1) (h3 : M' 193 = M 193) (h5 : M' 195 = M 195) (h6 : M' 196 = M 196) (h7 : M' 197 = M 197) (f4 : M' 192 4 = M 192 4) (f6 : M' 192 6 = M 192 6) (f8 : M' 192 8 = M 192 8) : INV M' := by
  obtain ⟨i1, i2, hk, ⟨L, n, hH⟩, ht⟩ := h
  have w : sW M M' := sW.row (fun c _ _ => (hc c (by omega) (by omega) (by omega) (by omega)).symm)
  exact ⟨by rw [h3]; exact i1.cg w, i2.cg w, hk.tr (by rw [hc 0 (by omega) (by omega) (by omega) (by omega)]) f4 h5 (fun c _ _ => hc c (by omega) (by omega) (by omega) (by omega)), ⟨L, n, hH.tr (hc 79 (by omega) (by omega) (by omega) (by omega)) f6 h6 (fun c _ _ => hc c (by omega) (by omega) (by omega) (by omega))⟩, ht.tr h1 f8 (hc 187 (by omega) (by omega) (by omega) (by omega)) h7⟩
theorem pair_perform (hM : INV M) : PAIR M m_X8_perform m_X9_perform [] := by
  have hM0 := hM
  obtain ⟨h1, h2, hk, ⟨L, n, hH⟩, ⟨t, ht, t1, t2, t3⟩⟩ := hM
  have er := ec_oread (M := M) 3 t1 ht
  obtain ⟨g1, g2⟩ := rdo_fr t 0 0 (az_up M 185 4 0)
  have SM := sim ht (M 187) (t + 1) 0 0 (az_up M 185 4 0)
  rw [Nat.sub_zero] at SM
  generalize hres : cg_rdo t 0 0 (az_up M 185 4 0) = res at er g1 g2 SM
  obtain ⟨f, MC⟩ := res
  have gC : ∀ c, c ≠ 185 → c ≠ 189 → c ≠ 191 → MC c = M c := fun c x1 x2 x3 => by
    have g := g1 c x1 x2 x3
    rw [az_up_row x1] at g
    exact g
  have gL : MC 185 1 = M 185 1 := g2
  have iC : INV MC := hM0.tr2 (fun c _ x1 x2 x3 => gC c x1 x2 x3) gL (gC 193 (by decide) (by decide) (by decide)) (gC 195 (by decide) (by decide) (by decide)) (gC 196 (by decide) (by decide) (by decide)) (gC 197 (by decide) (by decide) (by decide)) (by rw [gC 192 (by decide) (by decide) (by decide)]) (by rw [gC 192 (by decide) (by decide) (by decide)]) (by rw [gC 192 (by decide) (by decide) (by decide)])
  -- the reference, up to the reading
  have enterR : ∀ (M1 : az_Mem) (Q : Option Value → az_H → Prop), az_RUN 7 k_X9_perform 22 [some (.ref 192), some (.int (nI 0)), some (.int 1), none, none] [] (az_hp (az_up (az_up (rg_as M1) 192 10 0) 192 11 0)) Q → az_EV 8 m_X9_perform [.ref 192] (az_hp M1) Q := by
    intro M1 Q k
    refine az_in0 (code := k_X9_perform) (ls := [some (.ref 192), none, none, none, none]) rfl rfl rfl ?_
    refine az_sgp rfl rfl rfl rfl ?_
    refine az_can rfl rfl rfl rfl (ex_aside 6) ?_
    refine az_sgp rfl rfl rfl rfl ?_
    refine az_grd rfl rfl rfl rfl ?_
    refine az_sgp rfl rfl rfl rfl ?_
    refine az_ifeqF rfl ?_
    exact k
  -- what the reading wants of the memory
  have simR : ∀ (M1 : az_Mem), (∀ c, c ≠ 185 → c ≠ 189 → c ≠ 191 → 192 ≤ c → M1 c = M c) → ∀ (Q : Option Value → az_H → Prop), (∀ (x : Nat) (Mr' : az_Mem) (n : Int32), f = nI x → x ≤ 60 → fr9 (az_up (az_up (rg_as M1) 192 10 0) 192 11 0) Mr' → Mr' 192 10 = nI x → Mr' 192 11 = 1 → az_RUN 7 k_X9_perform 92 [some (.ref 192), some (.int n), some (.int 0), none, none] [] (az_hp Mr') Q) → (∀ (K : Nat) (Mr' : az_Mem), f = -1 → K ≤ 30 → MC 185 4 = nI K → OR K MC Mr' → fr9 (az_up (az_up (rg_as M1) 192 10 0) 192 11 0) Mr' → Mr' 192 11 = 0 → az_RUN 7 k_X9_perform 92 [some (.ref 192), some (.int (nI K)), some (.int 0), none, none] [] (az_hp Mr') Q) → az_EV 8 m_X9_perform [.ref 192] (az_hp M1) Q := by
    intro M1 hM1 Q kf ks
    have r97 : rg_as M1 197 = M 197 := by rw [rg_as_row (by decide) (by decide), hM1 197 (by decide) (by decide) (by decide) (by decide)]
    have r92 : rg_as M1 192 8 = nI t := by rw [rg_as_92 (by decide), hM1 192 (by decide) (by decide) (by decide) (by decide), t2]
    refine enterR M1 Q (SM _ (by omega) (by omega) (by omega) (by simp [az_up]; rfl) rfl (fun i hi => ?_) ?_ (fun j hj => absurd hj (by omega)) rfl rfl Q kf ks)
    · show rg_as M1 197 i = M 187 i
      rw [r97, t3 i hi]
    · show rg_as M1 192 8 = nI t
      exact r92
  by_cases hf : f = -1
  case neg =>
    refine ⟨-100 - f, MC, ?_⟩
    have M4x : ∃ M4, az_EX 8 m_X9_perform [.ref 192] (az_hp MC) (some (.int (-100 - f))) (az_hp M4) ∧ INV M4 := by
      have ev := simR MC (fun c x1 x2 x3 _ => gC c x1 x2 x3) (fun r h => ∃ M4, r = some (.int (-100 - f)) ∧ h = az_hp M4 ∧ INV M4) (fun x Mr' n ex x60 fr p w => by
        refine az_sgp rfl rfl rfl rfl ?_
        rw [w]
        refine az_ifeqF rfl ?_
        refine az_sgp rfl rfl rfl rfl ?_
        refine az_ret rfl rfl rfl rfl ?_
        refine ⟨Mr', ?_, rfl, ?_⟩
        · rw [p, ex]
        · refine iC.tr (fun c hc => ?_) ?_ ?_ ?_ ?_ ?_ ?_ ?_
          · rw [fr.1 c (by omega) (by omega), az_up_row (by omega), az_up_row (by omega), rg_as_row (by omega) (by omega)]
          · rw [fr.1 193 (by omega) (by omega), az_up_row (by omega), az_up_row (by omega), rg_as_row (by omega) (by omega)]
          · rw [fr.1 195 (by omega) (by omega), az_up_row (by omega), az_up_row (by omega), rg_as_row (by omega) (by omega)]
          · rw [fr.1 196 (by omega) (by omega), az_up_row (by omega), az_up_row (by omega), rg_as_row (by omega) (by omega)]
          · rw [fr.1 197 (by omega) (by omega), az_up_row (by omega), az_up_row (by omega), rg_as_row (by omega) (by omega)]
          · rw [fr.2 4 (by omega) (by omega)]
            exact rg_as_92 (M := MC) (j := 4) (by decide)
          · rw [fr.2 6 (by omega) (by omega)]
            exact rg_as_92 (M := MC) (j := 6) (by decide)
          · rw [fr.2 8 (by omega) (by omega)]
            exact rg_as_92 (M := MC) (j := 8) (by decide)) (fun K Mr' e => absurd e hf)
      obtain ⟨r, h, ⟨M4, e1, e2, e3⟩, hx⟩ := ev
      subst e1 e2
      exact ⟨M4, hx, e3⟩
    obtain ⟨M4, e4, i4⟩ := M4x
    refine ⟨M4, ?_, e4, i4⟩
    refine az_EX.of (az_in0 (code := k_X8_perform) (ls := [some (.ref 0), none, none, none, none, none]) rfl rfl rfl ?_)
    refine az_sgp rfl rfl rfl rfl ?_
    refine az_cav rfl rfl rfl rfl er ?_
    refine az_sgp rfl rfl rfl rfl ?_
    refine az_bra rfl rfl rfl (fun q => absurd q hf) (fun _ => ?_)
    refine az_sgp rfl rfl rfl rfl ?_
    refine az_ret rfl rfl rfl rfl ?_
    exact ⟨rfl, rfl⟩
  subst hf
  obtain ⟨r0, i0⟩ := inv_w0 iC
  obtain ⟨L, n, hHC⟩ := iC.2.2.2.1
  have n6 : M 192 6 = nI n := by
    rw [← gC 192 (by decide) (by decide) (by decide)]
    exact hHC.2.2.2.2.1
  have n4 := hHC.2.1
  have w0row : ∀ c, 53 ≤ c → cg_cpW MC 27 1 c = MC c := fun c hc => cg_cpW_out (by omega)
  -- the reference, from the reading to its end
  have refEnd : ∀ (K : Nat) (a : Int32) (N : az_Mem), (∀ (M : az_Mem) (v4 : az_V), RR (cg_cpW MC 27 1) (M 193) → OR K (cg_cpW MC 27 1) M → ∃ M3, fr2 M M3 ∧ (¬ a < 0 → RR N (M3 193)) ∧ ∀ M4, az_EX 7 m_X9_acted [.ref 192, .int a] (az_hp M3) (some (.int a)) (az_hp M4) → az_RUN 7 k_X9_perform 109 [some (.ref 192), some (.int (nI K)), some (.int 0), some (.int (nI 0)), v4] [] (az_hp M) (fun r1 h1 => r1 = some (.int a) ∧ h1 = az_hp M4)) → ∀ (M1 Mr' : az_Mem), (∀ c, c ≠ 185 → c ≠ 189 → c ≠ 191 → 192 ≤ c → M1 c = M c) → OR K MC Mr' → fr9 (az_up (az_up (rg_as M1) 192 10 0) 192 11 0) Mr' → Mr' 192 11 = 0 → ∃ M4, PF M1 N a n M4 ∧ az_RUN 7 k_X9_perform 92 [some (.ref 192), some (.int (nI K)), some (.int 0), none, none] [] (az_hp Mr') (fun r1 h1 => r1 = some (.int a) ∧ h1 = az_hp M4) := by
    intro K a N hloop M1 Mr' hM1 hO fr w
    have q93 : Mr' 193 = M 193 := by
      rw [fr.1 193 (by omega) (by omega), az_up_row (by omega), az_up_row (by omega), rg_as_row (by omega) (by omega), hM1 193 (by omega) (by omega) (by omega) (by omega)]
    have rR : RR (cg_cpW MC 27 1) (Mr' 193) := by
      rw [q93, ← gC 193 (by decide) (by decide) (by decide)]
      exact r0
    have oR : OR K (cg_cpW MC 27 1) Mr' := fun j hj => by
      rw [w0row 189 (by omega), w0row 191 (by omega)]
      exact hO j hj
    obtain ⟨M3, f3, r3, k3⟩ := hloop Mr' none rR oR
    have frx : fr3 (rg_as M1) M3 := by
      refine fr3.tr (M' := Mr') ⟨fun c hc => ?_, ?_, ?_, ?_⟩ f3.w
      · rw [fr.1 c (by omega) (by omega), az_up_row (by omega), az_up_row (by omega)]
      · rw [fr.2 4 (by omega) (by omega)]
        rfl
      · rw [fr.2 6 (by omega) (by omega)]
        rfl
      · rw [fr.2 8 (by omega) (by omega)]
        rfl
    obtain ⟨M4, e4, p4⟩ := ex_end (M1 := M1) (M3 := M3) (N := N) (a := a) 6 (by rw [hM1 192 (by omega) (by omega) (by omega) (by omega)]; exact n6) n4 frx r3
    refine ⟨M4, p4, ?_⟩
    refine az_sgp rfl rfl rfl rfl ?_
    rw [w]
    refine az_ifeqT rfl ?_
    refine az_sg 2 rfl ?_
    exact k3 M4 e4
  -- how many orders there are: the reference's own run tells it
  have KO : ∃ (K : Nat), K ≤ 30 ∧ MC 185 4 = nI K ∧ ∃ X, OR K MC X := by
    have ev := simR M (fun c _ _ _ _ => rfl) (fun _ _ => ∃ (K : Nat), K ≤ 30 ∧ MC 185 4 = nI K ∧ ∃ X, OR K MC X) (fun x Mr' n ex x60 => by
      exfalso
      have e := nI_pos' (show x < 2 ^ 31 by omega)
      rw [← ex] at e
      exact absurd e (by decide)) (fun K Mr' _ hK hk4 hO fr w => by
        obtain ⟨a, N, _, _, _, hloop⟩ := od_loop hK none K 0 (cg_cpW MC 27 1) (by omega) i0 (fun j hj => by rw [w0row 189 (by omega)]; exact (hO j hj).1)
        obtain ⟨M4, _, k⟩ := refEnd K a N hloop M Mr' (fun c _ _ _ _ => rfl) hO fr w
        exact k.mono (fun _ _ _ => ⟨K, hK, hk4, Mr', hO⟩))
    obtain ⟨r, h, q, hx⟩ := ev
    exact q
  obtain ⟨K, hK, hk4, X, hOX⟩ := KO
  obtain ⟨a, N, fN, iN, cls, hloop⟩ := od_loop hK (some (.int (-1))) K 0 (cg_cpW MC 27 1) (by omega) i0 (fun j hj => by rw [w0row 189 (by omega)]; exact (hOX j hj).1)
  have hL79 : N 79 1 = nI L := by
    rw [fN 79 (by omega), w0row 79 (by omega)]
    exact hHC.2.2.1
  have hrow : ∀ c, 185 ≤ c → cg_stl N a L c = MC c := fun c hc => by
    rw [cg_stl_row hHC.1 hc, fN c (by omega), w0row c (by omega)]
  have hM1 : ∀ c, c ≠ 185 → c ≠ 189 → c ≠ 191 → 192 ≤ c → cg_stl N a L c = M c := fun c x1 x2 x3 x4 => by
    rw [hrow c (by omega), gC c x1 x2 x3]
  have M4x : ∃ M4, az_EX 8 m_X9_perform [.ref 192] (az_hp (cg_stl N a L)) (some (.int a)) (az_hp M4) ∧ PF (cg_stl N a L) N a n M4 := by
    have ev := simR (cg_stl N a L) hM1 (fun r h => ∃ M4, r = some (.int a) ∧ h = az_hp M4 ∧ PF (cg_stl N a L) N a n M4) (fun x Mr' n ex x60 => by
      exfalso
      have e := nI_pos' (show x < 2 ^ 31 by omega)
      rw [← ex] at e
      exact absurd e (by decide)) (fun K' Mr' _ hK' hk4' hO fr w => by
        have eK : K' = K := by
          rw [hk4, nI_eq (by omega) (by omega)] at hk4'
          exact hk4'.symm
        subst eK
        obtain ⟨M4, p4, k⟩ := refEnd K' a N hloop (cg_stl N a L) Mr' hM1 hO fr w
        exact k.mono (fun r h q => ⟨M4, q.1, q.2, p4⟩))
    obtain ⟨r, h, ⟨M4, e1, e2, e3⟩, hx⟩ := ev
    subst e1 e2
    exact ⟨M4, hx, e3⟩
  obtain ⟨M4, e4, p4⟩ := M4x
  refine ⟨a, cg_stl N a L, M4, ?_, e4, inv_act iC hHC fN iN p4⟩
  refine az_EX.of (az_in0 (code := k_X8_perform) (ls := [some (.ref 0), none, none, none, none, none]) rfl rfl rfl ?_)
  refine az_sgp rfl rfl rfl rfl ?_
  refine az_cav rfl rfl rfl rfl er ?_
  refine az_sgp rfl rfl rfl rfl ?_
  refine az_bra rfl rfl rfl (fun _ => ?_) (fun q => absurd rfl q)
  refine az_sgp rfl rfl rfl rfl ?_
  refine az_can rfl rfl rfl rfl (ec_cpW_27_1 4) ?_
  refine az_sgp rfl rfl rfl rfl ?_
  refine az_cav rfl rfl rfl rfl (ec_osize 6) ?_
  rw [show cg_cpW MC 27 1 185 4 = nI K by rw [w0row 185 (by omega)]; exact hk4]
  refine az_sg 5 rfl ?_
  refine cls _ none (fun v4 v5 => ?_)
  refine az_sgp rfl rfl rfl rfl ?_
  refine az_cav rfl rfl rfl rfl (ec_settle 2 hL79 hHC.1) ?_
  refine az_ret rfl rfl rfl rfl ?_
  exact ⟨rfl, rfl⟩
end PERF
