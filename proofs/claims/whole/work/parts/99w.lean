/-! CLASS AND REFERENCE: the acts -/
def PAIR (M : az_Mem) (m8 m9 : Nat) (args : List Value) : Prop := ∃ (a : Int32) (M1 M4 : az_Mem), az_EX 8 m8 (.ref 0 :: args) (az_hp M) (some (.int a)) (az_hp M1) ∧ az_EX 8 m9 (.ref 192 :: args) (az_hp M1) (some (.int a)) (az_hp M4) ∧ INV M4
section PAIRS
variable {M N W : az_Mem} {a : Int32}
theorem inv_w0 (hM : INV M) : RR (cg_cpW M 27 1) (M 193) ∧ IW (cg_cpW M 27 1) := by
  have e : sW M (cg_cpW M 27 1) := sW.row (fun c h1 h2 => by rw [cg_cpW_out (by omega)])
  exact ⟨hM.1.cg e, hM.2.1.cg e⟩
theorem cg_stl_row {L : Nat} (h4 : L < 4) {c : Nat} (hc : 185 ≤ c) : cg_stl N a L c = N c := by
  unfold cg_stl
  split
  · rw [cg_cpW_out (by omega)]
  · have hn : cg_nxL L < 4 := by unfold cg_nxL; split <;> omega
    have hw := az_hwN hn
    unfold cg_rem
    rw [cg_cpW_out (by omega), az_up_row (by omega), az_up_row (by omega)]
theorem pair_act {m8 m9 : Nat} {args : List Value} (hM : INV M) (hf : fW (cg_cpW M 27 1) N) (hI : ¬ a < 0 → IW N) (h8 : ∀ L, N 79 1 = nI L → L < 4 → az_EX 8 m8 (.ref 0 :: args) (az_hp M) (some (.int a)) (az_hp (cg_stl N a L))) (h9 : ∀ M1 n, RR (cg_cpW M 27 1) (M1 193) → (∀ c, 185 ≤ c → M1 c = M c) → M1 192 6 = nI n → n ≤ 4 → ∃ M4, az_EX 8 m9 (.ref 192 :: args) (az_hp M1) (some (.int a)) (az_hp M4) ∧ PF M1 N a n M4) : PAIR M m8 m9 args := by
  obtain ⟨r0, i0⟩ := inv_w0 hM
  obtain ⟨L, n, hH⟩ := hM.2.2.2.1
  have h185 : ∀ c, 185 ≤ c → cg_stl N a L c = M c := fun c hc => by
    rw [cg_stl_row hH.1 hc, hf c (by omega), cg_cpW_out (by omega)]
  have h79 : N 79 1 = nI L := by
    rw [hf 79 (by omega), cg_cpW_out (by omega)]
    exact hH.2.2.1
  obtain ⟨M4, e4, p4⟩ := h9 (cg_stl N a L) n (by rw [h185 193 (by omega)]; exact r0) h185 (by rw [h185 192 (by omega)]; exact hH.2.2.2.2.1) hH.2.1
  exact ⟨a, _, M4, h8 L h79 hH.1, e4, inv_act hM hH hf hI p4⟩
theorem ec_go (d : Nat) (n : Int32) : az_EX (d + 3) m_X7_travel [.ref 1, .int n] (az_hp W) (some (.int (cg_go W n).1)) (az_hp (cg_go W n).2) := by
  by_cases hn : n < 1 ∨ ¬ n ≤ 24
  · have e : cg_go W n = (-2, W) := if_pos hn
    rw [e]
    exact ec_travelBad d hn
  · have h1 : ¬ n < 1 := fun q => hn (Or.inl q)
    have h24 : n ≤ 24 := by
      by_cases q : n ≤ 24
      · exact q
      · exact absurd (Or.inr q) hn
    have h0 : ¬ n < 0 := fun q => h1 (Int32.lt_trans q (by decide))
    obtain ⟨K, hK, rfl⟩ := nI_of2 (M := 24) (n := 24) (by decide) h0 h24
    have e : cg_go W (nI K) = (if (cg_trav K W).1 = true then (cg_trav K W).2 24 0 else -6, (cg_trav K W).2) := by
      unfold cg_go
      rw [if_neg hn, nI_clamp (by omega)]
    rw [e]
    refine ec_travel d ?_ hK
    by_cases q : 1 ≤ K
    · exact q
    · have : K = 0 := by omega
      subst this
      exact absurd (by decide : nI 0 < 1) h1
theorem IW.bok (h : IW W) : az_bagOK W := by
  obtain ⟨B, R, e1, e2, e3, e4, _⟩ := h.bag
  exact ⟨B, e1, by omega⟩
theorem IW.ptr (h : IW W) : ∃ p : Nat, az_rd (W 4) 8 (W 24 0) = nI p ∧ p ≤ 12 := by
  obtain ⟨Z, a, S, p, hZ, ha, h2, h8, haZ, ha8, hS, h2S, h12, hp, hpS, hps⟩ := h.pt
  exact ⟨p, by rw [ha, az_rdN ha8 (by decide)]; exact hp, by omega⟩
theorem ec_clean (d : Nat) (h : IW W) {P Z e : Nat} (hP : az_rd (W 4) 8 (W 24 0) = nI P) (hP12 : P ≤ 12) (hZ : W 2 0 = nI Z) (hZ8 : Z ≤ 8) (he : W 24 4 = nI e) (he6 : e ≤ 6) : az_EX (d + 6) m_X7_cleanHere [.ref 1] (az_hp W) (some (.int (cg_clean W P Z e).1)) (az_hp (cg_clean W P Z e).2) := by
  refine ec_cleanHere d hP hP12 hZ hZ8 he he6 (fun q => ?_)
  obtain ⟨Z', a, S, p, hZ', ha, h2, h8, haZ, ha8, hS, h2S, h12, hp, hpS, hps⟩ := h.pt
  obtain ⟨B', R, e1, e2, e3, e4, e5, e6, e7⟩ := h.bag
  have eB : B' = e := by
    rw [e1, nI_eq (by omega) (by omega)] at he
    exact he
  subst eB
  have hcl : cg_cl W (nI a) P ≤ P := az_cnt_le _ _
  rw [ha] at q ⊢
  rw [e1, e2, nI_sub e3, nI_leI (by omega) (by omega)] at q
  obtain ⟨iX, pX, bX⟩ := cg_packs_end h ha8 hP12 e1 e2 e4 (by omega)
  exact ⟨_, bX, by omega⟩
theorem pair_go (hM : INV M) (x : Int32) : PAIR M m_X8_go m_X9_go [.int x] := by
  obtain ⟨r0, i0⟩ := inv_w0 hM
  exact pair_act hM (fw_go x) (fun _ => iw_go i0 x) (fun L h1 h2 => ec8_go 1 (ec_go 4 x) h1 h2) (fun M1 n r _ hn h4 => ex9_go 2 r i0 hn h4 x)
theorem pair_write (hM : INV M) (x : Int32) : PAIR M m_X8_write m_X9_write [.int x] := by
  obtain ⟨r0, i0⟩ := inv_w0 hM
  exact pair_act hM (fw_write x) (fun q => iw_write i0 x (Or.inl (Int32.not_lt.mp q))) (fun L h1 h2 => ec8_write 1 (ec_writeAnew 3 x i0.bok) h1 h2) (fun M1 n r _ hn h4 => ex9_write 2 r i0 hn h4 x)
theorem pair_take (hM : INV M) (x : Int32) : PAIR M m_X8_take m_X9_take [.int x] := by
  obtain ⟨r0, i0⟩ := inv_w0 hM
  exact pair_act hM (fw_tak x) (fun q => iw_tak i0 x) (fun L h1 h2 => ec8_take 1 (ec_tak 3 x) h1 h2) (fun M1 n r _ hn h4 => ex9_take 2 r i0 hn h4 x)
theorem pair_put (hM : INV M) (x : Int32) : PAIR M m_X8_put m_X9_put [.int x] := by
  obtain ⟨r0, i0⟩ := inv_w0 hM
  exact pair_act hM (fw_put x) (fun q => iw_put i0 x (Or.inl (Int32.not_lt.mp q))) (fun L h1 h2 => ec8_put 1 (ec_putDown 3 x i0.bok) h1 h2) (fun M1 n r _ hn h4 => ex9_put 2 r i0 hn h4 x)
theorem pair_drop (hM : INV M) (x : Int32) : PAIR M m_X8_drop m_X9_drop [.int x] := by
  obtain ⟨r0, i0⟩ := inv_w0 hM
  exact pair_act hM (fw_drop x) (fun q => iw_drop i0 x) (fun L h1 h2 => ec8_drop 1 (ec_giveUp 3 x i0.bok) h1 h2) (fun M1 n r _ hn h4 => ex9_drop 2 r i0 hn h4 x)
theorem pair_reset (hM : INV M) : PAIR M m_X8_reset m_X9_reset [] := by
  obtain ⟨r0, i0⟩ := inv_w0 hM
  obtain ⟨P, hP, h12⟩ := i0.ptr
  exact pair_act hM (fw_reset P) (fun q => iw_reset i0 P) (fun L h1 h2 => ec8_reset 1 (ec_resetHere 2 hP h12) h1 h2) (fun M1 n r _ hn h4 => ex9_reset 2 r i0 hn h4 hP h12)
theorem pair_seal (hM : INV M) : PAIR M m_X8_seal m_X9_seal [] := by
  obtain ⟨r0, i0⟩ := inv_w0 hM
  exact pair_act hM fw_seal (fun q => iw_seal i0) (fun L h1 h2 => ec8_seal 1 (ec_sealHere 3) h1 h2) (fun M1 n r _ hn h4 => ex9_seal 2 r i0 hn h4)
theorem pair_clean (hM : INV M) : PAIR M m_X8_clean m_X9_clean [] := by
  obtain ⟨r0, i0⟩ := inv_w0 hM
  obtain ⟨P, hP, h12⟩ := i0.ptr
  obtain ⟨Z, za, hZ, ha, h2, h8, haZ⟩ := i0.zn
  obtain ⟨B, R, e1, e2, e3, e4, _⟩ := i0.bag
  exact pair_act hM (fw_clean P Z B) (fun q => iw_clean i0 hP h12 hZ h8 e1 (by omega) (Or.inl (Int32.not_lt.mp q))) (fun L h1 h2 => ec8_clean 1 (ec_clean 1 i0 hP h12 hZ h8 e1 (by omega)) h1 h2) (fun M1 n r _ hn h4 => ex9_clean 2 r i0 hn h4 hP h12 hZ h8 e1 (by omega))
theorem pair_setKind (hM : INV M) (x y : Int32) : PAIR M m_X8_setKind m_X9_setKind [.int x, .int y] := by
  obtain ⟨r0, i0⟩ := inv_w0 hM
  exact pair_act hM (fw_kind x y) (fun q => iw_kind i0 x y) (fun L h1 h2 => ec8_setKind 1 (ec_changeKind 3 x y) h1 h2) (fun M1 n r _ hn h4 => ex9_setKind 2 r i0 hn h4 x y)
theorem pair_setWell (hM : INV M) (x y : Int32) (hy : y = 0 ∨ y = 1) : PAIR M m_X8_setWell m_X9_setWell [.int x, .int y] := by
  obtain ⟨r0, i0⟩ := inv_w0 hM
  obtain ⟨Z, za, hZ, ha, h2, h8, haZ⟩ := i0.zn
  exact pair_act hM (fw_swl x y Z) (fun q => iw_swl i0 x y hy Z) (fun L h1 h2 => ec8_setWell 1 (ec_swl 2 x y hy hZ h8) h1 h2) (fun M1 n r _ hn h4 => ex9_setWell 2 r i0 hn h4 x y hy hZ h8)
theorem pair_set (hM : INV M) (x y : Int32) : PAIR M m_X8_set m_X9_set [.int x, .int y] := by
  obtain ⟨r0, i0⟩ := inv_w0 hM
  exact pair_act hM (fw_set x y) (fun q => iw_set i0 x y q) (fun L h1 h2 => ec8_set 1 (ec_changeSetting 3 x y) h1 h2) (fun M1 n r _ hn h4 => ex9_set 2 r i0 hn h4 x y)
theorem pair_dusk (hM : INV M) : PAIR M m_X8_dusk m_X9_dusk [] := by
  obtain ⟨r0, i0⟩ := inv_w0 hM
  exact pair_act hM (fw_cool 40) (fun q => iw_cool i0) (fun L h1 h2 => ec8_dusk 1 (ec_endDay 3) h1 h2) (fun M1 n r _ hn h4 => ex9_dusk 2 r i0 hn h4)
theorem pair_lay (hM : INV M) (x y : Int32) : PAIR M m_X8_lay m_X9_lay [.int x, .int y] := by
  obtain ⟨r0, i0⟩ := inv_w0 hM
  by_cases hb : x < 2 ∨ 8 < x ∨ y < 2 ∨ ¬ y ≤ 12
  · exact pair_act hM (fW.rf _) (fun q => i0) (fun L h1 h2 => ec8_lay 1 (ec_layBad 3 hb) h1 h2) (fun M1 n r _ hn h4 => ex9_layBad 2 hb)
  by_cases h2 : ∃ j, j < 40 ∧ cg_cpW M 27 1 19 j = 1
  · exact pair_act hM (fW.rf _) (fun q => i0) (fun L h1 h2 => ec8_lay 1 (ec_layNot 3 hb (by assumption)) h1 h2) (fun M1 n r _ hn h4 => ex9_layNot 2 hb r h2)
  refine pair_act hM (fw_lay x y) (fun q => ?_) (fun L g1 g2 => ec8_lay 1 (ec_layOK 3 hb h2) g1 g2) (fun M1 n r _ hn h4 => ex9_layOK 2 hb r hn h4 h2)
  have a1 : ¬ x < 2 := fun c => hb (Or.inl c)
  have a2 : ¬ 8 < x := fun c => hb (Or.inr (Or.inl c))
  have a3 : ¬ y < 2 := fun c => hb (Or.inr (Or.inr (Or.inl c)))
  have a4 : ¬ ¬ y ≤ 12 := fun c => hb (Or.inr (Or.inr (Or.inr c)))
  have b1 : ¬ x < 0 := fun c => a1 (Int32.lt_trans c (by decide))
  have b2 : ¬ y < 0 := fun c => a3 (Int32.lt_trans c (by decide))
  obtain ⟨z, hz, rfl⟩ := nI_of2 (M := 8) (n := 8) (by decide) b1 (Int32.not_lt.mp a2)
  obtain ⟨k, hk, rfl⟩ := nI_of2 (M := 12) (n := 12) (by decide) b2 (Classical.not_not.mp a4)
  have c1 : 2 ≤ z := by
    by_cases c : 2 ≤ z
    · exact c
    · exact absurd (nI_lt (a := z) (b := 2) (by omega) (by omega)) a1
  have c2 : 2 ≤ k := by
    by_cases c : 2 ≤ k
    · exact c
    · exact absurd (nI_lt (a := k) (b := 2) (by omega) (by omega)) a3
  exact iw_lay i0 c1 hz c2 hk
end PAIRS
