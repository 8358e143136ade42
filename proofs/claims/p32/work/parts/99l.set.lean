/-! THE LAW: isBounded, isSet -/
section BND
variable {M M1 W X N : az_Mem} {a : Int32} {m8 : Nat} {args : List Value}
theorem A_setX (W : az_Mem) {w v : Int32} (h : cg_set W w v = (-2, W)) : ACT W m_X8_set [.int w, .int v] (-2) W := by
  have q := A_set W w v
  rw [h] at q
  exact q
theorem cg_set3 (W : az_Mem) : cg_set W 3 1 = (-2, W) := by
  unfold cg_set
  rw [if_neg (by decide), if_neg (by decide), if_neg (by decide)]
theorem cg_setB0 (W : az_Mem) {v : Int32} (h : ¬ v ≤ 6) : cg_set W 0 v = (-2, W) := by
  unfold cg_set cg_setBag
  rw [if_pos rfl, if_pos (Or.inr h)]
theorem cg_setB1 (W : az_Mem) {v : Int32} (h : ¬ v ≤ 200) : cg_set W 1 v = (-2, W) := by
  unfold cg_set cg_setSkin
  rw [if_neg (by decide), if_pos rfl, if_pos (Or.inr h)]
theorem cg_setB2 (W : az_Mem) {v : Int32} (h : ¬ v ≤ 9) : cg_set W 2 v = (-2, W) := by
  unfold cg_set cg_setBound
  rw [if_neg (by decide), if_neg (by decide), if_pos rfl, if_pos (Or.inr h)]
theorem LX.bound (h : LX W) {b : Nat} (h1 : 1 ≤ b) (h9 : b ≤ 9) : LX (az_up W 17 0 (nI b)) := by
  refine ⟨h.zn, h.sl, ⟨b, ?_, h1, h9⟩, h.kd, h.ld, h.ce, h.no, h.pl⟩
  simp [az_up]
theorem LX.kind (h : LX W) (k : Nat) {x : Int32} (hx : x = 0 ∨ x = 1 ∨ x = 2) : LX (az_up W 6 k x) := by
  refine ⟨h.zn, h.sl, h.bd, fun z hz => ?_, h.ld, h.ce, h.no, h.pl⟩
  unfold az_up
  split
  · exact hx
  · exact h.kd z hz
/-- an act of set, with its law's rows, whether it was so already or not -/
theorem act_set (d : Nat) (hM : INVL M) (hW : cg_cpW M 27 1 = W) {w v had : Int32} (hA : ACT W m_X8_set [.int w, .int v] (if had = v then -5 else had) N) (hh : ¬ had < 0) (h1 : ∀ c, c < 192 → M1 c = M c) (hR : LR N M1) (he : had = v → LR W M1) (hI : ¬ (if had = v then -5 else had) < 0 → IW N) (hX : LX N) : ∃ M2, az_EX (d + 7) m_X8_set [.ref 0, .int w, .int v] (az_hp M1) (some (.int (if had = v then -5 else had))) (az_hp M2) ∧ INVL M2 := by
  by_cases q : had = v
  · rw [if_pos q] at hA ⊢
    exact act_n d hW hM.2 hA (by decide) h1 (he q)
  · rw [if_neg q] at hA hI ⊢
    obtain ⟨M2, x2, g2, c2, w2⟩ := act_y d hW hM.2.2.2 hA hh h1 (hI hh) hX
    exact ⟨M2, x2, inv_close c2 w2 (fun _ _ => rfl) (hR.cr g2)⟩
theorem la_isBounded (d : Nat) (hM : INVL M) (x : Int32) : LA (d + 8) m_L_isBounded [.ref 0, .ref 192, .int x] M := by
  obtain ⟨hR, hI, hX⟩ := inv_w hM
  generalize hWW : cg_cpW M 27 1 = W at hR hI hX
  obtain ⟨wt, sk, hw, hsk, hwk, hk2⟩ := hI.water
  obtain ⟨B, R, hB, hRo, hBR, hR6, -, -, -⟩ := hI.bag
  have tail : ∀ (w at0 v had : Int32) (Mx : az_Mem), (∃ M2, az_EX (d + 7) m_X8_set [.ref 0, .int w, .int v] (az_hp Mx) (some (.int (if had = v then -5 else had))) (az_hp M2) ∧ INVL M2) → (∀ W, cg_set W w (if w = 1 then 201 else 10) = (-2, W)) → az_RUN (d + 7) k_L_isBounded 149 [some (.ref 0), some (.ref 192), some (.int x), some (.int w), some (.int at0), some (.int v), some (.int had)] [] (az_hp Mx) (fun r1 h1 => r1 = some (.int 1) ∧ ∃ M', INVL M' ∧ h1 = az_hp M') := by
    intro w at0 v had Mx hx he
    obtain ⟨M2, x2, i2⟩ := hx
    obtain ⟨M3, x3, i3⟩ := act_e d rfl i2 (A_setX (cg_cpW M2 27 1) (he _)) (by decide)
    obtain ⟨M4, x4, i4⟩ := act_e d rfl i3 (A_setX (cg_cpW M3 27 1) (cg_set3 _)) (by decide)
    have e170 : az_RUN (d + 7) k_L_isBounded 173 [some (.ref 0), some (.ref 192), some (.int x), some (.int w), some (.int at0), some (.int v), some (.int had)] [] (az_hp M2) (fun r1 h1 => r1 = some (.int 1) ∧ ∃ M', INVL M' ∧ h1 = az_hp M') := by
      have e196 : az_RUN (d + 7) k_L_isBounded 191 [some (.ref 0), some (.ref 192), some (.int x), some (.int w), some (.int at0), some (.int v), some (.int had)] [.int (-2)] (az_hp M3) (fun r1 h1 => r1 = some (.int 1) ∧ ∃ M', INVL M' ∧ h1 = az_hp M') := by
        refine az_sgp rfl rfl rfl rfl ?_
        refine az_bra rfl rfl rfl (fun q => ?_) (fun q => ?_)
        · refine az_sgp rfl rfl rfl rfl ?_
          refine az_cav rfl rfl rfl rfl (x4) ?_
          refine az_sgp rfl rfl rfl rfl ?_
          refine az_bra rfl rfl rfl (fun q => ?_) (fun q => ?_)
          · refine az_sgp rfl rfl rfl rfl ?_
            refine az_ret rfl rfl rfl rfl ?_
            exact ⟨rfl, M4, i4, rfl⟩
          · exact absurd rfl q
        · exact absurd rfl q
      refine az_sgp rfl rfl rfl rfl ?_
      refine az_bra rfl rfl rfl (fun q => ?_) (fun q => ?_)
      · rw [if_pos q] at x3
        refine az_sgp rfl rfl rfl rfl ?_
        refine az_cav rfl rfl rfl rfl (x3) ?_
        exact e196
      · rw [if_neg q] at x3
        refine az_sgp rfl rfl rfl rfl ?_
        refine az_cav rfl rfl rfl rfl (x3) ?_
        exact e196
    refine az_sgp rfl rfl rfl rfl ?_
    refine az_cav rfl rfl rfl rfl (x2) ?_
    refine az_sgp rfl rfl rfl rfl ?_
    refine az_bra rfl rfl rfl (fun q => ?_) (fun q => ?_)
    · rw [if_pos q]
      refine az_sgp rfl rfl rfl rfl ?_
      refine az_bra rfl rfl rfl (fun q => ?_) (fun q => ?_)
      · exact e170
      · exact absurd rfl q
    · rw [if_neg q]
      refine az_sgp rfl rfl rfl rfl ?_
      refine az_bra rfl rfl rfl (fun q => ?_) (fun q => ?_)
      · exact e170
      · exact absurd rfl q
  refine LA.of (az_in0 (code := k_L_isBounded) (ls := [some (.ref 0), some (.ref 192), some (.int x), none, none, none, none]) rfl rfl rfl ?_)
  have ht : lw x 3 < 3 := lw_lt x (by decide)
  refine az_sgp rfl rfl rfl rfl ?_
  refine az_cav rfl rfl rfl rfl (el_low (d + 6) x (n := 3) (by decide) (by decide)) ?_
  generalize lw x 3 = t at ht ⊢
  rcases (show t = 0 ∨ t = 1 ∨ t = 2 by omega) with rfl | rfl | rfl
  · -- the bag
    have hv : lw (x >>> (2 &&& 31)) 7 < 7 := lw_lt _ (by decide)
    rw [show nI 0 = (0 : Int32) from rfl]
    refine az_sgp rfl rfl rfl rfl ?_
    refine az_ifneF rfl ?_
    refine az_sgp rfl rfl rfl rfl ?_
    refine az_ifneF rfl ?_
    refine az_sgp rfl rfl rfl rfl ?_
    refine az_cav rfl rfl rfl rfl (el_low (d + 6) (x >>> (2 &&& 31)) (n := 7) (by decide) (by decide)) ?_
    generalize lw (x >>> (2 &&& 31)) 7 = v at hv ⊢
    refine az_sgp rfl rfl rfl rfl ?_
    refine az_ifneF rfl ?_
    refine az_sgp rfl rfl rfl rfl ?_
    refine az_ald rfl rfl (k := 12) (rfl) (by omega) (by decide) (hR.many.trans hB) ?_
    refine az_sgp rfl rfl rfl rfl ?_
    have bnd : ¬ (nI v < 0 ∨ ¬ nI v ≤ 6) := by
      rintro (c | c)
      · exact nI_pos (by omega) c
      · exact c (nI_le (b := 6) (by omega) (by decide))
    have e0 : cg_set W 0 (nI v) = if ¬ B ≤ v then (-4, W) else (if W 24 3 = nI v then -5 else W 24 3, az_up W 24 3 (nI v)) := by
      unfold cg_set cg_setBag
      rw [if_pos rfl, if_neg bnd, hB]
      have e : (nI B ≤ nI v) = (B ≤ v) := propext (nI_leI (by omega) (by omega))
      simp only [e]
    have hA := A_set W 0 (nI v)
    refine az_bra rfl rfl rfl (fun qb => ?_) (fun qb => ?_)
    · have qb' : B ≤ v := (nI_leI (by omega) (by omega)).mp qb
      rw [e0, if_neg (not_not_intro qb')] at hA
      have r1 := (hR.m_room (nI v)).m_water (W 24 1)
      rw [az_up_id (show az_up W 24 3 (nI v) 24 1 = W 24 1 from rfl)] at r1
      have hx := act_set (M1 := az_up (az_up M 192 5 (nI v)) 192 3 (W 24 1)) d hM hWW hA (by rw [hRo]; exact nI_pos (by omega)) (fun c hc => by rw [az_up_row (by omega), az_up_row (by omega)]) r1 (fun q => by rw [az_up_id q] at r1; exact r1) (fun q => by have := iw_set hI 0 (nI v); rw [e0, if_neg (not_not_intro qb')] at this; exact this q) (hX.oth 24 _ _ (by decide))
      refine az_sgp rfl rfl rfl rfl ?_
      refine az_ald rfl rfl (k := 5) (rfl) (by omega) (by decide) (hR.room) ?_
      refine az_sgp rfl rfl rfl rfl ?_
      refine az_ast rfl rfl (k := 5) (rfl) (by omega) (by decide) ?_
      refine az_sgp rfl rfl rfl rfl ?_
      refine az_ald rfl rfl (k := 3) (rfl) (by omega) (by decide) ((show _ = nI wt from (hR.m_room (nI v)).water.trans hw)) ?_
      refine az_sgp rfl rfl rfl rfl ?_
      refine az_ald rfl rfl (k := 4) (rfl) (by omega) (by decide) ((show _ = nI sk from (hR.m_room (nI v)).skin.trans hsk)) ?_
      refine az_bra rfl rfl rfl (fun q => ?_) (fun q => ?_)
      rotate_left
      · exact absurd (nI_le hwk (by omega)) q
      refine az_sgp rfl rfl rfl rfl ?_
      refine az_ald rfl rfl (k := 3) (rfl) (by omega) (by decide) ((show _ = W 24 1 from (hR.m_room (nI v)).water)) ?_
      refine az_ast rfl rfl (k := 3) (rfl) (by omega) (by decide) ?_
      exact tail 0 5 (nI v) (W 24 3) _ hx (fun W => cg_setB0 W (by decide))
    · rw [e0, if_pos (fun c => qb (nI_le c (by omega)))] at hA
      obtain ⟨M2, x2, i2⟩ := act_e d hWW hM hA (show (-4 : Int32) < 0 by decide)
      obtain ⟨M3, x3, i3⟩ := act_e d rfl i2 (A_setX (cg_cpW M2 27 1) (cg_setB0 _ (v := 7) (by decide))) (by decide)
      refine az_sgp rfl rfl rfl rfl ?_
      refine az_cav rfl rfl rfl rfl (x2) ?_
      refine az_sgp rfl rfl rfl rfl ?_
      refine az_bra rfl rfl rfl (fun q => ?_) (fun q => ?_)
      · refine az_sgp rfl rfl rfl rfl ?_
        refine az_cav rfl rfl rfl rfl (x3) ?_
        refine az_sgp rfl rfl rfl rfl ?_
        refine az_bra rfl rfl rfl (fun q => ?_) (fun q => ?_)
        · refine az_sgp rfl rfl rfl rfl ?_
          refine az_ret rfl rfl rfl rfl ?_
          exact ⟨rfl, M3, i3, rfl⟩
        · exact absurd rfl q
      · exact absurd rfl q
  · -- the skin
    have hv : lw (x >>> (2 &&& 31)) 60 < 60 := lw_lt _ (by decide)
    rw [show nI 1 = (1 : Int32) from rfl]
    refine az_sgp rfl rfl rfl rfl ?_
    refine az_ifneT rfl ?_
    refine az_sgp rfl rfl rfl rfl ?_
    refine az_bra rfl rfl rfl (fun q => ?_) (fun q => ?_)
    rotate_left
    · exact absurd rfl q
    refine az_sgp rfl rfl rfl rfl ?_
    refine az_ifneT rfl ?_
    refine az_sgp rfl rfl rfl rfl ?_
    refine az_bra rfl rfl rfl (fun q => ?_) (fun q => ?_)
    rotate_left
    · exact absurd rfl q
    refine az_sgp rfl rfl rfl rfl ?_
    refine az_cav rfl rfl rfl rfl (el_low (d + 6) (x >>> (2 &&& 31)) (n := 60) (by decide) (by decide)) ?_
    generalize lw (x >>> (2 &&& 31)) 60 = v0 at hv ⊢
    obtain ⟨v, ev, hv1, hv2⟩ : ∃ v, 10 + v0 = v ∧ 10 ≤ v ∧ v ≤ 69 := ⟨_, rfl, by omega, by omega⟩
    refine az_sg 3 rfl ?_
    rw [show (10 : Int32) + nI v0 = nI v from (nI_add 10 v0).trans (by rw [ev])]
    refine az_sgp rfl rfl rfl rfl ?_
    refine az_ifneT rfl ?_
    refine az_sgp rfl rfl rfl rfl ?_
    have bnd : ¬ (nI v < 10 ∨ ¬ nI v ≤ 200) := by
      rintro (c | c)
      · exact absurd c (show ¬ nI v < nI 10 from nI_nlt hv1 (by omega))
      · exact c (nI_le (b := 200) (by omega) (by decide))
    have e0 : cg_set W 1 (nI v) = (if W 24 2 = nI v then -5 else W 24 2, az_up (az_up W 24 2 (nI v)) 24 1 (if nI v < W 24 1 then nI v else W 24 1)) := by
      unfold cg_set cg_setSkin
      rw [if_neg (by decide), if_pos rfl, if_neg bnd]
    have hA := A_set W 1 (nI v)
    rw [e0] at hA
    have r1 := (hR.m_skin (nI v)).m_water (if nI v < W 24 1 then nI v else W 24 1)
    have hx := act_set (M1 := az_up (az_up M 192 4 (nI v)) 192 3 (if nI v < W 24 1 then nI v else W 24 1)) d hM hWW hA (by rw [hsk]; exact nI_pos (by omega)) (fun c hc => by rw [az_up_row (by omega), az_up_row (by omega)]) r1 (fun q => by
      have q1 : ¬ nI v < W 24 1 := by
        rw [← q, hsk, hw]
        exact nI_nlt hwk (by omega)
      rw [if_neg q1] at r1 ⊢
      rw [az_up_id (M := W) q, az_up_id (M := W) rfl] at r1
      exact r1) (fun q => by have := iw_set hI 1 (nI v); rw [e0] at this; exact this q) ((hX.oth 24 _ _ (by decide)).oth 24 _ _ (by decide))
    refine az_ald rfl rfl (k := 4) (rfl) (by omega) (by decide) (hR.skin) ?_
    refine az_sgp rfl rfl rfl rfl ?_
    refine az_ast rfl rfl (k := 4) (rfl) (by omega) (by decide) ?_
    refine az_sgp rfl rfl rfl rfl ?_
    refine az_ald rfl rfl (k := 3) (rfl) (by omega) (by decide) ((show _ = W 24 1 from (hR.m_skin (nI v)).water)) ?_
    refine az_sgp rfl rfl rfl rfl ?_
    refine az_ald rfl rfl (k := 4) (rfl) (by omega) (by decide) ((show _ = nI v from (hR.m_skin (nI v)).skin.trans (az_up_same _ _ _ _))) ?_
    refine az_bra rfl rfl rfl (fun q => ?_) (fun q => ?_)
    · rw [if_neg (Int32.not_lt.mpr q)] at hx
      refine az_sgp rfl rfl rfl rfl ?_
      refine az_ald rfl rfl (k := 3) (rfl) (by omega) (by decide) ((show _ = W 24 1 from (hR.m_skin (nI v)).water)) ?_
      refine az_ast rfl rfl (k := 3) (rfl) (by omega) (by decide) ?_
      exact tail 1 4 (nI v) (W 24 2) _ hx (fun W => cg_setB1 W (by decide))
    · rw [if_pos (Int32.not_le.mp q)] at hx
      refine az_sgp rfl rfl rfl rfl ?_
      refine az_ald rfl rfl (k := 4) (rfl) (by omega) (by decide) ((show _ = nI v from (hR.m_skin (nI v)).skin.trans (az_up_same _ _ _ _))) ?_
      refine az_sgp rfl rfl rfl rfl ?_
      refine az_ast rfl rfl (k := 3) (rfl) (by omega) (by decide) ?_
      exact tail 1 4 (nI v) (W 24 2) _ hx (fun W => cg_setB1 W (by decide))
  · -- the bound
    have hv : lw (x >>> (2 &&& 31)) 9 < 9 := lw_lt _ (by decide)
    rw [show nI 2 = (2 : Int32) from rfl]
    refine az_sgp rfl rfl rfl rfl ?_
    refine az_bra rfl rfl rfl (fun q => ?_) (fun q => ?_)
    · exact absurd q (by decide)
    refine az_sgp rfl rfl rfl rfl ?_
    refine az_bra rfl rfl rfl (fun q => ?_) (fun q => ?_)
    · exact absurd q (by decide)
    refine az_sgp rfl rfl rfl rfl ?_
    refine az_bra rfl rfl rfl (fun q => ?_) (fun q => ?_)
    · exact absurd q (by decide)
    refine az_sgp rfl rfl rfl rfl ?_
    refine az_bra rfl rfl rfl (fun q => ?_) (fun q => ?_)
    · exact absurd q (by decide)
    refine az_sgp rfl rfl rfl rfl ?_
    refine az_cav rfl rfl rfl rfl (el_low (d + 6) (x >>> (2 &&& 31)) (n := 9) (by decide) (by decide)) ?_
    generalize lw (x >>> (2 &&& 31)) 9 = v0 at hv ⊢
    obtain ⟨v, ev, hv1, hv2⟩ : ∃ v, 1 + v0 = v ∧ 1 ≤ v ∧ v ≤ 9 := ⟨_, rfl, by omega, by omega⟩
    refine az_sg 2 rfl ?_
    rw [show (1 : Int32) + nI v0 = nI v from (nI_add 1 v0).trans (by rw [ev])]
    refine az_sgp rfl rfl rfl rfl ?_
    refine az_bra rfl rfl rfl (fun q => ?_) (fun q => ?_)
    · exact absurd q (by decide)
    refine az_sgp rfl rfl rfl rfl ?_
    have bnd : ¬ (nI v < 1 ∨ ¬ nI v ≤ 9) := by
      rintro (c | c)
      · exact absurd c (show ¬ nI v < nI 1 from nI_nlt hv1 (by omega))
      · exact c (nI_le (b := 9) (by omega) (by decide))
    obtain ⟨bb, hbb, hb1, hb9⟩ := hX.bd
    have e0 : cg_set W 2 (nI v) = (if W 17 0 = nI v then -5 else W 17 0, az_up W 17 0 (nI v)) := by
      unfold cg_set cg_setBound
      rw [if_neg (by decide), if_neg (by decide), if_pos rfl, if_neg bnd]
    have hA := A_set W 2 (nI v)
    rw [e0] at hA
    have r1 := (hR.m_bound (nI v)).m_water (W 24 1)
    rw [az_up_id (show az_up W 17 0 (nI v) 24 1 = W 24 1 from rfl)] at r1
    have hx := act_set (M1 := az_up (az_up M 192 6 (nI v)) 192 3 (W 24 1)) d hM hWW hA (by rw [hbb]; exact nI_pos (by omega)) (fun c hc => by rw [az_up_row (by omega), az_up_row (by omega)]) r1 (fun q => by rw [az_up_id q] at r1; exact r1) (fun q => by have := iw_set hI 2 (nI v); rw [e0] at this; exact this q) (hX.bound hv1 hv2)
    refine az_ald rfl rfl (k := 6) (rfl) (by omega) (by decide) (hR.bound) ?_
    refine az_sgp rfl rfl rfl rfl ?_
    refine az_ast rfl rfl (k := 6) (rfl) (by omega) (by decide) ?_
    refine az_sgp rfl rfl rfl rfl ?_
    refine az_ald rfl rfl (k := 3) (rfl) (by omega) (by decide) ((show _ = nI wt from (hR.m_bound (nI v)).water.trans hw)) ?_
    refine az_sgp rfl rfl rfl rfl ?_
    refine az_ald rfl rfl (k := 4) (rfl) (by omega) (by decide) ((show _ = nI sk from (hR.m_bound (nI v)).skin.trans hsk)) ?_
    refine az_bra rfl rfl rfl (fun q => ?_) (fun q => ?_)
    rotate_left
    · exact absurd (nI_le hwk (by omega)) q
    refine az_sgp rfl rfl rfl rfl ?_
    refine az_ald rfl rfl (k := 3) (rfl) (by omega) (by decide) ((show _ = W 24 1 from (hR.m_bound (nI v)).water)) ?_
    refine az_ast rfl rfl (k := 3) (rfl) (by omega) (by decide) ?_
    exact tail 2 6 (nI v) (W 17 0) _ hx (fun W => cg_setB2 W (by decide))
end BND
