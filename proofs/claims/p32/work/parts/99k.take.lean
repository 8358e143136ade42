/-! THE LAW: isTaken, isReset -/
section TKR
variable {M M1 W X N : az_Mem} {a : Int32} {m8 : Nat} {args : List Value}
theorem cg_packUpN {l B : Nat} (hl : l < 40) (hB : N 24 4 = nI B) (h6 : B < 6) : cg_packUp N (nI l) = az_up (az_up (az_up N 26 B (nI l)) 24 4 (nI (B + 1))) 19 l 2 := by
  unfold cg_packUp cg_pack
  rw [hB, az_wrN hl (by decide), az_wrN h6 (by decide), nI_1]
theorem sW_cp (M : az_Mem) : sW M (cg_cpW M 27 1) := sW.row (fun c g1 g2 => by rw [cg_cpW_out (by omega)])
/-- an act that is refused, behind changes of the law's rows that say the same -/
theorem act_n (d : Nat) (hW : cg_cpW M 27 1 = W) (hC : CI M) (hA : ACT W m8 args a N) (ha : a < 0) (h1 : ∀ c, c < 192 → M1 c = M c) (hR : LR W M1) : ∃ M', az_EX (d + 7) m8 (.ref 0 :: args) (az_hp M1) (some (.int a)) (az_hp M') ∧ INVL M' := by
  subst hW
  obtain ⟨M2, x2, g2, c2, w2⟩ := act_no d hC hA ha h1
  exact ⟨M2, x2, inv_close c2 ((sW_cp M).sy.tr w2) (fun _ _ => rfl) (hR.cr g2)⟩
theorem A_dropX (hI : IW W) {n : Int32} (h : ¬ cg_known n) : ACT W m_X8_drop [.int n] (-1) W := by
  have q := A_drop hI n
  rw [show cg_drop W n = (-1, W) from if_pos h] at q
  exact q
theorem A_takeX (W : az_Mem) {n : Int32} (h : ¬ cg_known n) : ACT W m_X8_take [.int n] (-1) W := by
  have q := A_take W n
  rw [show cg_tak W n = (-1, W) from if_pos h] at q
  exact q
theorem la_isTaken (d : Nat) (hM : INVL M) (x : Int32) : LA (d + 8) m_L_isTaken [.ref 0, .ref 192, .ref 193, .ref 195, .int x] M := by
  obtain ⟨hR, hI, hX⟩ := inv_w hM
  generalize hWW : cg_cpW M 27 1 = W at hR hI hX
  obtain ⟨Z, a, S, p, hZ, ha, h2, h4Z, haZ, h4, hS, h2S, h6, hp, hpS, hps⟩ := pts hI hX
  refine LA.of (az_in0 (code := k_L_isTaken) (ls := [some (.ref 0), some (.ref 192), some (.ref 193), some (.ref 195), some (.int x), none, none]) rfl rfl rfl ?_)
  have hl : lw x 12 < 12 := lw_lt x (by decide)
  refine az_sgp rfl rfl rfl rfl ?_
  refine az_cav rfl rfl rfl rfl (el_low (d + 6) x (n := 12) (by decide) (by decide)) ?_
  generalize lw x 12 = l at hl ⊢
  refine az_sgp rfl rfl rfl rfl ?_
  refine az_cav rfl rfl rfl rfl (el_low (d + 6) (x >>> (5 &&& 31)) (n := 3) (by decide) (by decide)) ?_
  refine az_bra rfl rfl rfl (fun qd => ?_) (fun qd => ?_)
  · -- a load is given up
    have hA := A_drop hI (nI l)
    have hiw := iw_drop hI (nI l)
    rw [cg_dropN (by omega)] at hA hiw
    have tl : ∀ (v : Int32) (X Mx : az_Mem), ¬ v = 0 → ¬ v < 0 → frL M Mx → LR X Mx → ACT W m_X8_drop [.int (nI l)] v (az_up (az_up X 19 l 0) 23 l 0) → IW (az_up (az_up X 19 l 0) 23 l 0) → LX (az_up (az_up X 19 l 0) 23 l 0) → az_RUN (d + 7) k_L_isTaken 40 [some (.ref 0), some (.ref 192), some (.ref 193), some (.ref 195), some (.int x), some (.int (nI l)), some (.int v)] [] (az_hp Mx) (fun r1 h1 => r1 = some (.int 1) ∧ ∃ M', INVL M' ∧ h1 = az_hp M') := by
      intro v X Mx hv0 hvn fx rx hA2 iw lx
      obtain ⟨M2, x2, g2, c2, w2⟩ := act_y (M1 := az_up (az_up Mx 195 (4 * l) 0) 195 (4 * l + 3) 0) d hWW hM.2.2.2 hA2 hvn (fun c hc => by rw [az_up_row (by omega), az_up_row (by omega)]; exact fx c hc) iw lx
      have i2 : INVL M2 := inv_close c2 w2 (fun _ _ => rfl) (((rx.m_lw hl 0).m_lh hl 0).cr g2)
      obtain ⟨M3, x3, i3⟩ := act_e d rfl i2 (A_dropX (W := cg_cpW M2 27 1) (inv_w i2).2.1 (n := -1) (by decide)) (by decide)
      refine az_sgp rfl rfl rfl rfl ?_
      refine az_ast rfl rfl (k := 4 * l) (ix4 l) (by omega) (by decide) ?_
      refine az_sgp rfl rfl rfl rfl ?_
      refine az_bra rfl rfl rfl (fun q => ?_) (fun q => ?_)
      · exact absurd q hv0
      refine az_sgp rfl rfl rfl rfl ?_
      refine az_ast rfl rfl (k := 4 * l + 3) (ix4c l 3) (by omega) (by decide) ?_
      refine az_sgp rfl rfl rfl rfl ?_
      refine az_cav rfl rfl rfl rfl (x2) ?_
      refine az_sgp rfl rfl rfl rfl ?_
      refine az_bra rfl rfl rfl (fun q => ?_) (fun q => ?_)
      · exact absurd q hv0
      refine az_sgp rfl rfl rfl rfl ?_
      refine az_bra rfl rfl rfl (fun q => ?_) (fun q => ?_)
      · refine az_sgp rfl rfl rfl rfl ?_
        refine az_cav rfl rfl rfl rfl (x3) ?_
        refine az_sgp rfl rfl rfl rfl ?_
        refine az_bra rfl rfl rfl (fun q => ?_) (fun q => ?_)
        · refine az_sgp rfl rfl rfl rfl ?_
          refine az_ret rfl rfl rfl rfl ?_
          exact ⟨rfl, M3, i3, rfl⟩
        · exact absurd rfl q
      · exact absurd rfl q
    rcases hX.pl l (by omega) with q0 | q1 | q2
    · rw [if_pos q0] at hA
      have r0 := (hR.m_lw hl 0).m_lh hl (W 23 l)
      rw [az_up_id (M := W) (show W 19 l = 0 from q0), az_up_id (M := W) rfl] at r0
      obtain ⟨M2, x2, i2⟩ := act_n (M1 := az_up (az_up M 195 (4 * l) 0) 195 (4 * l + 3) (W 23 l)) d hWW hM.2 hA (show (-5 : Int32) < 0 by decide) (fun c hc => by rw [az_up_row (by omega), az_up_row (by omega)]) r0
      obtain ⟨M3, x3, i3⟩ := act_e d rfl i2 (A_dropX (W := cg_cpW M2 27 1) (inv_w i2).2.1 (n := -1) (by decide)) (by decide)
      refine az_sgp rfl rfl rfl rfl ?_
      refine az_ald rfl rfl (k := 4 * l) (ix4 l) (by omega) (by decide) ((hR.lw hl).trans q0) ?_
      refine az_sgp rfl rfl rfl rfl ?_
      refine az_bra rfl rfl rfl (fun q => ?_) (fun q => ?_)
      · exact absurd q (by decide)
      refine az_sgp rfl rfl rfl rfl ?_
      refine az_ast rfl rfl (k := 4 * l) (ix4 l) (by omega) (by decide) ?_
      refine az_sgp rfl rfl rfl rfl ?_
      refine az_bra rfl rfl rfl (fun q => ?_) (fun q => ?_)
      rotate_left
      · exact absurd rfl q
      refine az_sgp rfl rfl rfl rfl ?_
      refine az_ald rfl rfl (k := 4 * l + 3) (ix4c l 3) (by omega) (by decide) ((show _ = W 23 l from (hR.m_lw hl 0).lh hl)) ?_
      refine az_sgp rfl rfl rfl rfl ?_
      refine az_ast rfl rfl (k := 4 * l + 3) (ix4c l 3) (by omega) (by decide) ?_
      refine az_sgp rfl rfl rfl rfl ?_
      refine az_cav rfl rfl rfl rfl (x2) ?_
      refine az_sgp rfl rfl rfl rfl ?_
      refine az_bra rfl rfl rfl (fun q => ?_) (fun q => ?_)
      rotate_left
      · exact absurd rfl q
      refine az_sgp rfl rfl rfl rfl ?_
      refine az_bra rfl rfl rfl (fun q => ?_) (fun q => ?_)
      · refine az_sgp rfl rfl rfl rfl ?_
        refine az_cav rfl rfl rfl rfl (x3) ?_
        refine az_sgp rfl rfl rfl rfl ?_
        refine az_bra rfl rfl rfl (fun q => ?_) (fun q => ?_)
        · refine az_sgp rfl rfl rfl rfl ?_
          refine az_ret rfl rfl rfl rfl ?_
          exact ⟨rfl, M3, i3, rfl⟩
        · exact absurd rfl q
      · exact absurd rfl q
    · rw [if_neg (by rw [q1]; decide), hI.bagn (by omega) (by rw [q1]; decide), q1] at hA
      rw [if_neg (by rw [q1]; decide), hI.bagn (by omega) (by rw [q1]; decide)] at hiw
      have t0 := tl 1 W M (by decide) (by decide) (frL.rf M) hR hA hiw ((hX.place hl (Or.inl rfl)).heat hl 0)
      refine az_sgp rfl rfl rfl rfl ?_
      refine az_ald rfl rfl (k := 4 * l) (ix4 l) (by omega) (by decide) ((hR.lw hl).trans q1) ?_
      refine az_sgp rfl rfl rfl rfl ?_
      refine az_bra rfl rfl rfl (fun q => ?_) (fun q => ?_)
      · exact absurd q (by decide)
      exact t0
    · obtain ⟨B, R, qq, hB, hRo, hBR, hR6, hqB, hql, hun⟩ := hI.bagl (by omega) q2
      rw [if_neg (by rw [q2]; decide), cg_unpN hB hqB (by omega) hql hun, q2] at hA
      rw [if_neg (by rw [q2]; decide), cg_unpN hB hqB (by omega) hql hun] at hiw
      obtain ⟨M1, f1, r1, x1⟩ := el_leaves (d + 5) hR hB hqB (by omega) hql hun
      have t0 := tl 2 (cg_ub W qq B) M1 (by decide) (by decide) f1 r1 hA hiw (((hX.ub qq B).place hl (Or.inl rfl)).heat hl 0)
      refine az_sgp rfl rfl rfl rfl ?_
      refine az_ald rfl rfl (k := 4 * l) (ix4 l) (by omega) (by decide) ((hR.lw hl).trans q2) ?_
      refine az_sgp rfl rfl rfl rfl ?_
      refine az_bra rfl rfl rfl (fun q => ?_) (fun q => ?_)
      rotate_left
      · exact absurd rfl q
      refine az_sgp rfl rfl rfl rfl ?_
      refine az_can rfl rfl rfl rfl (x1) ?_
      exact t0
  · -- a load is taken
    obtain ⟨B, R, hB, hRo, hBR, hR6, hb1, hb2, hb3⟩ := hI.bag
    have b157 : ∀ (l : Nat) (k : Int32), l < 12 → az_RUN (d + 7) k_L_isTaken 157 [some (.ref 0), some (.ref 192), some (.ref 193), some (.ref 195), some (.int x), some (.int (nI l)), some (.int k)] [] (az_hp M) (fun r1 h1 => r1 = some (.int 1) ∧ ∃ M', INVL M' ∧ h1 = az_hp M') := by
      intro l k hl
      have hA := A_take W (nI l)
      have hiw := iw_tak hI (nI l)
      rw [cg_takN (by omega) ha hB hRo hBR hR6] at hA hiw
      have err : ¬ (W 19 l = 1 ∧ W 21 l / 12 = nI a) → az_RUN (d + 7) k_L_isTaken 181 [some (.ref 0), some (.ref 192), some (.ref 193), some (.ref 195), some (.int x), some (.int (nI l)), some (.int k)] [] (az_hp M) (fun r1 h1 => r1 = some (.int 1) ∧ ∃ M', INVL M' ∧ h1 = az_hp M') := by
        intro c
        rw [if_pos c] at hA
        obtain ⟨M2, x2, i2⟩ := act_e d hWW hM hA (show (-4 : Int32) < 0 by decide)
        obtain ⟨M3, x3, i3⟩ := act_e d rfl i2 (A_takeX (cg_cpW M2 27 1) (n := 40) (by decide)) (by decide)
        refine az_sgp rfl rfl rfl rfl ?_
        refine az_cav rfl rfl rfl rfl (x2) ?_
        refine az_sgp rfl rfl rfl rfl ?_
        refine az_bra rfl rfl rfl (fun q => ?_) (fun q => ?_)
        · refine az_sgp rfl rfl rfl rfl ?_
          refine az_cav rfl rfl rfl rfl (x3) ?_
          refine az_sgp rfl rfl rfl rfl ?_
          refine az_bra rfl rfl rfl (fun q => ?_) (fun q => ?_)
          · refine az_sgp rfl rfl rfl rfl ?_
            refine az_ret rfl rfl rfl rfl ?_
            exact ⟨rfl, M3, i3, rfl⟩
          · exact absurd rfl q
        · exact absurd rfl q
      refine az_sgp rfl rfl rfl rfl ?_
      refine az_ald rfl rfl (k := 4 * l) (ix4 l) (by omega) (by decide) (hR.lw hl) ?_
      refine az_sgp rfl rfl rfl rfl ?_
      refine az_bra rfl rfl rfl (fun q1 => ?_) (fun q1 => ?_)
      rotate_left
      · exact err (fun c => q1 c.1)
      refine az_sgp rfl rfl rfl rfl ?_
      refine az_ald rfl rfl (k := 4 * l + 1) (ix4c l 1) (by omega) (by decide) (hR.li hl) ?_
      refine az_sgp rfl rfl rfl rfl ?_
      refine az_ald rfl rfl (k := 2) (rfl) (by omega) (by decide) (hR.at_.trans ha) ?_
      refine az_bra rfl rfl rfl (fun q3 => ?_) (fun q3 => ?_)
      rotate_left
      · exact err (fun c => q3 c.2)
      have e0 := not_not_intro (And.intro q1 q3)
      rw [if_neg e0] at hA hiw
      refine az_sgp rfl rfl rfl rfl ?_
      refine az_ald rfl rfl (k := 12) (rfl) (by omega) (by decide) (hR.many.trans hB) ?_
      refine az_sgp rfl rfl rfl rfl ?_
      refine az_ald rfl rfl (k := 5) (rfl) (by omega) (by decide) (hR.room.trans hRo) ?_
      refine az_bra rfl rfl rfl (fun q4 => ?_) (fun q4 => ?_)
      · rw [nI_eq (by omega) (by omega)] at q4
        rw [if_pos (by omega)] at hA
        obtain ⟨M2, x2, i2⟩ := act_e d hWW hM hA (show (-3 : Int32) < 0 by decide)
        refine az_sgp rfl rfl rfl rfl ?_
        refine az_cav rfl rfl rfl rfl (x2) ?_
        refine az_sgp rfl rfl rfl rfl ?_
        refine az_bra rfl rfl rfl (fun q => ?_) (fun q => ?_)
        · refine az_sgp rfl rfl rfl rfl ?_
          refine az_ret rfl rfl rfl rfl ?_
          exact ⟨rfl, M2, i2, rfl⟩
        · exact absurd rfl q
      · rw [nI_eq (by omega) (by omega)] at q4
        have hB6 : B < 6 := by omega
        rw [if_neg (by omega), cg_packUpN (by omega) hB hB6] at hA hiw
        have r1 := hR.m_bag hB6 (nI l)
        have r2 := r1.m_many (nI (B + 1))
        have r3 := r2.m_lw hl 2
        obtain ⟨M2, x2, g2, c2, w2⟩ := act_y (M1 := az_up (az_up (az_up M 192 (13 + B) (nI l)) 192 12 (nI (B + 1))) 195 (4 * l) 2) d hWW hM.2.2.2 hA (nI_pos (by omega)) (fun c hc => by rw [az_up_row (by omega), az_up_row (by omega), az_up_row (by omega)]) hiw (((hX.oth 26 _ _ (by decide)).oth 24 _ _ (by decide)).place hl (Or.inr (Or.inr rfl)))
        have i2 : INVL M2 := inv_close c2 w2 (fun _ _ => rfl) (r3.cr g2)
        refine az_sgp rfl rfl rfl rfl ?_
        refine az_ald rfl rfl (k := 12) (rfl) (by omega) (by decide) (hR.many.trans hB) ?_
        refine az_sgp rfl rfl rfl rfl ?_
        refine az_ast rfl rfl (k := 13 + B) (nI_add 13 B) (by omega) (by decide) ?_
        refine az_sgp rfl rfl rfl rfl ?_
        refine az_ald rfl rfl (k := 12) (rfl) (by omega) (by decide) ((show _ = nI B from r1.many.trans hB)) ?_
        refine az_sgp rfl rfl rfl rfl ?_
        rw [nI_1]
        refine az_ast rfl rfl (k := 12) (rfl) (by omega) (by decide) ?_
        refine az_sgp rfl rfl rfl rfl ?_
        refine az_ast rfl rfl (k := 4 * l) (ix4 l) (by omega) (by decide) ?_
        refine az_sgp rfl rfl rfl rfl ?_
        refine az_cav rfl rfl rfl rfl (x2) ?_
        refine az_sgp rfl rfl rfl rfl ?_
        refine az_ald rfl rfl (k := 12) (rfl) (by omega) (by decide) ((show _ = nI (B + 1) by rw [g2 192 (by decide)]; exact r3.many)) ?_
        refine az_bra rfl rfl rfl (fun q => ?_) (fun q => ?_)
        · refine az_sgp rfl rfl rfl rfl ?_
          refine az_ret rfl rfl rfl rfl ?_
          exact ⟨rfl, M2, i2, rfl⟩
        · exact absurd rfl q
    have K : ∀ (m k l : Nat), l < 12 → k + m = 12 → az_RUN (d + 7) k_L_isTaken 111 [some (.ref 0), some (.ref 192), some (.ref 193), some (.ref 195), some (.int x), some (.int (nI l)), some (.int (nI k))] [] (az_hp M) (fun r1 h1 => r1 = some (.int 1) ∧ ∃ M', INVL M' ∧ h1 = az_hp M') := by
      intro m
      induction m with
      | zero =>
        intro k l hl hk
        have e : k = 12 := by omega
        subst e
        refine az_sgp rfl rfl rfl rfl ?_
        refine az_bra rfl rfl rfl (fun q => ?_) (fun q => ?_)
        · exact b157 l _ hl
        · exact absurd (nI_le (a := 12) (b := 12) (Nat.le_refl _) (by decide)) q
      | succ m ih =>
        intro k l hl hk
        have nx : az_RUN (d + 7) k_L_isTaken 142 [some (.ref 0), some (.ref 192), some (.ref 193), some (.ref 195), some (.int x), some (.int (nI l)), some (.int (nI k))] [] (az_hp M) (fun r1 h1 => r1 = some (.int 1) ∧ ∃ M', INVL M' ∧ h1 = az_hp M') := by
          refine az_sgp rfl rfl rfl rfl ?_
          refine az_grd rfl rfl rfl rfl ?_
          rw [show (bif Nat.beq 32 31 then (nI l + 1) / 12 else (nI l + 1) - (nI l + 1) / 12 * 12) = nI ((l + 1) % 12) by show (nI l + 1) - (nI l + 1) / nI 12 * nI 12 = _; rw [nI_1, nI_mod (by omega) (by decide)]]
          refine az_sgp rfl rfl rfl rfl ?_
          refine az_sg 1 rfl ?_
          have i1 := ih (k + 1) ((l + 1) % 12) (Nat.mod_lt _ (by decide)) (by omega)
          rw [← nI_1 k] at i1
          exact i1
        refine az_sgp rfl rfl rfl rfl ?_
        refine az_bra rfl rfl rfl (fun q0 => ?_) (fun q0 => ?_)
        · exact absurd q0 (nI_ge (a := k) (b := 12) (by omega) (by decide))
        refine az_sgp rfl rfl rfl rfl ?_
        refine az_ald rfl rfl (k := 4 * l) (ix4 l) (by omega) (by decide) (hR.lw hl) ?_
        refine az_sgp rfl rfl rfl rfl ?_
        refine az_bra rfl rfl rfl (fun q1 => ?_) (fun q1 => ?_)
        rotate_left
        · exact nx
        refine az_sgp rfl rfl rfl rfl ?_
        refine az_ald rfl rfl (k := 4 * l + 1) (ix4c l 1) (by omega) (by decide) (hR.li hl) ?_
        refine az_sgp rfl rfl rfl rfl ?_
        refine az_ald rfl rfl (k := 2) (rfl) (by omega) (by decide) (hR.at_.trans ha) ?_
        refine az_bra rfl rfl rfl (fun q3 => ?_) (fun q3 => ?_)
        · exact b157 l _ hl
        · exact nx
    refine az_sg 2 rfl ?_
    exact K 12 0 l hl (by omega)
theorem cg_sealN {a : Nat} (ha : W 24 0 = nI a) (h8 : a < 8) : cg_seal W = if ¬ W 8 a = 0 then (-5, W) else (W 2 1 - W 4 a, az_up W 8 a 1) := by
  unfold cg_seal
  rw [ha, az_rdN h8 (by decide), az_rdN h8 (by decide), az_wrN h8 (by decide)]
theorem cg_resetN {a P : Nat} (ha : W 24 0 = nI a) (h8 : a < 8) : cg_reset W P = if ¬ nI (cg_cl W (nI a) P) ≤ 0 then (-4, W) else if ¬ 3 ≤ W 24 1 then (-6, W) else if nI P = 0 ∧ W 8 a = 0 then (-5, W) else (nI P, cg_clear (cg_pay W 3) (nI a)) := by
  unfold cg_reset
  rw [ha, az_rdN h8 (by decide)]
theorem cg_clearN {a : Nat} (h8 : a < 8) : cg_clear X (nI a) = az_up (az_up (az_up (az_up X 4 a 0) 8 a 0) 12 a (X 12 a + 1)) 2 3 (X 2 3 + 1) := by
  unfold cg_clear
  rw [az_rdN h8 (by decide), az_wrN h8 (by decide), az_wrN h8 (by decide), az_wrN h8 (by decide)]
theorem la_isReset (d : Nat) (hM : INVL M) (x : Int32) : LA (d + 8) m_L_isReset [.ref 0, .ref 192, .ref 193, .ref 194, .ref 195, .int x] M := by
  obtain ⟨hR, hI, hX⟩ := inv_w hM
  generalize hWW : cg_cpW M 27 1 = W at hR hI hX
  obtain ⟨Z, a, S, p, hZ, ha, h2, h4Z, haZ, h4, hS, h2S, h6, hp, hpS, hps⟩ := pts hI hX
  refine LA.of (az_in0 (code := k_L_isReset) (ls := [some (.ref 0), some (.ref 192), some (.ref 193), some (.ref 194), some (.ref 195), some (.int x), none, none]) rfl rfl rfl ?_)
  refine az_sgp rfl rfl rfl rfl ?_
  refine az_ald rfl rfl (k := 2) (rfl) (by omega) (by decide) (hR.at_.trans ha) ?_
  refine az_sgp rfl rfl rfl rfl ?_
  refine az_cav rfl rfl rfl rfl (el_low (d + 6) x (n := 3) (by decide) (by decide)) ?_
  refine az_bra rfl rfl rfl (fun qd => ?_) (fun qd => ?_)
  · -- the zone is sealed
    have hA := A_seal W
    have hiw := iw_seal hI
    rw [cg_sealN ha (by omega)] at hA hiw
    refine az_sgp rfl rfl rfl rfl ?_
    refine az_ald rfl rfl (k := 5 * a + 1) (ix5c a 1) (by omega) (by decide) (hR.zs h4) ?_
    refine az_sgp rfl rfl rfl rfl ?_
    refine az_bra rfl rfl rfl (fun q1 => ?_) (fun q1 => ?_)
    · rw [if_pos (by rw [q1]; decide)] at hA
      obtain ⟨M2, x2, i2⟩ := act_e d hWW hM hA (show (-5 : Int32) < 0 by decide)
      refine az_sgp rfl rfl rfl rfl ?_
      refine az_cav rfl rfl rfl rfl (x2) ?_
      refine az_sgp rfl rfl rfl rfl ?_
      refine az_bra rfl rfl rfl (fun q => ?_) (fun q => ?_)
      · refine az_sgp rfl rfl rfl rfl ?_
        refine az_ret rfl rfl rfl rfl ?_
        exact ⟨rfl, M2, i2, rfl⟩
      · exact absurd rfl q
    · have q0 : W 8 a = 0 := (hI.sld a (by omega)).elim id (fun c => absurd c q1)
      rw [if_neg (not_not_intro q0)] at hA hiw
      have r1 := hR.m_zs h4 1
      have ea : W 2 1 - W 4 a = nI (S - p) := by rw [hS, hp, nI_sub hpS]
      obtain ⟨M2, x2, g2, c2, w2⟩ := act_y (M1 := az_up M 193 (5 * a + 1) 1) d hWW hM.2.2.2 hA (show ¬ W 2 1 - W 4 a < 0 by rw [ea]; exact nI_pos (by omega)) (fun c hc => by rw [az_up_row (by omega)]) hiw (hX.oth 8 _ _ (by decide))
      have i2 : INVL M2 := inv_close c2 w2 (fun _ _ => rfl) (r1.cr g2)
      have w3 : sW (az_up W 8 a 1) (cg_cpW M2 27 1) := w2.tr (sW_cp M2)
      have hA2 := A_seal (cg_cpW M2 27 1)
      rw [cg_sealN (a := a) (by rw [← w3 24 0 (by decide)]; exact ha) (by omega), if_pos (by rw [← w3 8 a (show a < 8 by omega), az_up_same]; decide)] at hA2
      obtain ⟨M3, x3, i3⟩ := act_e d rfl i2 hA2 (show (-5 : Int32) < 0 by decide)
      refine az_sgp rfl rfl rfl rfl ?_
      refine az_ast rfl rfl (k := 5 * a + 1) (ix5c a 1) (by omega) (by decide) ?_
      refine az_sgp rfl rfl rfl rfl ?_
      refine az_cav rfl rfl rfl rfl (x2) ?_
      refine az_sgp rfl rfl rfl rfl ?_
      refine az_ald rfl rfl (k := 1) (rfl) (by omega) (by decide) ((show _ = W 2 1 by rw [g2 192 (by decide)]; exact r1.slots)) ?_
      refine az_sgp rfl rfl rfl rfl ?_
      refine az_ald rfl rfl (k := 5 * a) (ix5 a) (by omega) (by decide) ((show _ = W 4 a by rw [g2 193 (by decide)]; exact r1.zp h4)) ?_
      refine az_sgp rfl rfl rfl rfl ?_
      refine az_bra rfl rfl rfl (fun q => ?_) (fun q => ?_)
      · refine az_sgp rfl rfl rfl rfl ?_
        refine az_cav rfl rfl rfl rfl (x3) ?_
        refine az_sgp rfl rfl rfl rfl ?_
        refine az_bra rfl rfl rfl (fun q => ?_) (fun q => ?_)
        · refine az_sgp rfl rfl rfl rfl ?_
          refine az_ret rfl rfl rfl rfl ?_
          exact ⟨rfl, M3, i3, rfl⟩
        · exact absurd rfl q
      · exact absurd rfl q
  · -- it is reset
    have hA := A_reset W (P := p) (by rw [ha, az_rdN (by omega) (by decide)]; exact hp) (by omega)
    have hiw := iw_reset hI p
    rw [cg_resetN ha (by omega)] at hA hiw
    refine az_sgp rfl rfl rfl rfl ?_
    refine az_ald rfl rfl (k := 2) (rfl) (by omega) (by decide) (hR.at_.trans ha) ?_
    refine az_cav rfl rfl rfl rfl (el_live (d + 5) hR hX h4 hp (by omega)) ?_
    refine az_bra rfl rfl rfl (fun q1 => ?_) (fun q1 => ?_)
    rotate_left
    · rw [if_pos q1] at hA
      obtain ⟨M2, x2, i2⟩ := act_e d hWW hM hA (show (-4 : Int32) < 0 by decide)
      refine az_sgp rfl rfl rfl rfl ?_
      refine az_cav rfl rfl rfl rfl (x2) ?_
      refine az_sgp rfl rfl rfl rfl ?_
      refine az_bra rfl rfl rfl (fun q => ?_) (fun q => ?_)
      · refine az_sgp rfl rfl rfl rfl ?_
        refine az_ret rfl rfl rfl rfl ?_
        exact ⟨rfl, M2, i2, rfl⟩
      · exact absurd rfl q
    rw [if_neg (not_not_intro q1)] at hA hiw
    refine az_sgp rfl rfl rfl rfl ?_
    refine az_ald rfl rfl (k := 3) (rfl) (by omega) (by decide) (hR.water) ?_
    refine az_sgp rfl rfl rfl rfl ?_
    refine az_bra rfl rfl rfl (fun q3 => ?_) (fun q3 => ?_)
    rotate_left
    · rw [if_pos q3] at hA
      obtain ⟨M2, x2, i2⟩ := act_e d hWW hM hA (show (-6 : Int32) < 0 by decide)
      refine az_sgp rfl rfl rfl rfl ?_
      refine az_cav rfl rfl rfl rfl (x2) ?_
      refine az_sgp rfl rfl rfl rfl ?_
      refine az_bra rfl rfl rfl (fun q => ?_) (fun q => ?_)
      · refine az_sgp rfl rfl rfl rfl ?_
        refine az_ret rfl rfl rfl rfl ?_
        exact ⟨rfl, M2, i2, rfl⟩
      · exact absurd rfl q
    rw [if_neg (not_not_intro q3)] at hA hiw
    have yes : ¬ (nI p = 0 ∧ W 8 a = 0) → az_RUN (d + 7) k_L_isReset 159 [some (.ref 0), some (.ref 192), some (.ref 193), some (.ref 194), some (.ref 195), some (.int x), some (.int (5 * nI a)), none] [] (az_hp M) (fun r1 h1 => r1 = some (.int 1) ∧ ∃ M', INVL M' ∧ h1 = az_hp M') := by
      intro qn
      rw [if_neg qn] at hA hiw
      have hlx : LX (cg_clear (cg_pay W 3) (nI a)) := by
        rw [cg_clearN (by omega)]
        exact ((((hX.pay 3).oth 4 _ _ (by decide)).oth 8 _ _ (by decide)).oth 12 _ _ (by decide)).mark 3 _ (by decide)
      obtain ⟨M1, f1, r1, x1⟩ := el_resets (d + 6) hR ha h4
      obtain ⟨M2, x2, g2, c2, w2⟩ := act_y (M1 := M1) d hWW hM.2.2.2 hA (nI_pos (by omega)) f1 hiw hlx
      have i2 : INVL M2 := inv_close c2 w2 (fun _ _ => rfl) (r1.cr g2)
      have w3 : sW (cg_clear (cg_pay W 3) (nI a)) (cg_cpW M2 27 1) := w2.tr (sW_cp M2)
      have e1 : cg_cpW M2 27 1 24 0 = nI a := by
        rw [← w3 24 0 (by decide), cg_clearN (by omega)]
        simp [az_up, cg_pay, ha]
      have e2 : cg_cpW M2 27 1 4 a = 0 := by
        rw [← w3 4 a (show a < 8 by omega), cg_clearN (by omega)]
        simp [az_up]
      have e3 : cg_cpW M2 27 1 8 a = 0 := by
        rw [← w3 8 a (show a < 8 by omega), cg_clearN (by omega)]
        simp [az_up]
      have e4 : cg_cpW M2 27 1 24 1 = M2 192 3 := by
        rw [← w3 24 1 (by decide), g2 192 (by decide)]
        exact r1.water.symm
      refine az_sgp rfl rfl rfl rfl ?_
      refine az_ald rfl rfl (k := 5 * a) (ix5 a) (by omega) (by decide) ((hR.zp h4).trans hp) ?_
      refine az_sgp rfl rfl rfl rfl ?_
      refine az_can rfl rfl rfl rfl (x1) ?_
      refine az_sgp rfl rfl rfl rfl ?_
      refine az_cav rfl rfl rfl rfl (x2) ?_
      refine az_sgp rfl rfl rfl rfl ?_
      refine az_bra rfl rfl rfl (fun q => ?_) (fun q => ?_)
      · refine az_sgp rfl rfl rfl rfl ?_
        refine az_ald rfl rfl (k := 3) (rfl) (by omega) (by decide) (e4.symm) ?_
        refine az_sgp rfl rfl rfl rfl ?_
        refine az_bra rfl rfl rfl (fun q6 => ?_) (fun q6 => ?_)
        · refine az_sgp rfl rfl rfl rfl ?_
          refine az_ret rfl rfl rfl rfl ?_
          exact ⟨rfl, M2, i2, rfl⟩
        · have q7 : 3 ≤ cg_cpW M2 27 1 24 1 := Int32.not_lt.mp q6
          have hA2 := A_reset (cg_cpW M2 27 1) (P := 0) (by rw [e1, az_rdN (by omega) (by decide)]; exact e2) (by omega)
          rw [cg_resetN e1 (by omega), if_neg (not_not_intro (show nI (cg_cl (cg_cpW M2 27 1) (nI a) 0) ≤ 0 from by show nI 0 ≤ 0; decide)), if_neg (not_not_intro q7), if_pos ⟨by decide, e3⟩] at hA2
          obtain ⟨M3, x3, i3⟩ := act_e d rfl i2 hA2 (show (-5 : Int32) < 0 by decide)
          refine az_sgp rfl rfl rfl rfl ?_
          refine az_cav rfl rfl rfl rfl (x3) ?_
          refine az_sgp rfl rfl rfl rfl ?_
          refine az_bra rfl rfl rfl (fun q => ?_) (fun q => ?_)
          · refine az_sgp rfl rfl rfl rfl ?_
            refine az_ret rfl rfl rfl rfl ?_
            exact ⟨rfl, M3, i3, rfl⟩
          · exact absurd rfl q
      · exact absurd rfl q
    refine az_sgp rfl rfl rfl rfl ?_
    refine az_ald rfl rfl (k := 5 * a) (ix5 a) (by omega) (by decide) ((hR.zp h4).trans hp) ?_
    refine az_bra rfl rfl rfl (fun q4 => ?_) (fun q4 => ?_)
    rotate_left
    · exact yes (fun c => q4 c.1)
    refine az_sgp rfl rfl rfl rfl ?_
    refine az_ald rfl rfl (k := 5 * a + 1) (ix5c a 1) (by omega) (by decide) (hR.zs h4) ?_
    refine az_bra rfl rfl rfl (fun q5 => ?_) (fun q5 => ?_)
    rotate_left
    · exact yes (fun c => q5 c.2)
    rw [if_pos ⟨q4, q5⟩] at hA
    obtain ⟨M2, x2, i2⟩ := act_e d hWW hM hA (show (-5 : Int32) < 0 by decide)
    refine az_sgp rfl rfl rfl rfl ?_
    refine az_cav rfl rfl rfl rfl (x2) ?_
    refine az_sgp rfl rfl rfl rfl ?_
    refine az_bra rfl rfl rfl (fun q => ?_) (fun q => ?_)
    · refine az_sgp rfl rfl rfl rfl ?_
      refine az_ret rfl rfl rfl rfl ?_
      exact ⟨rfl, M2, i2, rfl⟩
    · exact absurd rfl q
end TKR
