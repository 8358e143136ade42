/-! CLASS AND REFERENCE: an order is done -/
section ORDD
variable {M N W : az_Mem} {a : Int32}
def isLt (c : Int32) : Prop := c = 103 ∨ c = 119 ∨ c = 116 ∨ c = 112 ∨ c = 100 ∨ c = 114 ∨ c = 115 ∨ c = 99
/-- an order, done by the class and by the reference -/
def OD (W : az_Mem) (c n a : Int32) (N : az_Mem) : Prop := fW W N ∧ (okA a → IW N) ∧ az_EX 7 m_X8_doOrder [.ref 0, .int c, .int n] (az_hp W) (some (.int a)) (az_hp N) ∧ (∀ (M : az_Mem) (k : Nat), k < 32 → M 199 (2 * k) = c → M 199 (2 * k + 1) = n → RR W (M 193) → AC2 7 m_X9_done [.ref 192, .int (nI k)] M a N)
theorem od_103 (hI : IW W) (n : Int32) : OD W 103 n (cg_go W n).1 (cg_go W n).2 := by
  refine ⟨fw_go n, fun _ => iw_go hI n, ec8_ord_103 0 (ec_go 3 n), fun M k hk h1 h2 hR => ?_⟩
  obtain ⟨M', hf, hr, hE⟩ := (ex_goes 2 hR hI n).w
  refine ⟨M', hf, hr, ?_⟩
  refine az_EX.of (az_in0 (code := k_X9_done) (ls := [some (.ref 192), some (.int (nI k)), none]) rfl rfl rfl ?_)
  refine az_sgp rfl rfl rfl rfl ?_
  refine az_ald rfl rfl (k := 2 * k + 1) (by show nI 2 * nI k + nI 1 = _; rw [nI_mul, nI_add]) (by omega) (by decide) h2 ?_
  refine az_sgp rfl rfl rfl rfl ?_
  refine az_ald rfl rfl (k := 2 * k) (by show nI 2 * nI k = _; rw [nI_mul]) (by omega) (by decide) h1 ?_
  refine az_swi rfl rfl rfl ?_
  refine az_sgp rfl rfl rfl rfl ?_
  refine az_cav rfl rfl rfl rfl hE ?_
  refine az_ret rfl rfl rfl rfl ?_
  exact ⟨rfl, rfl⟩
theorem od_119 (hI : IW W) (n : Int32) : OD W 119 n (cg_write W n).1 (cg_write W n).2 := by
  refine ⟨fw_write n, fun q => iw_write hI n q, ec8_ord_119 0 (ec_writeAnew 2 n hI.bok), fun M k hk h1 h2 hR => ?_⟩
  obtain ⟨M', hf, hr, hE⟩ := (ex_writes 3 hR hI n).w
  refine ⟨M', hf, hr, ?_⟩
  refine az_EX.of (az_in0 (code := k_X9_done) (ls := [some (.ref 192), some (.int (nI k)), none]) rfl rfl rfl ?_)
  refine az_sgp rfl rfl rfl rfl ?_
  refine az_ald rfl rfl (k := 2 * k + 1) (by show nI 2 * nI k + nI 1 = _; rw [nI_mul, nI_add]) (by omega) (by decide) h2 ?_
  refine az_sgp rfl rfl rfl rfl ?_
  refine az_ald rfl rfl (k := 2 * k) (by show nI 2 * nI k = _; rw [nI_mul]) (by omega) (by decide) h1 ?_
  refine az_swi rfl rfl rfl ?_
  refine az_sgp rfl rfl rfl rfl ?_
  refine az_cav rfl rfl rfl rfl hE ?_
  refine az_ret rfl rfl rfl rfl ?_
  exact ⟨rfl, rfl⟩
theorem od_116 (hI : IW W) (n : Int32) : OD W 116 n (cg_tak W n).1 (cg_tak W n).2 := by
  refine ⟨fw_tak n, fun _ => iw_tak hI n, ec8_ord_116 0 (ec_tak 2 n), fun M k hk h1 h2 hR => ?_⟩
  obtain ⟨M', hf, hr, hE⟩ := (ex_takes 3 hR hI n).w
  refine ⟨M', hf, hr, ?_⟩
  refine az_EX.of (az_in0 (code := k_X9_done) (ls := [some (.ref 192), some (.int (nI k)), none]) rfl rfl rfl ?_)
  refine az_sgp rfl rfl rfl rfl ?_
  refine az_ald rfl rfl (k := 2 * k + 1) (by show nI 2 * nI k + nI 1 = _; rw [nI_mul, nI_add]) (by omega) (by decide) h2 ?_
  refine az_sgp rfl rfl rfl rfl ?_
  refine az_ald rfl rfl (k := 2 * k) (by show nI 2 * nI k = _; rw [nI_mul]) (by omega) (by decide) h1 ?_
  refine az_swi rfl rfl rfl ?_
  refine az_sgp rfl rfl rfl rfl ?_
  refine az_cav rfl rfl rfl rfl hE ?_
  refine az_ret rfl rfl rfl rfl ?_
  exact ⟨rfl, rfl⟩
theorem od_112 (hI : IW W) (n : Int32) : OD W 112 n (cg_put W n).1 (cg_put W n).2 := by
  refine ⟨fw_put n, fun q => iw_put hI n q, ec8_ord_112 0 (ec_putDown 2 n hI.bok), fun M k hk h1 h2 hR => ?_⟩
  obtain ⟨M', hf, hr, hE⟩ := (ex_puts 3 hR hI n).w
  refine ⟨M', hf, hr, ?_⟩
  refine az_EX.of (az_in0 (code := k_X9_done) (ls := [some (.ref 192), some (.int (nI k)), none]) rfl rfl rfl ?_)
  refine az_sgp rfl rfl rfl rfl ?_
  refine az_ald rfl rfl (k := 2 * k + 1) (by show nI 2 * nI k + nI 1 = _; rw [nI_mul, nI_add]) (by omega) (by decide) h2 ?_
  refine az_sgp rfl rfl rfl rfl ?_
  refine az_ald rfl rfl (k := 2 * k) (by show nI 2 * nI k = _; rw [nI_mul]) (by omega) (by decide) h1 ?_
  refine az_swi rfl rfl rfl ?_
  refine az_sgp rfl rfl rfl rfl ?_
  refine az_cav rfl rfl rfl rfl hE ?_
  refine az_ret rfl rfl rfl rfl ?_
  exact ⟨rfl, rfl⟩
theorem od_100 (hI : IW W) (n : Int32) : OD W 100 n (cg_drop W n).1 (cg_drop W n).2 := by
  refine ⟨fw_drop n, fun _ => iw_drop hI n, ec8_ord_100 0 (ec_giveUp 2 n hI.bok), fun M k hk h1 h2 hR => ?_⟩
  obtain ⟨M', hf, hr, hE⟩ := (ex_drops 3 hR hI n).w
  refine ⟨M', hf, hr, ?_⟩
  refine az_EX.of (az_in0 (code := k_X9_done) (ls := [some (.ref 192), some (.int (nI k)), none]) rfl rfl rfl ?_)
  refine az_sgp rfl rfl rfl rfl ?_
  refine az_ald rfl rfl (k := 2 * k + 1) (by show nI 2 * nI k + nI 1 = _; rw [nI_mul, nI_add]) (by omega) (by decide) h2 ?_
  refine az_sgp rfl rfl rfl rfl ?_
  refine az_ald rfl rfl (k := 2 * k) (by show nI 2 * nI k = _; rw [nI_mul]) (by omega) (by decide) h1 ?_
  refine az_swi rfl rfl rfl ?_
  refine az_sgp rfl rfl rfl rfl ?_
  refine az_cav rfl rfl rfl rfl hE ?_
  refine az_ret rfl rfl rfl rfl ?_
  exact ⟨rfl, rfl⟩
theorem od_114 (hI : IW W) (n : Int32) {P : Nat} (hP : az_rd (W 4) 8 (W 24 0) = nI P) (hP12 : P ≤ 12) : OD W 114 n (cg_reset W P).1 (cg_reset W P).2 := by
  refine ⟨fw_reset P, fun _ => iw_reset hI P, ec8_ord_114 0 (ec_resetHere 1 hP hP12), fun M k hk h1 h2 hR => ?_⟩
  obtain ⟨M', hf, hr, hE⟩ := (ex_resets 2 hR hI hP hP12).w
  refine ⟨M', hf, hr, ?_⟩
  refine az_EX.of (az_in0 (code := k_X9_done) (ls := [some (.ref 192), some (.int (nI k)), none]) rfl rfl rfl ?_)
  refine az_sgp rfl rfl rfl rfl ?_
  refine az_ald rfl rfl (k := 2 * k + 1) (by show nI 2 * nI k + nI 1 = _; rw [nI_mul, nI_add]) (by omega) (by decide) h2 ?_
  refine az_sgp rfl rfl rfl rfl ?_
  refine az_ald rfl rfl (k := 2 * k) (by show nI 2 * nI k = _; rw [nI_mul]) (by omega) (by decide) h1 ?_
  refine az_swi rfl rfl rfl ?_
  refine az_sgp rfl rfl rfl rfl ?_
  refine az_cav rfl rfl rfl rfl hE ?_
  refine az_ret rfl rfl rfl rfl ?_
  exact ⟨rfl, rfl⟩
theorem od_115 (hI : IW W) (n : Int32) : OD W 115 n (cg_seal W).1 (cg_seal W).2 := by
  refine ⟨fw_seal, fun _ => iw_seal hI, ec8_ord_115 0 (ec_sealHere 2), fun M k hk h1 h2 hR => ?_⟩
  obtain ⟨M', hf, hr, hE⟩ := (ex_seals 4 hR hI).w
  refine ⟨M', hf, hr, ?_⟩
  refine az_EX.of (az_in0 (code := k_X9_done) (ls := [some (.ref 192), some (.int (nI k)), none]) rfl rfl rfl ?_)
  refine az_sgp rfl rfl rfl rfl ?_
  refine az_ald rfl rfl (k := 2 * k + 1) (by show nI 2 * nI k + nI 1 = _; rw [nI_mul, nI_add]) (by omega) (by decide) h2 ?_
  refine az_sgp rfl rfl rfl rfl ?_
  refine az_ald rfl rfl (k := 2 * k) (by show nI 2 * nI k = _; rw [nI_mul]) (by omega) (by decide) h1 ?_
  refine az_swi rfl rfl rfl ?_
  refine az_sgp rfl rfl rfl rfl ?_
  refine az_cav rfl rfl rfl rfl hE ?_
  refine az_ret rfl rfl rfl rfl ?_
  exact ⟨rfl, rfl⟩
theorem od_99 (hI : IW W) (n : Int32) {P Z e : Nat} (hP : az_rd (W 4) 8 (W 24 0) = nI P) (hP12 : P ≤ 12) (hZ : W 2 0 = nI Z) (hZ8 : Z ≤ 8) (he : W 24 4 = nI e) (he6 : e ≤ 6) : OD W 99 n (cg_clean W P Z e).1 (cg_clean W P Z e).2 := by
  refine ⟨fw_clean P Z e, fun q => iw_clean hI hP hP12 hZ hZ8 he he6 q, ec8_ord_99 0 (ec_clean 0 hI hP hP12 hZ hZ8 he he6), fun M k hk h1 h2 hR => ?_⟩
  obtain ⟨M', hf, hr, hE⟩ := ex_cleans 1 hR hI hP hP12 hZ hZ8 he he6
  refine ⟨M', hf, hr, ?_⟩
  refine az_EX.of (az_in0 (code := k_X9_done) (ls := [some (.ref 192), some (.int (nI k)), none]) rfl rfl rfl ?_)
  refine az_sgp rfl rfl rfl rfl ?_
  refine az_ald rfl rfl (k := 2 * k + 1) (by show nI 2 * nI k + nI 1 = _; rw [nI_mul, nI_add]) (by omega) (by decide) h2 ?_
  refine az_sgp rfl rfl rfl rfl ?_
  refine az_ald rfl rfl (k := 2 * k) (by show nI 2 * nI k = _; rw [nI_mul]) (by omega) (by decide) h1 ?_
  refine az_swi rfl rfl rfl ?_
  refine az_sgp rfl rfl rfl rfl ?_
  refine az_cav rfl rfl rfl rfl hE ?_
  refine az_ret rfl rfl rfl rfl ?_
  exact ⟨rfl, rfl⟩
theorem od_all (hI : IW W) {c : Int32} (n : Int32) (hc : isLt c) : ∃ a N, OD W c n a N := by
  obtain ⟨P, hP, h12⟩ := hI.ptr
  obtain ⟨Z, za, hZ, ha, h2, h8, haZ⟩ := hI.zn
  obtain ⟨B, R, e1, e2, e3, e4, _⟩ := hI.bag
  rcases hc with rfl | rfl | rfl | rfl | rfl | rfl | rfl | rfl
  · exact ⟨_, _, od_103 hI n⟩
  · exact ⟨_, _, od_119 hI n⟩
  · exact ⟨_, _, od_116 hI n⟩
  · exact ⟨_, _, od_112 hI n⟩
  · exact ⟨_, _, od_100 hI n⟩
  · exact ⟨_, _, od_114 hI n hP h12⟩
  · exact ⟨_, _, od_115 hI n⟩
  · exact ⟨_, _, od_99 hI n hP h12 hZ h8 e1 (by omega)⟩
/-- the orders that were read, in both -/
def OR (K : Nat) (Mc Mr : az_Mem) : Prop := ∀ j, j < K → isLt (Mc 189 j) ∧ Mr 199 (2 * j) = Mc 189 j ∧ Mr 199 (2 * j + 1) = Mc 191 j
/-- the orders are done, one after the other -/
theorem od_loop {K : Nat} (hK : K ≤ 30) (fl : az_V) : ∀ (m i : Nat) (W : az_Mem), i + m = K → IW W → (∀ j, j < K → isLt (W 189 j)) → ∃ a N, fW W N ∧ (¬ a < 0 → IW N) ∧
    (∀ (Q : Option Value → az_H → Prop) (v5 : az_V), (∀ v4 v5, az_RUN 7 k_X8_perform 97 [some (.ref 0), fl, some (.int (nI K)), some (.int a), v4, v5] [] (az_hp N) Q) → az_RUN 7 k_X8_perform 42 [some (.ref 0), fl, some (.int (nI K)), some (.int (nI K)), some (.int (nI i)), v5] [] (az_hp W) Q) ∧
    (∀ (M : az_Mem) (v4 : az_V), RR W (M 193) → OR K W M → ∃ M3, fr2 M M3 ∧ (¬ a < 0 → RR N (M3 193)) ∧ ∀ M4, az_EX 7 m_X9_acted [.ref 192, .int a] (az_hp M3) (some (.int a)) (az_hp M4) → az_RUN 7 k_X9_perform 109 [some (.ref 192), some (.int (nI K)), some (.int 0), some (.int (nI i)), v4] [] (az_hp M) (fun r1 h1 => r1 = some (.int a) ∧ h1 = az_hp M4)) := by
  intro m
  induction m with
  | zero =>
    intro i W hs hI hl
    have ei : i = K := by omega
    subst ei
    refine ⟨nI i, W, fW.rf W, fun _ => hI, fun Q v5 kf => ?_, fun M v4 hR hO => ⟨M, fr2.rf M, fun _ => hR, fun M4 e4 => ?_⟩⟩
    · refine az_sgp rfl rfl rfl rfl ?_
      refine az_bra rfl rfl rfl (fun _ => ?_) (fun q => ?_)
      · exact kf _ _
      · exact absurd (nI_le (by omega) (by omega)) q
    · refine az_sgp rfl rfl rfl rfl ?_
      refine az_bra rfl rfl rfl (fun _ => ?_) (fun q => ?_)
      · refine az_sgp rfl rfl rfl rfl ?_
        refine az_cav rfl rfl rfl rfl e4 ?_
        refine az_ret rfl rfl rfl rfl ?_
        exact ⟨rfl, rfl⟩
      · exact absurd (nI_le (by omega) (by omega)) q
  | succ m ih =>
    intro i W hs hI hl
    obtain ⟨a1, N1, f1, i1, c1, r1⟩ := od_all hI (W 191 i) (hl i (by omega))
    have e89 : az_rd (W 189) 30 (nI i) = W 189 i := az_rdN (by omega) (by decide)
    have e91 : az_rd (W 191) 30 (nI i) = W 191 i := az_rdN (by omega) (by decide)
    -- up to what was told, in the class
    have toldC : ∀ (Q : Option Value → az_H → Prop) (v5 : az_V), az_RUN 7 k_X8_perform 74 [some (.ref 0), fl, some (.int (nI K)), some (.int (nI K)), some (.int (nI i)), v5] [.int a1] (az_hp N1) Q → az_RUN 7 k_X8_perform 42 [some (.ref 0), fl, some (.int (nI K)), some (.int (nI K)), some (.int (nI i)), v5] [] (az_hp W) Q := by
      intro Q v5 k
      refine az_sgp rfl rfl rfl rfl ?_
      refine az_bra rfl rfl rfl (fun q => ?_) (fun _ => ?_)
      · exact absurd q (nI_ge (by omega) (by omega))
      refine az_sgp rfl rfl rfl rfl ?_
      refine az_bra rfl rfl rfl (fun q => ?_) (fun _ => ?_)
      · exact absurd q (nI_pos (by omega))
      refine az_sgp rfl rfl rfl rfl ?_
      refine az_cav rfl rfl rfl rfl (ec_letterOf 5 (nI i)) ?_
      rw [e89]
      refine az_sgp rfl rfl rfl rfl ?_
      refine az_cav rfl rfl rfl rfl (ec_numberOf 5 (nI i)) ?_
      rw [e91]
      refine az_cav rfl rfl rfl rfl c1 ?_
      exact k
    have toldR : ∀ (M : az_Mem) (v4 : az_V), RR W (M 193) → OR K W M → ∃ M1, fr2 M M1 ∧ (okA a1 → RR N1 (M1 193)) ∧ ∀ Q, az_RUN 7 k_X9_perform 119 [some (.ref 192), some (.int (nI K)), some (.int 0), some (.int (nI i)), v4] [.int a1] (az_hp M1) Q → az_RUN 7 k_X9_perform 109 [some (.ref 192), some (.int (nI K)), some (.int 0), some (.int (nI i)), v4] [] (az_hp M) Q := by
      intro M v4 hR hO
      obtain ⟨o1, o2, o3⟩ := hO i (by omega)
      obtain ⟨M1, hf, hr, hE⟩ := r1 M i (by omega) o2 o3 hR
      refine ⟨M1, hf, hr, fun Q k => ?_⟩
      refine az_sgp rfl rfl rfl rfl ?_
      refine az_bra rfl rfl rfl (fun q => ?_) (fun _ => ?_)
      · exact absurd q (nI_ge (by omega) (by omega))
      refine az_sgp rfl rfl rfl rfl ?_
      refine az_cav rfl rfl rfl rfl hE ?_
      exact k
    by_cases hok : okA a1
    · have l2 : ∀ j, j < K → isLt (N1 189 j) := fun j hj => by
        rw [f1 189 (by omega)]
        exact hl j hj
      obtain ⟨a, N, f2, i2, c2, r2⟩ := ih (i + 1) N1 (by omega) (i1 hok) l2
      refine ⟨a, N, f1.tr f2, i2, fun Q v5 kf => ?_, fun M v4 hR hO => ?_⟩
      · refine toldC Q v5 ?_
        refine az_sgp rfl rfl rfl rfl ?_
        refine az_bra rfl rfl rfl (fun _ => ?_) (fun q => ?_)
        · refine az_sg 2 rfl ?_
          rw [nI_1]
          exact c2 Q _ kf
        · have e5 := hok.resolve_left q
          subst e5
          refine az_sgp rfl rfl rfl rfl ?_
          refine az_bra rfl rfl rfl (fun _ => ?_) (fun q => absurd rfl q)
          refine az_sg 2 rfl ?_
          rw [nI_1]
          exact c2 Q _ kf
      · obtain ⟨M1, g1, g2, g3⟩ := toldR M v4 hR hO
        have o2 : OR K N1 M1 := fun j hj => by
          rw [f1 189 (by omega), f1 191 (by omega), g1 199 (by omega) (by omega)]
          exact hO j hj
        obtain ⟨M3, k1, k2, k3⟩ := r2 M1 (some (.int a1)) (g2 hok) o2
        refine ⟨M3, g1.tr k1, k2, fun M4 e4 => ?_⟩
        refine g3 _ ?_
        refine az_sgp rfl rfl rfl rfl ?_
        refine az_bra rfl rfl rfl (fun _ => ?_) (fun q => ?_)
        · refine az_sg 2 rfl ?_
          rw [nI_1]
          exact k3 M4 e4
        · have e5 := hok.resolve_left q
          subst e5
          refine az_sgp rfl rfl rfl rfl ?_
          refine az_bra rfl rfl rfl (fun _ => ?_) (fun q => absurd rfl q)
          refine az_sg 2 rfl ?_
          rw [nI_1]
          exact k3 M4 e4
    · have n0 : ¬ 0 ≤ a1 := fun c => hok (Or.inl c)
      have n5 : ¬ a1 = -5 := fun c => hok (Or.inr c)
      have hlt : a1 < 0 := Int32.not_le.mp n0
      refine ⟨a1, N1, f1, fun c => absurd hlt c, fun Q v5 kf => ?_, fun M v4 hR hO => ?_⟩
      · refine toldC Q v5 ?_
        refine az_sgp rfl rfl rfl rfl ?_
        refine az_bra rfl rfl rfl (fun q => absurd q n0) (fun _ => ?_)
        refine az_sgp rfl rfl rfl rfl ?_
        refine az_bra rfl rfl rfl (fun q => absurd q n5) (fun _ => ?_)
        refine az_sg 4 rfl ?_
        rw [nI_1]
        refine az_sgp rfl rfl rfl rfl ?_
        refine az_bra rfl rfl rfl (fun _ => ?_) (fun _ => ?_)
        · exact kf _ _
        · refine az_sgp rfl rfl rfl rfl ?_
          refine az_bra rfl rfl rfl (fun _ => ?_) (fun q => absurd hlt q)
          exact kf _ _
      · obtain ⟨M1, g1, g2, g3⟩ := toldR M v4 hR hO
        refine ⟨M1, g1, fun c => absurd hlt c, fun M4 e4 => ?_⟩
        refine g3 _ ?_
        refine az_sgp rfl rfl rfl rfl ?_
        refine az_bra rfl rfl rfl (fun q => absurd q n0) (fun _ => ?_)
        refine az_sgp rfl rfl rfl rfl ?_
        refine az_bra rfl rfl rfl (fun q => absurd q n5) (fun _ => ?_)
        refine az_sgp rfl rfl rfl rfl ?_
        refine az_cav rfl rfl rfl rfl e4 ?_
        refine az_ret rfl rfl rfl rfl ?_
        exact ⟨rfl, rfl⟩
end ORDD
