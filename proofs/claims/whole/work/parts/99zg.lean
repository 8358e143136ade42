/-! CLASS AND REFERENCE: a text is read -/
section SIM
variable {M W : az_Mem}
theorem cg_rlN {k : Nat} (hk : k < 30) (h : M 185 4 = nI k) (c : Int32) : cg_rl M c = az_up (az_up (az_up M 189 k c) 191 k 0) 185 4 (nI (k + 1)) := by
  unfold cg_rl
  rw [h, az_wrN hk (by decide), az_wrN hk (by decide), nI_1]
theorem cg_dgN {k : Nat} (hk : k < 30) (h : M 185 4 = nI (k + 1)) (x : Int32) : cg_dg M x = M 191 k * 10 + (x - 48) := by
  unfold cg_dg
  rw [h, nI_pred, az_rdN hk (by decide)]
theorem OR.nx {k : Nat} {Mc Mr Mc2 Mr2 : az_Mem} (h : OR k Mc Mr) (h1 : ∀ j, j < k → Mc2 189 j = Mc 189 j ∧ Mc2 191 j = Mc 191 j) (h2 : ∀ j, j ≠ 2 * k → j ≠ 2 * k + 1 → Mr2 199 j = Mr 199 j) (h3 : isLt (Mc2 189 k)) (h4 : Mr2 199 (2 * k) = Mc2 189 k) (h5 : Mr2 199 (2 * k + 1) = Mc2 191 k) : OR (k + 1) Mc2 Mr2 := by
  intro j hj
  by_cases hjk : j = k
  · subst hjk
    exact ⟨h3, h4, h5⟩
  · obtain ⟨a, b, c⟩ := h j (by omega)
    obtain ⟨d1, d2⟩ := h1 j (by omega)
    rw [d1, d2, h2 _ (by omega) (by omega), h2 _ (by omega) (by omega)]
    exact ⟨a, b, c⟩
theorem sim {B : Nat} (h60 : B ≤ 60) (T : Nat → Int32) : ∀ (F p k : Nat) (Mc Mr : az_Mem), B - p < F → p ≤ B → 2 * k ≤ p → Mc 185 4 = nI k → Mc 187 = T → (∀ i, i < B → Mr 197 i = T i) → Mr 192 8 = nI B → OR k Mc Mr → Mr 192 10 = nI p → Mr 192 11 = 0 → ∀ (Q : Option Value → az_H → Prop),
    (∀ (x : Nat) (Mr' : az_Mem) (n : Int32), (cg_rdo (B - p) p 0 Mc).1 = nI x → x ≤ 60 → fr9 Mr Mr' → Mr' 192 10 = nI x → Mr' 192 11 = 1 → az_RUN 7 k_X9_perform 92 [some (.ref 192), some (.int n), some (.int 0), none, none] [] (az_hp Mr') Q) →
    (∀ (K : Nat) (Mr' : az_Mem), (cg_rdo (B - p) p 0 Mc).1 = -1 → K ≤ 30 → (cg_rdo (B - p) p 0 Mc).2 185 4 = nI K → OR K (cg_rdo (B - p) p 0 Mc).2 Mr' → fr9 Mr Mr' → Mr' 192 11 = 0 → az_RUN 7 k_X9_perform 92 [some (.ref 192), some (.int (nI K)), some (.int 0), none, none] [] (az_hp Mr') Q) →
    az_RUN 7 k_X9_perform 22 [some (.ref 192), some (.int (nI k)), some (.int 1), none, none] [] (az_hp Mr) Q := by
  intro F
  induction F with
  | zero => intro p k Mc Mr h; exact absurd h (by omega)
  | succ F ih =>
    intro p k Mc Mr hF hpB hkp hk hT hTr hB hO hp hw Q kf ks
    have hlk : ∀ (X : az_Mem), fr9 Mr X → ∀ i, i < B → lk X B i = T i := fun X f i hi => by
      rw [fr9_lk f]
      unfold lk
      rw [if_pos hi]
      exact hTr i hi
    have hlkN : ∀ (X : az_Mem), fr9 Mr X → ∀ i, ¬ i < B → lk X B i = -1 := fun X f i hi => by
      unfold lk
      rw [if_neg hi]
    have f8 : ∀ (X : az_Mem), fr9 Mr X → X 192 8 = nI B := fun X f => (f.2 8 (by decide) (by decide)).trans hB
    -- a fault
    have tailF : ∀ (Mr2 : az_Mem) (x : Nat), fr9 Mr Mr2 → Mr2 192 10 = nI x → x ≤ 60 → Mr2 192 11 = 1 → (cg_rdo (B - p) p 0 Mc).1 = nI x → az_RUN 7 k_X9_perform 27 [some (.ref 192), some (.int (nI k)), some (.int 1), none, none] [] (az_hp Mr2) Q := by
      intro Mr2 x f hx hx60 w2 hcx
      refine az_sgp rfl rfl rfl rfl ?_
      rw [w2]
      refine az_ifneT rfl ?_
      refine az_sgp rfl rfl rfl rfl ?_
      refine az_ifeqT rfl ?_
      refine az_sgp rfl rfl rfl rfl ?_
      refine az_ifeqT rfl ?_
      exact kf x Mr2 _ hcx hx60 f hx w2
    -- behind an order
    have tailOK : ∀ (Mr2 Mc2 : az_Mem) (q : Nat) (a : Int32), fr9 Mr Mr2 → q ≤ B → p < q → Mr2 192 10 = nI q → Mr2 192 11 = 0 → cg_rdo (B - p) p 0 Mc = cg_rdo (B - q) q a Mc2 → (a = 3 ∨ (a = 2 ∧ (q < B → ¬ dig (T q)))) → Mc2 185 4 = nI (k + 1) → Mc2 187 = T → OR (k + 1) Mc2 Mr2 → az_RUN 7 k_X9_perform 27 [some (.ref 192), some (.int (nI k)), some (.int 1), none, none] [] (az_hp Mr2) Q := by
      intro Mr2 Mc2 q a f hqB hpq hq w2 ec ha hk2 hT2 hO2
      rw [ec] at kf ks
      refine az_sgp rfl rfl rfl rfl ?_
      rw [w2, nI_1]
      refine az_ifneF rfl ?_
      refine az_sgp rfl rfl rfl rfl ?_
      rw [hq, f8 Mr2 f]
      refine az_bra rfl rfl rfl (fun c => ?_) (fun c => ?_)
      · rw [nI_leI (by omega) (by omega)] at c
        have eq : q = B := by omega
        subst eq
        have e0 : cg_rdo (q - q) q a Mc2 = (-1, Mc2) := by
          rw [Nat.sub_self]
          show (if a = 0 ∨ a = 1 then nI q else -1, Mc2) = _
          rcases ha with rfl | ⟨rfl, _⟩ <;> rfl
        rw [e0] at ks
        refine az_sgp rfl rfl rfl rfl ?_
        refine az_ifeqT rfl ?_
        refine az_sgp rfl rfl rfl rfl ?_
        refine az_ifeqT rfl ?_
        exact ks (k + 1) Mr2 rfl (by omega) hk2 hO2 f w2
      · rw [nI_leI (by omega) (by omega)] at c
        have hqB' : q < B := by omega
        have eT : T q = Mc2 187 q := by rw [hT2]
        have e1 := rdo_e (M := Mc2) (m := B - (q + 1)) (q := q) (a := a) (by omega) (by
          rcases ha with h | ⟨h1, h2⟩
          · exact Or.inl h
          · exact Or.inr ⟨h1, by rw [← eT]; exact h2 hqB'⟩)
        rw [show B - (q + 1) + 1 = B - q by omega, ← eT] at e1
        rw [e1] at kf ks
        refine az_sgp rfl rfl rfl rfl ?_
        refine az_ifeqF rfl ?_
        refine az_sgp rfl rfl rfl rfl ?_
        refine az_cav rfl rfl rfl rfl (ex_look 6 hq (f8 Mr2 f) h60 (by omega)) ?_
        rw [hlk Mr2 f q hqB']
        refine az_sgp rfl rfl rfl rfl ?_
        refine az_bra rfl rfl rfl (fun c2 => ?_) (fun c2 => ?_)
        · rw [if_pos c2] at kf ks
          obtain ⟨Mr3, e3, f3, g3, p3, w3⟩ := ex_must1 6 hq w2
          have f13 := f.tr f3
          refine az_sgp rfl rfl rfl rfl ?_
          refine az_can rfl rfl rfl rfl e3 ?_
          refine az_sgp rfl rfl rfl rfl ?_
          rw [w3]
          refine az_ifneF rfl ?_
          refine az_sg 4 rfl ?_
          refine az_sgp rfl rfl rfl rfl ?_
          refine az_ifeqF rfl ?_
          refine ih (q + 1) (k + 1) Mc2 Mr3 (by omega) (by omega) (by omega) hk2 hT2 (fun i hi => ?_) (f8 Mr3 f13) (fun j hj => ?_) p3 w3 Q (fun x Mr' n h1 h2 h3 h4 h5 => kf x Mr' n h1 h2 (f13.tr h3) h4 h5) (fun K Mr' h1 h2 h3 h4 h5 h6 => ks K Mr' h1 h2 h3 h4 (f13.tr h5) h6)
          · rw [f13.1 197 (by decide) (by decide)]
            exact hTr i hi
          · rw [g3]
            exact hO2 j hj
        · rw [if_neg c2] at kf ks
          obtain ⟨Mr3, e3, f3, g3, p3, w3⟩ := ex_must0 6 hq w2
          refine az_sgp rfl rfl rfl rfl ?_
          refine az_can rfl rfl rfl rfl e3 ?_
          refine az_sgp rfl rfl rfl rfl ?_
          rw [w3]
          refine az_ifneT rfl ?_
          refine az_sg 3 rfl ?_
          refine az_sgp rfl rfl rfl rfl ?_
          refine az_ifeqT rfl ?_
          exact kf q Mr3 _ rfl (by omega) (f.tr f3) p3 w3
    have fr := fr9.rf Mr
    refine az_sgp rfl rfl rfl rfl ?_
    rcases isLt_or (lk Mr B p) with hb | hb | hb
    · obtain ⟨M', e', f', p', w'⟩ := ex_orderB 4 (k := k) hp hw hB h60 (by omega) (by omega) hb
      refine az_can rfl rfl rfl rfl e' ?_
      refine tailF M' p f' p' (by omega) w' ?_
      by_cases c : p < B
      · rw [hlk Mr fr p c] at hb
        rw [show B - p = (B - p - 1) + 1 by omega, rdo_bad (by omega) (by rw [hT]; exact hb)]
      · rw [show B - p = 0 by omega]
        rfl
    · have c : p < B := by
        by_cases c : p < B
        · exact c
        · rw [hlkN Mr fr p c] at hb
          exact absurd hb (by decide)
      obtain ⟨M', e', f', p', w', r1, r2, r3⟩ := ex_orderA 4 (k := k) hp hw hB h60 (by omega) (by omega) hb
      rw [hlk Mr fr p c] at hb r2
      have erl := cg_rlN (M := Mc) (k := k) (by omega) hk (T p)
      refine az_can rfl rfl rfl rfl e' ?_
      refine tailOK M' (cg_rl Mc (T p)) (p + 1) 3 f' (by omega) (by omega) p' w' ?_ (Or.inl rfl) (by rw [erl, az_up_same]) (by rw [erl, az_up_row (by decide), az_up_row (by decide), az_up_row (by decide)]; exact hT) ?_
      · have e := rdo_al (M := Mc) (m := B - (p + 1)) (p := p) (by omega) (by rw [hT]; exact hb)
        rw [show B - (p + 1) + 1 = B - p by omega, hT] at e
        exact e
      · rw [erl]
        refine hO.nx (fun j hj => ?_) r1 ?_ ?_ ?_
        · have : ¬ j = k := by omega
          simp [az_up, this]
        · simpa [az_up] using isAl_lt hb
        · simpa [az_up] using r2
        · simpa [az_up] using r3
    · have c : p < B := by
        by_cases c : p < B
        · exact c
        · rw [hlkN Mr fr p c] at hb
          exact absurd hb (by decide)
      have hbT : isNm (T p) := by
        rw [← hlk Mr fr p c]
        exact hb
      have erl := cg_rlN (M := Mc) (k := k) (by omega) hk (T p)
      have e1 : cg_rdo (B - p) p 0 Mc = cg_rdo (B - (p + 1)) (p + 1) 1 (cg_rl Mc (T p)) := by
        have e := rdo_nm (M := Mc) (m := B - (p + 1)) (p := p) (by omega) (by rw [hT]; exact hbT)
        rw [show B - (p + 1) + 1 = B - p by omega, hT] at e
        exact e
      have rl4 : cg_rl Mc (T p) 185 4 = nI (k + 1) := by rw [erl, az_up_same]
      have rl7 : cg_rl Mc (T p) 187 = T := by rw [erl, az_up_row (by decide), az_up_row (by decide), az_up_row (by decide)]; exact hT
      by_cases c1 : p + 1 < B ∧ dig (T (p + 1))
      case neg =>
        have nd : ∀ X, fr9 Mr X → ¬ dig (lk X B (p + 1)) := fun X f => by
          by_cases c2 : p + 1 < B
          · rw [hlk X f _ c2]
            exact fun d => c1 ⟨c2, d⟩
          · rw [hlkN X f _ c2]
            decide
        obtain ⟨M', e', f', p', w', _⟩ := ex_orderN (M := Mr) 4 (q := p + 1) (w := 1) (v0 := 0) (k := k) hp hw hB h60 (by omega) (by omega) hb (fun M2 f2 p2 w2 => by
          obtain ⟨v, M3, g1, g2, g3, g4, g5⟩ := ex_number0 4 p2 w2 (f8 M2 f2) h60 (by omega) (nd M2 f2)
          exact ⟨v, M3, fun x => absurd x (by decide), g1, g2, g3, g4, g5⟩)
        refine az_can rfl rfl rfl rfl e' ?_
        refine tailF M' (p + 1) f' p' (by omega) w' ?_
        rw [e1]
        by_cases c2 : p + 1 < B
        · rw [show B - (p + 1) = (B - (p + 1) - 1) + 1 by omega, rdo_1x (by omega) (by rw [rl7]; exact fun d => c1 ⟨c2, d⟩)]
        · rw [show B - (p + 1) = 0 by omega]
          rfl
      obtain ⟨c2, hd⟩ := c1
      have hdL : ∀ X, fr9 Mr X → dig (lk X B (p + 1)) := fun X f => by
        rw [hlk X f _ c2]
        exact hd
      have edg : cg_dg (cg_rl Mc (T p)) (T (p + 1)) = T (p + 1) - 48 := by
        rw [cg_dgN (k := k) (by omega) rl4, erl, az_up_row (by decide), az_up_same, Int32.zero_mul, Int32.zero_add]
      have ewr : az_wr (cg_rl Mc (T p)) 191 30 (cg_rl Mc (T p) 185 4 - 1) (T (p + 1) - 48) = az_up (cg_rl Mc (T p)) 191 k (T (p + 1) - 48) := by
        rw [rl4, nI_pred, az_wrN (by omega) (by decide)]
      have e2 := rdo_1d (M := cg_rl Mc (T p)) (m := B - (p + 2)) (q := p + 1) (by omega) (by rw [rl7]; exact hd)
      rw [rl7, edg, ewr, show B - (p + 2) + 1 = B - (p + 1) by omega, ← e1] at e2
      have k4 : az_up (cg_rl Mc (T p)) 191 k (T (p + 1) - 48) 185 4 = nI (k + 1) := rl4
      have k7 : az_up (cg_rl Mc (T p)) 191 k (T (p + 1) - 48) 187 = T := rl7
      have k89 : az_up (cg_rl Mc (T p)) 191 k (T (p + 1) - 48) 189 k = T p := by rw [erl]; simp [az_up]
      have kj : ∀ (x : Int32) j, j < k → az_up (az_up (cg_rl Mc (T p)) 191 k (T (p + 1) - 48)) 191 k x 189 j = Mc 189 j ∧ az_up (az_up (cg_rl Mc (T p)) 191 k (T (p + 1) - 48)) 191 k x 191 j = Mc 191 j := fun x j hj => by
        have : ¬ j = k := by omega
        rw [erl]
        simp [az_up, this]
      have kj1 : ∀ j, j < k → az_up (cg_rl Mc (T p)) 191 k (T (p + 1) - 48) 189 j = Mc 189 j ∧ az_up (cg_rl Mc (T p)) 191 k (T (p + 1) - 48) 191 j = Mc 191 j := fun j hj => by
        have : ¬ j = k := by omega
        rw [erl]
        simp [az_up, this]
      have one : (T (p + 1) - 48 = 0 ∨ (p + 2 < B → ¬ dig (T (p + 2)))) → az_RUN 7 k_X9_perform 24 [some (.ref 192), some (.int (nI k)), some (.int 1), none, none] [.int (nI k), .ref 192] (az_hp Mr) Q := by
        intro h2
        obtain ⟨M', e', f', p', w', r1, r2, r3⟩ := ex_orderN (M := Mr) 4 (q := p + 2) (w := 0) (v0 := T (p + 1) - 48) (k := k) hp hw hB h60 (by omega) (by omega) hb (fun M2 f2 p2 w2 => by
          obtain ⟨M3, g1, g2, g3, g4, g5⟩ := ex_number1 4 p2 w2 (f8 M2 f2) h60 (by omega) (hdL M2 f2) (by
            rcases h2 with h2 | h2
            · left
              rw [hlk M2 f2 _ c2]
              exact h2
            · right
              by_cases c3 : p + 2 < B
              · rw [hlk M2 f2 _ c3]
                exact h2 c3
              · rw [hlkN M2 f2 _ c3]
                decide)
          rw [hlk M2 f2 _ c2] at g1
          exact ⟨T (p + 1) - 48, M3, fun _ => rfl, g1, g2, g3, g4, g5⟩)
        rw [hlk Mr fr p c] at r2
        refine az_can rfl rfl rfl rfl e' ?_
        refine tailOK M' (az_up (cg_rl Mc (T p)) 191 k (T (p + 1) - 48)) (p + 2) (if T (p + 1) - 48 = 0 then 3 else 2) f' (by omega) (by omega) p' w' e2 ?_ k4 k7 ?_
        · by_cases z : T (p + 1) - 48 = 0
          · rw [if_pos z]
            exact Or.inl rfl
          · rw [if_neg z]
            exact Or.inr ⟨rfl, h2.resolve_left z⟩
        · refine hO.nx kj1 r1 (by rw [k89]; exact isNm_lt hbT) (by rw [k89]; exact r2) ?_
          rw [az_up_same]
          exact r3 rfl
      by_cases z : T (p + 1) - 48 = 0
      · exact one (Or.inl z)
      by_cases c3 : p + 2 < B ∧ dig (T (p + 2))
      case neg => exact one (Or.inr (fun x d => c3 ⟨x, d⟩))
      obtain ⟨c3, hd3⟩ := c3
      rw [if_neg z] at e2
      have e3 := rdo_2d (M := az_up (cg_rl Mc (T p)) 191 k (T (p + 1) - 48)) (m := B - (p + 3)) (q := p + 2) (by omega) (by rw [k7]; exact hd3)
      have edg3 : cg_dg (az_up (cg_rl Mc (T p)) 191 k (T (p + 1) - 48)) (T (p + 2)) = (T (p + 1) - 48) * 10 + (T (p + 2) - 48) := by
        rw [cg_dgN (k := k) (by omega) k4, az_up_same]
      have ewr3 : az_wr (az_up (cg_rl Mc (T p)) 191 k (T (p + 1) - 48)) 191 30 (az_up (cg_rl Mc (T p)) 191 k (T (p + 1) - 48) 185 4 - 1) ((T (p + 1) - 48) * 10 + (T (p + 2) - 48)) = az_up (az_up (cg_rl Mc (T p)) 191 k (T (p + 1) - 48)) 191 k ((T (p + 1) - 48) * 10 + (T (p + 2) - 48)) := by
        rw [k4, nI_pred, az_wrN (by omega) (by decide)]
      rw [k7, edg3, ewr3, show B - (p + 3) + 1 = B - (p + 2) by omega, ← e2] at e3
      obtain ⟨M', e', f', p', w', r1, r2, r3⟩ := ex_orderN (M := Mr) 4 (q := p + 3) (w := 0) (v0 := (T (p + 1) - 48) * 10 + (T (p + 2) - 48)) (k := k) hp hw hB h60 (by omega) (by omega) hb (fun M2 f2 p2 w2 => by
        obtain ⟨M3, g1, g2, g3, g4, g5⟩ := ex_number2 4 p2 w2 (f8 M2 f2) h60 (by omega) (hdL M2 f2) (by rw [hlk M2 f2 _ c2]; exact z) (by rw [hlk M2 f2 _ c3]; exact hd3)
        rw [hlk M2 f2 _ c2, hlk M2 f2 _ c3] at g1
        exact ⟨_, M3, fun _ => rfl, g1, g2, g3, g4, g5⟩)
      rw [hlk Mr fr p c] at r2
      refine az_can rfl rfl rfl rfl e' ?_
      refine tailOK M' (az_up (az_up (cg_rl Mc (T p)) 191 k (T (p + 1) - 48)) 191 k ((T (p + 1) - 48) * 10 + (T (p + 2) - 48))) (p + 3) 3 f' (by omega) (by omega) p' w' e3 (Or.inl rfl) k4 k7 ?_
      have k892 : az_up (az_up (cg_rl Mc (T p)) 191 k (T (p + 1) - 48)) 191 k ((T (p + 1) - 48) * 10 + (T (p + 2) - 48)) 189 k = T p := k89
      refine hO.nx (kj _) r1 (by rw [k892]; exact isNm_lt hbT) (by rw [k892]; exact r2) ?_
      rw [az_up_same]
      exact r3 rfl
end SIM
