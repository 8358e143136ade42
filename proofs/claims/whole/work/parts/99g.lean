/-! REFERENCE: what is live; the bag -/
section REFO
variable {M W : az_Mem}
theorem cg_liveN (hI : IW W) {z s : Nat} (h8 : z < 8) (h12 : s < 12) : ∃ l c, l < 40 ∧ c < 96 ∧ W 14 (12 * z + s) = nI l ∧ W 21 l = nI c ∧ (cg_liveB W (nI z) (nI s) = true ↔ W 19 l = 1 ∧ c = 12 * z + s) := by
  obtain ⟨l, hl, el⟩ := hI.load (12 * z + s) (by omega)
  obtain ⟨c, hc, ec⟩ := hI.cell l hl
  refine ⟨l, c, hl, hc, el, ec, ?_⟩
  unfold cg_liveB
  rw [nI_cell, az_rdN (by omega) (by decide), el, az_rdN hl (by decide), az_rdN hl (by decide), ec, Bool.and_eq_true, decide_eq_true_eq, decide_eq_true_eq, nI_eq (by omega) (by omega)]
theorem ex_isLive (d : Nat) (hR : RR W (M 193)) (hI : IW W) {z s p : Nat} {zi si : Int32} (hz : zi = nI z) (hs : si = nI s) (h8 : z < 8) (h12 : s < 12) (hp : W 4 z = nI p) (hp12 : p ≤ 12) : az_E2 (s < p ∧ cg_liveB W (nI z) (nI s) = true) (d + 2) m_X9_isLive [.ref 192, .int zi, .int si] (az_hp M) (some (.int 1)) (az_hp M) (some (.int 0)) (az_hp M) := by
  subst hz hs
  obtain ⟨l, c, hl, hc, el, ec, hiff⟩ := cg_liveN hI h8 h12
  rw [hiff]
  have k0 := ex_ofZone d (M := M) (z := z) rfl (w := 0) rfl (by omega) ((hR.zp z h8).trans hp)
  have k1 := ex_ofLoad d (M := M) (z := l) rfl (w := 0) rfl (by omega) (hR.lw l hl)
  have e2 : W 21 l / 12 = nI (c / 12) := by
    rw [ec]
    exact nI_div (b := 12) (by omega) (by decide)
  have e3 : W 21 l - W 21 l / 12 * 12 = nI (c % 12) := by
    rw [ec]
    exact nI_mod (b := 12) (by omega) (by decide)
  have k2 := ex_ofLoad d (M := M) (z := l) rfl (w := 1) rfl (by omega) ((hR.li l hl).trans e2)
  have k3 := ex_ofLoad d (M := M) (z := l) rfl (w := 2) rfl (by omega) ((hR.lp l hl).trans e3)
  refine ⟨fun hc => ?_, fun hc => ?_⟩ <;> refine az_EX.of (az_in0 (code := k_X9_isLive) (ls := [some (.ref 192), some (.int (nI z)), some (.int (nI s)), none]) rfl rfl rfl ?_)
  all_goals
    refine az_sgp rfl rfl rfl rfl ?_
    refine az_cav rfl rfl rfl rfl (ex_slotAt d rfl rfl) ?_
    refine az_ald rfl rfl (k := 59 + 2 * (12 * z + s)) rfl (by omega) (by decide) ((hR.cl _ (by omega)).trans el) ?_
    refine az_sgp rfl rfl rfl rfl ?_
    refine az_cav rfl rfl rfl rfl k0 ?_
    refine az_bra rfl rfl rfl (fun q1 => ?_) (fun q1 => ?_)
  all_goals rw [nI_leI (by omega) (by omega)] at q1
  · exact absurd q1 (by omega)
  · refine az_sgp rfl rfl rfl rfl ?_
    refine az_cav rfl rfl rfl rfl k1 ?_
    refine az_sgp rfl rfl rfl rfl ?_
    refine az_bra rfl rfl rfl (fun q2 => ?_) (fun q2 => absurd hc.2.1 q2)
    refine az_sgp rfl rfl rfl rfl ?_
    refine az_cav rfl rfl rfl rfl k2 ?_
    refine az_sgp rfl rfl rfl rfl ?_
    refine az_bra rfl rfl rfl (fun q3 => ?_) (fun q3 => ?_)
    · refine az_sgp rfl rfl rfl rfl ?_
      refine az_cav rfl rfl rfl rfl k3 ?_
      refine az_sgp rfl rfl rfl rfl ?_
      refine az_bra rfl rfl rfl (fun q4 => ?_) (fun q4 => ?_)
      · refine az_sgp rfl rfl rfl rfl ?_
        refine az_ret rfl rfl rfl rfl ?_
        exact ⟨rfl, rfl⟩
      · rw [nI_eq (by omega) (by omega)] at q4
        exact absurd hc.2.2 (by omega)
    · rw [nI_eq (by omega) (by omega)] at q3
      exact absurd hc.2.2 (by omega)
  · refine az_sgp rfl rfl rfl rfl ?_
    refine az_ret rfl rfl rfl rfl ?_
    exact ⟨rfl, rfl⟩
  · refine az_sgp rfl rfl rfl rfl ?_
    refine az_cav rfl rfl rfl rfl k1 ?_
    refine az_sgp rfl rfl rfl rfl ?_
    refine az_bra rfl rfl rfl (fun q2 => ?_) (fun q2 => ?_)
    · refine az_sgp rfl rfl rfl rfl ?_
      refine az_cav rfl rfl rfl rfl k2 ?_
      refine az_sgp rfl rfl rfl rfl ?_
      refine az_bra rfl rfl rfl (fun q3 => ?_) (fun q3 => ?_)
      · refine az_sgp rfl rfl rfl rfl ?_
        refine az_cav rfl rfl rfl rfl k3 ?_
        refine az_sgp rfl rfl rfl rfl ?_
        refine az_bra rfl rfl rfl (fun q4 => ?_) (fun q4 => ?_)
        · rw [nI_eq (by omega) (by omega)] at q3 q4
          exact absurd ⟨by omega, q2, by omega⟩ hc
        · refine az_sgp rfl rfl rfl rfl ?_
          refine az_ret rfl rfl rfl rfl ?_
          exact ⟨rfl, rfl⟩
      · refine az_sgp rfl rfl rfl rfl ?_
        refine az_ret rfl rfl rfl rfl ?_
        exact ⟨rfl, rfl⟩
    · refine az_sgp rfl rfl rfl rfl ?_
      refine az_ret rfl rfl rfl rfl ?_
      exact ⟨rfl, rfl⟩
theorem az_cnt_min (P : Nat → Bool) {p : Nat} : ∀ n, p ≤ n → az_cnt (fun s => decide (s < p) && P s) n = az_cnt P p := by
  have h0 : ∀ n, n ≤ p → az_cnt (fun s => decide (s < p) && P s) n = az_cnt P n := by
    intro n
    induction n with
    | zero => intro _; rfl
    | succ n ih =>
      intro hn
      show az_cnt _ n + (if (decide (n < p) && P n) = true then 1 else 0) = az_cnt P n + _
      rw [ih (by omega), decide_eq_true (by omega : n < p), Bool.true_and]
  intro n
  induction n with
  | zero =>
    intro hn
    have e : p = 0 := (by omega)
    subst e
    rfl
  | succ n ih =>
    intro hn
    by_cases h : p = n + 1
    · rw [h0 (n + 1) (by omega), h]
    · show az_cnt _ n + (if (decide (n < p) && P n) = true then 1 else 0) = _
      rw [ih (by omega), decide_eq_false (by omega : ¬ n < p), Bool.false_and]
      rfl
theorem ex_live (d : Nat) (hR : RR W (M 193)) (hI : IW W) {z S p : Nat} {zi : Int32} (hz : zi = nI z) (h8 : z < 8) (hS : W 2 1 = nI S) (h12 : S ≤ 12) (hp : W 4 z = nI p) (hpS : p ≤ S) : az_EX (d + 3) m_X9_live [.ref 192, .int zi] (az_hp M) (some (.int (nI (cg_cl W (nI z) p)))) (az_hp M) := by
  subst hz
  have K : ∀ (m s : Nat), s + m = S → az_RUN (d + 2) k_X9_live 4 [some (.ref 192), some (.int (nI z)), some (.int (nI (az_cnt (fun s => decide (s < p) && cg_liveB W (nI z) (nI s)) s))), some (.int (nI s))] [] (az_hp M) (fun r1 h1 => r1 = some (.int (nI (cg_cl W (nI z) p))) ∧ h1 = az_hp M) := by
    intro m
    induction m with
    | zero =>
      intro s hs
      refine az_sgp rfl rfl rfl rfl ?_
      refine az_ald rfl rfl (k := 1) rfl (by decide) (by decide) (hR.slots.trans hS) ?_
      refine az_bra rfl rfl rfl (fun q => ?_) (fun q => ?_)
      · refine az_sgp rfl rfl rfl rfl ?_
        refine az_ret rfl rfl rfl rfl ?_
        rw [az_cnt_min _ s (by omega)]
        exact ⟨rfl, rfl⟩
      · exact absurd (nI_le (by omega) (by omega)) q
    | succ m ih =>
      intro s hs
      refine az_sgp rfl rfl rfl rfl ?_
      refine az_ald rfl rfl (k := 1) rfl (by decide) (by decide) (hR.slots.trans hS) ?_
      refine az_bra rfl rfl rfl (fun q => ?_) (fun q => ?_)
      · exact absurd q (nI_ge (by omega) (by omega))
      refine az_sgp rfl rfl rfl rfl ?_
      have hn := ih (s + 1) (by omega)
      have e : az_cnt (fun s => decide (s < p) && cg_liveB W (nI z) (nI s)) (s + 1) = az_cnt (fun s => decide (s < p) && cg_liveB W (nI z) (nI s)) s + (if (decide (s < p) && cg_liveB W (nI z) (nI s)) = true then 1 else 0) := rfl
      refine az_ca2 rfl rfl rfl rfl (ex_isLive d hR hI rfl rfl h8 (by omega) hp (by omega)) (fun c => ?_) (fun c => ?_)
      · (with_reducible apply az_ifeqF); rfl
        refine az_sg 6 rfl ?_
        rw [if_pos (by rw [Bool.and_eq_true, decide_eq_true_eq]; exact c)] at e
        rw [nI_1, nI_1, ← e]
        exact hn
      · (with_reducible apply az_ifeqT); rfl
        refine az_sg 5 rfl ?_
        rw [if_neg (by rw [Bool.and_eq_true, decide_eq_true_eq]; exact c)] at e
        rw [show nI (az_cnt (fun s => decide (s < p) && cg_liveB W (nI z) (nI s)) s) + 0 = nI (az_cnt (fun s => decide (s < p) && cg_liveB W (nI z) (nI s)) (s + 1)) by rw [e]; exact nI_add _ 0, nI_1]
        exact hn
  refine az_EX.of (az_in0 (code := k_X9_live) (ls := [some (.ref 192), some (.int (nI z)), none, none]) rfl rfl rfl ?_)
  refine az_sg 4 rfl ?_
  exact K S 0 (by omega)
theorem ex_placeInBag (d : Nat) (hR : RR W (M 193)) (l : Int32) {B : Nat} (hB : W 24 4 = nI B) (h6 : B ≤ 6) : az_EX (d + 1) m_X9_placeInBag [.ref 192, .int l] (az_hp M) (some (.int (az_find (W 26) l B 0))) (az_hp M) := by
  have K : ∀ (m i : Nat), i + m = B → az_RUN d k_X9_placeInBag 2 [some (.ref 192), some (.int l), some (.int (nI i))] [] (az_hp M) (fun r1 h1 => r1 = some (.int (az_find (W 26) l m i)) ∧ h1 = az_hp M) := by
    intro m
    induction m with
    | zero =>
      intro i hs
      refine az_sgp rfl rfl rfl rfl ?_
      refine az_ald rfl rfl (k := 12) rfl (by decide) (by decide) (hR.many.trans hB) ?_
      refine az_bra rfl rfl rfl (fun q => ?_) (fun q => ?_)
      · refine az_sgp rfl rfl rfl rfl ?_
        refine az_ret rfl rfl rfl rfl ?_
        exact ⟨rfl, rfl⟩
      · exact absurd (nI_le (by omega) (by omega)) q
    | succ m ih =>
      intro i hs
      refine az_sgp rfl rfl rfl rfl ?_
      refine az_ald rfl rfl (k := 12) rfl (by decide) (by decide) (hR.many.trans hB) ?_
      refine az_bra rfl rfl rfl (fun q => ?_) (fun q => ?_)
      · exact absurd q (nI_ge (by omega) (by omega))
      refine az_sgp rfl rfl rfl rfl ?_
      refine az_ald rfl rfl (k := 13 + i) (nI_add 13 i) (by omega) (by decide) (hR.bag i (by omega)) ?_
      refine az_sgp rfl rfl rfl rfl ?_
      refine az_bra rfl rfl rfl (fun c => ?_) (fun c => ?_)
      · refine az_sgp rfl rfl rfl rfl ?_
        refine az_ret rfl rfl rfl rfl ?_
        simp [az_find, c]
      · refine az_sg 2 rfl ?_
        rw [nI_1, show az_find (W 26) l (m + 1) i = az_find (W 26) l m (i + 1) by simp [az_find, c]]
        exact ih (i + 1) (by omega)
  refine az_EX.of (az_in0 (code := k_X9_placeInBag) (ls := [some (.ref 192), some (.int l), none]) rfl rfl rfl ?_)
  refine az_sg 2 rfl ?_
  exact K B 0 (by omega)
end REFO
