/-! CLASS AND REFERENCE: questions: worst -/
section QWO
variable {M N W : az_Mem} {a : Int32}
def cg_bet (lv dd : Nat → Nat) (z : Nat) : Option Nat → Bool
  | none => true
  | some b => decide (lv z < lv b) || (decide (lv z = lv b) && decide (dd b < dd z))
def cg_wst (lv dd : Nat → Nat) (z : Nat) (b : Option Nat) : Option Nat := if 0 < dd z ∧ cg_bet lv dd z b = true then some z else b
def cg_wo (lv dd : Nat → Nat) (a Z : Nat) : Nat → Nat → Option Nat → Option Nat
  | 0, _, b => b
  | m + 1, k, b => cg_wo lv dd a Z m (k + 1) (cg_wst lv dd ((a + k) % Z) b)
def cg_enc : Option Nat → Int32
  | none => -5
  | some b => nI b
def cg_eL (f : Nat → Nat) : Option Nat → Nat
  | none => 0
  | some b => f b
theorem cg_wst_lt {lv dd : Nat → Nat} {z Z : Nat} {b : Option Nat} (hz : z < Z) (hb : ∀ x, b = some x → x < Z) : ∀ x, cg_wst lv dd z b = some x → x < Z := by
  intro x hx
  unfold cg_wst at hx
  split at hx
  · cases hx
    exact hz
  · exact hb x hx
theorem ec_zoneToClean (d : Nat) {Z za : Nat} {P : Nat → Nat} (hZ : M 2 0 = nI Z) (hZ8 : Z ≤ 8) (ha : M 24 0 = nI za) (haZ : za < Z) (hP : ∀ z, z < 8 → M 4 z = nI (P z) ∧ P z ≤ 12) : az_EX (d + 6) m_X6_zoneToClean [.ref 1] (az_hp M) (some (.int (cg_enc (cg_wo (fun z => cg_cl M (nI z) (P z)) (fun z => P z - cg_cl M (nI z) (P z)) za Z Z 0 none)))) (az_hp M) := by
  generalize hlv : (fun z => cg_cl M (nI z) (P z)) = lv
  generalize hdd : (fun z => P z - cg_cl M (nI z) (P z)) = dd
  have elv : ∀ z, lv z = cg_cl M (nI z) (P z) := fun z => by rw [← hlv]
  have edd : ∀ z, dd z = P z - lv z := fun z => by rw [← hdd, elv z]
  have hle : ∀ z, lv z ≤ P z := fun z => by rw [elv z]; exact az_cnt_le _ _
  have K : ∀ (m k : Nat) (b : Option Nat) (v6 v7 v8 : az_V), k + m = Z → (∀ x, b = some x → x < Z) → az_RUN (d + 5) k_X6_zoneToClean 19 [some (.ref 1), some (.int (cg_enc b)), some (.int (nI (cg_eL lv b))), some (.int (nI (cg_eL dd b))), some (.int (nI ((za + k) % Z))), some (.int (nI k)), v6, v7, v8] [] (az_hp M) (fun r1 h1 => r1 = some (.int (cg_enc (cg_wo lv dd za Z m k b))) ∧ h1 = az_hp M) := by
    intro m
    induction m with
    | zero =>
      intro k b v6 v7 v8 hs hb
      refine az_sgp rfl rfl rfl rfl ?_
      rw [hZ]
      refine az_bra rfl rfl rfl (fun q => ?_) (fun q => ?_)
      · refine az_sgp rfl rfl rfl rfl ?_
        refine az_ret rfl rfl rfl rfl ?_
        exact ⟨rfl, rfl⟩
      · exact absurd (nI_le (by omega) (by omega)) q
    | succ m ih =>
      intro k b v6 v7 v8 hs hb
      have hz : (za + k) % Z < Z := Nat.mod_lt _ (by omega)
      have ebh : cg_bh M (nI ((za + k) % Z)) = nI ((za + (k + 1)) % Z) := nx_mod hZ (by omega) hZ8
      show az_RUN _ _ _ _ _ _ (fun r1 h1 => r1 = some (.int (cg_enc (cg_wo lv dd za Z m (k + 1) (cg_wst lv dd ((za + k) % Z) b)))) ∧ h1 = az_hp M)
      generalize (za + k) % Z = z at hz ebh
      have hp := hP z (by omega)
      have hp4 : az_rd (M 4) 8 (nI z) = nI (P z) := by rw [az_rdN (by omega) (by decide)]; exact hp.1
      have hlz := hle z
      have edz := edd z
      -- the zone behind
      have behind : ∀ (b' : Option Nat) (v6 v7 v8 : az_V), (∀ x, b' = some x → x < Z) → cg_wst lv dd z b = b' → az_RUN (d + 5) k_X6_zoneToClean 95 [some (.ref 1), some (.int (cg_enc b')), some (.int (nI (cg_eL lv b'))), some (.int (nI (cg_eL dd b'))), some (.int (nI z)), some (.int (nI k)), v6, v7, v8] [] (az_hp M) (fun r1 h1 => r1 = some (.int (cg_enc (cg_wo lv dd za Z m (k + 1) (cg_wst lv dd z b)))) ∧ h1 = az_hp M) := by
        intro b' v6 v7 v8 hb' eb
        rw [eb]
        refine az_sgp rfl rfl rfl rfl ?_
        refine az_cav rfl rfl rfl rfl (ec_zoneBehind1 (d + 4) (nI z)) ?_
        rw [ebh]
        refine az_sg 3 rfl ?_
        rw [nI_1]
        exact ih (k + 1) b' _ _ _ (by omega) hb'
      -- the flag
      have flag : ∀ (v8 : az_V), az_RUN (d + 5) k_X6_zoneToClean 74 [some (.ref 1), some (.int (cg_enc b)), some (.int (nI (cg_eL lv b))), some (.int (nI (cg_eL dd b))), some (.int (nI z)), some (.int (nI k)), some (.int (nI (lv z))), some (.int (nI (dd z))), v8] [.int (if cg_bet lv dd z b = true then 1 else 0)] (az_hp M) (fun r1 h1 => r1 = some (.int (cg_enc (cg_wo lv dd za Z m (k + 1) (cg_wst lv dd z b)))) ∧ h1 = az_hp M) := by
        intro v8
        refine az_sgp rfl rfl rfl rfl ?_
        refine az_bra rfl rfl rfl (fun q => ?_) (fun q => ?_)
        · refine behind b _ _ _ hb (if_neg (fun c => ?_))
          exact nI_nle c.1 (by omega) q
        · have hd : 0 < dd z := by
            by_cases c : 0 < dd z
            · exact c
            · rw [show dd z = 0 by omega] at q
              exact absurd (by decide) q
          refine az_sgp rfl rfl rfl rfl ?_
          by_cases c : cg_bet lv dd z b = true
          · rw [if_pos c]
            refine az_ifeqF rfl ?_
            refine az_sg 6 rfl ?_
            refine behind (some z) _ _ _ (fun x hx => by cases hx; exact hz) (if_pos ⟨hd, c⟩)
          · rw [if_neg c]
            refine az_ifeqT rfl ?_
            exact behind b _ _ _ hb (if_neg (fun x => c x.2))
      refine az_sgp rfl rfl rfl rfl ?_
      rw [hZ]
      refine az_bra rfl rfl rfl (fun q => ?_) (fun q => ?_)
      · exact absurd q (nI_ge (by omega) (by omega))
      refine az_sgp rfl rfl rfl rfl ?_
      refine az_cav rfl rfl rfl rfl (ec_liveIn (d + 1) hp4 hp.2) ?_
      refine az_sgp rfl rfl rfl rfl ?_
      refine az_cav rfl rfl rfl rfl (ec_deadIn d hp4 hp.2) ?_
      rw [← elv z, nI_sub hlz, ← edz]
      refine az_sgp rfl rfl rfl rfl ?_
      cases b with
      | none =>
        refine az_bra rfl rfl rfl (fun q => ?_) (fun q => absurd (by decide) q)
        refine az_sg 2 rfl ?_
        exact flag _
      | some x =>
        have hx := hb x rfl
        have hlx := hle x
        have edx := edd x
        have hpx := hP x (by omega)
        have ebt : cg_bet lv dd z (some x) = (decide (lv z < lv x) || (decide (lv z = lv x) && decide (dd x < dd z))) := rfl
        refine az_bra rfl rfl rfl (fun q => absurd q (nI_pos (by omega))) (fun _ => ?_)
        refine az_sgp rfl rfl rfl rfl ?_
        refine az_bra rfl rfl rfl (fun q => ?_) (fun q => ?_)
        · have q : nI (lv z) < nI (lv x) := q
          rw [nI_ltI (by omega) (by omega)] at q
          have f := flag v8
          rw [if_pos (by rw [ebt, decide_eq_true q]; rfl)] at f
          refine az_sg 2 rfl ?_
          exact f
        have q : ¬ nI (lv z) < nI (lv x) := q
        rw [nI_ltI (by omega) (by omega)] at q
        refine az_sgp rfl rfl rfl rfl ?_
        refine az_bra rfl rfl rfl (fun q2 => ?_) (fun q2 => ?_)
        · have q2 : nI (lv z) = nI (lv x) := q2
          rw [nI_eq (by omega) (by omega)] at q2
          refine az_sgp rfl rfl rfl rfl ?_
          refine az_bra rfl rfl rfl (fun q3 => ?_) (fun q3 => ?_)
          · have q3 : nI (dd z) ≤ nI (dd x) := q3
            rw [nI_leI (by omega) (by omega)] at q3
            have f := flag v8
            rw [if_neg (by rw [ebt, decide_eq_false q, decide_eq_false (by omega : ¬ dd x < dd z)]; simp)] at f
            refine az_sg 1 rfl ?_
            exact f
          · have q3 : ¬ nI (dd z) ≤ nI (dd x) := q3
            rw [nI_leI (by omega) (by omega)] at q3
            have f := flag v8
            rw [if_pos (by rw [ebt, decide_eq_true q2, decide_eq_true (by omega : dd x < dd z)]; simp)] at f
            refine az_sg 2 rfl ?_
            exact f
        · have q2 : ¬ nI (lv z) = nI (lv x) := q2
          rw [nI_eq (by omega) (by omega)] at q2
          have f := flag v8
          rw [if_neg (by rw [ebt, decide_eq_false q, decide_eq_false q2]; simp)] at f
          refine az_sg 1 rfl ?_
          exact f
  refine az_EX.of (az_in0 (code := k_X6_zoneToClean) (ls := [some (.ref 1), none, none, none, none, none, none, none, none]) rfl rfl rfl ?_)
  refine az_sg 12 rfl ?_
  have k := K Z 0 none none none none (by omega) (fun x hx => by cases hx)
  rw [show (za + 0) % Z = za from Nat.mod_eq_of_lt haZ] at k
  rw [ha]
  exact k
theorem pair_worst (hM : INV M) : PAIR M m_X8_worst m_X9_worst [] := by
  have hR : RR M (az_up M 192 0 0 193) := hM.1
  have hI := hM.2.1
  obtain ⟨Z, za, hZ, ha, h2, h8, haZ⟩ := hI.zn
  obtain ⟨P, hP⟩ := hI.pts
  refine pair_qry hM (ec8_worst 1 (ec_zoneToClean (M := M) 1 hZ h8 ha haZ hP)) ?_
  generalize hlv : (fun z => cg_cl M (nI z) (P z)) = lv
  generalize hdd : (fun z => P z - cg_cl M (nI z) (P z)) = dd
  have elv : ∀ z, lv z = cg_cl M (nI z) (P z) := fun z => by rw [← hlv]
  have edd : ∀ z, dd z = P z - lv z := fun z => by rw [← hdd, elv z]
  have hle : ∀ z, lv z ≤ P z := fun z => by rw [elv z]; exact az_cnt_le _ _
  have live : ∀ z, z < Z → az_EX 7 m_X9_live [.ref 192, .int (nI z)] (az_hp (az_up M 192 0 0)) (some (.int (nI (lv z)))) (az_hp (az_up M 192 0 0)) := by
    intro z hz
    obtain ⟨S, p, hS, hS2, hS12, hp, hpS⟩ := hI.ptz (z := z) (by omega)
    have e : p = P z := by
      have := (hP z (by omega)).1
      rw [hp, nI_eq (by omega) (by have := (hP z (by omega)).2; omega)] at this
      exact this
    subst e
    rw [elv z]
    exact ex_live 4 hR hI rfl (by omega) hS hS12 hp hpS
  have ptr : ∀ z, z < Z → az_EX 7 m_X9_ofZone [.ref 192, .int (nI z), .int 0] (az_hp (az_up M 192 0 0)) (some (.int (nI (P z)))) (az_hp (az_up M 192 0 0)) := fun z hz =>
    ex_ofZone 6 (z := z) (w := 0) rfl rfl (by omega) ((hR.zp z (by omega)).trans (hP z (by omega)).1)
  have K : ∀ (m k : Nat) (b : Option Nat) (v3 v4 v5 : az_V), k + m = Z → (∀ x, b = some x → x < Z) → az_RUN 7 k_X9_worst 10 [some (.ref 192), some (.int (cg_enc b)), some (.int (nI k)), v3, v4, v5] [] (az_hp (az_up M 192 0 0)) (fun r1 h1 => r1 = some (.int (cg_enc (cg_wo lv dd za Z m k b))) ∧ h1 = az_hp (az_up M 192 0 0)) := by
    intro m
    induction m with
    | zero =>
      intro k b v3 v4 v5 hs hb
      refine az_sgp rfl rfl rfl rfl ?_
      refine az_ald rfl rfl (k := 0) rfl (by decide) (by decide) (hR.zones.trans hZ) ?_
      refine az_bra rfl rfl rfl (fun q => ?_) (fun q => ?_)
      · refine az_sgp rfl rfl rfl rfl ?_
        refine az_ret rfl rfl rfl rfl ?_
        exact ⟨rfl, rfl⟩
      · exact absurd (nI_le (by omega) (by omega)) q
    | succ m ih =>
      intro k b v3 v4 v5 hs hb
      have hz : (za + k) % Z < Z := Nat.mod_lt _ (by omega)
      show az_RUN _ _ _ _ _ _ (fun r1 h1 => r1 = some (.int (cg_enc (cg_wo lv dd za Z m (k + 1) (cg_wst lv dd ((za + k) % Z) b)))) ∧ h1 = az_hp (az_up M 192 0 0))
      refine az_sgp rfl rfl rfl rfl ?_
      refine az_ald rfl rfl (k := 0) rfl (by decide) (by decide) (hR.zones.trans hZ) ?_
      refine az_bra rfl rfl rfl (fun q => ?_) (fun q => ?_)
      · exact absurd q (nI_ge (by omega) (by omega))
      refine az_sgp rfl rfl rfl rfl ?_
      refine az_ald rfl rfl (k := 2) rfl (by decide) (by decide) (hR.at_.trans ha) ?_
      refine az_sgp rfl rfl rfl rfl ?_
      refine az_ald rfl rfl (k := 0) rfl (by decide) (by decide) (hR.zones.trans hZ) ?_
      refine az_grd rfl rfl rfl ?_ ?_
      · rw [decide_eq_false (nI_ne0 (by omega) (by omega))]
        rfl
      rw [show nI za + nI k - (nI za + nI k) / nI Z * nI Z = nI ((za + k) % Z) by rw [nI_add, nI_mod (by omega) (by omega)]]
      generalize (za + k) % Z = z at hz
      have hlz := hle z
      have edz := edd z
      have hpz := hP z (by omega)
      have flag : ∀ (v5 : az_V), az_RUN 7 k_X9_worst 109 [some (.ref 192), some (.int (cg_enc b)), some (.int (nI k)), some (.int (nI z)), some (.int (nI (dd z))), v5] [.int (if 0 < dd z ∧ cg_bet lv dd z b = true then 1 else 0)] (az_hp (az_up M 192 0 0)) (fun r1 h1 => r1 = some (.int (cg_enc (cg_wo lv dd za Z m (k + 1) (cg_wst lv dd z b)))) ∧ h1 = az_hp (az_up M 192 0 0)) := by
        intro v5
        by_cases c : 0 < dd z ∧ cg_bet lv dd z b = true
        · rw [if_pos c]
          have e : cg_wst lv dd z b = some z := if_pos c
          rw [e]
          refine az_sgp rfl rfl rfl rfl ?_
          refine az_ifeqF rfl ?_
          refine az_sg 5 rfl ?_
          rw [nI_1]
          exact ih (k + 1) (some z) _ _ _ (by omega) (fun x hx => by cases hx; exact hz)
        · rw [if_neg c]
          have e : cg_wst lv dd z b = b := if_neg c
          rw [e]
          refine az_sgp rfl rfl rfl rfl ?_
          refine az_ifeqT rfl ?_
          refine az_sg 4 rfl ?_
          rw [nI_1]
          exact ih (k + 1) b _ _ _ (by omega) hb
      refine az_sgp rfl rfl rfl rfl ?_
      refine az_cav rfl rfl rfl rfl (ptr z hz) ?_
      refine az_sgp rfl rfl rfl rfl ?_
      refine az_cav rfl rfl rfl rfl (live z hz) ?_
      refine az_sgp rfl rfl rfl rfl ?_
      rw [nI_sub hlz, ← edz]
      refine az_bra rfl rfl rfl (fun q => ?_) (fun q => ?_)
      · have f := flag v5
        rw [if_neg (fun c => nI_nle c.1 (by omega) q)] at f
        refine az_sg 1 rfl ?_
        exact f
      have hd : 0 < dd z := by
        by_cases c : 0 < dd z
        · exact c
        · rw [show dd z = 0 by omega] at q
          exact absurd (by decide) q
      refine az_sgp rfl rfl rfl rfl ?_
      cases b with
      | none =>
        have f := flag v5
        rw [if_pos ⟨hd, rfl⟩] at f
        refine az_bra rfl rfl rfl (fun _ => ?_) (fun q => absurd rfl q)
        refine az_sg 2 rfl ?_
        exact f
      | some x =>
        have hx := hb x rfl
        have hlx := hle x
        have edx := edd x
        have hpx := hP x (by omega)
        have ebt : cg_bet lv dd z (some x) = (decide (lv z < lv x) || (decide (lv z = lv x) && decide (dd x < dd z))) := rfl
        refine az_bra rfl rfl rfl (fun q => ?_) (fun _ => ?_)
        · exfalso
          have q : nI x = -5 := q
          have := nI_pos' (show x < 2 ^ 31 by omega)
          rw [q] at this
          exact absurd this (by decide)
        refine az_sgp rfl rfl rfl rfl ?_
        refine az_cav rfl rfl rfl rfl (live z hz) ?_
        refine az_sgp rfl rfl rfl rfl ?_
        refine az_cav rfl rfl rfl rfl (live x hx) ?_
        refine az_bra rfl rfl rfl (fun q => ?_) (fun q => ?_)
        · rw [nI_ltI (by omega) (by omega)] at q
          have f := flag v5
          rw [if_pos ⟨hd, by rw [ebt, decide_eq_true q]; rfl⟩] at f
          refine az_sg 2 rfl ?_
          exact f
        rw [nI_ltI (by omega) (by omega)] at q
        refine az_sgp rfl rfl rfl rfl ?_
        refine az_cav rfl rfl rfl rfl (live z hz) ?_
        refine az_sgp rfl rfl rfl rfl ?_
        refine az_cav rfl rfl rfl rfl (live x hx) ?_
        refine az_bra rfl rfl rfl (fun q2 => ?_) (fun q2 => ?_)
        · rw [nI_eq (by omega) (by omega)] at q2
          refine az_sgp rfl rfl rfl rfl ?_
          refine az_cav rfl rfl rfl rfl (ptr x hx) ?_
          refine az_sgp rfl rfl rfl rfl ?_
          refine az_cav rfl rfl rfl rfl (live x hx) ?_
          refine az_sgp rfl rfl rfl rfl ?_
          rw [nI_sub hlx, ← edx]
          refine az_bra rfl rfl rfl (fun q3 => ?_) (fun q3 => ?_)
          · rw [nI_leI (by omega) (by omega)] at q3
            have f := flag v5
            rw [if_neg (fun c => by have c2 := c.2; rw [ebt, decide_eq_false q, decide_eq_false (by omega : ¬ dd x < dd z)] at c2; simp at c2)] at f
            refine az_sg 1 rfl ?_
            exact f
          · rw [nI_leI (by omega) (by omega)] at q3
            have f := flag v5
            rw [if_pos ⟨hd, by rw [ebt, decide_eq_true q2, decide_eq_true (by omega : dd x < dd z)]; simp⟩] at f
            refine az_sg 2 rfl ?_
            exact f
        · rw [nI_eq (by omega) (by omega)] at q2
          have f := flag v5
          rw [if_neg (fun c => by have c2 := c.2; rw [ebt, decide_eq_false q, decide_eq_false q2] at c2; simp at c2)] at f
          refine az_sg 1 rfl ?_
          exact f
  refine az_EX.of (az_in0 (code := k_X9_worst) (ls := [some (.ref 192), none, none, none, none, none]) rfl rfl rfl ?_)
  refine az_sg 7 rfl ?_
  exact K Z 0 none none none none (by omega) (fun x hx => by cases hx)
end QWO
