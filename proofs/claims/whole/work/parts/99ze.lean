/-! REFERENCE: an order is read -/
def fr9 (M M' : az_Mem) : Prop := (∀ c, c ≠ 192 → c ≠ 199 → M' c = M c) ∧ (∀ j, j ≠ 10 → j ≠ 11 → M' 192 j = M 192 j)
theorem fr9.rf (M : az_Mem) : fr9 M M := ⟨fun _ _ _ => rfl, fun _ _ _ => rfl⟩
theorem fr9.tr {M M' M'' : az_Mem} (h : fr9 M M') (h' : fr9 M' M'') : fr9 M M'' := ⟨fun c g1 g2 => (h'.1 c g1 g2).trans (h.1 c g1 g2), fun j g1 g2 => (h'.2 j g1 g2).trans (h.2 j g1 g2)⟩
theorem fr9.u2 {M M' : az_Mem} (h : fr9 M M') {k : Nat} (hk : k = 10 ∨ k = 11) (x : Int32) : fr9 M (az_up M' 192 k x) := ⟨fun c g1 g2 => by rw [az_up_row g1]; exact h.1 c g1 g2, fun j g1 g2 => by rw [az_up_self, if_neg (by omega)]; exact h.2 j g1 g2⟩
theorem fr9.u9 {M M' : az_Mem} (h : fr9 M M') (k : Nat) (x : Int32) : fr9 M (az_up M' 199 k x) := ⟨fun c g1 g2 => by rw [az_up_row g2]; exact h.1 c g1 g2, fun j g1 g2 => by rw [az_up_row (by decide)]; exact h.2 j g1 g2⟩
abbrev dig (x : Int32) : Prop := ¬ x < 48 ∧ ¬ 57 < x
/-- the sign at a place of the text, or -1 -/
def lk (M : az_Mem) (B p : Nat) : Int32 := if p < B then M 197 p else -1
section ORDR
variable {M : az_Mem}
theorem ex_look (d : Nat) {p B : Nat} (hp : M 192 10 = nI p) (hB : M 192 8 = nI B) (h60 : B ≤ 60) (hpB : p ≤ 61) : az_EX (d + 1) m_X9_look [.ref 192] (az_hp M) (some (.int (lk M B p))) (az_hp M) := by
  refine az_EX.of (az_in0 (code := k_X9_look) (ls := [some (.ref 192)]) rfl rfl rfl ?_)
  refine az_sgp rfl rfl rfl rfl ?_
  rw [hp, hB]
  refine az_bra rfl rfl rfl (fun q => ?_) (fun q => ?_)
  · rw [nI_leI (by omega) (by omega)] at q
    refine az_sgp rfl rfl rfl rfl ?_
    refine az_ret rfl rfl rfl rfl ?_
    unfold lk
    rw [if_neg (by omega)]
    exact ⟨rfl, rfl⟩
  · rw [nI_leI (by omega) (by omega)] at q
    refine az_sgp rfl rfl rfl rfl ?_
    rw [hp]
    refine az_ald rfl rfl (k := p) rfl (by omega) (by decide) rfl ?_
    refine az_sgp rfl rfl rfl rfl ?_
    refine az_ret rfl rfl rfl rfl ?_
    unfold lk
    rw [if_pos (by omega)]
    exact ⟨rfl, rfl⟩
theorem ex_must1 (d : Nat) {p : Nat} (hp : M 192 10 = nI p) (hw : M 192 11 = 0) : ∃ M', az_EX (d + 1) m_X9_must [.ref 192, .int 1] (az_hp M) none (az_hp M') ∧ fr9 M M' ∧ M' 199 = M 199 ∧ M' 192 10 = nI (p + 1) ∧ M' 192 11 = 0 := by
  refine ⟨az_up (az_up M 192 11 0) 192 10 (nI (p + 1)), ?_, ((fr9.rf M).u2 (by omega) 0).u2 (by omega) _, rfl, by simp [az_up], by simp [az_up]⟩
  refine az_EX.of (az_in0 (code := k_X9_must) (ls := [some (.ref 192), some (.int 1)]) rfl rfl rfl ?_)
  refine az_sgp rfl rfl rfl rfl ?_
  rw [hw]
  refine az_ifneF rfl ?_
  refine az_sgp rfl rfl rfl rfl ?_
  refine az_ifneT rfl ?_
  refine az_sgp rfl rfl rfl rfl ?_
  refine az_grd rfl rfl rfl rfl ?_
  refine az_sgp rfl rfl rfl rfl ?_
  refine az_ifeqT rfl ?_
  refine az_sgp rfl rfl rfl rfl ?_
  refine az_ret rfl rfl rfl rfl ?_
  refine ⟨rfl, ?_⟩
  show az_hp (az_up (az_up M 192 11 0) 192 10 (M 192 10 + 1)) = _
  rw [hp, nI_1]
theorem ex_must0 (d : Nat) {p : Nat} (hp : M 192 10 = nI p) (hw : M 192 11 = 0) : ∃ M', az_EX (d + 1) m_X9_must [.ref 192, .int 0] (az_hp M) none (az_hp M') ∧ fr9 M M' ∧ M' 199 = M 199 ∧ M' 192 10 = nI p ∧ M' 192 11 = 1 := by
  refine ⟨az_up (az_up M 192 11 1) 192 10 (nI p), ?_, ((fr9.rf M).u2 (by omega) 1).u2 (by omega) _, rfl, by simp [az_up], by simp [az_up]⟩
  refine az_EX.of (az_in0 (code := k_X9_must) (ls := [some (.ref 192), some (.int 0)]) rfl rfl rfl ?_)
  refine az_sgp rfl rfl rfl rfl ?_
  rw [hw]
  refine az_ifneF rfl ?_
  refine az_sgp rfl rfl rfl rfl ?_
  refine az_ifneF rfl ?_
  refine az_sgp rfl rfl rfl rfl ?_
  refine az_grd rfl rfl rfl rfl ?_
  refine az_sgp rfl rfl rfl rfl ?_
  refine az_ifeqF rfl ?_
  refine az_sgp rfl rfl rfl rfl ?_
  refine az_ret rfl rfl rfl rfl ?_
  refine ⟨rfl, ?_⟩
  show az_hp (az_up (az_up M 192 11 1) 192 10 (M 192 10 + 0)) = _
  rw [hp, show nI p + 0 = nI p from nI_add p 0]
theorem fr9_lk {M M' : az_Mem} (h : fr9 M M') (B p : Nat) : lk M' B p = lk M B p := by
  unfold lk
  rw [h.1 197 (by decide) (by decide)]
/-- no digit -/
theorem ex_number0 (d : Nat) {p B : Nat} (hp : M 192 10 = nI p) (hw : M 192 11 = 0) (hB : M 192 8 = nI B) (h60 : B ≤ 60) (hpB : p ≤ 60) (hd : ¬ dig (lk M B p)) : ∃ v M', az_EX (d + 2) m_X9_number [.ref 192] (az_hp M) (some (.int v)) (az_hp M') ∧ fr9 M M' ∧ M' 199 = M 199 ∧ M' 192 10 = nI p ∧ M' 192 11 = 1 := by
  obtain ⟨M1, e1, f1, g1, p1, w1⟩ := ex_must0 d hp hw
  refine ⟨lk M B p - 48, M1, ?_, f1, g1, p1, w1⟩
  refine az_EX.of (az_in0 (code := k_X9_number) (ls := [some (.ref 192), none]) rfl rfl rfl ?_)
  refine az_sgp rfl rfl rfl rfl ?_
  refine az_cav rfl rfl rfl rfl (ex_look d hp hB h60 (by omega)) ?_
  refine az_sgp rfl rfl rfl rfl ?_
  refine az_cav rfl rfl rfl rfl (ex_look d hp hB h60 (by omega)) ?_
  refine az_sgp rfl rfl rfl rfl ?_
  refine az_cav rfl rfl rfl rfl ((ex_in d (lk M B p) 48 57).2 hd) ?_
  refine az_can rfl rfl rfl rfl e1 ?_
  refine az_sgp rfl rfl rfl rfl ?_
  rw [w1]
  refine az_ifneT rfl ?_
  refine az_sgp rfl rfl rfl rfl ?_
  refine az_ret rfl rfl rfl rfl ?_
  exact ⟨rfl, rfl⟩
theorem dig_of {x : Int32} (h : dig x) : ∃ k : Nat, k ≤ 9 ∧ x = nI (48 + k) ∧ x - 48 = nI k := by
  have h0 : ¬ x < 0 := fun c => h.1 (Int32.lt_trans c (by decide))
  obtain ⟨j, hj, rfl⟩ := nI_of2 (M := 57) (n := 57) (by decide) h0 (Int32.not_lt.mp h.2)
  have : 48 ≤ j := by
    by_cases c : 48 ≤ j
    · exact c
    · exact absurd (nI_lt (a := j) (b := 48) (by omega) (by omega)) h.1
  refine ⟨j - 48, by omega, by rw [show 48 + (j - 48) = j by omega], ?_⟩
  exact nI_sub (a := j) (b := 48) this
/-- one digit -/
theorem ex_number1 (d : Nat) {p B : Nat} (hp : M 192 10 = nI p) (hw : M 192 11 = 0) (hB : M 192 8 = nI B) (h60 : B ≤ 60) (hpB : p < B) (hd : dig (lk M B p)) (h2 : lk M B p - 48 = 0 ∨ ¬ dig (lk M B (p + 1))) : ∃ M', az_EX (d + 2) m_X9_number [.ref 192] (az_hp M) (some (.int (lk M B p - 48))) (az_hp M') ∧ fr9 M M' ∧ M' 199 = M 199 ∧ M' 192 10 = nI (p + 1) ∧ M' 192 11 = 0 := by
  obtain ⟨M1, e1, f1, g1, p1, w1⟩ := ex_must1 d hp hw
  have hB1 : M1 192 8 = nI B := (f1.2 8 (by decide) (by decide)).trans hB
  refine ⟨M1, ?_, f1, g1, p1, w1⟩
  refine az_EX.of (az_in0 (code := k_X9_number) (ls := [some (.ref 192), none]) rfl rfl rfl ?_)
  refine az_sgp rfl rfl rfl rfl ?_
  refine az_cav rfl rfl rfl rfl (ex_look d hp hB h60 (by omega)) ?_
  refine az_sgp rfl rfl rfl rfl ?_
  refine az_cav rfl rfl rfl rfl (ex_look d hp hB h60 (by omega)) ?_
  refine az_sgp rfl rfl rfl rfl ?_
  refine az_cav rfl rfl rfl rfl ((ex_in d (lk M B p) 48 57).1 hd) ?_
  refine az_can rfl rfl rfl rfl e1 ?_
  refine az_sgp rfl rfl rfl rfl ?_
  rw [w1]
  refine az_ifneF rfl ?_
  refine az_sgp rfl rfl rfl rfl ?_
  refine az_bra rfl rfl rfl (fun q => ?_) (fun q => ?_)
  · refine az_sgp rfl rfl rfl rfl ?_
    refine az_ret rfl rfl rfl rfl ?_
    exact ⟨rfl, rfl⟩
  · have hd2 : ¬ dig (lk M1 B (p + 1)) := by
      rw [fr9_lk f1]
      rcases h2 with c | c
      · rw [c] at q
        exact absurd (by decide) q
      · exact c
    refine az_sgp rfl rfl rfl rfl ?_
    refine az_cav rfl rfl rfl rfl (ex_look d p1 hB1 h60 (by omega)) ?_
    refine az_sgp rfl rfl rfl rfl ?_
    refine az_cav rfl rfl rfl rfl ((ex_in d (lk M1 B (p + 1)) 48 57).2 hd2) ?_
    (with_reducible apply az_ifeqT); rfl
    refine az_sgp rfl rfl rfl rfl ?_
    refine az_ret rfl rfl rfl rfl ?_
    exact ⟨rfl, rfl⟩
/-- two digits -/
theorem ex_number2 (d : Nat) {p B : Nat} (hp : M 192 10 = nI p) (hw : M 192 11 = 0) (hB : M 192 8 = nI B) (h60 : B ≤ 60) (hpB : p < B) (hd : dig (lk M B p)) (h2 : ¬ lk M B p - 48 = 0) (h3 : dig (lk M B (p + 1))) : ∃ M', az_EX (d + 2) m_X9_number [.ref 192] (az_hp M) (some (.int ((lk M B p - 48) * 10 + (lk M B (p + 1) - 48)))) (az_hp M') ∧ fr9 M M' ∧ M' 199 = M 199 ∧ M' 192 10 = nI (p + 2) ∧ M' 192 11 = 0 := by
  obtain ⟨M1, e1, f1, g1, p1, w1⟩ := ex_must1 d hp hw
  have hB1 : M1 192 8 = nI B := (f1.2 8 (by decide) (by decide)).trans hB
  refine ⟨az_up M1 192 10 (nI (p + 2)), ?_, f1.u2 (by omega) _, g1, by simp [az_up], by simpa [az_up] using w1⟩
  refine az_EX.of (az_in0 (code := k_X9_number) (ls := [some (.ref 192), none]) rfl rfl rfl ?_)
  refine az_sgp rfl rfl rfl rfl ?_
  refine az_cav rfl rfl rfl rfl (ex_look d hp hB h60 (by omega)) ?_
  refine az_sgp rfl rfl rfl rfl ?_
  refine az_cav rfl rfl rfl rfl (ex_look d hp hB h60 (by omega)) ?_
  refine az_sgp rfl rfl rfl rfl ?_
  refine az_cav rfl rfl rfl rfl ((ex_in d (lk M B p) 48 57).1 hd) ?_
  refine az_can rfl rfl rfl rfl e1 ?_
  refine az_sgp rfl rfl rfl rfl ?_
  rw [w1]
  refine az_ifneF rfl ?_
  refine az_sgp rfl rfl rfl rfl ?_
  refine az_bra rfl rfl rfl (fun q => ?_) (fun q => ?_)
  · exfalso
    obtain ⟨k, k9, kx, kv⟩ := dig_of hd
    rw [kv] at q h2
    have k0 : 0 < k := by
      by_cases c : 0 < k
      · exact c
      · rw [show k = 0 by omega] at h2
        exact absurd rfl h2
    exact nI_nle k0 (by omega) q
  · have hd2 : dig (lk M1 B (p + 1)) := by
      rw [fr9_lk f1]
      exact h3
    refine az_sgp rfl rfl rfl rfl ?_
    refine az_cav rfl rfl rfl rfl (ex_look d p1 hB1 h60 (by omega)) ?_
    refine az_sgp rfl rfl rfl rfl ?_
    refine az_cav rfl rfl rfl rfl ((ex_in d (lk M1 B (p + 1)) 48 57).1 hd2) ?_
    (with_reducible apply az_ifeqF); rfl
    refine az_sgp rfl rfl rfl rfl ?_
    refine az_cav rfl rfl rfl rfl (ex_look d p1 hB1 h60 (by omega)) ?_
    refine az_sgp rfl rfl rfl rfl ?_
    refine az_ret rfl rfl rfl rfl ?_
    rw [p1, fr9_lk f1]
    refine ⟨?_, ?_⟩
    · rw [show 10 * (lk M B p - 48) + lk M B (p + 1) - 48 = (lk M B p - 48) * 10 + (lk M B (p + 1) - 48) by rw [Int32.mul_comm, Int32.sub_eq_add_neg, Int32.add_assoc, ← Int32.sub_eq_add_neg]]
    · rw [nI_1]
end ORDR
