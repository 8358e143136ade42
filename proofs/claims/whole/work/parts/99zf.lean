/-! REFERENCE: an order of a text -/
section ORDX
variable {M : az_Mem}
theorem ex_orderB (d : Nat) {p B k : Nat} (hp : M 192 10 = nI p) (hw : M 192 11 = 0) (hB : M 192 8 = nI B) (h60 : B ≤ 60) (hpB : p ≤ 60) (hk : k ≤ 30) (hc : ¬ isLt (lk M B p)) : ∃ M', az_EX (d + 3) m_X9_order [.ref 192, .int (nI k)] (az_hp M) none (az_hp M') ∧ fr9 M M' ∧ M' 192 10 = nI p ∧ M' 192 11 = 1 := by
  have kl := ex_look (d + 1) hp hB h60 (show p ≤ 61 by omega)
  obtain ⟨M1, e1, f1, g1, p1, w1⟩ := ex_must0 (d + 1) hp hw
  generalize lk M B p = c at hc kl
  have n103 : ¬ c = 103 := fun h => hc (Or.inl h)
  have n119 : ¬ c = 119 := fun h => hc (Or.inr (Or.inl h))
  have n116 : ¬ c = 116 := fun h => hc (Or.inr (Or.inr (Or.inl h)))
  have n112 : ¬ c = 112 := fun h => hc (Or.inr (Or.inr (Or.inr (Or.inl h))))
  have n100 : ¬ c = 100 := fun h => hc (Or.inr (Or.inr (Or.inr (Or.inr (Or.inl h)))))
  have n114 : ¬ c = 114 := fun h => hc (Or.inr (Or.inr (Or.inr (Or.inr (Or.inr (Or.inl h))))))
  have n115 : ¬ c = 115 := fun h => hc (Or.inr (Or.inr (Or.inr (Or.inr (Or.inr (Or.inr (Or.inl h)))))))
  have n99 : ¬ c = 99 := fun h => hc (Or.inr (Or.inr (Or.inr (Or.inr (Or.inr (Or.inr (Or.inr h)))))))
  refine ⟨az_up (az_up M1 199 (2 * k) c) 199 (2 * k + 1) 0, ?_, (f1.u9 _ _).u9 _ _, p1, w1⟩
  refine az_EX.of (az_in0 (code := k_X9_order) (ls := [some (.ref 192), some (.int (nI k)), none, none]) rfl rfl rfl ?_)
  refine az_sgp rfl rfl rfl rfl ?_
  refine az_cav rfl rfl rfl rfl kl ?_
  refine az_sgp rfl rfl rfl rfl ?_
  refine az_bra rfl rfl rfl (fun q => absurd q n114) (fun _ => ?_)
  refine az_sgp rfl rfl rfl rfl ?_
  refine az_bra rfl rfl rfl (fun q => absurd q n115) (fun _ => ?_)
  refine az_sgp rfl rfl rfl rfl ?_
  refine az_bra rfl rfl rfl (fun q => absurd q n99) (fun _ => ?_)
  refine az_sgp rfl rfl rfl rfl ?_
  refine az_ifneF rfl ?_
  refine az_sgp rfl rfl rfl rfl ?_
  refine az_bra rfl rfl rfl (fun q => absurd q n103) (fun _ => ?_)
  refine az_sgp rfl rfl rfl rfl ?_
  refine az_bra rfl rfl rfl (fun q => absurd q n119) (fun _ => ?_)
  refine az_sgp rfl rfl rfl rfl ?_
  refine az_bra rfl rfl rfl (fun q => absurd q n116) (fun _ => ?_)
  refine az_sgp rfl rfl rfl rfl ?_
  refine az_bra rfl rfl rfl (fun q => absurd q n112) (fun _ => ?_)
  refine az_sgp rfl rfl rfl rfl ?_
  refine az_bra rfl rfl rfl (fun q => absurd q n100) (fun _ => ?_)
  refine az_sgp rfl rfl rfl rfl ?_
  refine az_can rfl rfl rfl rfl e1 ?_
  refine az_sgp rfl rfl rfl rfl ?_
  refine az_ast rfl rfl (k := 2 * k) (by show nI 2 * nI k = _; rw [nI_mul]) (by omega) (by decide) ?_
  refine az_sgp rfl rfl rfl rfl ?_
  refine az_ifneF rfl ?_
  refine az_sgp rfl rfl rfl rfl ?_
  have w2 : az_up M1 199 (2 * k) c 192 11 = 1 := w1
  rw [w2]
  refine az_ifeqF rfl ?_
  refine az_sgp rfl rfl rfl rfl ?_
  refine az_ast rfl rfl (k := 2 * k + 1) (by show nI 2 * nI k + nI 1 = _; rw [nI_mul, nI_add]) (by omega) (by decide) ?_
  refine az_ret rfl rfl rfl rfl ?_
  exact ⟨rfl, rfl⟩
theorem ex_orderA114 (d : Nat) {p B k : Nat} (hp : M 192 10 = nI p) (hw : M 192 11 = 0) (hB : M 192 8 = nI B) (h60 : B ≤ 60) (hpB : p ≤ 60) (hk : k ≤ 30) (hc : lk M B p = 114) : ∃ M', az_EX (d + 3) m_X9_order [.ref 192, .int (nI k)] (az_hp M) none (az_hp M') ∧ fr9 M M' ∧ M' 192 10 = nI (p + 1) ∧ M' 192 11 = 0 ∧ (∀ j, j ≠ 2 * k → j ≠ 2 * k + 1 → M' 199 j = M 199 j) ∧ M' 199 (2 * k) = 114 ∧ M' 199 (2 * k + 1) = 0 := by
  have kl := ex_look (d + 1) hp hB h60 (show p ≤ 61 by omega)
  rw [hc] at kl
  obtain ⟨M1, e1, f1, g1, p1, w1⟩ := ex_must1 (d + 1) hp hw
  refine ⟨az_up (az_up M1 199 (2 * k) 114) 199 (2 * k + 1) 0, ?_, (f1.u9 _ _).u9 _ _, p1, w1, fun j h1 h2 => ?_, ?_, ?_⟩
  · refine az_EX.of (az_in0 (code := k_X9_order) (ls := [some (.ref 192), some (.int (nI k)), none, none]) rfl rfl rfl ?_)
    refine az_sgp rfl rfl rfl rfl ?_
    refine az_cav rfl rfl rfl rfl kl ?_
    refine az_sgp rfl rfl rfl rfl ?_
    refine az_bra rfl rfl rfl (fun _ => ?_) (fun q => absurd rfl q)
    refine az_sgp rfl rfl rfl rfl ?_
    refine az_ifneT rfl ?_
    refine az_sgp rfl rfl rfl rfl ?_
    refine az_can rfl rfl rfl rfl e1 ?_
    refine az_sgp rfl rfl rfl rfl ?_
    refine az_ast rfl rfl (k := 2 * k) (by show nI 2 * nI k = _; rw [nI_mul]) (by omega) (by decide) ?_
    refine az_sgp rfl rfl rfl rfl ?_
    refine az_ifneT rfl ?_
    refine az_sgp rfl rfl rfl rfl ?_
    refine az_ast rfl rfl (k := 2 * k + 1) (by show nI 2 * nI k + nI 1 = _; rw [nI_mul, nI_add]) (by omega) (by decide) ?_
    refine az_ret rfl rfl rfl rfl ?_
    exact ⟨rfl, rfl⟩
  · rw [az_up_self, if_neg h2, az_up_self, if_neg h1, g1]
  · rw [az_up_self, if_neg (by omega), az_up_self, if_pos rfl]
  · rw [az_up_self, if_pos rfl]
theorem ex_orderA115 (d : Nat) {p B k : Nat} (hp : M 192 10 = nI p) (hw : M 192 11 = 0) (hB : M 192 8 = nI B) (h60 : B ≤ 60) (hpB : p ≤ 60) (hk : k ≤ 30) (hc : lk M B p = 115) : ∃ M', az_EX (d + 3) m_X9_order [.ref 192, .int (nI k)] (az_hp M) none (az_hp M') ∧ fr9 M M' ∧ M' 192 10 = nI (p + 1) ∧ M' 192 11 = 0 ∧ (∀ j, j ≠ 2 * k → j ≠ 2 * k + 1 → M' 199 j = M 199 j) ∧ M' 199 (2 * k) = 115 ∧ M' 199 (2 * k + 1) = 0 := by
  have kl := ex_look (d + 1) hp hB h60 (show p ≤ 61 by omega)
  rw [hc] at kl
  obtain ⟨M1, e1, f1, g1, p1, w1⟩ := ex_must1 (d + 1) hp hw
  refine ⟨az_up (az_up M1 199 (2 * k) 115) 199 (2 * k + 1) 0, ?_, (f1.u9 _ _).u9 _ _, p1, w1, fun j h1 h2 => ?_, ?_, ?_⟩
  · refine az_EX.of (az_in0 (code := k_X9_order) (ls := [some (.ref 192), some (.int (nI k)), none, none]) rfl rfl rfl ?_)
    refine az_sgp rfl rfl rfl rfl ?_
    refine az_cav rfl rfl rfl rfl kl ?_
    refine az_sgp rfl rfl rfl rfl ?_
    refine az_bra rfl rfl rfl (fun q => absurd q (by decide)) (fun _ => ?_)
    refine az_sgp rfl rfl rfl rfl ?_
    refine az_bra rfl rfl rfl (fun _ => ?_) (fun q => absurd rfl q)
    refine az_sgp rfl rfl rfl rfl ?_
    refine az_ifneT rfl ?_
    refine az_sgp rfl rfl rfl rfl ?_
    refine az_can rfl rfl rfl rfl e1 ?_
    refine az_sgp rfl rfl rfl rfl ?_
    refine az_ast rfl rfl (k := 2 * k) (by show nI 2 * nI k = _; rw [nI_mul]) (by omega) (by decide) ?_
    refine az_sgp rfl rfl rfl rfl ?_
    refine az_ifneT rfl ?_
    refine az_sgp rfl rfl rfl rfl ?_
    refine az_ast rfl rfl (k := 2 * k + 1) (by show nI 2 * nI k + nI 1 = _; rw [nI_mul, nI_add]) (by omega) (by decide) ?_
    refine az_ret rfl rfl rfl rfl ?_
    exact ⟨rfl, rfl⟩
  · rw [az_up_self, if_neg h2, az_up_self, if_neg h1, g1]
  · rw [az_up_self, if_neg (by omega), az_up_self, if_pos rfl]
  · rw [az_up_self, if_pos rfl]
theorem ex_orderA99 (d : Nat) {p B k : Nat} (hp : M 192 10 = nI p) (hw : M 192 11 = 0) (hB : M 192 8 = nI B) (h60 : B ≤ 60) (hpB : p ≤ 60) (hk : k ≤ 30) (hc : lk M B p = 99) : ∃ M', az_EX (d + 3) m_X9_order [.ref 192, .int (nI k)] (az_hp M) none (az_hp M') ∧ fr9 M M' ∧ M' 192 10 = nI (p + 1) ∧ M' 192 11 = 0 ∧ (∀ j, j ≠ 2 * k → j ≠ 2 * k + 1 → M' 199 j = M 199 j) ∧ M' 199 (2 * k) = 99 ∧ M' 199 (2 * k + 1) = 0 := by
  have kl := ex_look (d + 1) hp hB h60 (show p ≤ 61 by omega)
  rw [hc] at kl
  obtain ⟨M1, e1, f1, g1, p1, w1⟩ := ex_must1 (d + 1) hp hw
  refine ⟨az_up (az_up M1 199 (2 * k) 99) 199 (2 * k + 1) 0, ?_, (f1.u9 _ _).u9 _ _, p1, w1, fun j h1 h2 => ?_, ?_, ?_⟩
  · refine az_EX.of (az_in0 (code := k_X9_order) (ls := [some (.ref 192), some (.int (nI k)), none, none]) rfl rfl rfl ?_)
    refine az_sgp rfl rfl rfl rfl ?_
    refine az_cav rfl rfl rfl rfl kl ?_
    refine az_sgp rfl rfl rfl rfl ?_
    refine az_bra rfl rfl rfl (fun q => absurd q (by decide)) (fun _ => ?_)
    refine az_sgp rfl rfl rfl rfl ?_
    refine az_bra rfl rfl rfl (fun q => absurd q (by decide)) (fun _ => ?_)
    refine az_sgp rfl rfl rfl rfl ?_
    refine az_bra rfl rfl rfl (fun _ => ?_) (fun q => absurd rfl q)
    refine az_sgp rfl rfl rfl rfl ?_
    refine az_ifneT rfl ?_
    refine az_sgp rfl rfl rfl rfl ?_
    refine az_can rfl rfl rfl rfl e1 ?_
    refine az_sgp rfl rfl rfl rfl ?_
    refine az_ast rfl rfl (k := 2 * k) (by show nI 2 * nI k = _; rw [nI_mul]) (by omega) (by decide) ?_
    refine az_sgp rfl rfl rfl rfl ?_
    refine az_ifneT rfl ?_
    refine az_sgp rfl rfl rfl rfl ?_
    refine az_ast rfl rfl (k := 2 * k + 1) (by show nI 2 * nI k + nI 1 = _; rw [nI_mul, nI_add]) (by omega) (by decide) ?_
    refine az_ret rfl rfl rfl rfl ?_
    exact ⟨rfl, rfl⟩
  · rw [az_up_self, if_neg h2, az_up_self, if_neg h1, g1]
  · rw [az_up_self, if_neg (by omega), az_up_self, if_pos rfl]
  · rw [az_up_self, if_pos rfl]
theorem ex_orderN103 (d : Nat) {p B k q : Nat} {w v0 : Int32} (hp : M 192 10 = nI p) (hw : M 192 11 = 0) (hB : M 192 8 = nI B) (h60 : B ≤ 60) (hpB : p ≤ 60) (hk : k ≤ 30) (hc : lk M B p = 103) (H : ∀ M2, fr9 M M2 → M2 192 10 = nI (p + 1) → M2 192 11 = 0 → ∃ v M3, (w = 0 → v = v0) ∧ az_EX (d + 2) m_X9_number [.ref 192] (az_hp M2) (some (.int v)) (az_hp M3) ∧ fr9 M2 M3 ∧ M3 199 = M2 199 ∧ M3 192 10 = nI q ∧ M3 192 11 = w) : ∃ M', az_EX (d + 3) m_X9_order [.ref 192, .int (nI k)] (az_hp M) none (az_hp M') ∧ fr9 M M' ∧ M' 192 10 = nI q ∧ M' 192 11 = w ∧ (∀ j, j ≠ 2 * k → j ≠ 2 * k + 1 → M' 199 j = M 199 j) ∧ M' 199 (2 * k) = 103 ∧ (w = 0 → M' 199 (2 * k + 1) = v0) := by
  have kl := ex_look (d + 1) hp hB h60 (show p ≤ 61 by omega)
  rw [hc] at kl
  obtain ⟨M1, e1, f1, g1, p1, w1⟩ := ex_must1 (d + 1) hp hw
  obtain ⟨v, M3, hv, e3, f3, g3, p3, w3⟩ := H (az_up M1 199 (2 * k) 103) (f1.u9 _ _) p1 w1
  refine ⟨az_up M3 199 (2 * k + 1) v, ?_, ((f1.u9 (2 * k) 103).tr f3).u9 _ _, p3, w3, fun j h1 h2 => ?_, ?_, fun hw0 => ?_⟩
  · refine az_EX.of (az_in0 (code := k_X9_order) (ls := [some (.ref 192), some (.int (nI k)), none, none]) rfl rfl rfl ?_)
    refine az_sgp rfl rfl rfl rfl ?_
    refine az_cav rfl rfl rfl rfl kl ?_
    refine az_sgp rfl rfl rfl rfl ?_
    refine az_bra rfl rfl rfl (fun q => absurd q (by decide)) (fun _ => ?_)
    refine az_sgp rfl rfl rfl rfl ?_
    refine az_bra rfl rfl rfl (fun q => absurd q (by decide)) (fun _ => ?_)
    refine az_sgp rfl rfl rfl rfl ?_
    refine az_bra rfl rfl rfl (fun q => absurd q (by decide)) (fun _ => ?_)
    refine az_sgp rfl rfl rfl rfl ?_
    refine az_ifneF rfl ?_
    refine az_sgp rfl rfl rfl rfl ?_
    refine az_bra rfl rfl rfl (fun _ => ?_) (fun q => absurd rfl q)
    refine az_sgp rfl rfl rfl rfl ?_
    refine az_can rfl rfl rfl rfl e1 ?_
    refine az_sgp rfl rfl rfl rfl ?_
    refine az_ast rfl rfl (k := 2 * k) (by show nI 2 * nI k = _; rw [nI_mul]) (by omega) (by decide) ?_
    refine az_sgp rfl rfl rfl rfl ?_
    refine az_ifneF rfl ?_
    refine az_sgp rfl rfl rfl rfl ?_
    have w2 : az_up M1 199 (2 * k) 103 192 11 = 0 := w1
    rw [w2]
    refine az_ifeqT rfl ?_
    refine az_sgp rfl rfl rfl rfl ?_
    refine az_cav rfl rfl rfl rfl e3 ?_
    refine az_ast rfl rfl (k := 2 * k + 1) (by show nI 2 * nI k + nI 1 = _; rw [nI_mul, nI_add]) (by omega) (by decide) ?_
    refine az_ret rfl rfl rfl rfl ?_
    exact ⟨rfl, rfl⟩
  · rw [az_up_self, if_neg h2, g3, az_up_self, if_neg h1, g1]
  · rw [az_up_self, if_neg (by omega), g3, az_up_self, if_pos rfl]
  · rw [az_up_self, if_pos rfl]
    exact hv hw0
theorem ex_orderN119 (d : Nat) {p B k q : Nat} {w v0 : Int32} (hp : M 192 10 = nI p) (hw : M 192 11 = 0) (hB : M 192 8 = nI B) (h60 : B ≤ 60) (hpB : p ≤ 60) (hk : k ≤ 30) (hc : lk M B p = 119) (H : ∀ M2, fr9 M M2 → M2 192 10 = nI (p + 1) → M2 192 11 = 0 → ∃ v M3, (w = 0 → v = v0) ∧ az_EX (d + 2) m_X9_number [.ref 192] (az_hp M2) (some (.int v)) (az_hp M3) ∧ fr9 M2 M3 ∧ M3 199 = M2 199 ∧ M3 192 10 = nI q ∧ M3 192 11 = w) : ∃ M', az_EX (d + 3) m_X9_order [.ref 192, .int (nI k)] (az_hp M) none (az_hp M') ∧ fr9 M M' ∧ M' 192 10 = nI q ∧ M' 192 11 = w ∧ (∀ j, j ≠ 2 * k → j ≠ 2 * k + 1 → M' 199 j = M 199 j) ∧ M' 199 (2 * k) = 119 ∧ (w = 0 → M' 199 (2 * k + 1) = v0) := by
  have kl := ex_look (d + 1) hp hB h60 (show p ≤ 61 by omega)
  rw [hc] at kl
  obtain ⟨M1, e1, f1, g1, p1, w1⟩ := ex_must1 (d + 1) hp hw
  obtain ⟨v, M3, hv, e3, f3, g3, p3, w3⟩ := H (az_up M1 199 (2 * k) 119) (f1.u9 _ _) p1 w1
  refine ⟨az_up M3 199 (2 * k + 1) v, ?_, ((f1.u9 (2 * k) 119).tr f3).u9 _ _, p3, w3, fun j h1 h2 => ?_, ?_, fun hw0 => ?_⟩
  · refine az_EX.of (az_in0 (code := k_X9_order) (ls := [some (.ref 192), some (.int (nI k)), none, none]) rfl rfl rfl ?_)
    refine az_sgp rfl rfl rfl rfl ?_
    refine az_cav rfl rfl rfl rfl kl ?_
    refine az_sgp rfl rfl rfl rfl ?_
    refine az_bra rfl rfl rfl (fun q => absurd q (by decide)) (fun _ => ?_)
    refine az_sgp rfl rfl rfl rfl ?_
    refine az_bra rfl rfl rfl (fun q => absurd q (by decide)) (fun _ => ?_)
    refine az_sgp rfl rfl rfl rfl ?_
    refine az_bra rfl rfl rfl (fun q => absurd q (by decide)) (fun _ => ?_)
    refine az_sgp rfl rfl rfl rfl ?_
    refine az_ifneF rfl ?_
    refine az_sgp rfl rfl rfl rfl ?_
    refine az_bra rfl rfl rfl (fun q => absurd q (by decide)) (fun _ => ?_)
    refine az_sgp rfl rfl rfl rfl ?_
    refine az_bra rfl rfl rfl (fun _ => ?_) (fun q => absurd rfl q)
    refine az_sgp rfl rfl rfl rfl ?_
    refine az_can rfl rfl rfl rfl e1 ?_
    refine az_sgp rfl rfl rfl rfl ?_
    refine az_ast rfl rfl (k := 2 * k) (by show nI 2 * nI k = _; rw [nI_mul]) (by omega) (by decide) ?_
    refine az_sgp rfl rfl rfl rfl ?_
    refine az_ifneF rfl ?_
    refine az_sgp rfl rfl rfl rfl ?_
    have w2 : az_up M1 199 (2 * k) 119 192 11 = 0 := w1
    rw [w2]
    refine az_ifeqT rfl ?_
    refine az_sgp rfl rfl rfl rfl ?_
    refine az_cav rfl rfl rfl rfl e3 ?_
    refine az_ast rfl rfl (k := 2 * k + 1) (by show nI 2 * nI k + nI 1 = _; rw [nI_mul, nI_add]) (by omega) (by decide) ?_
    refine az_ret rfl rfl rfl rfl ?_
    exact ⟨rfl, rfl⟩
  · rw [az_up_self, if_neg h2, g3, az_up_self, if_neg h1, g1]
  · rw [az_up_self, if_neg (by omega), g3, az_up_self, if_pos rfl]
  · rw [az_up_self, if_pos rfl]
    exact hv hw0
theorem ex_orderN116 (d : Nat) {p B k q : Nat} {w v0 : Int32} (hp : M 192 10 = nI p) (hw : M 192 11 = 0) (hB : M 192 8 = nI B) (h60 : B ≤ 60) (hpB : p ≤ 60) (hk : k ≤ 30) (hc : lk M B p = 116) (H : ∀ M2, fr9 M M2 → M2 192 10 = nI (p + 1) → M2 192 11 = 0 → ∃ v M3, (w = 0 → v = v0) ∧ az_EX (d + 2) m_X9_number [.ref 192] (az_hp M2) (some (.int v)) (az_hp M3) ∧ fr9 M2 M3 ∧ M3 199 = M2 199 ∧ M3 192 10 = nI q ∧ M3 192 11 = w) : ∃ M', az_EX (d + 3) m_X9_order [.ref 192, .int (nI k)] (az_hp M) none (az_hp M') ∧ fr9 M M' ∧ M' 192 10 = nI q ∧ M' 192 11 = w ∧ (∀ j, j ≠ 2 * k → j ≠ 2 * k + 1 → M' 199 j = M 199 j) ∧ M' 199 (2 * k) = 116 ∧ (w = 0 → M' 199 (2 * k + 1) = v0) := by
  have kl := ex_look (d + 1) hp hB h60 (show p ≤ 61 by omega)
  rw [hc] at kl
  obtain ⟨M1, e1, f1, g1, p1, w1⟩ := ex_must1 (d + 1) hp hw
  obtain ⟨v, M3, hv, e3, f3, g3, p3, w3⟩ := H (az_up M1 199 (2 * k) 116) (f1.u9 _ _) p1 w1
  refine ⟨az_up M3 199 (2 * k + 1) v, ?_, ((f1.u9 (2 * k) 116).tr f3).u9 _ _, p3, w3, fun j h1 h2 => ?_, ?_, fun hw0 => ?_⟩
  · refine az_EX.of (az_in0 (code := k_X9_order) (ls := [some (.ref 192), some (.int (nI k)), none, none]) rfl rfl rfl ?_)
    refine az_sgp rfl rfl rfl rfl ?_
    refine az_cav rfl rfl rfl rfl kl ?_
    refine az_sgp rfl rfl rfl rfl ?_
    refine az_bra rfl rfl rfl (fun q => absurd q (by decide)) (fun _ => ?_)
    refine az_sgp rfl rfl rfl rfl ?_
    refine az_bra rfl rfl rfl (fun q => absurd q (by decide)) (fun _ => ?_)
    refine az_sgp rfl rfl rfl rfl ?_
    refine az_bra rfl rfl rfl (fun q => absurd q (by decide)) (fun _ => ?_)
    refine az_sgp rfl rfl rfl rfl ?_
    refine az_ifneF rfl ?_
    refine az_sgp rfl rfl rfl rfl ?_
    refine az_bra rfl rfl rfl (fun q => absurd q (by decide)) (fun _ => ?_)
    refine az_sgp rfl rfl rfl rfl ?_
    refine az_bra rfl rfl rfl (fun q => absurd q (by decide)) (fun _ => ?_)
    refine az_sgp rfl rfl rfl rfl ?_
    refine az_bra rfl rfl rfl (fun _ => ?_) (fun q => absurd rfl q)
    refine az_sgp rfl rfl rfl rfl ?_
    refine az_can rfl rfl rfl rfl e1 ?_
    refine az_sgp rfl rfl rfl rfl ?_
    refine az_ast rfl rfl (k := 2 * k) (by show nI 2 * nI k = _; rw [nI_mul]) (by omega) (by decide) ?_
    refine az_sgp rfl rfl rfl rfl ?_
    refine az_ifneF rfl ?_
    refine az_sgp rfl rfl rfl rfl ?_
    have w2 : az_up M1 199 (2 * k) 116 192 11 = 0 := w1
    rw [w2]
    refine az_ifeqT rfl ?_
    refine az_sgp rfl rfl rfl rfl ?_
    refine az_cav rfl rfl rfl rfl e3 ?_
    refine az_ast rfl rfl (k := 2 * k + 1) (by show nI 2 * nI k + nI 1 = _; rw [nI_mul, nI_add]) (by omega) (by decide) ?_
    refine az_ret rfl rfl rfl rfl ?_
    exact ⟨rfl, rfl⟩
  · rw [az_up_self, if_neg h2, g3, az_up_self, if_neg h1, g1]
  · rw [az_up_self, if_neg (by omega), g3, az_up_self, if_pos rfl]
  · rw [az_up_self, if_pos rfl]
    exact hv hw0
theorem ex_orderN112 (d : Nat) {p B k q : Nat} {w v0 : Int32} (hp : M 192 10 = nI p) (hw : M 192 11 = 0) (hB : M 192 8 = nI B) (h60 : B ≤ 60) (hpB : p ≤ 60) (hk : k ≤ 30) (hc : lk M B p = 112) (H : ∀ M2, fr9 M M2 → M2 192 10 = nI (p + 1) → M2 192 11 = 0 → ∃ v M3, (w = 0 → v = v0) ∧ az_EX (d + 2) m_X9_number [.ref 192] (az_hp M2) (some (.int v)) (az_hp M3) ∧ fr9 M2 M3 ∧ M3 199 = M2 199 ∧ M3 192 10 = nI q ∧ M3 192 11 = w) : ∃ M', az_EX (d + 3) m_X9_order [.ref 192, .int (nI k)] (az_hp M) none (az_hp M') ∧ fr9 M M' ∧ M' 192 10 = nI q ∧ M' 192 11 = w ∧ (∀ j, j ≠ 2 * k → j ≠ 2 * k + 1 → M' 199 j = M 199 j) ∧ M' 199 (2 * k) = 112 ∧ (w = 0 → M' 199 (2 * k + 1) = v0) := by
  have kl := ex_look (d + 1) hp hB h60 (show p ≤ 61 by omega)
  rw [hc] at kl
  obtain ⟨M1, e1, f1, g1, p1, w1⟩ := ex_must1 (d + 1) hp hw
  obtain ⟨v, M3, hv, e3, f3, g3, p3, w3⟩ := H (az_up M1 199 (2 * k) 112) (f1.u9 _ _) p1 w1
  refine ⟨az_up M3 199 (2 * k + 1) v, ?_, ((f1.u9 (2 * k) 112).tr f3).u9 _ _, p3, w3, fun j h1 h2 => ?_, ?_, fun hw0 => ?_⟩
  · refine az_EX.of (az_in0 (code := k_X9_order) (ls := [some (.ref 192), some (.int (nI k)), none, none]) rfl rfl rfl ?_)
    refine az_sgp rfl rfl rfl rfl ?_
    refine az_cav rfl rfl rfl rfl kl ?_
    refine az_sgp rfl rfl rfl rfl ?_
    refine az_bra rfl rfl rfl (fun q => absurd q (by decide)) (fun _ => ?_)
    refine az_sgp rfl rfl rfl rfl ?_
    refine az_bra rfl rfl rfl (fun q => absurd q (by decide)) (fun _ => ?_)
    refine az_sgp rfl rfl rfl rfl ?_
    refine az_bra rfl rfl rfl (fun q => absurd q (by decide)) (fun _ => ?_)
    refine az_sgp rfl rfl rfl rfl ?_
    refine az_ifneF rfl ?_
    refine az_sgp rfl rfl rfl rfl ?_
    refine az_bra rfl rfl rfl (fun q => absurd q (by decide)) (fun _ => ?_)
    refine az_sgp rfl rfl rfl rfl ?_
    refine az_bra rfl rfl rfl (fun q => absurd q (by decide)) (fun _ => ?_)
    refine az_sgp rfl rfl rfl rfl ?_
    refine az_bra rfl rfl rfl (fun q => absurd q (by decide)) (fun _ => ?_)
    refine az_sgp rfl rfl rfl rfl ?_
    refine az_bra rfl rfl rfl (fun _ => ?_) (fun q => absurd rfl q)
    refine az_sgp rfl rfl rfl rfl ?_
    refine az_can rfl rfl rfl rfl e1 ?_
    refine az_sgp rfl rfl rfl rfl ?_
    refine az_ast rfl rfl (k := 2 * k) (by show nI 2 * nI k = _; rw [nI_mul]) (by omega) (by decide) ?_
    refine az_sgp rfl rfl rfl rfl ?_
    refine az_ifneF rfl ?_
    refine az_sgp rfl rfl rfl rfl ?_
    have w2 : az_up M1 199 (2 * k) 112 192 11 = 0 := w1
    rw [w2]
    refine az_ifeqT rfl ?_
    refine az_sgp rfl rfl rfl rfl ?_
    refine az_cav rfl rfl rfl rfl e3 ?_
    refine az_ast rfl rfl (k := 2 * k + 1) (by show nI 2 * nI k + nI 1 = _; rw [nI_mul, nI_add]) (by omega) (by decide) ?_
    refine az_ret rfl rfl rfl rfl ?_
    exact ⟨rfl, rfl⟩
  · rw [az_up_self, if_neg h2, g3, az_up_self, if_neg h1, g1]
  · rw [az_up_self, if_neg (by omega), g3, az_up_self, if_pos rfl]
  · rw [az_up_self, if_pos rfl]
    exact hv hw0
theorem ex_orderN100 (d : Nat) {p B k q : Nat} {w v0 : Int32} (hp : M 192 10 = nI p) (hw : M 192 11 = 0) (hB : M 192 8 = nI B) (h60 : B ≤ 60) (hpB : p ≤ 60) (hk : k ≤ 30) (hc : lk M B p = 100) (H : ∀ M2, fr9 M M2 → M2 192 10 = nI (p + 1) → M2 192 11 = 0 → ∃ v M3, (w = 0 → v = v0) ∧ az_EX (d + 2) m_X9_number [.ref 192] (az_hp M2) (some (.int v)) (az_hp M3) ∧ fr9 M2 M3 ∧ M3 199 = M2 199 ∧ M3 192 10 = nI q ∧ M3 192 11 = w) : ∃ M', az_EX (d + 3) m_X9_order [.ref 192, .int (nI k)] (az_hp M) none (az_hp M') ∧ fr9 M M' ∧ M' 192 10 = nI q ∧ M' 192 11 = w ∧ (∀ j, j ≠ 2 * k → j ≠ 2 * k + 1 → M' 199 j = M 199 j) ∧ M' 199 (2 * k) = 100 ∧ (w = 0 → M' 199 (2 * k + 1) = v0) := by
  have kl := ex_look (d + 1) hp hB h60 (show p ≤ 61 by omega)
  rw [hc] at kl
  obtain ⟨M1, e1, f1, g1, p1, w1⟩ := ex_must1 (d + 1) hp hw
  obtain ⟨v, M3, hv, e3, f3, g3, p3, w3⟩ := H (az_up M1 199 (2 * k) 100) (f1.u9 _ _) p1 w1
  refine ⟨az_up M3 199 (2 * k + 1) v, ?_, ((f1.u9 (2 * k) 100).tr f3).u9 _ _, p3, w3, fun j h1 h2 => ?_, ?_, fun hw0 => ?_⟩
  · refine az_EX.of (az_in0 (code := k_X9_order) (ls := [some (.ref 192), some (.int (nI k)), none, none]) rfl rfl rfl ?_)
    refine az_sgp rfl rfl rfl rfl ?_
    refine az_cav rfl rfl rfl rfl kl ?_
    refine az_sgp rfl rfl rfl rfl ?_
    refine az_bra rfl rfl rfl (fun q => absurd q (by decide)) (fun _ => ?_)
    refine az_sgp rfl rfl rfl rfl ?_
    refine az_bra rfl rfl rfl (fun q => absurd q (by decide)) (fun _ => ?_)
    refine az_sgp rfl rfl rfl rfl ?_
    refine az_bra rfl rfl rfl (fun q => absurd q (by decide)) (fun _ => ?_)
    refine az_sgp rfl rfl rfl rfl ?_
    refine az_ifneF rfl ?_
    refine az_sgp rfl rfl rfl rfl ?_
    refine az_bra rfl rfl rfl (fun q => absurd q (by decide)) (fun _ => ?_)
    refine az_sgp rfl rfl rfl rfl ?_
    refine az_bra rfl rfl rfl (fun q => absurd q (by decide)) (fun _ => ?_)
    refine az_sgp rfl rfl rfl rfl ?_
    refine az_bra rfl rfl rfl (fun q => absurd q (by decide)) (fun _ => ?_)
    refine az_sgp rfl rfl rfl rfl ?_
    refine az_bra rfl rfl rfl (fun q => absurd q (by decide)) (fun _ => ?_)
    refine az_sgp rfl rfl rfl rfl ?_
    refine az_bra rfl rfl rfl (fun _ => ?_) (fun q => absurd rfl q)
    refine az_sgp rfl rfl rfl rfl ?_
    refine az_can rfl rfl rfl rfl e1 ?_
    refine az_sgp rfl rfl rfl rfl ?_
    refine az_ast rfl rfl (k := 2 * k) (by show nI 2 * nI k = _; rw [nI_mul]) (by omega) (by decide) ?_
    refine az_sgp rfl rfl rfl rfl ?_
    refine az_ifneF rfl ?_
    refine az_sgp rfl rfl rfl rfl ?_
    have w2 : az_up M1 199 (2 * k) 100 192 11 = 0 := w1
    rw [w2]
    refine az_ifeqT rfl ?_
    refine az_sgp rfl rfl rfl rfl ?_
    refine az_cav rfl rfl rfl rfl e3 ?_
    refine az_ast rfl rfl (k := 2 * k + 1) (by show nI 2 * nI k + nI 1 = _; rw [nI_mul, nI_add]) (by omega) (by decide) ?_
    refine az_ret rfl rfl rfl rfl ?_
    exact ⟨rfl, rfl⟩
  · rw [az_up_self, if_neg h2, g3, az_up_self, if_neg h1, g1]
  · rw [az_up_self, if_neg (by omega), g3, az_up_self, if_pos rfl]
  · rw [az_up_self, if_pos rfl]
    exact hv hw0
abbrev isAl (c : Int32) : Prop := c = 114 ∨ c = 115 ∨ c = 99
abbrev isNm (c : Int32) : Prop := c = 103 ∨ c = 119 ∨ c = 116 ∨ c = 112 ∨ c = 100
theorem ex_orderA (d : Nat) {p B k : Nat} (hp : M 192 10 = nI p) (hw : M 192 11 = 0) (hB : M 192 8 = nI B) (h60 : B ≤ 60) (hpB : p ≤ 60) (hk : k ≤ 30) (hc : isAl (lk M B p)) : ∃ M', az_EX (d + 3) m_X9_order [.ref 192, .int (nI k)] (az_hp M) none (az_hp M') ∧ fr9 M M' ∧ M' 192 10 = nI (p + 1) ∧ M' 192 11 = 0 ∧ (∀ j, j ≠ 2 * k → j ≠ 2 * k + 1 → M' 199 j = M 199 j) ∧ M' 199 (2 * k) = lk M B p ∧ M' 199 (2 * k + 1) = 0 := by
  rcases hc with c | c | c <;> rw [c]
  · exact ex_orderA114 d hp hw hB h60 hpB hk c
  · exact ex_orderA115 d hp hw hB h60 hpB hk c
  · exact ex_orderA99 d hp hw hB h60 hpB hk c
theorem ex_orderN (d : Nat) {q : Nat} {w v0 : Int32} {p B k : Nat} (hp : M 192 10 = nI p) (hw : M 192 11 = 0) (hB : M 192 8 = nI B) (h60 : B ≤ 60) (hpB : p ≤ 60) (hk : k ≤ 30) (hc : isNm (lk M B p)) (H : ∀ M2, fr9 M M2 → M2 192 10 = nI (p + 1) → M2 192 11 = 0 → ∃ v M3, (w = 0 → v = v0) ∧ az_EX (d + 2) m_X9_number [.ref 192] (az_hp M2) (some (.int v)) (az_hp M3) ∧ fr9 M2 M3 ∧ M3 199 = M2 199 ∧ M3 192 10 = nI q ∧ M3 192 11 = w) : ∃ M', az_EX (d + 3) m_X9_order [.ref 192, .int (nI k)] (az_hp M) none (az_hp M') ∧ fr9 M M' ∧ M' 192 10 = nI q ∧ M' 192 11 = w ∧ (∀ j, j ≠ 2 * k → j ≠ 2 * k + 1 → M' 199 j = M 199 j) ∧ M' 199 (2 * k) = lk M B p ∧ (w = 0 → M' 199 (2 * k + 1) = v0) := by
  rcases hc with c | c | c | c | c <;> rw [c]
  · exact ex_orderN103 d hp hw hB h60 hpB hk c H
  · exact ex_orderN119 d hp hw hB h60 hpB hk c H
  · exact ex_orderN116 d hp hw hB h60 hpB hk c H
  · exact ex_orderN112 d hp hw hB h60 hpB hk c H
  · exact ex_orderN100 d hp hw hB h60 hpB hk c H
theorem isLt_or (c : Int32) : ¬ isLt c ∨ isAl c ∨ isNm c := by
  by_cases h : isLt c
  · rcases h with h | h | h | h | h | h | h | h
    · exact Or.inr (Or.inr (Or.inl h))
    · exact Or.inr (Or.inr (Or.inr (Or.inl h)))
    · exact Or.inr (Or.inr (Or.inr (Or.inr (Or.inl h))))
    · exact Or.inr (Or.inr (Or.inr (Or.inr (Or.inr (Or.inl h)))))
    · exact Or.inr (Or.inr (Or.inr (Or.inr (Or.inr (Or.inr h)))))
    · exact Or.inr (Or.inl (Or.inl h))
    · exact Or.inr (Or.inl (Or.inr (Or.inl h)))
    · exact Or.inr (Or.inl (Or.inr (Or.inr h)))
  · exact Or.inl h
theorem isAl_lt {c : Int32} (h : isAl c) : isLt c := by
  rcases h with h | h | h
  · exact Or.inr (Or.inr (Or.inr (Or.inr (Or.inr (Or.inl h)))))
  · exact Or.inr (Or.inr (Or.inr (Or.inr (Or.inr (Or.inr (Or.inl h))))))
  · exact Or.inr (Or.inr (Or.inr (Or.inr (Or.inr (Or.inr (Or.inr h))))))
theorem isNm_lt {c : Int32} (h : isNm c) : isLt c := by
  rcases h with h | h | h | h | h
  · exact Or.inl h
  · exact Or.inr (Or.inl h)
  · exact Or.inr (Or.inr (Or.inl h))
  · exact Or.inr (Or.inr (Or.inr (Or.inl h)))
  · exact Or.inr (Or.inr (Or.inr (Or.inr (Or.inl h))))
/-! CLASS: the reading of a text, step by step -/
theorem rlv_bad {c : Int32} (h : ¬ isLt c) : cg_rlv c = 4 := by
  unfold cg_rlv
  rw [if_neg (fun q => h (isNm_lt q)), if_neg (fun q => h (isAl_lt q))]
theorem rlv_al {c : Int32} (h : isAl c) : cg_rlv c = 3 := by
  rcases h with rfl | rfl | rfl <;> rfl
theorem rlv_nm {c : Int32} (h : isNm c) : cg_rlv c = 1 := by
  unfold cg_rlv
  rw [if_pos h]
theorem rdo_bad {m p : Nat} (hp : p < 60) (h : ¬ isLt (M 187 p)) : cg_rdo (m + 1) p 0 M = (nI p, cg_rl M (M 187 p)) := by
  have e : cg_rs M 0 (az_rd (M 187) 60 (nI p)) = (4, cg_rl M (M 187 p)) := by
    rw [az_rdN hp (by decide)]
    unfold cg_rs
    rw [if_pos rfl, rlv_bad h]
  show (if (cg_rs M 0 (az_rd (M 187) 60 (nI p))).1 = 4 then (nI p, (cg_rs M 0 (az_rd (M 187) 60 (nI p))).2) else _) = _
  rw [e, if_pos rfl]
theorem rdo_al {m p : Nat} (hp : p < 60) (h : isAl (M 187 p)) : cg_rdo (m + 1) p 0 M = cg_rdo m (p + 1) 3 (cg_rl M (M 187 p)) := by
  have e : cg_rs M 0 (az_rd (M 187) 60 (nI p)) = (3, cg_rl M (M 187 p)) := by
    rw [az_rdN hp (by decide)]
    unfold cg_rs
    rw [if_pos rfl, rlv_al h]
  show (if (cg_rs M 0 (az_rd (M 187) 60 (nI p))).1 = 4 then _ else cg_rdo m (p + 1) (cg_rs M 0 (az_rd (M 187) 60 (nI p))).1 (cg_rs M 0 (az_rd (M 187) 60 (nI p))).2) = _
  rw [e, if_neg (show ¬ (3 : Int32) = 4 by decide)]
theorem rdo_nm {m p : Nat} (hp : p < 60) (h : isNm (M 187 p)) : cg_rdo (m + 1) p 0 M = cg_rdo m (p + 1) 1 (cg_rl M (M 187 p)) := by
  have e : cg_rs M 0 (az_rd (M 187) 60 (nI p)) = (1, cg_rl M (M 187 p)) := by
    rw [az_rdN hp (by decide)]
    unfold cg_rs
    rw [if_pos rfl, rlv_nm h]
  show (if (cg_rs M 0 (az_rd (M 187) 60 (nI p))).1 = 4 then _ else cg_rdo m (p + 1) (cg_rs M 0 (az_rd (M 187) 60 (nI p))).1 (cg_rs M 0 (az_rd (M 187) 60 (nI p))).2) = _
  rw [e, if_neg (show ¬ (1 : Int32) = 4 by decide)]
theorem rdo_1x {m q : Nat} (hq : q < 60) (h : ¬ dig (M 187 q)) : cg_rdo (m + 1) q 1 M = (nI q, M) := by
  have e : cg_rs M 1 (az_rd (M 187) 60 (nI q)) = (4, M) := by
    rw [az_rdN hq (by decide)]
    unfold cg_rs
    rw [if_neg (by decide), if_neg (fun c => h c.2), if_neg (fun c => absurd c.1 (by decide)), if_neg (fun c => c.1 rfl)]
  show (if (cg_rs M 1 (az_rd (M 187) 60 (nI q))).1 = 4 then (nI q, (cg_rs M 1 (az_rd (M 187) 60 (nI q))).2) else _) = _
  rw [e, if_pos rfl]
theorem rdo_1d {m q : Nat} (hq : q < 60) (h : dig (M 187 q)) : cg_rdo (m + 1) q 1 M = cg_rdo m (q + 1) (if cg_dg M (M 187 q) = 0 then 3 else 2) (az_wr M 191 30 (M 185 4 - 1) (cg_dg M (M 187 q))) := by
  have e : cg_rs M 1 (az_rd (M 187) 60 (nI q)) = (if cg_dg M (M 187 q) = 0 then 3 else 2, az_wr M 191 30 (M 185 4 - 1) (cg_dg M (M 187 q))) := by
    rw [az_rdN hq (by decide)]
    unfold cg_rs
    rw [if_neg (by decide), if_pos ⟨rfl, h⟩]
  show (if (cg_rs M 1 (az_rd (M 187) 60 (nI q))).1 = 4 then _ else cg_rdo m (q + 1) (cg_rs M 1 (az_rd (M 187) 60 (nI q))).1 (cg_rs M 1 (az_rd (M 187) 60 (nI q))).2) = _
  rw [e, if_neg]
  show ¬ (if cg_dg M (M 187 q) = 0 then (3 : Int32) else 2) = 4
  split <;> decide
theorem rdo_2d {m q : Nat} (hq : q < 60) (h : dig (M 187 q)) : cg_rdo (m + 1) q 2 M = cg_rdo m (q + 1) 3 (az_wr M 191 30 (M 185 4 - 1) (cg_dg M (M 187 q))) := by
  have e : cg_rs M 2 (az_rd (M 187) 60 (nI q)) = (3, az_wr M 191 30 (M 185 4 - 1) (cg_dg M (M 187 q))) := by
    rw [az_rdN hq (by decide)]
    unfold cg_rs
    rw [if_neg (by decide), if_neg (fun c => absurd c.1 (by decide)), if_pos ⟨rfl, h⟩]
  show (if (cg_rs M 2 (az_rd (M 187) 60 (nI q))).1 = 4 then _ else cg_rdo m (q + 1) (cg_rs M 2 (az_rd (M 187) 60 (nI q))).1 (cg_rs M 2 (az_rd (M 187) 60 (nI q))).2) = _
  rw [e, if_neg (show ¬ (3 : Int32) = 4 by decide)]
theorem rdo_e {m q : Nat} {a : Int32} (hq : q < 60) (ha : a = 3 ∨ (a = 2 ∧ ¬ dig (M 187 q))) : cg_rdo (m + 1) q a M = if M 187 q = 59 then cg_rdo m (q + 1) 0 M else (nI q, M) := by
  have e : cg_rs M a (az_rd (M 187) 60 (nI q)) = (if M 187 q = 59 then 0 else 4, M) := by
    rw [az_rdN hq (by decide)]
    unfold cg_rs
    rcases ha with rfl | ⟨rfl, h⟩
    · rw [if_neg (by decide), if_neg (fun c => absurd c.1 (by decide)), if_neg (fun c => absurd c.1 (by decide))]
      by_cases c : M 187 q = 59
      · rw [if_pos ⟨by decide, c⟩, if_pos c]
      · rw [if_neg (fun x => c x.2), if_neg c]
    · rw [if_neg (by decide), if_neg (fun c => absurd c.1 (by decide)), if_neg (fun c => h c.2)]
      by_cases c : M 187 q = 59
      · rw [if_pos ⟨by decide, c⟩, if_pos c]
      · rw [if_neg (fun x => c x.2), if_neg c]
  show (if (cg_rs M a (az_rd (M 187) 60 (nI q))).1 = 4 then (nI q, (cg_rs M a (az_rd (M 187) 60 (nI q))).2) else cg_rdo m (q + 1) (cg_rs M a (az_rd (M 187) 60 (nI q))).1 (cg_rs M a (az_rd (M 187) 60 (nI q))).2) = _
  rw [e]
  by_cases c : M 187 q = 59
  · rw [if_pos c, if_pos c, if_neg (show ¬ (0 : Int32) = 4 by decide)]
  · rw [if_neg c, if_neg c, if_pos rfl]
end ORDX
