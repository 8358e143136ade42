/-! a load goes out of the bag: class and reference -/
section UNB
variable {M W : az_Mem}
def cg_ub (W : az_Mem) (q B : Nat) : az_Mem := fun c j => if c = 26 ∧ q ≤ j ∧ j + 1 < B then W 26 (j + 1) else if c = 24 ∧ j = 4 then nI (B - 1) else W c j
def rg_sh (M : az_Mem) (q k : Nat) : az_Mem := fun c j => if c = 193 ∧ 13 + q ≤ j ∧ j < 13 + k then M 193 (j + 1) else M c j
theorem rg_shS {M : az_Mem} {q k : Nat} (h : q ≤ k) : az_up (rg_sh M q k) 193 (13 + k) (rg_sh M q k 193 (13 + k + 1)) = rg_sh M q (k + 1) := by
  funext c j
  simp only [az_up, rg_sh]
  by_cases h1 : c = 193
  · by_cases h2 : j = 13 + k
    · subst h1 h2
      rw [if_pos ⟨rfl, rfl⟩, if_neg (by omega), if_pos ⟨rfl, by omega, by omega⟩]
    · subst h1
      rw [if_neg (by omega)]
      by_cases h3 : 13 + q ≤ j ∧ j < 13 + k
      · rw [if_pos ⟨rfl, h3⟩, if_pos ⟨rfl, by omega, by omega⟩]
      · rw [if_neg (by omega), if_neg (by omega)]
  · rw [if_neg (by omega), if_neg (by omega), if_neg (by omega)]
theorem rg_sh0 (M : az_Mem) (q : Nat) : rg_sh M q q = M := by
  funext c j
  simp only [rg_sh]
  rw [if_neg (by omega)]
theorem RR.ub (hR : RR W (M 193)) {q B : Nat} (hq : q < B) (h6 : B ≤ 6) : RR (cg_ub W q B) (az_up (rg_sh M q (B - 1)) 193 12 (nI (B - 1)) 193) := by
  have hb : ∀ i, i < 6 → az_up (rg_sh M q (B - 1)) 193 12 (nI (B - 1)) 193 (13 + i) = cg_ub W q B 26 i := by
    intro i hi
    simp only [az_up, rg_sh, cg_ub]
    rw [if_neg (by omega)]
    by_cases h : q ≤ i ∧ i + 1 < B
    · rw [if_pos (by simp; omega), if_pos (by simp; omega)]
      exact hR.bag (i + 1) (by omega)
    · rw [if_neg (by omega), if_neg (by omega), if_neg (by omega)]
      exact hR.bag i hi
  have hj : ∀ j, (j < 12 ∨ 19 ≤ j) → az_up (rg_sh M q (B - 1)) 193 12 (nI (B - 1)) 193 j = M 193 j := by
    intro j h
    simp only [az_up, rg_sh]
    rw [if_neg (by omega), if_neg (by omega)]
  have hw : ∀ c j, c ≠ 26 → (c ≠ 24 ∨ j ≠ 4) → cg_ub W q B c j = W c j := by
    intro c j h1 h2
    simp only [cg_ub]
    rw [if_neg (by omega), if_neg (by omega)]
  have rs : ∀ j c k, (j < 12 ∨ 19 ≤ j) → c ≠ 26 → (c ≠ 24 ∨ k ≠ 4) → M 193 j = W c k → az_up (rg_sh M q (B - 1)) 193 12 (nI (B - 1)) 193 j = cg_ub W q B c k := by
    intro j c k h1 h2 h3 h4
    rw [hj j h1, hw c k h2 h3, h4]
  refine RR.mk (rs _ _ _ (by omega) (by decide) (by decide) hR.zones) (rs _ _ _ (by omega) (by decide) (by decide) hR.slots) (rs _ _ _ (by omega) (by decide) (by decide) hR.at_) (rs _ _ _ (by omega) (by decide) (by decide) hR.water) (rs _ _ _ (by omega) (by decide) (by decide) hR.skin) (rs _ _ _ (by omega) (by decide) (by decide) hR.room) (rs _ _ _ (by omega) (by decide) (by decide) hR.bound) (rs _ _ _ (by omega) (by decide) (by decide) hR.mark) (rs _ _ _ (by omega) (by decide) (by decide) hR.steps) (rs _ _ _ (by omega) (by decide) (by decide) hR.used) (rs _ _ _ (by omega) (by decide) (by decide) hR.resets) (rs _ _ _ (by omega) (by decide) (by decide) hR.moved) ?_ hb (fun i hi => rs _ _ _ (by omega) (by decide) (Or.inl (by decide)) (hR.zp i hi)) (fun i hi => rs _ _ _ (by omega) (by decide) (Or.inl (by decide)) (hR.zs i hi)) (fun i hi => rs _ _ _ (by omega) (by decide) (Or.inl (by decide)) (hR.zk i hi)) (fun i hi => rs _ _ _ (by omega) (by decide) (Or.inl (by decide)) (hR.zw i hi)) (fun i hi => rs _ _ _ (by omega) (by decide) (Or.inl (by decide)) (hR.zr i hi)) (fun i hi => rs _ _ _ (by omega) (by decide) (Or.inl (by decide)) (hR.cl i hi)) (fun i hi => rs _ _ _ (by omega) (by decide) (Or.inl (by decide)) (hR.cm i hi)) (fun i hi => rs _ _ _ (by omega) (by decide) (Or.inl (by decide)) (hR.lw i hi)) (fun i hi => rs _ _ _ (by omega) (by decide) (Or.inl (by decide)) (hR.lh i hi)) (fun i hi => ?_) (fun i hi => ?_)
  · simp only [az_up, cg_ub]
    simp
  · rw [hj _ (by omega), hw _ _ (by decide) (Or.inl (by decide))]
    exact hR.li i hi
  · rw [hj _ (by omega), hw _ _ (by decide) (Or.inl (by decide))]
    exact hR.lp i hi
theorem ex_unbag (d : Nat) (hR : RR W (M 193)) {q B : Nat} {qi : Int32} (hqi : qi = nI q) (hB : W 24 4 = nI B) (hq : q < B) (h6 : B ≤ 6) : az_EX (d + 1) m_X9_unbag [.ref 192, .int qi] (az_hp M) none (az_hp (az_up (rg_sh M q (B - 1)) 193 12 (nI (B - 1)))) := by
  subst hqi
  have eB : nI B - 1 = nI (B - 1) := by
    obtain ⟨Y, rfl⟩ : ∃ Y, B = Y + 1 := ⟨B - 1, by omega⟩
    exact nI_pred Y
  have hm : ∀ k, rg_sh M q k 193 12 = nI B := by
    intro k
    simp only [rg_sh]
    rw [if_neg (by omega)]
    exact hR.many.trans hB
  have K : ∀ (m k : Nat), q ≤ k → k + m = B - 1 → az_RUN d k_X9_unbag 2 [some (.ref 192), some (.int (nI q)), some (.int (nI k))] [] (az_hp (rg_sh M q k)) (fun r1 h1 => r1 = none ∧ h1 = az_hp (az_up (rg_sh M q (B - 1)) 193 12 (nI (B - 1)))) := by
    intro m
    induction m with
    | zero =>
      intro k hk hs
      refine az_sgp rfl rfl rfl rfl ?_
      refine az_ald rfl rfl (k := 12) rfl (by decide) (by decide) (hm k) ?_
      rw [show k = B - 1 by omega]
      refine az_sgp rfl rfl rfl rfl ?_
      rw [eB]
      refine az_bra rfl rfl rfl (fun q => ?_) (fun q => ?_)
      · refine az_sgp rfl rfl rfl rfl ?_
        refine az_ald rfl rfl (k := 12) rfl (by decide) (by decide) (hm _) ?_
        refine az_sgp rfl rfl rfl rfl ?_
        refine az_ast rfl rfl (k := 12) rfl (by decide) (by decide) ?_
        refine az_ret rfl rfl rfl rfl ?_
        rw [eB]
        exact ⟨rfl, rfl⟩
      · exact absurd (nI_le (by omega) (by omega)) q
    | succ m ih =>
      intro k hk hs
      refine az_sgp rfl rfl rfl rfl ?_
      refine az_ald rfl rfl (k := 12) rfl (by decide) (by decide) (hm k) ?_
      refine az_sgp rfl rfl rfl rfl ?_
      rw [eB]
      refine az_bra rfl rfl rfl (fun q => ?_) (fun q => ?_)
      · exact absurd q (nI_ge (by omega) (by omega))
      refine az_sgp rfl rfl rfl rfl ?_
      refine az_ald rfl rfl (k := 13 + k + 1) (by show nI 13 + nI k + nI 1 = _; rw [nI_add, nI_add]) (by omega) (by decide) rfl ?_
      refine az_ast rfl rfl (k := 13 + k) (nI_add 13 k) (by omega) (by decide) ?_
      refine az_sg 2 rfl ?_
      rw [nI_1, rg_shS hk]
      exact ih (k + 1) (by omega) (by omega)
  refine az_EX.of (az_in0 (code := k_X9_unbag) (ls := [some (.ref 192), some (.int (nI q)), none]) rfl rfl rfl ?_)
  refine az_sg 2 rfl ?_
  have k0 := K (B - 1 - q) q (Nat.le_refl _) (by omega)
  rw [rg_sh0] at k0
  exact k0
theorem az_unp_sh (l : Int32) : ∀ (m k : Nat) (V : az_Mem), (∀ i, k < i → i ≤ k + m → V 26 i ≠ l) → az_unp l m (k + 1) k V = (fun c j => if c = 26 ∧ k ≤ j ∧ j < k + m then V 26 (j + 1) else V c j, k + m) := by
  intro m
  induction m with
  | zero =>
    intro k V _
    show (V, k) = _
    congr 1
    funext c j
    rw [if_neg (by omega)]
  | succ m ih =>
    intro k V h
    show (if V 26 (k + 1) = l then _ else az_unp l m (k + 1 + 1) (k + 1) (az_up V 26 k (V 26 (k + 1)))) = _
    rw [if_neg (h (k + 1) (by omega) (by omega)), ih (k + 1) _ ?_]
    · congr 1
      · funext c j
        simp only [az_up]
        by_cases h1 : c = 26
        · subst h1
          by_cases h2 : j = k
          · subst h2
            rw [if_neg (by omega), if_pos ⟨rfl, rfl⟩, if_pos (by omega)]
          · by_cases h3 : k ≤ j ∧ j < k + (m + 1)
            · rw [if_pos (by omega), if_neg (by omega), if_pos (by omega)]
            · rw [if_neg (by omega), if_neg (by omega), if_neg (by omega)]
        · rw [if_neg (by omega), if_neg (by omega), if_neg (by omega)]
      · omega
    · intro i h1 h2
      rw [az_up_self, if_neg (by omega)]
      exact h i (by omega) (by omega)
theorem az_up_id {M : az_Mem} {a k : Nat} {x : Int32} (h : M a k = x) : az_up M a k x = M := by
  funext c j
  simp only [az_up]
  split
  · next e => rw [e.1, e.2, h]
  · rfl
theorem az_unp_pre (l : Int32) (V : az_Mem) : ∀ (n m i : Nat), (∀ j, i ≤ j → j < i + n → V 26 j ≠ l) → az_unp l (n + m) i i V = az_unp l m (i + n) (i + n) V := by
  intro n
  induction n with
  | zero => intro m i _; rw [Nat.zero_add, Nat.add_zero]
  | succ n ih =>
    intro m i h
    rw [show n + 1 + m = (n + m) + 1 by omega]
    show (if V 26 i = l then _ else az_unp l (n + m) (i + 1) (i + 1) (az_up V 26 i (V 26 i))) = _
    rw [if_neg (h i (by omega) (by omega)), az_up_id rfl, ih m (i + 1) (fun j h1 h2 => h j (by omega) (by omega)), show i + 1 + n = i + (n + 1) by omega]
theorem cg_unpN {l : Int32} {q B : Nat} (hB : W 24 4 = nI B) (hq : q < B) (h6 : B ≤ 6) (e : W 26 q = l) (hu : ∀ i, i < B → W 26 i = l → i = q) : cg_unp W l = cg_ub W q B := by
  have h : az_unp l B 0 0 W = (fun c j => if c = 26 ∧ q ≤ j ∧ j < q + (B - q - 1) then W 26 (j + 1) else W c j, q + (B - q - 1)) := by
    rw [show B = q + (B - q - 1 + 1) by omega, az_unp_pre l W q _ 0 (fun j h1 h2 h3 => by have := hu j (by omega) h3; omega), Nat.zero_add]
    show (if W 26 q = l then az_unp l (B - q - 1) (q + 1) q W else _) = _
    rw [if_pos e, az_unp_sh l (B - q - 1) q W (fun i h1 h2 h3 => by have := hu i (by omega) h3; omega), show q + (B - q - 1 + 1) - q - 1 = B - q - 1 by omega]
  unfold cg_unp
  rw [hB, nI_clamp (by omega), h]
  funext c j
  simp only [az_up, cg_ub]
  by_cases h1 : c = 24 ∧ j = 4
  · rw [if_pos h1, if_neg (by omega), if_pos h1, show q + (B - q - 1) = B - 1 by omega]
  · rw [if_neg h1, if_neg h1]
    by_cases h2 : c = 26 ∧ q ≤ j ∧ j + 1 < B
    · rw [if_pos h2, if_pos (by omega)]
    · rw [if_neg h2, if_neg (by omega)]
theorem cg_unpA {l : Int32} {B : Nat} (hB : W 24 4 = nI B) (h6 : B ≤ 6) (hu : ∀ i, i < B → W 26 i ≠ l) : cg_unp W l = W := by
  have h : az_unp l B 0 0 W = (W, B) := by
    have k := az_unp_pre l W B 0 0 (fun j _ h2 => hu j (by omega))
    rw [Nat.add_zero, Nat.zero_add] at k
    exact k
  unfold cg_unp
  rw [hB, nI_clamp (by omega), h]
  exact az_up_id hB
theorem az_findN {f : Nat → Int32} {l : Int32} {q B : Nat} (hq : q < B) (e : f q = l) (hu : ∀ i, i < B → f i = l → i = q) : az_find f l B 0 = nI q := by
  have K : ∀ n m i, i + n = q → q < i + (n + m) → (n + m + i = B) → az_find f l (n + m) i = nI q := by
    intro n
    induction n with
    | zero =>
      intro m i h1 h2 _
      obtain ⟨m, rfl⟩ : ∃ m', m = m' + 1 := ⟨m - 1, by omega⟩
      obtain rfl : i = q := (by omega)
      rw [Nat.zero_add]
      show (if f i = l then nI i else _) = _
      rw [if_pos e]
    | succ n ih =>
      intro m i h1 h2 h3
      rw [show n + 1 + m = (n + m) + 1 by omega]
      show (if f i = l then nI i else az_find f l (n + m) (i + 1)) = _
      rw [if_neg (fun c => by have := hu i (by omega) c; omega)]
      exact ih m (i + 1) (by omega) (by omega) (by omega)
  have k := K q (B - q) 0 (by omega) (by omega) (by omega)
  rw [show q + (B - q) = B by omega] at k
  exact k
end UNB
