/-! REFERENCE, LEAVES -/
theorem nI_mul (a b : Nat) : nI a * nI b = nI (a * b) := (Int32.ofNat_mul a b).symm
theorem ix_z (z w : Nat) : 19 + 5 * nI z + nI w = nI (19 + 5 * z + w) := by
  show nI 19 + nI 5 * nI z + nI w = _
  rw [nI_mul, nI_add, nI_add]
theorem ix_l (l w : Nat) : 251 + 4 * nI l + nI w = nI (251 + 4 * l + w) := by
  show nI 251 + nI 4 * nI l + nI w = _
  rw [nI_mul, nI_add, nI_add]
theorem ix_s (z s : Nat) : 59 + 2 * (12 * nI z + nI s) = nI (59 + 2 * (12 * z + s)) := by
  show nI 59 + nI 2 * (nI 12 * nI z + nI s) = _
  rw [nI_mul, nI_add, nI_mul, nI_add]
theorem in_iff {v : Int32} {n : Nat} {m : Int32} (hm : m = nI n) (hn : n < 2 ^ 31) : (¬ v < 0 ∧ ¬ m < v) ↔ ∃ k, k ≤ n ∧ v = nI k := by
  subst hm
  constructor
  · rintro ⟨h1, h2⟩
    obtain ⟨j, hj, rfl⟩ := nI_of h1
    exact ⟨j, by rw [nI_ltI hn hj] at h2; omega, rfl⟩
  · rintro ⟨k, hk, rfl⟩
    exact ⟨nI_pos (by omega), nI_nlt hk hn⟩
theorem ix_iff {v : Int32} {n : Nat} {m : Int32} (hm : m = nI n) (hn : n < 2 ^ 31) : (¬ v < 0 ∧ ¬ m ≤ v) ↔ ∃ k, k < n ∧ v = nI k := by
  subst hm
  constructor
  · rintro ⟨h1, h2⟩
    obtain ⟨j, hj, rfl⟩ := nI_of h1
    exact ⟨j, by rw [nI_leI hn hj] at h2; omega, rfl⟩
  · rintro ⟨k, hk, rfl⟩
    exact ⟨nI_pos (by omega), nI_ge hk hn⟩
section REFL
variable {d : Nat} {code : Nat → Option az_I} {p : Nat} {ls : List az_V} {Q : Option Value → az_H → Prop} {M : az_Mem}
theorem az_ald {a b c nx q n k : Nat} {im j x : Int32} {sw : List (Int32 × Nat)} {r : List Value} (hi : code p = some (33, a, b, c, im, nx, sw)) (hs : az_shp q = (9, n, [])) (e : j = nI k) (hk : k < n) (hn : n < 2 ^ 31) (ev : M q k = x) (kk : az_RUN d code nx ls (.int x :: r) (az_hp M) Q) : az_RUN d code p ls (.int j :: .ref q :: r) (az_hp M) Q := by
  subst e
  refine az_ild hs hi (az_inN hk hn) ?_
  rw [nI_clamp (by omega), ev]
  exact kk
theorem az_ast {a b c nx q n k : Nat} {im j x : Int32} {sw : List (Int32 × Nat)} {r : List Value} (hi : code p = some (34, a, b, c, im, nx, sw)) (hs : az_shp q = (9, n, [])) (e : j = nI k) (hk : k < n) (hn : n < 2 ^ 31) (kk : az_RUN d code nx ls r (az_hp (az_up M q k x)) Q) : az_RUN d code p ls (.int x :: .int j :: .ref q :: r) (az_hp M) Q := by
  subst e
  refine az_ist hs hi (az_inN hk hn) ?_
  rw [nI_clamp (by omega)]
  exact kk
end REFL
section REFL2
variable {M : az_Mem}
theorem ex_in (d : Nat) (v lo hi : Int32) : az_E2 (¬ v < lo ∧ ¬ hi < v) (d + 1) m_X9_in [.int v, .int lo, .int hi] (az_hp M) (some (.int 1)) (az_hp M) (some (.int 0)) (az_hp M) := by
  refine ⟨fun hc => ?_, fun hc => ?_⟩ <;> refine az_EX.of (az_in0 (code := k_X9_in) (ls := [some (.int v), some (.int lo), some (.int hi)]) rfl rfl rfl ?_)
  · repeat' (first
    | (refine az_ret rfl rfl rfl rfl ?_)
    | (refine az_sgp rfl rfl rfl rfl ?_)
    | ((with_reducible apply az_ifeqT); rfl)
    | ((with_reducible apply az_ifeqF); rfl)
    | ((with_reducible apply az_ifneF); rfl)
    | ((with_reducible apply az_ifneT); rfl)
    | (refine az_bra rfl rfl rfl (fun _ => ?_) (fun _ => ?_)))
    all_goals first | exact ⟨rfl, rfl⟩ | exact absurd (by assumption) hc.1 | exact absurd (by assumption) hc.2
  · repeat' (first
    | (refine az_ret rfl rfl rfl rfl ?_)
    | (refine az_sgp rfl rfl rfl rfl ?_)
    | ((with_reducible apply az_ifeqT); rfl)
    | ((with_reducible apply az_ifeqF); rfl)
    | ((with_reducible apply az_ifneF); rfl)
    | ((with_reducible apply az_ifneT); rfl)
    | (refine az_bra rfl rfl rfl (fun _ => ?_) (fun _ => ?_)))
    all_goals first | exact absurd ⟨by assumption, by assumption⟩ hc | exact ⟨rfl, rfl⟩
theorem ex_isLoad (d : Nat) (l : Int32) : az_E2 (∃ k, k < 40 ∧ l = nI k) (d + 2) m_X9_isLoad [.int l] (az_hp M) (some (.int 1)) (az_hp M) (some (.int 0)) (az_hp M) := by
  have hh : (¬ l < 0 ∧ ¬ (39 : Int32) < l) ↔ ∃ k, k < 40 ∧ l = nI k := by
    refine (in_iff (m := 39) (n := 39) rfl (by decide)).trans ?_
    constructor <;> rintro ⟨k, hk, e⟩ <;> exact ⟨k, by omega, e⟩
  refine ⟨fun hc => ?_, fun hc => ?_⟩ <;> refine az_EX.of (az_in0 (code := k_X9_isLoad) (ls := [some (.int l)]) rfl rfl rfl ?_)
  · refine az_sgp rfl rfl rfl rfl ?_
    refine az_cav rfl rfl rfl rfl ((ex_in d l 0 39).1 (hh.mpr hc)) ?_
    refine az_ret rfl rfl rfl rfl ?_
    exact ⟨rfl, rfl⟩
  · refine az_sgp rfl rfl rfl rfl ?_
    refine az_cav rfl rfl rfl rfl ((ex_in d l 0 39).2 (fun q => hc (hh.mp q))) ?_
    refine az_ret rfl rfl rfl rfl ?_
    exact ⟨rfl, rfl⟩
theorem ex_isZone (d : Nat) (z : Int32) {Z : Nat} (hZ : M 193 0 = nI Z) (h1 : 1 ≤ Z) (h8 : Z ≤ 8) : az_E2 (∃ k, k < Z ∧ z = nI k) (d + 2) m_X9_isZone [.ref 192, .int z] (az_hp M) (some (.int 1)) (az_hp M) (some (.int 0)) (az_hp M) := by
  obtain ⟨Y, rfl⟩ : ∃ Y, Z = Y + 1 := ⟨Z - 1, by omega⟩
  have hh : (¬ z < 0 ∧ ¬ (nI (Y + 1) - 1) < z) ↔ ∃ k, k < Y + 1 ∧ z = nI k := by
    refine (in_iff (n := Y) (nI_pred Y) (by omega)).trans ?_
    constructor <;> rintro ⟨k, hk, e⟩ <;> exact ⟨k, by omega, e⟩
  refine ⟨fun hc => ?_, fun hc => ?_⟩ <;> refine az_EX.of (az_in0 (code := k_X9_isZone) (ls := [some (.ref 192), some (.int z)]) rfl rfl rfl ?_)
  · refine az_sgp rfl rfl rfl rfl ?_
    refine az_ald rfl rfl (k := 0) rfl (by decide) (by decide) hZ ?_
    refine az_sgp rfl rfl rfl rfl ?_
    refine az_cav rfl rfl rfl rfl ((ex_in d z 0 _).1 (hh.mpr hc)) ?_
    refine az_ret rfl rfl rfl rfl ?_
    exact ⟨rfl, rfl⟩
  · refine az_sgp rfl rfl rfl rfl ?_
    refine az_ald rfl rfl (k := 0) rfl (by decide) (by decide) hZ ?_
    refine az_sgp rfl rfl rfl rfl ?_
    refine az_cav rfl rfl rfl rfl ((ex_in d z 0 _).2 (fun q => hc (hh.mp q))) ?_
    refine az_ret rfl rfl rfl rfl ?_
    exact ⟨rfl, rfl⟩
theorem ex_ofZone (d : Nat) {z w : Nat} {zi wi x : Int32} (hz : zi = nI z) (hw : wi = nI w) (hb : 19 + 5 * z + w < 411) (ev : M 193 (19 + 5 * z + w) = x) : az_EX (d + 1) m_X9_ofZone [.ref 192, .int zi, .int wi] (az_hp M) (some (.int x)) (az_hp M) := by
  refine az_EX.of (az_in0 (code := k_X9_ofZone) (ls := [some (.ref 192), some (.int zi), some (.int wi)]) rfl rfl rfl ?_)
  refine az_sgp rfl rfl rfl rfl ?_
  refine az_ald rfl rfl (k := 19 + 5 * z + w) (by rw [hz, hw]; exact ix_z z w) hb (by decide) ev ?_
  refine az_ret rfl rfl rfl rfl ?_
  exact ⟨rfl, rfl⟩
theorem ex_ofLoad (d : Nat) {z w : Nat} {zi wi x : Int32} (hz : zi = nI z) (hw : wi = nI w) (hb : 251 + 4 * z + w < 411) (ev : M 193 (251 + 4 * z + w) = x) : az_EX (d + 1) m_X9_ofLoad [.ref 192, .int zi, .int wi] (az_hp M) (some (.int x)) (az_hp M) := by
  refine az_EX.of (az_in0 (code := k_X9_ofLoad) (ls := [some (.ref 192), some (.int zi), some (.int wi)]) rfl rfl rfl ?_)
  refine az_sgp rfl rfl rfl rfl ?_
  refine az_ald rfl rfl (k := 251 + 4 * z + w) (by rw [hz, hw]; exact ix_l z w) hb (by decide) ev ?_
  refine az_ret rfl rfl rfl rfl ?_
  exact ⟨rfl, rfl⟩
theorem ex_zoneIs (d : Nat) {z w : Nat} {zi wi x : Int32} (hz : zi = nI z) (hw : wi = nI w) (hb : 19 + 5 * z + w < 411) : az_EX (d + 1) m_X9_zoneIs [.ref 192, .int zi, .int wi, .int x] (az_hp M) none (az_hp (az_up M 193 (19 + 5 * z + w) x)) := by
  refine az_EX.of (az_in0 (code := k_X9_zoneIs) (ls := [some (.ref 192), some (.int zi), some (.int wi), some (.int x)]) rfl rfl rfl ?_)
  refine az_sgp rfl rfl rfl rfl ?_
  refine az_ast rfl rfl (k := 19 + 5 * z + w) (by rw [hz, hw]; exact ix_z z w) hb (by decide) ?_
  refine az_ret rfl rfl rfl rfl ?_
  exact ⟨rfl, rfl⟩
theorem ex_loadIs (d : Nat) {z w : Nat} {zi wi x : Int32} (hz : zi = nI z) (hw : wi = nI w) (hb : 251 + 4 * z + w < 411) : az_EX (d + 1) m_X9_loadIs [.ref 192, .int zi, .int wi, .int x] (az_hp M) none (az_hp (az_up M 193 (251 + 4 * z + w) x)) := by
  refine az_EX.of (az_in0 (code := k_X9_loadIs) (ls := [some (.ref 192), some (.int zi), some (.int wi), some (.int x)]) rfl rfl rfl ?_)
  refine az_sgp rfl rfl rfl rfl ?_
  refine az_ast rfl rfl (k := 251 + 4 * z + w) (by rw [hz, hw]; exact ix_l z w) hb (by decide) ?_
  refine az_ret rfl rfl rfl rfl ?_
  exact ⟨rfl, rfl⟩
theorem ex_slotAt (d : Nat) {z s : Nat} {zi si : Int32} (hz : zi = nI z) (hs : si = nI s) : az_EX (d + 1) m_X9_slotAt [.int zi, .int si] (az_hp M) (some (.int (nI (59 + 2 * (12 * z + s))))) (az_hp M) := by
  refine az_EX.of (az_in0 (code := k_X9_slotAt) (ls := [some (.int zi), some (.int si)]) rfl rfl rfl ?_)
  refine az_sgp rfl rfl rfl rfl ?_
  refine az_ret rfl rfl rfl rfl ?_
  rw [hz, hs, ix_s]
  exact ⟨rfl, rfl⟩
end REFL2
