/-! CLASS, SURVEY: the nearest zone for a load -/
section NEAR
variable {M : Nat → Nat → Int32}
def cg_near (M : az_Mem) (l : Int32) : Nat → Int32 → Int32
  | 0, _ => -5
  | m + 1, z => if cg_may M l z then z else cg_near M l m (if M 2 0 ≤ z + 1 then 0 else z + 1)
theorem ec_nearestZoneFor (d : Nat) (l : Int32) {Z : Nat} (hZ : M 2 0 = nI Z) (hZ8 : Z ≤ 8) : az_EX (d + 4) m_X6_nearestZoneFor [.ref 1, .int l] (az_hp M) (some (.int (if ¬ (¬ l < 0 ∧ ¬ 40 ≤ l) then -1 else cg_near M l Z (M 24 0)))) (az_hp M) := by
  refine az_EX.of (az_in0 (code := k_X6_nearestZoneFor) (ls := [some (.ref 1), some (.int l), none, none]) rfl rfl rfl ?_)
  have K : ∀ (m i : Nat) (z : Int32), i + m = Z → az_RUN (d + 3) k_X6_nearestZoneFor 23 [some (.ref 1), some (.int l), some (.int z), some (.int (nI i))] [] (az_hp M) (fun r1 h1 => r1 = some (.int (cg_near M l m z)) ∧ h1 = az_hp M) := by
    intro m
    induction m with
    | zero =>
      intro i z hi
      refine az_sgp rfl rfl rfl rfl ?_
      refine az_bra rfl rfl rfl (fun _ => ?_) (fun q => absurd (show M 2 0 ≤ nI i by rw [hZ]; exact nI_le (show Z ≤ i by omega) (by omega)) q)
      refine az_sgp rfl rfl rfl rfl ?_
      refine az_ret rfl rfl rfl rfl ?_
      exact ⟨rfl, rfl⟩
    | succ m ih =>
      intro i z hi
      refine az_sgp rfl rfl rfl rfl ?_
      refine az_bra rfl rfl rfl (fun q => absurd (show nI Z ≤ nI i by rw [← hZ]; exact q) (nI_ge (show i < Z by omega) (by omega))) (fun _ => ?_)
      refine az_sgp rfl rfl rfl rfl ?_
      unfold cg_near
      refine az_ca2 rfl rfl rfl rfl (ec_mayBeWritten d l z) (fun a => ?_) (fun a => ?_)
      · rw [if_pos a]
        refine az_bra rfl rfl rfl (fun q => absurd q (by decide)) (fun _ => ?_)
        refine az_sgp rfl rfl rfl rfl ?_
        refine az_ret rfl rfl rfl rfl ?_
        exact ⟨rfl, rfl⟩
      · rw [if_neg a]
        refine az_bra rfl rfl rfl (fun _ => ?_) (fun q => absurd rfl q)
        refine az_sgp rfl rfl rfl rfl ?_
        refine az_ca2 rfl rfl rfl rfl (ec_zoneBehind _ z) (fun b => ?_) (fun b => ?_)
        · rw [if_pos b]
          refine az_sg 3 rfl ?_
          rw [nI_1]
          exact ih (i + 1) _ (by omega)
        · rw [if_neg b]
          refine az_sg 3 rfl ?_
          rw [nI_1]
          exact ih (i + 1) _ (by omega)
  refine az_sgp rfl rfl rfl rfl ?_
  refine az_ca2 rfl rfl rfl rfl (ec_isKnown _ l) (fun a => ?_) (fun a => ?_)
  · rw [if_neg (fun q => q a)]
    refine az_bra rfl rfl rfl (fun q => absurd q (by decide)) (fun _ => ?_)
    refine az_sg 6 rfl ?_
    exact K Z 0 _ (by omega)
  · rw [if_pos a]
    refine az_bra rfl rfl rfl (fun _ => ?_) (fun q => absurd rfl q)
    refine az_sgp rfl rfl rfl rfl ?_
    refine az_ret rfl rfl rfl rfl ?_
    exact ⟨rfl, rfl⟩
end NEAR
