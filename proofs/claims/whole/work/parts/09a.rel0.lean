/-! THE START STANDS IN THE RELATION; all calls keep it -/
def ye0 (k : Nat) : Nat := if k % 5 = 0 then 1 else 0
theorem yes0_v : ∀ i, i < 16 → yes0 i = nI (ye0 i) := by decide +kernel
theorem yesY0_v : ∀ i, i < 16 → yesY0 i = nI (ye0 i) := by decide +kernel
theorem J30_g (f : Nat → Int64) (y : Nat → Int32) : gJ (sXf f y) 30 = f := by
  show (if 30 = 30 then f else (fun _ => 0)) = f
  exact if_pos rfl
theorem J30_0 : gJ sX0 30 = sets0 := J30_g sets0 yes0
theorem rel_start : Rel sX0 sY0 := by
  refine ⟨0, fun _ => 0, fun _ => 0, fun _ => 0, ye0, fun _ _ => false, 0, 0, fun _ => 0, fun _ => 0, fun _ => 0, fun _ => 0, 0, fun _ => [], ⟨by omega, by omega, fun i hi => absurd hi (Nat.not_lt_zero i), fun i _ => ?_, fun _ _ => rfl⟩, ⟨rfl, rfl, fun i hi => absurd hi (Nat.not_lt_zero i), fun i hi => yes0_v i hi, fun i j _ _ => ?_⟩, ⟨rfl, rfl, fun i hi => absurd hi (Nat.not_lt_zero i), fun i hi => yesY0_v i hi, fun _ _ _ _ => rfl⟩, ⟨0, fun _ => 0, by omega, rfl, rfl, fun i hi => absurd hi (Nat.not_lt_zero i)⟩, ⟨0, 0, fun _ => 0, by omega, by omega, rfl, rfl, rfl, rfl, fun i hi => absurd hi (Nat.not_lt_zero i)⟩, Or.inl ⟨rfl, rfl⟩, ⟨J30_0, gG_sX0, ?_, ?_, Or.inl ⟨rfl, rfl⟩⟩, fun i hi => absurd hi (Nat.not_lt_zero i), ⟨?_, by omega, rfl, rfl, fun i hi => absurd hi (Nat.not_lt_zero i)⟩, ⟨Nat.le_refl 0, rfl, rfl, rfl, fun r h1 h2 => absurd h2 (by omega), fun _ => ⟨rfl, fun j hj => absurd hj (Nat.not_lt_zero j)⟩⟩⟩
  · unfold ye0
    split <;> omega
  · show (0 : Int64).toBitVec.getLsbD j = false
    rw [show (0 : Int64).toBitVec = 0#64 from rfl, BitVec.getLsbD_zero]
  · show ¬ (0 : Nat) = 1
    omega
  · show ¬ (0 : Nat) = 1
    omega
  · show ¬ (0 : Nat) = 1
    omega
theorem sim_all : SIM Rel := ⟨fun _ _ _ => trivial, S_citizen, S_there, S_kin, S_says, S_turn, S_feed, S_end, S_procedure, S_lot, S_step, S_protest, S_body, S_ballot, S_elected, S_chances, S_ways, S_about, S_count⟩
