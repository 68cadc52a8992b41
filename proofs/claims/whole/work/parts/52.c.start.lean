/-! the two sides at the start -/
theorem s_start (kb sk : Nat → Nat → Nat → Nat) : Sim (S0 kb sk) T0 := by
  have hw : iS (fun i => if i = 2 then 1 else 0) := by
    refine ⟨?_, ?_, ?_, ?_, ?_, ?_⟩ <;> decide
  have hD := dI_E hw
  have hu : ∀ i, i < 5 → upd (fun _ => (0 : Int32)) 2 1 i = Int32.ofNat (if i = 2 then 1 else 0) := by
    intro i hi
    rcases lt5 hi with rfl | rfl | rfl | rfl | rfl <;> rfl
  have hc : cBk (aE (fun i => if i = 2 then 1 else 0)) (0, 0, 0, upd (fun _ => 0) 2 1, (fun _ => 0), dU, dP, dW) := cB_E hu (fun _ _ => rfl) rfl rfl rfl
  have hm : mB (aE (fun i => if i = 2 then 1 else 0)) (upd (fun _ => 0) 2 1) := mB_E hu (fun i h1 _ => upd_ne _ _ _ _ (by omega))
  refine ⟨aE (fun i => if i = 2 then 1 else 0), 0, fun _ => 0, 0, fun _ => aE (fun _ => 0), fun _ => aE (fun _ => 0), fun _ => 0, hc, hm, fun i hi => absurd hi (Nat.not_lt_zero i), hD.1, ⟨Nat.zero_le _, rfl, rfl, rfl, fun i hi => absurd hi (Nat.not_lt_zero i)⟩, rfl, ⟨Nat.zero_le _, rfl, fun j hj => absurd hj (Nat.not_lt_zero j)⟩, rfl, fun j hj => ⟨Nat.zero_le _, rfl, rfl, fun e => absurd (show (0 : Nat) = 1 from e) (by decide)⟩⟩
