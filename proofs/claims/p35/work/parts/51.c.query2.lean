/-! user, piece, word -/
theorem sm_mul (c : Nat) (f : Nat → Nat) : ∀ n, sm (fun i => c * f i) n = c * sm f n
  | 0 => rfl
  | n + 1 => by rw [sm_succ, sm_succ, sm_mul c f n, Nat.mul_add]
theorem ne_of_out {x : Int32} {n : Nat} (hn : n ≤ 1000) (h2 : x < 0 ∨ ∃ j, n ≤ j ∧ j < 2147483648 ∧ x = Int32.ofNat j) : ∀ i, i < n → x ≠ Int32.ofNat i := by
  intro i hi e
  subst e
  rcases h2 with h | ⟨j, h1, h2, h3⟩
  · rw [i_0, J_lt _ _ (by omega) (by omega)] at h
    omega
  · have := J_inj (by omega) h2 h3
    omega
