/-! store, bring -/
theorem aRef_0 {A : aB} {u : Nat} {ps : List (List Nat)} (h : aRef A u ps = 0) : A.2.2.1.1 < 16 ∧ A.2.1.1 + (frs A.2.1.1 A.2.1.2.1 [] ps).length ≤ 24 ∧ prS A.2.2.2.1 (frs A.2.1.1 A.2.1.2.1 [] ps) + A.2.2.2.1 2 * ps.length ≤ A.1.2.2 u := by
  unfold aRef at h
  split at h
  · omega
  · split at h
    · omega
    · split at h
      · refine ⟨?_, ?_, ?_⟩ <;> omega
      · omega
theorem aRef_le (A : aB) (u : Nat) (ps : List (List Nat)) : aRef A u ps ≤ 4 := by
  unfold aRef
  split
  · omega
  · split
    · omega
    · split <;> omega
theorem Inv_buy {A : aB} (h : Inv A) {u : Nat} (hu : u < A.1.1) (hn : A.2.1.1 < 24) {s : List Nat} (hw : wf s) (h1' : 1 ≤ s.length) (hl : s.length ≤ 6) (hco : A.2.2.2.1 0 + A.2.2.2.1 1 * s.length ≤ A.1.2.2 u) : Inv (aBuy A u s) := by
  obtain ⟨h1, h2, h3, h4, h5, h6⟩ := id h
  refine ⟨h1, ⟨?_, ?_⟩, ⟨h3.1, ?_⟩, ?_, h5, ?_⟩
  · show A.2.1.1 + 1 ≤ 24
    omega
  · intro q hq
    have hq' : q < A.2.1.1 + 1 := hq
    show wf (up A.2.1.2.1 A.2.1.1 s q) ∧ 1 ≤ (up A.2.1.2.1 A.2.1.1 s q).length ∧ (up A.2.1.2.1 A.2.1.1 s q).length ≤ 6 ∧ up A.2.1.2.2.1 A.2.1.1 (A.2.2.2.1 0 + A.2.2.2.1 1 * s.length) q ≤ 1000 ∧ (up A.2.1.2.2.2.1 A.2.1.1 (Int32.ofNat u) q = M1 ∨ ∃ v, v < A.1.1 ∧ up A.2.1.2.2.2.1 A.2.1.1 (Int32.ofNat u) q = Int32.ofNat v)
    by_cases c : q = A.2.1.1
    · rw [c, up_eq, up_eq, up_eq]
      have : A.2.2.2.1 1 * s.length ≤ 9 * 6 := Nat.mul_le_mul h5.2.1 hl
      have := h5.1
      exact ⟨hw, h1', hl, by omega, Or.inr ⟨u, hu, rfl⟩⟩
    · rw [up_ne _ _ _ _ c, up_ne _ _ _ _ c, up_ne _ _ _ _ c]
      exact h2.2 q (by omega)
  · intro j hj
    obtain ⟨a1, a2, a3, a4, a5⟩ := h3.2 j hj
    refine ⟨a1, fun q hq => Nat.lt_succ_of_lt (a2 q hq), ?_, a4, a5⟩
    rw [show (aBuy A u s).2.2.1.2.1 j = A.2.2.1.2.1 j from rfl, a3]
    refine jn_congr (fun q hq => ?_)
    have := a2 q hq
    exact (up_ne A.2.1.2.1 A.2.1.1 s q (by omega)).symm
  · intro q hq
    have hq' : q < A.2.1.1 + 1 := hq
    show up A.2.1.2.2.2.2.1 A.2.1.1 0 q = sm (fun j => (A.2.2.1.2.2.2 j).count q) A.2.2.1.1
    by_cases c : q = A.2.1.1
    · rw [c, up_eq]
      have : sm (fun j => (A.2.2.1.2.2.2 j).count A.2.1.1) A.2.2.1.1 = sm (fun _ => 0) A.2.2.1.1 := sm_congr (fun j hj => List.count_eq_zero.mpr (fun hm => by have := (h3.2 j hj).2.1 _ hm; omega))
      rw [this]
      have z : ∀ n, sm (fun _ => 0) n = 0 := by
        intro n
        induction n with
        | zero => rfl
        | succ n ih => rw [sm_succ, ih]
      rw [z]
    · rw [up_ne _ _ _ _ c]
      exact h4 q (by omega)
  · unfold iT at h6 ⊢
    have s1 := sm_up A.1.2.2 u (A.1.2.2 u - (A.2.2.2.1 0 + A.2.2.2.1 1 * s.length)) A.1.1 hu
    have s2 : sm (up A.2.1.2.2.1 A.2.1.1 (A.2.2.2.1 0 + A.2.2.2.1 1 * s.length)) (A.2.1.1 + 1) = sm A.2.1.2.2.1 A.2.1.1 + (A.2.2.2.1 0 + A.2.2.2.1 1 * s.length) := by
      rw [sm_succ, up_eq, sm_up_ge _ _ _ _ (Nat.le_refl _)]
    show sm (up A.1.2.2 u (A.1.2.2 u - (A.2.2.2.1 0 + A.2.2.2.1 1 * s.length))) A.1.1 + sm (up A.2.1.2.2.1 A.2.1.1 (A.2.2.2.1 0 + A.2.2.2.1 1 * s.length)) (A.2.1.1 + 1) + A.2.2.2.1 2 * sm (fun i => (A.2.2.1.2.2.2 i).length) A.2.2.1.1 ≤ 40000
    omega
theorem z_L64 : L64 [] = 0 := by decide
theorem z_len : fX4_lengthOf 0 = some 0 := by
  have := c_lengthOf wf_nil (show ([] : List Nat).length ≤ 12 by simp)
  rw [z_L64, List.length_nil] at this
  rw [this]
  rfl
