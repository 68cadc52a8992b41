/-! lines of a text: users, pieces -/
def tot (A : aB) : Nat := sm A.1.2.2 A.1.1 + sm A.2.1.2.2.1 A.2.1.1 + A.2.2.2.1 2 * sm (fun i => (A.2.2.1.2.2.2 i).length) A.2.2.1.1
def dI (A : aB) : Prop := Inv A ∧ tot A ≤ 9999 * A.1.1 ∧ A.2.2.2.2.2.1 = 0
def aUser (A : aB) (l : List Nat) (co : Nat) : aB := ((A.1.1 + 1, up A.1.2.1 A.1.1 l, up A.1.2.2 A.1.1 co), A.2)
theorem dI_user {A : aB} (h : dI A) {l : List Nat} {co : Nat} (h4 : A.1.1 < 4) (hw : wf l) (hl : l.length ≤ 12) (hco : co ≤ 9999) : dI (aUser A l co) := by
  obtain ⟨⟨h1, h2, h3, h4', h5, h6⟩, ht, h0⟩ := h
  have s1 : sm (up A.1.2.2 A.1.1 co) (A.1.1 + 1) = sm A.1.2.2 A.1.1 + co := by
    rw [sm_succ, up_eq, sm_up_ge _ _ _ _ (Nat.le_refl _)]
  have ht2 : tot (aUser A l co) = tot A + co := by
    show sm (up A.1.2.2 A.1.1 co) (A.1.1 + 1) + sm A.2.1.2.2.1 A.2.1.1 + A.2.2.2.1 2 * sm (fun i => (A.2.2.1.2.2.2 i).length) A.2.2.1.1 = _
    rw [s1]
    unfold tot
    omega
  have hn : (aUser A l co).1.1 = A.1.1 + 1 := rfl
  refine ⟨⟨⟨by rw [hn]; omega, fun i hi => ?_⟩, ⟨h2.1, fun q hq => ?_⟩, ⟨h3.1, fun i hi => ?_⟩, h4', h5, ?_⟩, by rw [ht2, hn]; omega, h0⟩
  · show wf (up A.1.2.1 A.1.1 l i) ∧ (up A.1.2.1 A.1.1 l i).length ≤ 12
    by_cases c : i = A.1.1
    · rw [c, up_eq]
      exact ⟨hw, hl⟩
    · rw [up_ne _ _ _ _ c]
      exact h1.2 i (by rw [hn] at hi; omega)
  · obtain ⟨a1, a2, a3, a4, a5⟩ := h2.2 q hq
    refine ⟨a1, a2, a3, a4, a5.imp id ?_⟩
    rintro ⟨u, hu, e⟩
    exact ⟨u, by rw [hn]; omega, e⟩
  · obtain ⟨a1, a2⟩ := h3.2 i hi
    exact ⟨Nat.lt_succ_of_lt a1, a2⟩
  · show tot (aUser A l co) ≤ 40000
    rw [ht2]
    omega
def aPiece (A : aB) (l : List Nat) : aB := (A.1, pAdd A.2.1 l 0 M1 0, A.2.2)
theorem dI_piece {A : aB} (h : dI A) {l : List Nat} (hn : A.2.1.1 < 24) (hw : wf l) (h1' : 1 ≤ l.length) (hl : l.length ≤ 6) : dI (aPiece A l) := by
  obtain ⟨⟨h1, h2, h3, h4, h5, h6⟩, ht, h0⟩ := h
  have s2 : sm (up A.2.1.2.2.1 A.2.1.1 0) (A.2.1.1 + 1) = sm A.2.1.2.2.1 A.2.1.1 := by
    rw [sm_succ, up_eq, sm_up_ge _ _ _ _ (Nat.le_refl _), Nat.add_zero]
  have ht2 : tot (aPiece A l) = tot A := by
    show sm A.1.2.2 A.1.1 + sm (up A.2.1.2.2.1 A.2.1.1 0) (A.2.1.1 + 1) + A.2.2.2.1 2 * sm (fun i => (A.2.2.1.2.2.2 i).length) A.2.2.1.1 = _
    rw [s2]
    rfl
  refine ⟨⟨h1, ⟨?_, ?_⟩, ⟨h3.1, ?_⟩, ?_, h5, ?_⟩, by rw [ht2]; exact ht, h0⟩
  · show A.2.1.1 + 1 ≤ 24
    omega
  · intro q hq
    have hq' : q < A.2.1.1 + 1 := hq
    show wf (up A.2.1.2.1 A.2.1.1 l q) ∧ 1 ≤ (up A.2.1.2.1 A.2.1.1 l q).length ∧ (up A.2.1.2.1 A.2.1.1 l q).length ≤ 6 ∧ up A.2.1.2.2.1 A.2.1.1 0 q ≤ 1000 ∧ (up A.2.1.2.2.2.1 A.2.1.1 M1 q = M1 ∨ ∃ v, v < A.1.1 ∧ up A.2.1.2.2.2.1 A.2.1.1 M1 q = Int32.ofNat v)
    by_cases c : q = A.2.1.1
    · rw [c, up_eq, up_eq, up_eq]
      exact ⟨hw, h1', hl, by omega, Or.inl rfl⟩
    · rw [up_ne _ _ _ _ c, up_ne _ _ _ _ c, up_ne _ _ _ _ c]
      exact h2.2 q (by omega)
  · intro j hj
    obtain ⟨a1, a2, a3, a4, a5⟩ := h3.2 j hj
    refine ⟨a1, fun q hq => Nat.lt_succ_of_lt (a2 q hq), ?_, a4, a5⟩
    rw [show (aPiece A l).2.2.1.2.1 j = A.2.2.1.2.1 j from rfl, a3]
    refine jn_congr (fun q hq => ?_)
    have := a2 q hq
    exact (up_ne A.2.1.2.1 A.2.1.1 l q (by omega)).symm
  · intro q hq
    have hq' : q < A.2.1.1 + 1 := hq
    show up A.2.1.2.2.2.2.1 A.2.1.1 0 q = sm (fun j => (A.2.2.1.2.2.2 j).count q) A.2.2.1.1
    by_cases c : q = A.2.1.1
    · rw [c, up_eq]
      have : sm (fun j => (A.2.2.1.2.2.2 j).count A.2.1.1) A.2.2.1.1 = sm (fun _ => 0) A.2.2.1.1 := sm_congr (fun j hj => List.count_eq_zero.mpr (fun hm => by have := (h3.2 j hj).2.1 _ hm; omega))
      rw [this]
      have z : ∀ n, sm (fun _ => 0) n = 0 := by
        intro n
        induction n with
        | zero => rfl
        | succ n ih => rw [sm_succ, ih]
      rw [z]
    · rw [up_ne _ _ _ _ c]
      exact h4 q (by omega)
  · show tot (aPiece A l) ≤ 40000
    rw [ht2]
    exact h6
variable {bt : Nat → Nat} {N : Nat} {tc tm : Nat → Int32}
theorem nr_eq1 (n : Nat) (f : Nat → List Nat) (x : List Nat) (hn : n < 1000000) : (nr n f x = -1) = ¬ (fnd n f x < n) := nr_eq n f x hn
