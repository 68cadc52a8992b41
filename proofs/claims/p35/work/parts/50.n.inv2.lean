/-! the changes keep what is true of a book -/
theorem jn_congr {f g : Nat → List Nat} : ∀ {idx : List Nat}, (∀ q ∈ idx, f q = g q) → jn f idx = jn g idx
  | [], _ => rfl
  | q :: idx, h => by
    have ih := jn_congr (idx := idx) (fun x hx => h x (List.mem_cons_of_mem _ hx))
    simp only [jn, List.map_cons, List.flatten_cons] at ih ⊢
    rw [ih, h q (by simp)]
theorem jn_fnd {n : Nat} {pl : Nat → List Nat} : ∀ {ps : List (List Nat)}, (∀ s ∈ ps, fnd n pl s < n) → jn pl (ps.map (fnd n pl)) = ps.flatten
  | [], _ => rfl
  | s :: ps, h => by
    have ih := jn_fnd (n := n) (pl := pl) (ps := ps) (fun x hx => h x (List.mem_cons_of_mem _ hx))
    simp only [jn, List.map_cons, List.flatten_cons] at ih ⊢
    rw [ih, fnd_hit (h s (by simp))]
theorem kS_ok {A : aB} (h : Inv A) {i : Nat} (hi : i < A.2.2.1.1) : (kS A (A.2.2.1.2.1 i)).flatten = A.2.2.1.2.1 i ∧ (kS A (A.2.2.1.2.1 i)).length ≤ (A.2.2.1.2.2.2 i).length ∧ (∀ s ∈ kS A (A.2.2.1.2.1 i), wf s ∧ s.length ≤ 12) ∧ (∀ s ∈ kS A (A.2.2.1.2.1 i), fnd A.2.1.1 A.2.1.2.1 s < A.2.1.1) ∧ (TB (sC A.2.1.1 A.2.1.2.1 A.2.2.2.1 false (A.2.2.1.2.1 i)) (A.2.2.2.1 2) (A.2.2.1.2.1 i).length 0).1 < 1000000 := by
  obtain ⟨h1, h2, h3, h4, h5, h6⟩ := id h
  obtain ⟨a1, a2, a3, a4, a5⟩ := h3.2 i hi
  have hw := iW_wf h hi
  have hsc : ∀ j m, fnd A.2.1.1 A.2.1.2.1 (((A.2.2.1.2.1 i).drop j).take m) < A.2.1.1 → sC A.2.1.1 A.2.1.2.1 A.2.2.2.1 false (A.2.2.1.2.1 i) j m = 0 := by
    intro j m hh
    unfold sC
    rw [if_pos hh]
  obtain ⟨t1, t2⟩ := TB_known (st := A.2.2.2.1) (l := A.2.2.1.2.1 i) h5.2.2.2.1 a5 hsc ((A.2.2.1.2.2.2 i).map A.2.1.2.1) 0 (Nat.zero_le _) (by rw [List.drop_zero]; exact a3) (fun q hq => by
    obtain ⟨x, hx, e⟩ := List.mem_map.mp hq
    have hxn := a2 x hx
    obtain ⟨b1, b2, b3, _⟩ := h2.2 x hxn
    rw [← e]
    exact ⟨b2, b3, fnd_lt hxn rfl⟩)
  rw [List.length_map] at t1
  have hlen := iW_len h hi
  have hb : A.2.2.2.1 2 * (A.2.2.1.2.2.2 i).length ≤ 9 * 12 := Nat.mul_le_mul h5.2.2.2.1 hlen
  have hf : (TB (sC A.2.1.1 A.2.1.2.1 A.2.2.2.1 false (A.2.2.1.2.1 i)) (A.2.2.2.1 2) (A.2.2.1.2.1 i).length 0).1 < 1000000 := by omega
  obtain ⟨o1, o2, o3⟩ := CL_ok a5 hf
  refine ⟨o1, ?_, fun s hs => ?_, fun s hs => ?_, hf⟩
  · have hz := TB_zero (L := (A.2.2.1.2.1 i).length) (dep := A.2.2.2.1 2) (sc := sC A.2.1.1 A.2.1.2.1 A.2.2.2.1 false (A.2.2.1.2.1 i)) (fun j m => by
      unfold sC
      split
      · exact Or.inl rfl
      · rw [if_neg (by decide)]; exact Or.inr rfl) (A.2.2.1.2.1 i).length 0 (by omega) hf
    rw [hz] at t1
    have := Nat.le_of_mul_le_mul_left t1 (by have := h5.2.2.1; omega)
    rw [kS, o2]
    exact this
  · obtain ⟨s1, s2, j, m, s3, _⟩ := o3 s hs
    exact ⟨mem_wf hw s3, by omega⟩
  · obtain ⟨s1, s2, j, m, s3, s4, s5, s6, s7⟩ := o3 s hs
    unfold sC at s7
    rw [← s3] at s7
    by_cases c : fnd A.2.1.1 A.2.1.2.1 s < A.2.1.1
    · exact c
    · rw [if_neg c, if_neg (by decide)] at s7
      exact absurd s7 (by decide)
theorem kI_lt {A : aB} (h : Inv A) {i : Nat} (hi : i < A.2.2.1.1) : ∀ q ∈ kI A (A.2.2.1.2.1 i), q < A.2.1.1 := by
  intro q hq
  obtain ⟨s, hs, e⟩ := List.mem_map.mp hq
  rw [← e]
  exact (kS_ok h hi).2.2.2.1 s hs
theorem Inv_cut {A : aB} (h : Inv A) {i : Nat} (hi : i < A.2.2.1.1) : Inv (aCut A i (kI A (A.2.2.1.2.1 i))) := by
  obtain ⟨h1, h2, h3, h4, h5, h6⟩ := id h
  obtain ⟨k1, k2, k3, k4, _⟩ := kS_ok h hi
  have kl := kI_lt h hi
  have hkl : (kI A (A.2.2.1.2.1 i)).length = (kS A (A.2.2.1.2.1 i)).length := by rw [kI, List.length_map]
  have hu := pUses_n (kI A (A.2.2.1.2.1 i)) A.2.1
  have ho := pUses_o (kI A (A.2.2.1.2.1 i)) A.2.1
  obtain ⟨e1, e2, e3, e4, e5⟩ := pEnds_n A.2.2.2.2.2.1 (A.2.2.1.2.2.2 i) (pUses A.2.1 (kI A (A.2.2.1.2.1 i)))
  rw [hu.1] at e1
  rw [hu.2] at e2
  rw [ho.1] at e3
  rw [ho.2.1] at e4
  refine ⟨⟨h1.1, h1.2⟩, ⟨?_, ?_⟩, ⟨h3.1, ?_⟩, ?_, h5, ?_⟩
  · simp only [aCut, e1]; exact h2.1
  · simp only [aCut, e1, e2, e3, e4]; exact h2.2
  · intro j hj
    obtain ⟨a1, a2, a3, a4, a5⟩ := h3.2 j hj
    simp only [aCut, e1, e2]
    by_cases c : j = i
    · subst c
      rw [up_eq]
      refine ⟨a1, kl, ?_, a4, a5⟩
      rw [kI, jn_fnd k4, k1]
    · rw [up_ne _ _ _ _ c]
      exact ⟨a1, a2, a3, a4, a5⟩
  · intro q hq
    simp only [aCut, e1] at hq ⊢
    rw [e5, pUses_u, h4 q hq]
    have ef : (fun j => (up A.2.2.1.2.2.2 i (kI A (A.2.2.1.2.1 i)) j).count q) = up (fun j => (A.2.2.1.2.2.2 j).count q) i ((kI A (A.2.2.1.2.1 i)).count q) := by
      funext j
      simp only [up]
      split <;> rfl
    rw [ef]
    have := sm_up (fun j => (A.2.2.1.2.2.2 j).count q) i ((kI A (A.2.2.1.2.1 i)).count q) A.2.2.1.1 hi
    omega
  · unfold iT at h6 ⊢
    simp only [aCut, e1, e3]
    obtain ⟨a1, a2, a3, a4, a5⟩ := h3.2 i hi
    have s1 := sm_up A.1.2.2 (A.2.2.1.2.2.1 i) (A.1.2.2 (A.2.2.1.2.2.1 i) + A.2.2.2.1 2 * ((A.2.2.1.2.2.2 i).length - (kI A (A.2.2.1.2.1 i)).length)) A.1.1 a1
    have ef : (fun j => (up A.2.2.1.2.2.2 i (kI A (A.2.2.1.2.1 i)) j).length) = up (fun j => (A.2.2.1.2.2.2 j).length) i (kI A (A.2.2.1.2.1 i)).length := by
      funext j
      simp only [up]
      split <;> rfl
    rw [ef]
    have s2 := sm_up (fun j => (A.2.2.1.2.2.2 j).length) i (kI A (A.2.2.1.2.1 i)).length A.2.2.1.1 hi
    have s3 : sm (up (fun j => (A.2.2.1.2.2.2 j).length) i (kI A (A.2.2.1.2.1 i)).length) A.2.2.1.1 + ((A.2.2.1.2.2.2 i).length - (kI A (A.2.2.1.2.1 i)).length) = sm (fun j => (A.2.2.1.2.2.2 j).length) A.2.2.1.1 := by omega
    have s4 := congrArg (fun x => A.2.2.2.1 2 * x) s3
    simp only [Nat.mul_add] at s4
    omega
theorem Inv_end {A : aB} (h : Inv A) {i : Nat} (hi : i < A.2.2.1.1) : Inv (aEnd A i) := by
  obtain ⟨h1, h2, h3, h4, h5, h6⟩ := id h
  obtain ⟨e1, e2, e3, e4, e5⟩ := pEnds_n A.2.2.2.2.2.1 (A.2.2.1.2.2.2 i) A.2.1
  obtain ⟨w1, w2, w3, w4, w5⟩ := h3.2 i hi
  refine ⟨⟨h1.1, h1.2⟩, ⟨?_, ?_⟩, ⟨?_, ?_⟩, ?_, h5, ?_⟩
  · simp only [aEnd, e1]; exact h2.1
  · simp only [aEnd, e1, e2, e3, e4]; exact h2.2
  · simp only [aEnd, wDrop]; have := h3.1; omega
  · intro j hj
    simp only [aEnd, wDrop, e1, e2] at hj ⊢
    by_cases c : j < i
    · simp only [sh_lo _ _ _ c]; exact h3.2 j (by omega)
    · simp only [sh_hi _ _ _ (show i ≤ j by omega)]; exact h3.2 (j + 1) (by omega)
  · intro q hq
    simp only [aEnd, wDrop, e1] at hq ⊢
    rw [e5, h4 q hq]
    have ef : (fun j => (sh A.2.2.1.2.2.2 i j).count q) = sh (fun j => (A.2.2.1.2.2.2 j).count q) i := by
      funext j
      simp only [sh]
      split <;> rfl
    rw [ef]
    have := sm_sh (fun j => (A.2.2.1.2.2.2 j).count q) i (A.2.2.1.1 - 1) (by omega)
    rw [show A.2.2.1.1 - 1 + 1 = A.2.2.1.1 by omega] at this
    omega
  · unfold iT at h6 ⊢
    simp only [aEnd, wDrop, e1, e3]
    have s1 := sm_up A.1.2.2 (A.2.2.1.2.2.1 i) (A.1.2.2 (A.2.2.1.2.2.1 i) + A.2.2.2.1 2 * (A.2.2.1.2.2.2 i).length) A.1.1 w1
    have ef : (fun j => (sh A.2.2.1.2.2.2 i j).length) = sh (fun j => (A.2.2.1.2.2.2 j).length) i := by
      funext j
      simp only [sh]
      split <;> rfl
    rw [ef]
    have s2 := sm_sh (fun j => (A.2.2.1.2.2.2 j).length) i (A.2.2.1.1 - 1) (by omega)
    rw [show A.2.2.1.1 - 1 + 1 = A.2.2.1.1 by omega] at s2
    have s4 := congrArg (fun x => A.2.2.2.1 2 * x) s2
    simp only [Nat.mul_add] at s4
    omega
/-! storing -/
theorem pBuys_keep (st : Nat → Nat) (u t : Int32) : ∀ (fr : List (List Nat)) (p : aPs) (q : Nat), q < p.1 → (pBuys st u t p fr).2.2.1 q = p.2.2.1 q ∧ (pBuys st u t p fr).2.2.2.1 q = p.2.2.2.1 q ∧ (pBuys st u t p fr).2.2.2.2.1 q = p.2.2.2.2.1 q ∧ (pBuys st u t p fr).2.2.2.2.2 q = p.2.2.2.2.2 q
  | [], p, q, _ => ⟨rfl, rfl, rfl, rfl⟩
  | s :: fr, p, q, h => by
    have e : pBuys st u t p (s :: fr) = pBuys st u t (pBuy st u t p s) fr := rfl
    have := pBuys_keep st u t fr (pBuy st u t p s) q (by simp only [pBuy, pAdd]; omega)
    rw [e, this.1, this.2.1, this.2.2.1, this.2.2.2]
    simp only [pBuy, pAdd, up_ne _ _ _ _ (show q ≠ p.1 by omega), and_self]
theorem pBuys_new (st : Nat → Nat) (u t : Int32) : ∀ (fr : List (List Nat)) (p : aPs) (q : Nat), p.1 ≤ q → q < p.1 + fr.length → (pBuys st u t p fr).2.1 q ∈ fr ∧ (pBuys st u t p fr).2.2.1 q = st 0 + st 1 * ((pBuys st u t p fr).2.1 q).length ∧ (pBuys st u t p fr).2.2.2.1 q = u ∧ (pBuys st u t p fr).2.2.2.2.1 q = 0
  | [], p, q, h1, h2 => by simp at h2; omega
  | s :: fr, p, q, h1, h2 => by
    have e : pBuys st u t p (s :: fr) = pBuys st u t (pBuy st u t p s) fr := rfl
    have n1 : (pBuy st u t p s).1 = p.1 + 1 := rfl
    rw [List.length_cons] at h2
    by_cases c : q = p.1
    · have k := pBuys_keep st u t fr (pBuy st u t p s) q (by rw [n1]; omega)
      have kl := pBuys_lo st u t fr (pBuy st u t p s) q (by rw [n1]; omega)
      rw [e, k.1, k.2.1, k.2.2.1, kl, c]
      simp only [pBuy, pAdd, up_eq]
      exact ⟨by simp, trivial, trivial, trivial⟩
    · have := pBuys_new st u t fr (pBuy st u t p s) q (by rw [n1]; omega) (by rw [n1]; omega)
      rw [e]
      exact ⟨List.mem_cons_of_mem _ this.1, this.2⟩
theorem pBuys_paid (st : Nat → Nat) (u t : Int32) : ∀ (fr : List (List Nat)) (p : aPs), sm (pBuys st u t p fr).2.2.1 (pBuys st u t p fr).1 = sm p.2.2.1 p.1 + prS st fr
  | [], p => rfl
  | s :: fr, p => by
    have e : pBuys st u t p (s :: fr) = pBuys st u t (pBuy st u t p s) fr := rfl
    rw [e, pBuys_paid st u t fr, prS]
    simp only [pBuy, pAdd]
    rw [sm_succ, sm_up_ge _ _ _ _ (Nat.le_refl _), up_eq]
    omega
theorem Inv_store {A : aB} (h : Inv A) {u : Nat} (hu : u < A.1.1) (hw : A.2.2.1.1 < 16) {row : List Nat} {ps : List (List Nat)} (hps : ps.length ≤ 12) (hfl : ps.flatten = row) (hr0 : row ≠ []) (hr12 : row.length ≤ 12) (hp : ∀ s ∈ ps, wf s ∧ 1 ≤ s.length ∧ s.length ≤ 6) (hroom : A.2.1.1 + (frs A.2.1.1 A.2.1.2.1 [] ps).length ≤ 24) (hcoin : prS A.2.2.2.1 (frs A.2.1.1 A.2.1.2.1 [] ps) + A.2.2.2.1 2 * ps.length ≤ A.1.2.2 u) : Inv (aStore A u row ps) := by
  obtain ⟨h1, h2, h3, h4, h5, h6⟩ := id h
  have hfr : ∀ s ∈ frs A.2.1.1 A.2.1.2.1 [] ps, s ∈ ps := by
    intro s hs
    rcases frs_sub _ _ _ _ _ hs with h | h
    · cases h
    · exact h.1
  have hn := pBuys_n A.2.2.2.1 (Int32.ofNat u) A.2.2.2.2.2.1 (frs A.2.1.1 A.2.1.2.1 [] ps) A.2.1
  have hlo := pBuys_lo A.2.2.2.1 (Int32.ofNat u) A.2.2.2.2.2.1 (frs A.2.1.1 A.2.1.2.1 [] ps) A.2.1
  have hkeep := pBuys_keep A.2.2.2.1 (Int32.ofNat u) A.2.2.2.2.2.1 (frs A.2.1.1 A.2.1.2.1 [] ps) A.2.1
  have hnew := pBuys_new A.2.2.2.1 (Int32.ofNat u) A.2.2.2.2.2.1 (frs A.2.1.1 A.2.1.2.1 [] ps) A.2.1
  have hpaid := pBuys_paid A.2.2.2.1 (Int32.ofNat u) A.2.2.2.2.2.1 (frs A.2.1.1 A.2.1.2.1 [] ps) A.2.1
  have hil := stI_lt A.2.2.2.1 (Int32.ofNat u) A.2.2.2.2.2.1 A.2.1 ps
  have hbn : (stB A.2.2.2.1 (Int32.ofNat u) A.2.2.2.2.2.1 A.2.1 ps).1 = A.2.1.1 + (frs A.2.1.1 A.2.1.2.1 [] ps).length := hn
  have hun := pUses_n (stI A.2.2.2.1 (Int32.ofNat u) A.2.2.2.2.2.1 A.2.1 ps) (stB A.2.2.2.1 (Int32.ofNat u) A.2.2.2.2.2.1 A.2.1 ps)
  have huo := pUses_o (stI A.2.2.2.1 (Int32.ofNat u) A.2.2.2.2.2.1 A.2.1 ps) (stB A.2.2.2.1 (Int32.ofNat u) A.2.2.2.2.2.1 A.2.1 ps)
  have hknow : ∀ s ∈ ps, fnd (stB A.2.2.2.1 (Int32.ofNat u) A.2.2.2.2.2.1 A.2.1 ps).1 (stB A.2.2.2.1 (Int32.ofNat u) A.2.2.2.2.2.1 A.2.1 ps).2.1 s < (stB A.2.2.2.1 (Int32.ofNat u) A.2.2.2.2.2.1 A.2.1 ps).1 := by
    intro s hs
    refine (kn_buys _ _ _).mpr ?_
    by_cases c : fnd A.2.1.1 A.2.1.2.1 s < A.2.1.1
    · exact Or.inl c
    · exact Or.inr (frs_mem _ _ _ _ _ hs c)
  have hli : (stI A.2.2.2.1 (Int32.ofNat u) A.2.2.2.2.2.1 A.2.1 ps).length = ps.length := by rw [stI, List.length_map]
  refine ⟨⟨h1.1, h1.2⟩, ⟨?_, ?_⟩, ⟨?_, ?_⟩, ?_, h5, ?_⟩
  · simp only [aStore, hun.1, hbn]; exact hroom
  · intro q hq
    simp only [aStore, hun.1, hun.2, huo.1, huo.2.1] at hq ⊢
    by_cases c : q < A.2.1.1
    · have k := hkeep q c
      have e1 : (stB A.2.2.2.1 (Int32.ofNat u) A.2.2.2.2.2.1 A.2.1 ps).2.1 q = A.2.1.2.1 q := hlo q c
      have e2 : (stB A.2.2.2.1 (Int32.ofNat u) A.2.2.2.2.2.1 A.2.1 ps).2.2.1 q = A.2.1.2.2.1 q := k.1
      have e3 : (stB A.2.2.2.1 (Int32.ofNat u) A.2.2.2.2.2.1 A.2.1 ps).2.2.2.1 q = A.2.1.2.2.2.1 q := k.2.1
      rw [e1, e2, e3]
      exact h2.2 q c
    · rw [hbn] at hq
      obtain ⟨m1, m2, m3, m4⟩ := hnew q (by omega) hq
      obtain ⟨x1, x2, x3⟩ := hp _ (hfr _ m1)
      have e2 : (stB A.2.2.2.1 (Int32.ofNat u) A.2.2.2.2.2.1 A.2.1 ps).2.2.1 q = _ := m2
      have e3 : (stB A.2.2.2.1 (Int32.ofNat u) A.2.2.2.2.2.1 A.2.1 ps).2.2.2.1 q = Int32.ofNat u := m3
      rw [e2, e3]
      refine ⟨x1, x2, x3, ?_, Or.inr ⟨u, hu, rfl⟩⟩
      have : A.2.2.2.1 1 * ((pBuys A.2.2.2.1 (Int32.ofNat u) A.2.2.2.2.2.1 A.2.1 (frs A.2.1.1 A.2.1.2.1 [] ps)).2.1 q).length ≤ 9 * 6 := Nat.mul_le_mul h5.2.1 x3
      have := h5.1
      omega
  · simp only [aStore]; omega
  · intro j hj
    simp only [aStore, hun.1, hun.2] at hj ⊢
    by_cases c : j = A.2.2.1.1
    · rw [c, up_eq, up_eq, up_eq]
      refine ⟨hu, hil, ?_, hr0, hr12⟩
      rw [stI, jn_fnd hknow, hfl]
    · rw [up_ne _ _ _ _ c, up_ne _ _ _ _ c, up_ne _ _ _ _ c]
      obtain ⟨a1, a2, a3, a4, a5⟩ := h3.2 j (by omega)
      refine ⟨a1, fun q hq => by rw [hbn]; have := a2 q hq; omega, ?_, a4, a5⟩
      rw [a3]
      exact jn_congr (fun q hq => (hlo q (a2 q hq)).symm)
  · intro q hq
    simp only [aStore, hun.1] at hq ⊢
    rw [pUses_u, sm_succ, up_eq]
    have ef : sm (fun j => (up A.2.2.1.2.2.2 A.2.2.1.1 (stI A.2.2.2.1 (Int32.ofNat u) A.2.2.2.2.2.1 A.2.1 ps) j).count q) A.2.2.1.1 = sm (fun j => (A.2.2.1.2.2.2 j).count q) A.2.2.1.1 := sm_congr (fun j hj => by rw [up_ne _ _ _ _ (by omega)])
    rw [ef]
    congr 1
    by_cases c : q < A.2.1.1
    · rw [← h4 q c]
      exact (hkeep q c).2.2.1
    · rw [hbn] at hq
      have m4 : (stB A.2.2.2.1 (Int32.ofNat u) A.2.2.2.2.2.1 A.2.1 ps).2.2.2.2.1 q = 0 := (hnew q (by omega) hq).2.2.2
      rw [m4]
      have : sm (fun j => (A.2.2.1.2.2.2 j).count q) A.2.2.1.1 = sm (fun _ => 0) A.2.2.1.1 := sm_congr (fun j hj => List.count_eq_zero.mpr (fun hm => c ((h3.2 j hj).2.1 q hm)))
      rw [this]
      have z : ∀ n, sm (fun _ => 0) n = 0 := by
        intro n
        induction n with
        | zero => rfl
        | succ n ih => rw [sm_succ, ih]
      rw [z]
  · unfold iT at h6 ⊢
    simp only [aStore, hun.1, huo.1]
    have s1 := sm_up A.1.2.2 u (A.1.2.2 u - prS A.2.2.2.1 (frs A.2.1.1 A.2.1.2.1 [] ps) - A.2.2.2.1 2 * ps.length) A.1.1 hu
    have s2 : sm (stB A.2.2.2.1 (Int32.ofNat u) A.2.2.2.2.2.1 A.2.1 ps).2.2.1 (stB A.2.2.2.1 (Int32.ofNat u) A.2.2.2.2.2.1 A.2.1 ps).1 = sm A.2.1.2.2.1 A.2.1.1 + prS A.2.2.2.1 (frs A.2.1.1 A.2.1.2.1 [] ps) := hpaid
    have s3 : sm (fun j => (up A.2.2.1.2.2.2 A.2.2.1.1 (stI A.2.2.2.1 (Int32.ofNat u) A.2.2.2.2.2.1 A.2.1 ps) j).length) (A.2.2.1.1 + 1) = sm (fun j => (A.2.2.1.2.2.2 j).length) A.2.2.1.1 + ps.length := by
      rw [sm_succ, up_eq, hli]
      congr 1
      exact sm_congr (fun j hj => by rw [up_ne _ _ _ _ (by omega)])
    rw [s2, s3, Nat.mul_add]
    omega
