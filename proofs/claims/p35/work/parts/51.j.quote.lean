/-! quote, whyNotStore -/
theorem fr_ok {A : aB} (hI : Inv A) {l : List Nat} (hw : wf l) (hl : l.length ≤ 12) : (frs A.2.1.1 A.2.1.2.1 [] (sS A l)).length ≤ 12 ∧ ∀ x ∈ frs A.2.1.1 A.2.1.2.1 [] (sS A l), wf x ∧ x.length ≤ 6 := by
  obtain ⟨s1, s2, s3⟩ := sS_ok hI hw hl
  have hfl := frs_len A.2.1.1 A.2.1.2.1 [] (sS A l)
  rw [List.length_nil] at hfl
  refine ⟨by omega, fun x hx => ?_⟩
  rcases frs_sub _ _ _ _ _ hx with h | h
  · cases h
  · have := s3 x h.1
    exact ⟨this.1, this.2.2⟩
theorem c_ref {A : aB} {b : tBk} (hc : cBk A b) (hI : Inv A) {l : List Nat} (hw : wf l) (hl : l.length ≤ 12) {u : Nat} (hu : u < A.1.1) {C : tCut} (h1 : C.1 = Int32.ofNat (sS A l).length) (h2 : C.2.2.1 = Int32.ofNat (frs A.2.1.1 A.2.1.2.1 [] (sS A l)).length) (h3 : C.2.2.2.1 = Int32.ofNat (prS A.2.2.2.1 (frs A.2.1.1 A.2.1.2.1 [] (sS A l)))) : fX1_refusal (Int32.ofNat u) b.2.2.2.1 b.2.2.2.2.2.1 b.2.2.2.2.2.2.1 b.2.2.2.2.2.2.2 C = some (Int32.ofNat (aRef A u (sS A l))) := by
  obtain ⟨s1, s2, s3⟩ := sS_ok hI hw hl
  have := co_bd hI hu
  exact c_refusal hc hu hI.1.1 hI.2.1.1 hI.2.2.1.1 hI.2.2.2.2.1.1 hI.2.2.2.2.1.2.1 hI.2.2.2.2.1.2.2.2.1 (by omega) h1 h2 h3 s2 (fun s hs => by have := (s3 s hs).2.2; omega)
theorem c_cheap {A : aB} {b : tBk} (hc : cBk A b) (hI : Inv A) {l : List Nat} (hw : wf l) (hl : l.length ≤ 12) (C : tCut) (S : tCutR) : Ok (fX2_cutCheapest (L64 l) C S b.2.2.2.1 b.2.2.2.2.2.2.1) (fun r => aR (sS A l) r.1.1 r.1.2.1 ∧ r.1.2.2.1 = Int32.ofNat (frs A.2.1.1 A.2.1.2.1 [] (sS A l)).length ∧ r.1.2.2.2.1 = Int32.ofNat (prS A.2.2.2.1 (frs A.2.1.1 A.2.1.2.1 [] (sS A l)))) :=
  ok_mono (c_cutCheapest hc.2.1 hI.2.1.1 (okP_Inv hI) hc.2.2.2.1 hI.2.2.2.2.1.1 hI.2.2.2.2.1.2.1 hI.2.2.2.2.1.2.2.2.1 hw hl C S) (fun r h => ⟨h.1.1, h.2.1, h.2.2⟩)
