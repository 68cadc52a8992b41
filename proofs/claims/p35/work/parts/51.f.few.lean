/-! fewest, saving, ways -/
theorem TB_finA {A : aB} (hI : Inv A) {i : Nat} (hi : i < A.2.2.1.1) (al : List Nat) : (TB (sSet (sC A.2.1.1 A.2.1.2.1 A.2.2.2.1 false (A.2.2.1.2.1 i)) (A.2.2.1.2.1 i) al 0) (A.2.2.2.1 2) (A.2.2.1.2.1 i).length 0).1 < 1000000 := by
  obtain ⟨h1, h2, h3, h4, h5, h6⟩ := id hI
  obtain ⟨a1, a2, a3, a4, a5⟩ := h3.2 i hi
  obtain ⟨t1, t2⟩ := TB_known (st := A.2.2.2.1) (l := A.2.2.1.2.1 i) (sc := sSet (sC A.2.1.1 A.2.1.2.1 A.2.2.2.1 false (A.2.2.1.2.1 i)) (A.2.2.1.2.1 i) al 0) h5.2.2.2.1 a5 (fun j m hh => by
    unfold sSet sC
    split
    · rfl
    · rw [if_pos hh]) ((A.2.2.1.2.2.2 i).map A.2.1.2.1) 0 (Nat.zero_le _) (by rw [List.drop_zero]; exact a3) (fun q hq => by
    obtain ⟨x, hx, e⟩ := List.mem_map.mp hq
    have hxn := a2 x hx
    obtain ⟨b1, b2, b3, _⟩ := h2.2 x hxn
    rw [← e]
    exact ⟨b2, b3, fnd_lt hxn rfl⟩)
  rw [List.length_map] at t1
  have hlen := iW_len hI hi
  have hb : A.2.2.2.1 2 * (A.2.2.1.2.2.2 i).length ≤ 9 * 12 := Nat.mul_le_mul h5.2.2.2.1 hlen
  omega
def gn (A : aB) (i : Nat) (al : List Nat) : Nat := (TB (sSet (sC A.2.1.1 A.2.1.2.1 A.2.2.2.1 false (A.2.2.1.2.1 i)) (A.2.2.1.2.1 i) al 0) (A.2.2.2.1 2) (A.2.2.1.2.1 i).length 0).2.1
theorem sSet_nil (sc : Nat → Nat → Nat) (l : List Nat) : ∀ i m, 1 ≤ m → m ≤ 6 → i + m ≤ l.length → sSet sc l [] 0 i m = sc i m := by
  intro i m a b c
  rw [sSet, if_neg]
  intro e
  have := congrArg List.length e
  rw [take_len c] at this
  simp at this
  omega
theorem gn_nil {A : aB} (hI : Inv A) {i : Nat} (hi : i < A.2.2.1.1) : gn A i [] = (kS A (A.2.2.1.2.1 i)).length := by
  have hf := (kS_ok hI hi).2.2.2.2
  rw [gn, TB_congr (sSet_nil _ _), kS, (CL_ok ((hI.2.2.1.2 i hi).2.2.2.2) hf).2.1]
theorem gn_le {A : aB} (hI : Inv A) {i : Nat} (hi : i < A.2.2.1.1) (al : List Nat) : gn A i al ≤ 12 := by
  have := (TB_bd (sSet (sC A.2.1.1 A.2.1.2.1 A.2.2.2.1 false (A.2.2.1.2.1 i)) (A.2.2.1.2.1 i) al 0) (A.2.2.2.1 2) (A.2.2.1.2.1 i).length 0).2
  have h5 := (hI.2.2.1.2 i hi).2.2.2.2
  unfold gn
  omega
theorem ok_gb6 {α0 α1 α2 α3 α4 α5 β : Type} {x : Option (α0 × α1 × α2 × α3 × α4 × α5)} {k : α0 → α1 → α2 → α3 → α4 → α5 → Option β} {Q : β → Prop} (h : Ok x (fun a => Ok (k a.1 a.2.1 a.2.2.1 a.2.2.2.1 a.2.2.2.2.1 a.2.2.2.2.2) Q)) : Ok (gb6 x k) Q := by
  obtain ⟨a, e, q⟩ := h
  rw [e]
  exact q
theorem c_fewest {A : aB} {b : tBk} (hc : cBk A b) (hI : Inv A) {i : Nat} (hi : i < A.2.2.1.1) (C : tCut) (S : tCutR) : Ok (fX9_fewestPieces (Int32.ofNat i) b.2.2.2.1 b.2.2.2.2.2.2.1 b.2.2.2.2.2.2.2 C S) (fun r => r.1 = Int32.ofNat (kS A (A.2.2.1.2.1 i)).length) := by
  have h16 := hI.2.2.1.1
  obtain ⟨f0, _⟩ := hc.2.2.1.2 i hi
  rw [fX9_fewestPieces, if_neg (inck hi h16 (by omega)), J_nat _ (by omega), f0]
  apply ok_gb2
  refine ok_mono (c_cutKnown hc.2.1 hI.2.1.1 (okP_Inv hI) hc.2.2.2.1 hI.2.2.2.2.1.1 hI.2.2.2.2.1.2.1 hI.2.2.2.2.1.2.2.2.1 (iW_wf hI hi) ((hI.2.2.1.2 i hi).2.2.2.2) C S) ?_
  rintro ⟨C1, S1⟩ ⟨h, _⟩
  exact ok_some h.1.1
