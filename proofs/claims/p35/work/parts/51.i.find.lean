/-! find, quote, whyNotStore -/
theorem okW_Inv {A : aB} (hI : Inv A) : okR A.2.2.1.1 A.2.2.1.2.1 12 := fun i hi => ⟨iW_wf hI hi, (hI.2.2.1.2 i hi).2.2.2.2⟩
theorem L64_ne0 {l : List Nat} (hw : wf l) (hl : l.length ≤ 12) (h : l ≠ []) : ¬ (lg_cmp (L64 l) 0 = 0) := by
  rw [cmp0, L64_zero hw hl]
  exact h
theorem z_cmp : lg_cmp 0 0 = 0 := by decide
theorem reqB_in {i n : Nat} (hi : i < n) (hn : n ≤ 1000) : fX9_requireBelow (Int32.ofNat i) (Int32.ofNat n) = some () := by
  rw [fX9_requireBelow]
  exact req_in hi hn
theorem nr_long {A : aB} (hI : Inv A) {x : List Nat} (h : 6 < x.length) : nr A.2.1.1 A.2.1.2.1 x = M1 := by
  rw [nr, if_neg]
  intro h2
  have h3 := fnd_hit h2
  have := (hI.2.1.2 _ h2).2.2.1
  rw [h3] at this
  omega
theorem ok_gb7 {α0 α1 α2 α3 α4 α5 α6 β : Type} {x : Option (α0 × α1 × α2 × α3 × α4 × α5 × α6)} {k : α0 → α1 → α2 → α3 → α4 → α5 → α6 → Option β} {Q : β → Prop} (h : Ok x (fun a => Ok (k a.1 a.2.1 a.2.2.1 a.2.2.2.1 a.2.2.2.2.1 a.2.2.2.2.2.1 a.2.2.2.2.2.2) Q)) : Ok (gb7 x k) Q := by
  obtain ⟨a, e, q⟩ := h
  rw [e]
  exact q
