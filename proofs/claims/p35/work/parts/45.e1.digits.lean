theorem z_doL : ((flatC (Jvm.Cond.and given_1 narrow_1)).drop ((flatC (Jvm.Cond.and given_1 narrow_1)).idxOf ((fun j : Nat => Cond.eq (.elem (.static "java/lang/Integer" "DigitOnes" "[B") (.int (Int32.ofNat j))) (.int (gDO j))) 0))).take 100 = (List.range 100).map (fun j : Nat => Cond.eq (.elem (.static "java/lang/Integer" "DigitOnes" "[B") (.int (Int32.ofNat j))) (.int (gDO j))) := by decide +kernel
theorem z_do {args : Array Value} {s : State} (hts : ∀ w ∈ lw_tblP, w.before args s = true) (hg : (Jvm.Cond.and given_1 narrow_1).before args s = true) {A : Nat → Prop} (hA : ∀ a : Nat, a < s.heap.size → ¬ A a) : ∃ t, va_Z "java/lang/Integer" "DigitOnes" "[B" (.ref t) A s s.heap ∧ va_T .byte t 100 (fun j => .int (gDO j)) A s s.heap := by
  have hs := flat_of_before _ hg
  have hel : ∀ j, j < 100 → Cond.eq (.elem (.static "java/lang/Integer" "DigitOnes" "[B") (.int (Int32.ofNat j))) (.int (gDO j)) ∈ flatC (Jvm.Cond.and given_1 narrow_1) := by
    intro j hj
    have h : (fun j : Nat => Cond.eq (.elem (.static "java/lang/Integer" "DigitOnes" "[B") (.int (Int32.ofNat j))) (.int (gDO j))) j ∈ (List.range 100).map (fun j : Nat => Cond.eq (.elem (.static "java/lang/Integer" "DigitOnes" "[B") (.int (Int32.ofNat j))) (.int (gDO j))) := List.mem_map.mpr ⟨j, List.mem_range.mpr hj, rfl⟩
    rw [← z_doL] at h
    exact List.mem_of_mem_drop (List.mem_of_mem_take h)
  obtain ⟨t, h1, h2⟩ := va_Tof (args := args) (s := s) (tm := .static "java/lang/Integer" "DigitOnes" "[B") (ty := .byte) (N := 100) (f := fun j => .int (gDO j)) (A := A) (by decide) (hs _ (by decide +kernel)) (va_eqt (hs _ (by decide +kernel))) (fun j hj => va_eqt (hs _ (hel j hj))) hA
  exact ⟨t, va_Zof (args := args) (hts _ (by decide +kernel)) (hts _ (by decide +kernel)) h1 hA, h2⟩
theorem z_dtL : ((flatC (Jvm.Cond.and given_1 narrow_1)).drop ((flatC (Jvm.Cond.and given_1 narrow_1)).idxOf ((fun j : Nat => Cond.eq (.elem (.static "java/lang/Integer" "DigitTens" "[B") (.int (Int32.ofNat j))) (.int (gDT j))) 0))).take 100 = (List.range 100).map (fun j : Nat => Cond.eq (.elem (.static "java/lang/Integer" "DigitTens" "[B") (.int (Int32.ofNat j))) (.int (gDT j))) := by decide +kernel
theorem z_dt {args : Array Value} {s : State} (hts : ∀ w ∈ lw_tblP, w.before args s = true) (hg : (Jvm.Cond.and given_1 narrow_1).before args s = true) {A : Nat → Prop} (hA : ∀ a : Nat, a < s.heap.size → ¬ A a) : ∃ t, va_Z "java/lang/Integer" "DigitTens" "[B" (.ref t) A s s.heap ∧ va_T .byte t 100 (fun j => .int (gDT j)) A s s.heap := by
  have hs := flat_of_before _ hg
  have hel : ∀ j, j < 100 → Cond.eq (.elem (.static "java/lang/Integer" "DigitTens" "[B") (.int (Int32.ofNat j))) (.int (gDT j)) ∈ flatC (Jvm.Cond.and given_1 narrow_1) := by
    intro j hj
    have h : (fun j : Nat => Cond.eq (.elem (.static "java/lang/Integer" "DigitTens" "[B") (.int (Int32.ofNat j))) (.int (gDT j))) j ∈ (List.range 100).map (fun j : Nat => Cond.eq (.elem (.static "java/lang/Integer" "DigitTens" "[B") (.int (Int32.ofNat j))) (.int (gDT j))) := List.mem_map.mpr ⟨j, List.mem_range.mpr hj, rfl⟩
    rw [← z_dtL] at h
    exact List.mem_of_mem_drop (List.mem_of_mem_take h)
  obtain ⟨t, h1, h2⟩ := va_Tof (args := args) (s := s) (tm := .static "java/lang/Integer" "DigitTens" "[B") (ty := .byte) (N := 100) (f := fun j => .int (gDT j)) (A := A) (by decide) (hs _ (by decide +kernel)) (va_eqt (hs _ (by decide +kernel))) (fun j hj => va_eqt (hs _ (hel j hj))) hA
  exact ⟨t, va_Zof (args := args) (hts _ (by decide +kernel)) (hts _ (by decide +kernel)) h1 hA, h2⟩
