/-! what lies outside at the start: texts and statics -/
def zTm : Nat → Term := fun i => if i = 0 then .string "PieceDeposits$Parser" 80 else if i = 1 then .string "PieceDeposits$Parser" 109 else if i = 2 then .string "PieceDeposits$Parser" 114 else if i = 3 then .string "PieceDeposits$Parser" 119 else if i = 4 then .string "PieceDepositsLaw" 77 else if i = 5 then .string "PieceDepositsLaw" 92 else if i = 6 then .string "PieceDepositsLaw" 104 else .string "PieceDepositsLaw" 118
theorem z_lt8 {i : Nat} (h : i < 8) : i = 0 ∨ i = 1 ∨ i = 2 ∨ i = 3 ∨ i = 4 ∨ i = 5 ∨ i = 6 ∨ i = 7 := by omega
theorem z_sof {args : Array Value} {s : State} (hg : (Jvm.Cond.and given_1 narrow_1).before args s = true) {A : Nat → Prop} (hA : ∀ a : Nat, a < s.heap.size → ¬ A a) : ∃ adK adV : Nat → Nat, vk_S 8 [4, 4, 5, 4, 5, 5, 6, 5] [[98, 111, 111, 107], [117, 115, 101, 114], [112, 105, 101, 99, 101], [119, 111, 114, 100], [98, 111, 111, 107, 32], [117, 115, 101, 114, 32], [112, 105, 101, 99, 101, 32], [119, 111, 114, 100, 32]] adK adV A s s.heap ∧ ∀ i : Nat, i < 8 → (zTm i).eval args s none [] s = some (.ref (adK i)) := by
  have hs := flat_of_before _ hg
  refine vk_Sof (fun i hi => ?_) (fun i hi => hs _ ?_) (fun i hi => hs _ ?_) (fun i hi => hs _ ?_) (fun i hi => hs _ ?_) (fun i hi j hj => hs _ ?_) (fun i j hi hj hij => ?_) hA
  · rcases z_lt8 hi with rfl | rfl | rfl | rfl | rfl | rfl | rfl | rfl <;> decide
  · revert i; decide +kernel
  · revert i; decide +kernel
  · revert i; decide +kernel
  · revert i; decide +kernel
  · revert j; revert i; decide +kernel
  · have h : ∀ i, i < 8 → ∀ j, j < 8 → i ≠ j → Cond.not (Cond.eq (zTm i) (zTm j)) ∈ flatC (Jvm.Cond.and given_1 narrow_1) ∨ Cond.not (Cond.eq (zTm j) (zTm i)) ∈ flatC (Jvm.Cond.and given_1 narrow_1) := by decide +kernel
    exact (h i hi j hj hij).imp (hs _) (hs _)
theorem z_cs {args : Array Value} {s : State} (hts : ∀ w ∈ lw_tblP, w.before args s = true) (hg : (Jvm.Cond.and given_1 narrow_1).before args s = true) {A : Nat → Prop} (hA : ∀ a : Nat, a < s.heap.size → ¬ A a) : va_Z "java/lang/String" "COMPACT_STRINGS" "Z" (.int 1) A s s.heap :=
  va_Zof (args := args) (hts _ (by decide +kernel)) (hts _ (by decide +kernel)) (va_eqt (flat_of_before _ hg _ (by decide +kernel))) hA
theorem z_ls {args : Array Value} {s : State} (hts : ∀ w ∈ lw_tblP, w.before args s = true) (hg : (Jvm.Cond.and given_1 narrow_1).before args s = true) {A : Nat → Prop} (hA : ∀ a : Nat, a < s.heap.size → ¬ A a) : ∃ t, va_Z "PieceDeposits" "LEAST_SETTING" "[I" (.ref t) A s s.heap ∧ va_T .int t 5 (fun j => .int (gLS j)) A s s.heap := by
  have hs := flat_of_before _ hg
  have hel : ∀ j, j < 5 → Cond.eq (.elem (.static "PieceDeposits" "LEAST_SETTING" "[I") (.int (Int32.ofNat j))) (.int (gLS j)) ∈ flatC (Jvm.Cond.and given_1 narrow_1) := by decide +kernel
  obtain ⟨t, h1, h2⟩ := va_Tof (args := args) (s := s) (tm := .static "PieceDeposits" "LEAST_SETTING" "[I") (ty := .int) (N := 5) (f := fun j => .int (gLS j)) (A := A) (by decide) (hs _ (by decide +kernel)) (va_eqt (hs _ (by decide +kernel))) (fun j hj => va_eqt (hs _ (hel j hj))) hA
  exact ⟨t, va_Zof (args := args) (hts _ (by decide +kernel)) (hts _ (by decide +kernel)) h1 hA, h2⟩
theorem z_ms {args : Array Value} {s : State} (hts : ∀ w ∈ lw_tblP, w.before args s = true) (hg : (Jvm.Cond.and given_1 narrow_1).before args s = true) {A : Nat → Prop} (hA : ∀ a : Nat, a < s.heap.size → ¬ A a) : ∃ t, va_Z "PieceDeposits" "MOST_SETTING" "[I" (.ref t) A s s.heap ∧ va_T .int t 5 (fun j => .int (gMS j)) A s s.heap := by
  have hs := flat_of_before _ hg
  have hel : ∀ j, j < 5 → Cond.eq (.elem (.static "PieceDeposits" "MOST_SETTING" "[I") (.int (Int32.ofNat j))) (.int (gMS j)) ∈ flatC (Jvm.Cond.and given_1 narrow_1) := by decide +kernel
  obtain ⟨t, h1, h2⟩ := va_Tof (args := args) (s := s) (tm := .static "PieceDeposits" "MOST_SETTING" "[I") (ty := .int) (N := 5) (f := fun j => .int (gMS j)) (A := A) (by decide) (hs _ (by decide +kernel)) (va_eqt (hs _ (by decide +kernel))) (fun j hj => va_eqt (hs _ (hel j hj))) hA
  exact ⟨t, va_Zof (args := args) (hts _ (by decide +kernel)) (hts _ (by decide +kernel)) h1 hA, h2⟩
theorem z_do {args : Array Value} {s : State} (hts : ∀ w ∈ lw_tblP, w.before args s = true) (hg : (Jvm.Cond.and given_1 narrow_1).before args s = true) {A : Nat → Prop} (hA : ∀ a : Nat, a < s.heap.size → ¬ A a) : ∃ t, va_Z "java/lang/Integer" "DigitOnes" "[B" (.ref t) A s s.heap ∧ va_T .byte t 100 (fun j => .int (gDO j)) A s s.heap := by
  have hs := flat_of_before _ hg
  have hel : ∀ j, j < 100 → Cond.eq (.elem (.static "java/lang/Integer" "DigitOnes" "[B") (.int (Int32.ofNat j))) (.int (gDO j)) ∈ flatC (Jvm.Cond.and given_1 narrow_1) := by decide +kernel
  obtain ⟨t, h1, h2⟩ := va_Tof (args := args) (s := s) (tm := .static "java/lang/Integer" "DigitOnes" "[B") (ty := .byte) (N := 100) (f := fun j => .int (gDO j)) (A := A) (by decide) (hs _ (by decide +kernel)) (va_eqt (hs _ (by decide +kernel))) (fun j hj => va_eqt (hs _ (hel j hj))) hA
  exact ⟨t, va_Zof (args := args) (hts _ (by decide +kernel)) (hts _ (by decide +kernel)) h1 hA, h2⟩
theorem z_dt {args : Array Value} {s : State} (hts : ∀ w ∈ lw_tblP, w.before args s = true) (hg : (Jvm.Cond.and given_1 narrow_1).before args s = true) {A : Nat → Prop} (hA : ∀ a : Nat, a < s.heap.size → ¬ A a) : ∃ t, va_Z "java/lang/Integer" "DigitTens" "[B" (.ref t) A s s.heap ∧ va_T .byte t 100 (fun j => .int (gDT j)) A s s.heap := by
  have hs := flat_of_before _ hg
  have hel : ∀ j, j < 100 → Cond.eq (.elem (.static "java/lang/Integer" "DigitTens" "[B") (.int (Int32.ofNat j))) (.int (gDT j)) ∈ flatC (Jvm.Cond.and given_1 narrow_1) := by decide +kernel
  obtain ⟨t, h1, h2⟩ := va_Tof (args := args) (s := s) (tm := .static "java/lang/Integer" "DigitTens" "[B") (ty := .byte) (N := 100) (f := fun j => .int (gDT j)) (A := A) (by decide) (hs _ (by decide +kernel)) (va_eqt (hs _ (by decide +kernel))) (fun j hj => va_eqt (hs _ (hel j hj))) hA
  exact ⟨t, va_Zof (args := args) (hts _ (by decide +kernel)) (hts _ (by decide +kernel)) h1 hA, h2⟩
theorem z_rs {args : Array Value} {s : State} (hts : ∀ w ∈ lw_tblP, w.before args s = true) (hg : (Jvm.Cond.and given_1 narrow_1).before args s = true) {adK : Nat → Nat} (h : ∀ i : Nat, i < 8 → (zTm i).eval args s none [] s = some (.ref (adK i))) : ∀ q ∈ gSt, vk_R q.1 q.2.1 q.2.2.1 (adK q.2.2.2) s := by
  have hs := flat_of_before _ hg
  have h1 : ∀ q ∈ gSt, Cond.stringRef q.1 q.2.1 q.2.2.1 ∈ lw_tblP := by decide +kernel
  have h2 : ∀ q ∈ gSt, q.2.2.2 < 8 ∧ (zTm q.2.2.2 = .string q.1 q.2.1 ∨ Cond.eq (zTm q.2.2.2) (.string q.1 q.2.1) ∈ flatC (Jvm.Cond.and given_1 narrow_1)) := by decide +kernel
  intro q hq
  obtain ⟨a, b⟩ := h2 q hq
  refine vk_R.of (A := args) (hts _ (h1 q hq)) ?_
  rcases b with b | b
  · rw [← b]
    exact h _ a
  · exact va_eqR (hs _ b) (h _ a)
theorem z_all {args : Array Value} {s : State} (hts : ∀ w ∈ lw_tblP, w.before args s = true) (hg : (Jvm.Cond.and given_1 narrow_1).before args s = true) : ∃ E : gE, va_K E.1 vwCl (gT E) s ∧ gZ E (fun q => s.heap.size ≤ q) s s.heap := by
  have hA := z_A (s := s)
  obtain ⟨adK, adV, hS, hT⟩ := z_sof hg hA
  obtain ⟨tL, l1, l2⟩ := z_ls hts hg hA
  obtain ⟨tM, m1, m2⟩ := z_ms hts hg hA
  obtain ⟨tO, o1, o2⟩ := z_do hts hg hA
  obtain ⟨tT, t1, t2⟩ := z_dt hts hg hA
  have hr := z_rs hts hg hT
  obtain ⟨E, hK, hE⟩ := start_K hts (fun k => if k < 8 then adK k else if k < 16 then adV (k - 8) else if k = 16 then tL else if k = 17 then tM else if k = 18 then tO else tT)
  have e1 : ∀ i, i < 8 → E.2.2 i = adK i := fun i hi => by rw [hE]; exact if_pos hi
  have e2 : ∀ i, i < 8 → E.2.2 (8 + i) = adV i := fun i hi => by
    rw [hE]
    show (if 8 + i < 8 then adK (8 + i) else if 8 + i < 16 then adV (8 + i - 8) else if 8 + i = 16 then tL else if 8 + i = 17 then tM else if 8 + i = 18 then tO else tT) = adV i
    rw [if_neg (by omega), if_pos (by omega), Nat.add_sub_cancel_left]
  have e8 : E.2.2 16 = tL := by rw [hE]; rfl
  have e9 : E.2.2 17 = tM := by rw [hE]; rfl
  have e10 : E.2.2 18 = tO := by rw [hE]; rfl
  have e11 : E.2.2 19 = tT := by rw [hE]; rfl
  have h4 : ∀ q ∈ gSt, q.2.2.2 < 8 := by decide +kernel
  refine ⟨E, hK, z_nm hts, z_nf hts, fun q hq => by rw [e1 _ (h4 q hq)]; exact hr q hq, fun i hi => ?_, z_cs hts hg hA, z_si hts hg, by rw [e8]; exact l1, by rw [e8]; exact l2, by rw [e9]; exact m1, by rw [e9]; exact m2, z_un hts hg, z_su hts hg, (fun _ h => absurd h List.not_mem_nil), (fun _ h => absurd h List.not_mem_nil), z_de hts, z_ai hts, z_ab hts, by rw [e10]; exact o1, by rw [e10]; exact o2, by rw [e11]; exact t1, by rw [e11]; exact t2, z_cl hts⟩
  obtain ⟨k1, k2, k3, k4⟩ := hS.1 i hi
  rw [e1 i hi, e2 i hi]
  refine ⟨k1, k2, k3, ?_⟩
  rcases z_lt8 hi with rfl | rfl | rfl | rfl | rfl | rfl | rfl | rfl <;> exact k4
