theorem z_A {s : State} : ∀ a : Nat, a < s.heap.size → ¬ (fun q : Nat => s.heap.size ≤ q) a := fun _ h => Nat.not_le.mpr h
theorem z_si {args : Array Value} {s : State} (hts : ∀ w ∈ lw_tblP, w.before args s = true) (hg : (Jvm.Cond.and given_1 narrow_1).before args s = true) : va_Zq "jdk/internal/util/Preconditions" "SIOOBE_FORMATTER" "Ljava/util/function/BiFunction;" (fun q => s.heap.size ≤ q) s s.heap :=
  va_Zqof (args := args) (hts _ (by decide +kernel)) (hts _ (by decide +kernel)) (flat_of_before _ hg _ (by decide +kernel)) z_A
theorem z_un {args : Array Value} {s : State} (hts : ∀ w ∈ lw_tblP, w.before args s = true) (hg : (Jvm.Cond.and given_1 narrow_1).before args s = true) : vx_Zq Bundle.tN "UNASSIGNED_STACK" Bundle.steD (fun q => s.heap.size ≤ q) s s.heap :=
  vx_Zqof (args := args) (hts _ (by decide +kernel)) (hts _ (by decide +kernel)) (flat_of_before _ hg _ (by decide +kernel)) z_A
theorem z_su {args : Array Value} {s : State} (hts : ∀ w ∈ lw_tblP, w.before args s = true) (hg : (Jvm.Cond.and given_1 narrow_1).before args s = true) : vx_Zq Bundle.tN "SUPPRESSED_SENTINEL" Bundle.listD (fun q => s.heap.size ≤ q) s s.heap :=
  vx_Zqof (args := args) (hts _ (by decide +kernel)) (hts _ (by decide +kernel)) (flat_of_before _ hg _ (by decide +kernel)) z_A
/-! what lies outside at the start: texts and statics -/
def zTm : Nat → Term := fun i => if i = 0 then .string "PieceDeposits$Parser" 80 else if i = 1 then .string "PieceDeposits$Parser" 109 else if i = 2 then .string "PieceDeposits$Parser" 114 else if i = 3 then .string "PieceDeposits$Parser" 119 else if i = 4 then .string "PieceDepositsLaw" 77 else if i = 5 then .string "PieceDepositsLaw" 92 else if i = 6 then .string "PieceDepositsLaw" 104 else .string "PieceDepositsLaw" 118
theorem z_lt8 {i : Nat} (h : i < 8) : i = 0 ∨ i = 1 ∨ i = 2 ∨ i = 3 ∨ i = 4 ∨ i = 5 ∨ i = 6 ∨ i = 7 := by omega
theorem z_sof {args : Array Value} {s : State} (hg : (Jvm.Cond.and given_1 narrow_1).before args s = true) {A : Nat → Prop} (hA : ∀ a : Nat, a < s.heap.size → ¬ A a) : ∃ adK adV : Nat → Nat, vk_S 8 [4, 4, 5, 4, 5, 5, 6, 5] [[98, 111, 111, 107], [117, 115, 101, 114], [112, 105, 101, 99, 101], [119, 111, 114, 100], [98, 111, 111, 107, 32], [117, 115, 101, 114, 32], [112, 105, 101, 99, 101, 32], [119, 111, 114, 100, 32]] adK adV A s s.heap ∧ ∀ i : Nat, i < 8 → (zTm i).eval args s none [] s = some (.ref (adK i)) := by
  have hs := flat_of_before _ hg
  refine vk_Sof (fun i hi => ?_) (fun i hi => hs _ ?_) (fun i hi => hs _ ?_) (fun i hi => hs _ ?_) (fun i hi => hs _ ?_) (fun i hi j hj => hs _ ?_) (fun i j hi hj hij => ?_) hA
  · rcases z_lt8 hi with rfl | rfl | rfl | rfl | rfl | rfl | rfl | rfl <;> decide
  · revert i; decide +kernel
  · revert i; decide +kernel
  · revert i; decide +kernel
  · revert i; decide +kernel
  · revert j; revert i; decide +kernel
  · have h : ∀ i, i < 8 → ∀ j, j < 8 → i ≠ j → Cond.not (Cond.eq (zTm i) (zTm j)) ∈ flatC (Jvm.Cond.and given_1 narrow_1) ∨ Cond.not (Cond.eq (zTm j) (zTm i)) ∈ flatC (Jvm.Cond.and given_1 narrow_1) := by decide +kernel
    exact (h i hi j hj hij).imp (hs _) (hs _)
theorem z_cs {args : Array Value} {s : State} (hts : ∀ w ∈ lw_tblP, w.before args s = true) (hg : (Jvm.Cond.and given_1 narrow_1).before args s = true) {A : Nat → Prop} (hA : ∀ a : Nat, a < s.heap.size → ¬ A a) : va_Z "java/lang/String" "COMPACT_STRINGS" "Z" (.int 1) A s s.heap :=
  va_Zof (args := args) (hts _ (by decide +kernel)) (hts _ (by decide +kernel)) (va_eqt (flat_of_before _ hg _ (by decide +kernel))) hA
theorem z_ls {args : Array Value} {s : State} (hts : ∀ w ∈ lw_tblP, w.before args s = true) (hg : (Jvm.Cond.and given_1 narrow_1).before args s = true) {A : Nat → Prop} (hA : ∀ a : Nat, a < s.heap.size → ¬ A a) : ∃ t, va_Z "PieceDeposits" "LEAST_SETTING" "[I" (.ref t) A s s.heap ∧ va_T .int t 5 (fun j => .int (gLS j)) A s s.heap := by
  have hs := flat_of_before _ hg
  have hel : ∀ j, j < 5 → Cond.eq (.elem (.static "PieceDeposits" "LEAST_SETTING" "[I") (.int (Int32.ofNat j))) (.int (gLS j)) ∈ flatC (Jvm.Cond.and given_1 narrow_1) := by decide +kernel
  obtain ⟨t, h1, h2⟩ := va_Tof (args := args) (s := s) (tm := .static "PieceDeposits" "LEAST_SETTING" "[I") (ty := .int) (N := 5) (f := fun j => .int (gLS j)) (A := A) (by decide) (hs _ (by decide +kernel)) (va_eqt (hs _ (by decide +kernel))) (fun j hj => va_eqt (hs _ (hel j hj))) hA
  exact ⟨t, va_Zof (args := args) (hts _ (by decide +kernel)) (hts _ (by decide +kernel)) h1 hA, h2⟩
theorem z_ms {args : Array Value} {s : State} (hts : ∀ w ∈ lw_tblP, w.before args s = true) (hg : (Jvm.Cond.and given_1 narrow_1).before args s = true) {A : Nat → Prop} (hA : ∀ a : Nat, a < s.heap.size → ¬ A a) : ∃ t, va_Z "PieceDeposits" "MOST_SETTING" "[I" (.ref t) A s s.heap ∧ va_T .int t 5 (fun j => .int (gMS j)) A s s.heap := by
  have hs := flat_of_before _ hg
  have hel : ∀ j, j < 5 → Cond.eq (.elem (.static "PieceDeposits" "MOST_SETTING" "[I") (.int (Int32.ofNat j))) (.int (gMS j)) ∈ flatC (Jvm.Cond.and given_1 narrow_1) := by decide +kernel
  obtain ⟨t, h1, h2⟩ := va_Tof (args := args) (s := s) (tm := .static "PieceDeposits" "MOST_SETTING" "[I") (ty := .int) (N := 5) (f := fun j => .int (gMS j)) (A := A) (by decide) (hs _ (by decide +kernel)) (va_eqt (hs _ (by decide +kernel))) (fun j hj => va_eqt (hs _ (hel j hj))) hA
  exact ⟨t, va_Zof (args := args) (hts _ (by decide +kernel)) (hts _ (by decide +kernel)) h1 hA, h2⟩
