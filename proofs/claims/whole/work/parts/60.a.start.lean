/-! what lies outside at the start: texts and statics -/
def zTm : Nat → Term := fun i => if i = 0 then .string "PieceDeposits$Parser" 80 else if i = 1 then .string "PieceDeposits$Parser" 109 else if i = 2 then .string "PieceDeposits$Parser" 114 else .string "PieceDeposits$Parser" 119
theorem z_lt4 {i : Nat} (h : i < 4) : i = 0 ∨ i = 1 ∨ i = 2 ∨ i = 3 := by omega
theorem z_lt5 {i : Nat} (h : i < 5) : i = 0 ∨ i = 1 ∨ i = 2 ∨ i = 3 ∨ i = 4 := by omega
theorem z_sof {args : Array Value} {s : State} (hg : (Jvm.Cond.and given_1 narrow_1).before args s = true) {A : Nat → Prop} (hA : ∀ a : Nat, a < s.heap.size → ¬ A a) : ∃ adK adV : Nat → Nat, vk_S 4 [4, 4, 5, 4] [[98, 111, 111, 107], [117, 115, 101, 114], [112, 105, 101, 99, 101], [119, 111, 114, 100]] adK adV A s s.heap ∧ ∀ i : Nat, i < 4 → (zTm i).eval args s none [] s = some (.ref (adK i)) := by
  have hs := flat_of_before _ hg
  refine vk_Sof (fun i hi => ?_) (fun i hi => hs _ ?_) (fun i hi => hs _ ?_) (fun i hi => hs _ ?_) (fun i hi => hs _ ?_) (fun i hi j hj => hs _ ?_) (fun i j hi hj hij => ?_) hA
  · rcases z_lt4 hi with rfl | rfl | rfl | rfl <;> decide
  · revert i; decide +kernel
  · revert i; decide +kernel
  · revert i; decide +kernel
  · revert i; decide +kernel
  · revert j; revert i; decide +kernel
  · have h : ∀ i, i < 4 → ∀ j, j < 4 → i ≠ j → Cond.not (Cond.eq (zTm i) (zTm j)) ∈ flatC (Jvm.Cond.and given_1 narrow_1) ∨ Cond.not (Cond.eq (zTm j) (zTm i)) ∈ flatC (Jvm.Cond.and given_1 narrow_1) := by decide +kernel
    exact (h i hi j hj hij).imp (hs _) (hs _)
theorem z_cs {args : Array Value} {s : State} (hts : ∀ w ∈ lw_tbl, w.before args s = true) (hg : (Jvm.Cond.and given_1 narrow_1).before args s = true) {A : Nat → Prop} (hA : ∀ a : Nat, a < s.heap.size → ¬ A a) : va_Z "java/lang/String" "COMPACT_STRINGS" "Z" (.int 1) A s s.heap :=
  va_Zof (args := args) (hts _ (by decide +kernel)) (hts _ (by decide +kernel)) (va_eqt (flat_of_before _ hg _ (by decide +kernel))) hA
theorem z_ls {args : Array Value} {s : State} (hts : ∀ w ∈ lw_tbl, w.before args s = true) (hg : (Jvm.Cond.and given_1 narrow_1).before args s = true) {A : Nat → Prop} (hA : ∀ a : Nat, a < s.heap.size → ¬ A a) : ∃ t, va_Z "PieceDeposits" "LEAST_SETTING" "[I" (.ref t) A s s.heap ∧ va_T .int t 5 (fun j => .int (gLS j)) A s s.heap := by
  have hs := flat_of_before _ hg
  have hel : ∀ j, j < 5 → Cond.eq (.elem (.static "PieceDeposits" "LEAST_SETTING" "[I") (.int (Int32.ofNat j))) (.int (gLS j)) ∈ flatC (Jvm.Cond.and given_1 narrow_1) := by decide +kernel
  obtain ⟨t, h1, h2⟩ := va_Tof (args := args) (s := s) (tm := .static "PieceDeposits" "LEAST_SETTING" "[I") (ty := .int) (N := 5) (f := fun j => .int (gLS j)) (A := A) (by decide) (hs _ (by decide +kernel)) (va_eqt (hs _ (by decide +kernel))) (fun j hj => va_eqt (hs _ (hel j hj))) hA
  exact ⟨t, va_Zof (args := args) (hts _ (by decide +kernel)) (hts _ (by decide +kernel)) h1 hA, h2⟩
theorem z_ms {args : Array Value} {s : State} (hts : ∀ w ∈ lw_tbl, w.before args s = true) (hg : (Jvm.Cond.and given_1 narrow_1).before args s = true) {A : Nat → Prop} (hA : ∀ a : Nat, a < s.heap.size → ¬ A a) : ∃ t, va_Z "PieceDeposits" "MOST_SETTING" "[I" (.ref t) A s s.heap ∧ va_T .int t 5 (fun j => .int (gMS j)) A s s.heap := by
  have hs := flat_of_before _ hg
  have hel : ∀ j, j < 5 → Cond.eq (.elem (.static "PieceDeposits" "MOST_SETTING" "[I") (.int (Int32.ofNat j))) (.int (gMS j)) ∈ flatC (Jvm.Cond.and given_1 narrow_1) := by decide +kernel
  obtain ⟨t, h1, h2⟩ := va_Tof (args := args) (s := s) (tm := .static "PieceDeposits" "MOST_SETTING" "[I") (ty := .int) (N := 5) (f := fun j => .int (gMS j)) (A := A) (by decide) (hs _ (by decide +kernel)) (va_eqt (hs _ (by decide +kernel))) (fun j hj => va_eqt (hs _ (hel j hj))) hA
  exact ⟨t, va_Zof (args := args) (hts _ (by decide +kernel)) (hts _ (by decide +kernel)) h1 hA, h2⟩
theorem z_rs {args : Array Value} {s : State} (hts : ∀ w ∈ lw_tbl, w.before args s = true) (hg : (Jvm.Cond.and given_1 narrow_1).before args s = true) {adK : Nat → Nat} (h : ∀ i : Nat, i < 4 → (zTm i).eval args s none [] s = some (.ref (adK i))) : ∀ q ∈ gSt, vk_R q.1 q.2.1 q.2.2.1 (adK q.2.2.2) s := by
  have hs := flat_of_before _ hg
  have h1 : ∀ q ∈ gSt, Cond.stringRef q.1 q.2.1 q.2.2.1 ∈ lw_tbl := by decide +kernel
  have h2 : ∀ q ∈ gSt, q.2.2.2 < 4 ∧ (zTm q.2.2.2 = .string q.1 q.2.1 ∨ Cond.eq (zTm q.2.2.2) (.string q.1 q.2.1) ∈ flatC (Jvm.Cond.and given_1 narrow_1)) := by decide +kernel
  intro q hq
  obtain ⟨a, b⟩ := h2 q hq
  refine vk_R.of (A := args) (hts _ (h1 q hq)) ?_
  rcases b with b | b
  · rw [← b]
    exact h _ a
  · exact va_eqR (hs _ b) (h _ a)
theorem z_all {args : Array Value} {s : State} (hts : ∀ w ∈ lw_tbl, w.before args s = true) (hg : (Jvm.Cond.and given_1 narrow_1).before args s = true) : ∃ E : gE, va_K E.1 vwCl (gT E) s ∧ gZ E (fun q => s.heap.size ≤ q) s s.heap := by
  have hA := z_A (s := s)
  obtain ⟨adK, adV, hS, hT⟩ := z_sof hg hA
  obtain ⟨tL, l1, l2⟩ := z_ls hts hg hA
  obtain ⟨tM, m1, m2⟩ := z_ms hts hg hA
  have hr := z_rs hts hg hT
  obtain ⟨E, hK, hE⟩ := start_K hts (fun k => if k < 4 then adK k else if k < 8 then adV (k - 4) else if k = 8 then tL else tM)
  have e1 : ∀ i, i < 4 → E.2.2 i = adK i := fun i hi => by rw [hE]; exact if_pos hi
  have e2 : ∀ i, i < 4 → E.2.2 (4 + i) = adV i := fun i hi => by
    rw [hE]
    show (if 4 + i < 4 then adK (4 + i) else if 4 + i < 8 then adV (4 + i - 4) else if 4 + i = 8 then tL else tM) = adV i
    rw [if_neg (by omega), if_pos (by omega), Nat.add_sub_cancel_left]
  have e8 : E.2.2 8 = tL := by rw [hE]; rfl
  have e9 : E.2.2 9 = tM := by rw [hE]; rfl
  have h4 : ∀ q ∈ gSt, q.2.2.2 < 4 := by decide +kernel
  refine ⟨E, hK, z_nm hts, z_nf hts, fun q hq => by rw [e1 _ (h4 q hq)]; exact hr q hq, fun i hi => ?_, z_cs hts hg hA, z_si hts hg, by rw [e8]; exact l1, by rw [e8]; exact l2, by rw [e9]; exact m1, by rw [e9]; exact m2, z_un hts hg, z_su hts hg, z_ca hts, z_nc hg, z_de hts, z_ai hts, z_ab hts⟩
  obtain ⟨k1, k2, k3, k4⟩ := hS.1 i hi
  rw [e1 i hi, e2 i hi]
  refine ⟨k1, k2, k3, ?_⟩
  rcases z_lt4 hi with rfl | rfl | rfl | rfl <;> exact k4
