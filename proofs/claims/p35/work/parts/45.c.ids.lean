theorem arr_cls {ty : FieldType} {args : Array Value} {s : State} (h : (Cond.arrayClass ty).before args s = true) : ∃ c : ClassId, ArrOfT s c ty ∧ s.vm.findClass ("[" ++ ty.toString) = some c := by
  obtain ⟨c, k, comp, h1, h2, h3⟩ := Cond.arrayClass_spec h
  exact ⟨c, fun n z => ⟨fun _ h => (by cases h), k, h2, comp, h3⟩, h1⟩
theorem arr_book {args : Array Value} {s : State} (h : (Cond.arrayOver (.object "PieceDeposits$Book")).before args s = true) : ∃ c : ClassId, ArrOfT s c (.object "PieceDeposits$Book") ∧ va_RA s c (.object "PieceDeposits$Book") := by
  obtain ⟨comp, c, k, h1, h2, h3, h4, h5⟩ := Cond.arrayOver_spec h
  exact ⟨c, fun n z => ⟨fun _ h => (by cases h), k, h3, comp, h4⟩, k, comp, h3, h4, h1, h5⟩
theorem arr_arr {args : Array Value} {s : State} (h : (Cond.arrayOver (.array .int)).before args s = true) : ∃ c : ClassId, ArrOfT s c (.array .int) ∧ s.vm.findClass ("[" ++ (FieldType.array .int).toString) = some c := by
  obtain ⟨comp, c, k, h1, h2, h3, h4, h5⟩ := gAO_spec (show va_AOA .int s from h)
  exact ⟨c, fun n z => ⟨fun _ h => (by cases h), k, h3, comp, h4⟩, h5⟩
theorem start_K {args : Array Value} {s : State} (hts : ∀ w ∈ lw_tblP, w.before args s = true) (ad : Nat → Nat) : ∃ E : gE, va_K E.1 vwCl (gT E) s ∧ E.2.2 = ad := by
  have hl : ∀ w ∈ wsL_law, w.before args s = true := fun w h => hts w (wsL_law_in w h)
  have hall : ∀ k : Nat, k < 12 → ∃ (cC : ClassId) (iS : Nat → Nat), ∀ q, vwCl[k]? = some q → u_Kn s q.1 q.2.1 q.2.2 cC iS := by
    intro k hk
    rcases (show k = 0 ∨ k = 1 ∨ k = 2 ∨ k = 3 ∨ k = 4 ∨ k = 5 ∨ k = 6 ∨ k = 7 ∨ k = 8 ∨ k = 9 ∨ k = 10 ∨ k = 11 by omega) with rfl | rfl | rfl | rfl | rfl | rfl | rfl | rfl | rfl | rfl | rfl | rfl
    · obtain ⟨c, i, h⟩ := u_known (T := TJ0) (N := 4) hl inlJ0 (hts (.instantiable RJ0 4) (by decide +kernel))
      exact ⟨c, i, fun q e => by cases e; exact h⟩
    · obtain ⟨c, i, h⟩ := u_known (T := TJ4) (N := 4) hl inlJ4 (hts (.instantiable RJ4 4) (by decide +kernel))
      exact ⟨c, i, fun q e => by cases e; exact h⟩
    · obtain ⟨c, i, h⟩ := u_known (T := TX0) (N := 9) hl inlX0 (hts (.instantiable RX0 9) (by decide +kernel))
      exact ⟨c, i, fun q e => by cases e; exact h⟩
    · obtain ⟨c, i, h⟩ := u_known (T := TX1) (N := 8) hl inlX1 (hts (.instantiable RX1 8) (by decide +kernel))
      exact ⟨c, i, fun q e => by cases e; exact h⟩
    · obtain ⟨c, i, h⟩ := u_known (T := TX2) (N := 12) hl inlX2 (hts (.instantiable RX2 12) (by decide +kernel))
      exact ⟨c, i, fun q e => by cases e; exact h⟩
    · obtain ⟨c, i, h⟩ := u_known (T := TX3) (N := 2) hl inlX3 (hts (.instantiable RX3 2) (by decide +kernel))
      exact ⟨c, i, fun q e => by cases e; exact h⟩
    · obtain ⟨c, i, h⟩ := u_known (T := TX5) (N := 11) hl inlX5 (hts (.instantiable RX5 11) (by decide +kernel))
      exact ⟨c, i, fun q e => by cases e; exact h⟩
    · obtain ⟨c, i, h⟩ := u_known (T := TX6) (N := 6) hl inlX6 (hts (.instantiable RX6 6) (by decide +kernel))
      exact ⟨c, i, fun q e => by cases e; exact h⟩
    · obtain ⟨c, i, h⟩ := u_known (T := TX7) (N := 3) hl inlX7 (hts (.instantiable RX7 3) (by decide +kernel))
      exact ⟨c, i, fun q e => by cases e; exact h⟩
    · obtain ⟨c, i, h⟩ := u_known (T := TX8) (N := 5) hl inlX8 (hts (.instantiable RX8 5) (by decide +kernel))
      exact ⟨c, i, fun q e => by cases e; exact h⟩
    · obtain ⟨c, i, h⟩ := u_known (T := TX9) (N := 10) hl inlX9 (hts (.instantiable RX9 10) (by decide +kernel))
      exact ⟨c, i, fun q e => by cases e; exact h⟩
    · obtain ⟨c, i, h⟩ := u_known (T := TX10) (N := 21) hl inlX10 (hts (.instantiable RX10 21) (by decide +kernel))
      exact ⟨c, i, fun q e => by cases e; exact h⟩
  have hall2 : ∀ k : Nat, ∃ (ci : ClassId × (Nat → Nat)), ∀ q, vwCl[k]? = some q → u_Kn s q.1 q.2.1 q.2.2 ci.1 ci.2 := by
    intro k
    by_cases hk : k < 12
    · obtain ⟨c, i, h⟩ := hall k hk
      exact ⟨(c, i), h⟩
    · exact ⟨(0, fun _ => 0), fun q e => absurd (List.getElem?_eq_some_iff.mp e).1 hk⟩
  obtain ⟨D, hD⟩ := Classical.axiomOfChoice hall2
  obtain ⟨t0, p0, q0⟩ := arr_cls (hts (.arrayClass .byte) (by decide +kernel))
  obtain ⟨t1, p1, q1⟩ := arr_cls (hts (.arrayClass .int) (by decide +kernel))
  obtain ⟨t2, p2, q2⟩ := arr_cls (hts (.arrayClass .long) (by decide +kernel))
  obtain ⟨t3, p3, q3⟩ := arr_cls (hts (.arrayClass .boolean) (by decide +kernel))
  obtain ⟨t4, p4, q4⟩ := arr_book (hts (.arrayOver (.object "PieceDeposits$Book")) (by decide +kernel))
  obtain ⟨t5, p5, q5⟩ := arr_arr (hts (.arrayOver (.array .int)) (by decide +kernel))
  refine ⟨((fun k => (D k).1, fun k => (D k).2), (fun k => [t0, t1, t2, t3, t4, t5].getD k 0), ad), ⟨fun k q h => hD k q h, ?_⟩, rfl⟩
  intro k q h
  match k, h with
  | 0, h => cases h; exact ⟨p0, q0⟩
  | 1, h => cases h; exact ⟨p1, q1⟩
  | 2, h => cases h; exact ⟨p2, q2⟩
  | 3, h => cases h; exact ⟨p3, q3⟩
  | 4, h => cases h; exact ⟨p4, q4⟩
  | 5, h => cases h; exact ⟨p5, q5⟩
  | k + 6, h => exact absurd (List.getElem?_eq_some_iff.mp h).1 (by simp [gT])
