theorem z_rs {args : Array Value} {s : State} (hts : ∀ w ∈ lw_tblP, w.before args s = true) (hg : (Jvm.Cond.and given_1 narrow_1).before args s = true) {adK : Nat → Nat} (h : ∀ i : Nat, i < 8 → (zTm i).eval args s none [] s = some (.ref (adK i))) : ∀ q ∈ gSt, vk_R q.1 q.2.1 q.2.2.1 (adK q.2.2.2) s := by
  have hs := flat_of_before _ hg
  have h1 : ∀ q ∈ gSt, Cond.stringRef q.1 q.2.1 q.2.2.1 ∈ lw_tblP := by decide +kernel
  have h2 : ∀ q ∈ gSt, q.2.2.2 < 8 ∧ (zTm q.2.2.2 = .string q.1 q.2.1 ∨ Cond.eq (zTm q.2.2.2) (.string q.1 q.2.1) ∈ flatC (Jvm.Cond.and given_1 narrow_1)) := by decide +kernel
  intro q hq
  obtain ⟨a, b⟩ := h2 q hq
  refine vk_R.of (A := args) (hts _ (h1 q hq)) ?_
  rcases b with b | b
  · rw [← b]
    exact h _ a
  · exact va_eqR (hs _ b) (h _ a)
theorem z_all {args : Array Value} {s : State} (hts : ∀ w ∈ lw_tblP, w.before args s = true) (hg : (Jvm.Cond.and given_1 narrow_1).before args s = true) : ∃ E : gE, va_K E.1 vwCl (gT E) s ∧ gZ E (fun q => s.heap.size ≤ q) s s.heap := by
  have hA := z_A (s := s)
  obtain ⟨adK, adV, hS, hT⟩ := z_sof hg hA
  obtain ⟨tL, l1, l2⟩ := z_ls hts hg hA
  obtain ⟨tM, m1, m2⟩ := z_ms hts hg hA
  obtain ⟨tO, o1, o2⟩ := z_do hts hg hA
  obtain ⟨tT, t1, t2⟩ := z_dt hts hg hA
  have hr := z_rs hts hg hT
  obtain ⟨E, hK, hE⟩ := start_K hts (fun k => if k < 8 then adK k else if k < 16 then adV (k - 8) else if k = 16 then tL else if k = 17 then tM else if k = 18 then tO else tT)
  have e1 : ∀ i, i < 8 → E.2.2 i = adK i := fun i hi => by rw [hE]; exact if_pos hi
  have e2 : ∀ i, i < 8 → E.2.2 (8 + i) = adV i := fun i hi => by
    rw [hE]
    show (if 8 + i < 8 then adK (8 + i) else if 8 + i < 16 then adV (8 + i - 8) else if 8 + i = 16 then tL else if 8 + i = 17 then tM else if 8 + i = 18 then tO else tT) = adV i
    rw [if_neg (by omega), if_pos (by omega), Nat.add_sub_cancel_left]
  have e8 : E.2.2 16 = tL := by rw [hE]; rfl
  have e9 : E.2.2 17 = tM := by rw [hE]; rfl
  have e10 : E.2.2 18 = tO := by rw [hE]; rfl
  have e11 : E.2.2 19 = tT := by rw [hE]; rfl
  have h4 : ∀ q ∈ gSt, q.2.2.2 < 8 := by decide +kernel
  refine ⟨E, hK, z_nm hts, z_nf hts, fun q hq => by rw [e1 _ (h4 q hq)]; exact hr q hq, fun i hi => ?_, z_cs hts hg hA, z_si hts hg, by rw [e8]; exact l1, by rw [e8]; exact l2, by rw [e9]; exact m1, by rw [e9]; exact m2, z_un hts hg, z_su hts hg, (fun _ h => absurd h List.not_mem_nil), (fun _ h => absurd h List.not_mem_nil), z_de hts, z_ai hts, z_ab hts, by rw [e10]; exact o1, by rw [e10]; exact o2, by rw [e11]; exact t1, by rw [e11]; exact t2, z_cl hts⟩
  obtain ⟨k1, k2, k3, k4⟩ := hS.1 i hi
  rw [e1 i hi, e2 i hi]
  refine ⟨k1, k2, k3, ?_⟩
  rcases z_lt8 hi with rfl | rfl | rfl | rfl | rfl | rfl | rfl | rfl <;> exact k4
