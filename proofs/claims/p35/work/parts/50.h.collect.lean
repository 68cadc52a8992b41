/-! parts collected, new pieces counted, gains, ways: the class's cutter -/
def aR (ps : List (List Nat)) (n : Int32) (pa : Nat → Int64) : Prop := n = Int32.ofNat ps.length ∧ ∀ m (h : m < ps.length), pa m = L64 (ps[m])
theorem aR_snoc {ps : List (List Nat)} {n : Int32} {pa : Nat → Int64} (h : aR ps n pa) (s : List Nat) : aR (ps ++ [s]) (Int32.ofNat (ps.length + 1)) (vp_updL pa ps.length (L64 s)) := by
  refine ⟨by simp, fun m hm => ?_⟩
  rw [List.length_append, List.length_singleton] at hm
  by_cases c : m = ps.length
  · subst c
    rw [updL_eq, List.getElem_append_right (Nat.le_refl _)]
    simp
  · rw [updL_ne _ _ _ _ c, List.getElem_append_left (by omega)]
    exact h.2 m (by omega)
section CUT
variable {c1 c3 c4 dp len : Int32} {c2 : Nat → Int64} {lc pc fl wc : Nat → Int32}
theorem c_coll_L {l : List Nat} (hw : wf l) (hl : l.length ≤ 12) {fi : Nat → Nat} (hfl : ∀ x, x < l.length → fl x = Int32.ofNat (fi x) ∧ x + fi x ≤ l.length) {k : tCut → Option tCut} {Q : tCut → Prop} : ∀ (f n i : Nat) (acc : List (List Nat)) (c1 : Int32) (c2 : Nat → Int64), f < n → l.length - i < f → acc.length ≤ i → i ≤ l.length → aR acc c1 c2 → (∀ d1 d2, aR (acc ++ cl fi l f i) d1 d2 → Ok (k (d1, d2, c3, c4, L64 l, Int32.ofNat l.length, dp, lc, pc, fl, wc)) Q) → Ok (fX2_collectParts_L7 k n (Int32.ofNat i) (c1, c2, c3, c4, L64 l, Int32.ofNat l.length, dp, lc, pc, fl, wc)) Q
  | f, 0, i, acc, c1, c2, h, _, _, _, _, _ => by omega
  | 0, n + 1, i, acc, c1, c2, _, h, _, _, _, _ => by omega
  | f + 1, n + 1, i, acc, c1, c2, h1, h2, h3, h4, ha, hk => by
    by_cases ci : i < l.length
    · obtain ⟨e1, e2⟩ := hfl i ci
      by_cases cf : 0 < fi i
      · rw [cl, if_pos ⟨ci, cf⟩] at hk
        have e3 := c_section hw hl (s := i) (n := fi i) (by omega) (by omega)
        simp (disch := omega) only [fX2_collectParts_L7, ha.1, e1, e3, J_lt, J_le, J_eq, J_nat, J_add, J_mul, J_sub, J_ne1, J_m1, J_le1, J_1le, J_1lt, J_lt1, J_dec, J_dec0, M1_def, M1_neg, n_leF, n_leT, n_ltF, n_ltT, false_or, or_false, true_or, or_true, and_true, true_and, false_and, and_false, not_true_eq_false, not_false_eq_true, if_true, if_false, ite_true, ite_false, Lt_eq, cmpJ, gb1_some, gb2_some, gb3_some, gb4_some, gb5_some, gb6_some, gb7_some, gb8_some, Nat.add_zero, Nat.zero_add, Nat.add_sub_cancel, i_0, i_1, i_2, i_3, i_4, i_5, i_6, i_7, i_8, i_9, i_10, i_11, i_12, i_13, i_14, i_15, i_16, i_17, i_18, i_19, i_20, i_21, i_22, i_23, i_24, i_25, i_26, i_27, i_28, i_29, i_31, i_32, i_48, i_57, i_59, i_61, i_63, i_72, i_96, i_97, i_99, i_100, i_122, i_128, i_141, i_160, i_192, i_255, i_256, i_365, i_600, i_730, i_3650, i_9999, i_1000000, -Int32.reduceOfNat]
        exact c_coll_L hw hl hfl f n (i + fi i) (acc ++ [(l.drop i).take (fi i)]) _ _ (by omega) (by omega) (by simp; omega) e2 (aR_snoc ha _) (fun d1 d2 hd => hk d1 d2 (by rw [List.append_assoc] at hd; exact hd))
      · rw [cl, if_neg (by omega), List.append_nil] at hk
        simp (disch := omega) only [fX2_collectParts_L7, ha.1, e1, J_lt, J_le, J_eq, J_nat, J_add, J_mul, J_sub, J_ne1, J_m1, J_le1, J_1le, J_1lt, J_lt1, J_dec, J_dec0, M1_def, M1_neg, n_leF, n_leT, n_ltF, n_ltT, false_or, or_false, true_or, or_true, and_true, true_and, false_and, and_false, not_true_eq_false, not_false_eq_true, if_true, if_false, ite_true, ite_false, Lt_eq, cmpJ, gb1_some, gb2_some, gb3_some, gb4_some, gb5_some, gb6_some, gb7_some, gb8_some, Nat.add_zero, Nat.zero_add, Nat.add_sub_cancel, i_0, i_1, i_2, i_3, i_4, i_5, i_6, i_7, i_8, i_9, i_10, i_11, i_12, i_13, i_14, i_15, i_16, i_17, i_18, i_19, i_20, i_21, i_22, i_23, i_24, i_25, i_26, i_27, i_28, i_29, i_31, i_32, i_48, i_57, i_59, i_61, i_63, i_72, i_96, i_97, i_99, i_100, i_122, i_128, i_141, i_160, i_192, i_255, i_256, i_365, i_600, i_730, i_3650, i_9999, i_1000000, -Int32.reduceOfNat]
        rw [← ha.1]
        exact hk c1 c2 ha
    · rw [cl, if_neg (by omega), List.append_nil] at hk
      simp (disch := omega) only [fX2_collectParts_L7, ha.1, J_lt, J_le, J_eq, J_nat, J_add, J_mul, J_sub, J_ne1, J_m1, J_le1, J_1le, J_1lt, J_lt1, J_dec, J_dec0, M1_def, M1_neg, n_leF, n_leT, n_ltF, n_ltT, false_or, or_false, true_or, or_true, and_true, true_and, false_and, and_false, not_true_eq_false, not_false_eq_true, if_true, if_false, ite_true, ite_false, Lt_eq, cmpJ, gb1_some, gb2_some, gb3_some, gb4_some, gb5_some, gb6_some, gb7_some, gb8_some, Nat.add_zero, Nat.zero_add, Nat.add_sub_cancel, i_0, i_1, i_2, i_3, i_4, i_5, i_6, i_7, i_8, i_9, i_10, i_11, i_12, i_13, i_14, i_15, i_16, i_17, i_18, i_19, i_20, i_21, i_22, i_23, i_24, i_25, i_26, i_27, i_28, i_29, i_31, i_32, i_48, i_57, i_59, i_61, i_63, i_72, i_96, i_97, i_99, i_100, i_122, i_128, i_141, i_160, i_192, i_255, i_256, i_365, i_600, i_730, i_3650, i_9999, i_1000000, -Int32.reduceOfNat]
      rw [← ha.1]
      exact hk c1 c2 ha
theorem fi_le {sc : Nat → Nat → Nat} {dep L x : Nat} (h : x < L) : x + (TB sc dep L x).2.2 ≤ L := by
  by_cases hf : (TB sc dep L x).1 < 1000000
  · exact (TB_fin h hf).2.2.1
  · rw [TB_inf h hf]
    simp only
    omega
theorem c_collect {l : List Nat} (hw : wf l) (hl : l.length ≤ 12) {sc : Nat → Nat → Nat} {dep : Nat} (ha : agr sc dep l.length l.length lc pc fl) : Ok (fX2_collectParts (c1, c2, c3, c4, L64 l, Int32.ofNat l.length, dp, lc, pc, fl, wc)) (fun r => ∃ d1 d2, r = (d1, d2, c3, c4, L64 l, Int32.ofNat l.length, dp, lc, pc, fl, wc) ∧ aR (CL sc dep l) d1 d2) := by
  rw [fX2_collectParts]
  exact c_coll_L (fi := fun i => (TB sc dep l.length i).2.2) hw hl (fun x hx => ⟨(ha x (by omega) (by omega)).2.2 hx, fi_le hx⟩) 13 FU 0 [] 0 c2 (by decide) (by omega) (Nat.le_refl _) (Nat.zero_le _) ⟨rfl, fun m h => by cases h⟩ (fun d1 d2 h => ok_some ⟨d1, d2, rfl, h⟩)
end CUT
/-- what a cutting leaves in the cutter -/
def cC (sc : Nat → Nat → Nat) (dep : Nat) (l : List Nat) (C : tCut) : Prop := aR (CL sc dep l) C.1 C.2.1 ∧ C.2.2.2.2.1 = L64 l ∧ C.2.2.2.2.2.1 = Int32.ofNat l.length ∧ C.2.2.2.2.2.2.1 = Int32.ofNat dep ∧ agr sc dep l.length l.length C.2.2.2.2.2.2.2.1 C.2.2.2.2.2.2.2.2.1 C.2.2.2.2.2.2.2.2.2.1
def cR (sc : Nat → Nat → Nat) (l : List Nat) (S : tCutR) : Prop := ∀ i m, 1 ≤ m → m ≤ 6 → i + m ≤ l.length → S i m = Int32.ofNat (sc i m)
theorem ok_gb2 {α0 α1 β : Type} {x : Option (α0 × α1)} {k : α0 → α1 → Option β} {Q : β → Prop} (h : Ok x (fun a => Ok (k a.1 a.2) Q)) : Ok (gb2 x k) Q := by
  obtain ⟨a, e, q⟩ := h
  rw [e]
  exact q
theorem sC_le {np : Nat} {pl : Nat → List Nat} {st : Nat → Nat} {b : Bool} {l : List Nat} (h0 : st 0 ≤ 99) (h1 : st 1 ≤ 9) (i n : Nat) (hn : n ≤ 6) : sC np pl st b l i n ≤ 1000000 := by
  rcases sC_bd (np := np) (pl := pl) (b := b) (l := l) h0 h1 i n hn with h | h <;> omega
theorem c_cut0 {p : aPs} {P : tPieces} (hP : cP p P) (hn : p.1 ≤ 24) (hr : okR p.1 p.2.1 12) {st : Nat → Nat} {settings : Nat → Int32} (hs : cS st settings) (h0 : st 0 ≤ 99) (h1 : st 1 ≤ 9) (h2 : st 2 ≤ 9) {l : List Nat} (hw : wf l) (hl : l.length ≤ 12) (b : Bool) (C : tCut) (S : tCutR) {R : Type} {K : tCut → tCutR → Option R} {Q : R → Prop} (hk : ∀ C' S', cC (sC p.1 p.2.1 st b l) (st 2) l C' → cR (sC p.1 p.2.1 st b l) l S' → Ok (K C' S') Q) : Ok (gb2 (fX2_lookUp (L64 l) (if b = true then 1 else 0) C S settings P) fun C_1 S_1 => gb1 (fX2_solve C_1 S_1) fun C_2 => gb1 (fX2_collectParts C_2) fun C_3 => K C_3 S_1) Q := by
  apply ok_gb2
  refine ok_mono (c_lookUp hP hn hr hs hw hl b C S) ?_
  rintro ⟨C1, S1⟩ ⟨e1, e2⟩
  simp only at e1 e2 ⊢
  subst e1
  apply ok_gb1
  refine ok_mono (c_solve (sc := sC p.1 p.2.1 st b l) (dep := st 2) (L := l.length) rfl h2 hl rfl (fun i m a b' c => ⟨e2 i m a b' c, sC_le h0 h1 i m b'⟩)) ?_
  rintro C2 ⟨lc, pc, fl, e, ha⟩
  subst e
  apply ok_gb1
  refine ok_mono (c_collect hw hl ha) ?_
  rintro C3 ⟨d1, d2, e, hr2⟩
  subst e
  exact hk _ _ ⟨hr2, rfl, rfl, rfl, ha⟩ e2
theorem c_cutKnown {p : aPs} {P : tPieces} (hP : cP p P) (hn : p.1 ≤ 24) (hr : okR p.1 p.2.1 12) {st : Nat → Nat} {settings : Nat → Int32} (hs : cS st settings) (h0 : st 0 ≤ 99) (h1 : st 1 ≤ 9) (h2 : st 2 ≤ 9) {l : List Nat} (hw : wf l) (hl : l.length ≤ 12) (C : tCut) (S : tCutR) : Ok (fX2_cutKnown (L64 l) C S settings P) (fun r => cC (sC p.1 p.2.1 st false l) (st 2) l r.1 ∧ cR (sC p.1 p.2.1 st false l) l r.2) :=
  c_cut0 hP hn hr hs h0 h1 h2 hw hl false C S (fun C' S' a b => ok_some ⟨a, b⟩)
/-! new pieces -/
def frs (np : Nat) (pl : Nat → List Nat) : List (List Nat) → List (List Nat) → List (List Nat)
  | acc, [] => acc
  | acc, p :: ps => frs np pl (if fnd np pl p < np ∨ p ∈ acc then acc else acc ++ [p]) ps
def prS (st : Nat → Nat) : List (List Nat) → Nat
  | [] => 0
  | p :: l => st 0 + st 1 * p.length + prS st l
theorem frs_snoc (np : Nat) (pl : Nat → List Nat) : ∀ (acc ps : List (List Nat)) (p : List Nat), frs np pl acc (ps ++ [p]) = if fnd np pl p < np ∨ p ∈ frs np pl acc ps then frs np pl acc ps else frs np pl acc ps ++ [p]
  | acc, [], p => rfl
  | acc, q :: ps, p => by
    rw [List.cons_append, frs, frs]
    exact frs_snoc np pl _ ps p
theorem frs_sub (np : Nat) (pl : Nat → List Nat) : ∀ (acc ps : List (List Nat)) (p : List Nat), p ∈ frs np pl acc ps → p ∈ acc ∨ (p ∈ ps ∧ ¬ fnd np pl p < np)
  | acc, [], p, h => Or.inl h
  | acc, q :: ps, p, h => by
    rw [frs] at h
    rcases frs_sub np pl _ ps p h with h1 | h1
    · by_cases c : fnd np pl q < np ∨ q ∈ acc
      · rw [if_pos c] at h1
        exact Or.inl h1
      · rw [if_neg c] at h1
        rcases List.mem_append.mp h1 with h2 | h2
        · exact Or.inl h2
        · rw [List.mem_singleton] at h2
          subst h2
          exact Or.inr ⟨by simp, fun h => c (Or.inl h)⟩
    · exact Or.inr ⟨by simp [h1.1], h1.2⟩
theorem frs_acc (np : Nat) (pl : Nat → List Nat) : ∀ (acc ps : List (List Nat)) (p : List Nat), p ∈ acc → p ∈ frs np pl acc ps
  | acc, [], p, h => h
  | acc, q :: ps, p, h => by
    rw [frs]
    apply frs_acc
    split
    · exact h
    · exact List.mem_append.mpr (Or.inl h)
theorem frs_mem (np : Nat) (pl : Nat → List Nat) : ∀ (acc ps : List (List Nat)) (p : List Nat), p ∈ ps → ¬ fnd np pl p < np → p ∈ frs np pl acc ps
  | acc, q :: ps, p, h, hu => by
    rw [frs]
    rcases List.mem_cons.mp h with h1 | h1
    · subst h1
      apply frs_acc
      by_cases c : p ∈ acc
      · rw [if_pos (Or.inr c)]; exact c
      · rw [if_neg (by rintro (h | h); exact hu h; exact c h)]
        simp
    · exact frs_mem np pl _ ps p h1 hu
theorem prS_app (st : Nat → Nat) : ∀ (a b : List (List Nat)), prS st (a ++ b) = prS st a + prS st b
  | [], b => by simp [prS]
  | x :: a, b => by
    rw [List.cons_append, prS, prS, prS_app st a b]
    omega
theorem c_occurs_L {ps : List (List Nat)} {C : tCut} (h : aR ps C.1 C.2.1) (hps : ps.length ≤ 12) (hw : ∀ s ∈ ps, wf s ∧ s.length ≤ 12) {j : Nat} (hj : j < ps.length) (k : Option Int32) : ∀ (d i n : Nat), i + d = j → d < n → fX2_occursBefore_L2 (Int32.ofNat j) C k n (Int32.ofNat i) = if ps[j] ∈ (ps.take j).drop i then some (Int32.ofNat 1) else k
  | d, i, 0, _, h2 => by omega
  | 0, i, n + 1, h1, _ => by
    have e : (ps.take j).drop i = [] := List.drop_eq_nil_of_le (by simp; omega)
    simp (disch := omega) only [fX2_occursBefore_L2, e, List.not_mem_nil, J_lt, J_le, J_eq, J_nat, J_add, J_mul, J_sub, J_ne1, J_m1, J_le1, J_1le, J_1lt, J_lt1, J_dec, J_dec0, M1_def, M1_neg, n_leF, n_leT, n_ltF, n_ltT, false_or, or_false, true_or, or_true, and_true, true_and, false_and, and_false, not_true_eq_false, not_false_eq_true, if_true, if_false, ite_true, ite_false, Lt_eq, cmpJ, gb1_some, gb2_some, gb3_some, gb4_some, gb5_some, gb6_some, gb7_some, gb8_some, Nat.add_zero, Nat.zero_add, Nat.add_sub_cancel, i_0, i_1, i_2, i_3, i_4, i_5, i_6, i_7, i_8, i_9, i_10, i_11, i_12, i_13, i_14, i_15, i_16, i_17, i_18, i_19, i_20, i_21, i_22, i_23, i_24, i_25, i_26, i_27, i_28, i_29, i_31, i_32, i_48, i_57, i_59, i_61, i_63, i_72, i_96, i_97, i_99, i_100, i_122, i_128, i_141, i_160, i_192, i_255, i_256, i_365, i_600, i_730, i_3650, i_9999, i_1000000, -Int32.reduceOfNat]
  | d + 1, i, n + 1, h1, h2 => by
    have e1 := h.2 i (by omega)
    have e2 := h.2 j hj
    have e3 := L64_inj (hw ps[i] (List.getElem_mem _)).1 (hw ps[j] (List.getElem_mem _)).1 (hw ps[i] (List.getElem_mem _)).2 (hw ps[j] (List.getElem_mem _)).2
    have hi : i < (ps.take j).length := by simp; omega
    rw [List.drop_eq_getElem_cons hi, List.getElem_take]
    simp (disch := omega) only [fX2_occursBefore_L2, e1, e2, e3, J_lt, J_le, J_eq, J_nat, J_add, J_mul, J_sub, J_ne1, J_m1, J_le1, J_1le, J_1lt, J_lt1, J_dec, J_dec0, M1_def, M1_neg, n_leF, n_leT, n_ltF, n_ltT, false_or, or_false, true_or, or_true, and_true, true_and, false_and, and_false, not_true_eq_false, not_false_eq_true, if_true, if_false, ite_true, ite_false, Lt_eq, cmpJ, gb1_some, gb2_some, gb3_some, gb4_some, gb5_some, gb6_some, gb7_some, gb8_some, Nat.add_zero, Nat.zero_add, Nat.add_sub_cancel, i_0, i_1, i_2, i_3, i_4, i_5, i_6, i_7, i_8, i_9, i_10, i_11, i_12, i_13, i_14, i_15, i_16, i_17, i_18, i_19, i_20, i_21, i_22, i_23, i_24, i_25, i_26, i_27, i_28, i_29, i_31, i_32, i_48, i_57, i_59, i_61, i_63, i_72, i_96, i_97, i_99, i_100, i_122, i_128, i_141, i_160, i_192, i_255, i_256, i_365, i_600, i_730, i_3650, i_9999, i_1000000, -Int32.reduceOfNat]
    rw [c_occurs_L h hps hw hj k d (i + 1) n (by omega) (by omega)]
    by_cases c : ps[i] = ps[j]
    · rw [if_pos c, if_pos (by rw [c]; simp)]
    · rw [if_neg c]
      have : (ps[j] ∈ ps[i] :: (ps.take j).drop (i + 1)) = (ps[j] ∈ (ps.take j).drop (i + 1)) := by
        apply propext
        rw [List.mem_cons]
        exact ⟨fun h => h.resolve_left (fun e => c e.symm), Or.inr⟩
      simp only [this]
theorem c_occurs {ps : List (List Nat)} {C : tCut} (h : aR ps C.1 C.2.1) (hps : ps.length ≤ 12) (hw : ∀ s ∈ ps, wf s ∧ s.length ≤ 12) {j : Nat} (hj : j < ps.length) : fX2_occursBefore (Int32.ofNat j) C = some (if ps[j] ∈ ps.take j then Int32.ofNat 1 else Int32.ofNat 0) := by
  rw [fX2_occursBefore, show (0 : Int32) = Int32.ofNat 0 from rfl, c_occurs_L h hps hw hj _ j 0 FU (by omega) (by simp only [FU]; omega), List.drop_zero]
  split <;> rfl
theorem c_countNew_L {p : aPs} {P : tPieces} (hP : cP p P) (hn : p.1 ≤ 24) (hr : okR p.1 p.2.1 12) {st : Nat → Nat} {settings : Nat → Int32} (hs : cS st settings) {ps : List (List Nat)} (hps : ps.length ≤ 12) (hw : ∀ s ∈ ps, wf s ∧ s.length ≤ 12) {c1 : Int32} {c2 : Nat → Int64} (h : aR ps c1 c2) {rest : Int64 × Int32 × Int32 × (Nat → Int32) × (Nat → Int32) × (Nat → Int32) × (Nat → Int32)} (k : tCut → Option tCut) : ∀ (d j n : Nat), j + d = ps.length → d < n → fX2_countNew_L12 settings P k n (Int32.ofNat j) (c1, c2, Int32.ofNat (frs p.1 p.2.1 [] (ps.take j)).length, Int32.ofNat (prS st (frs p.1 p.2.1 [] (ps.take j))), rest) = k (c1, c2, Int32.ofNat (frs p.1 p.2.1 [] ps).length, Int32.ofNat (prS st (frs p.1 p.2.1 [] ps)), rest)
  | d, j, 0, _, h2 => by omega
  | 0, j, n + 1, h1, _ => by
    have e : ps.take j = ps := List.take_of_length_le (by omega)
    rw [e]
    simp (disch := omega) only [fX2_countNew_L12, h.1, J_lt, J_le, J_eq, J_nat, J_add, J_mul, J_sub, J_ne1, J_m1, J_le1, J_1le, J_1lt, J_lt1, J_dec, J_dec0, M1_def, M1_neg, n_leF, n_leT, n_ltF, n_ltT, false_or, or_false, true_or, or_true, and_true, true_and, false_and, and_false, not_true_eq_false, not_false_eq_true, if_true, if_false, ite_true, ite_false, Lt_eq, cmpJ, gb1_some, gb2_some, gb3_some, gb4_some, gb5_some, gb6_some, gb7_some, gb8_some, Nat.add_zero, Nat.zero_add, Nat.add_sub_cancel, i_0, i_1, i_2, i_3, i_4, i_5, i_6, i_7, i_8, i_9, i_10, i_11, i_12, i_13, i_14, i_15, i_16, i_17, i_18, i_19, i_20, i_21, i_22, i_23, i_24, i_25, i_26, i_27, i_28, i_29, i_31, i_32, i_48, i_57, i_59, i_61, i_63, i_72, i_96, i_97, i_99, i_100, i_122, i_128, i_141, i_160, i_192, i_255, i_256, i_365, i_600, i_730, i_3650, i_9999, i_1000000, -Int32.reduceOfNat]
  | d + 1, j, n + 1, h1, h2 => by
    have hj : j < ps.length := by omega
    obtain ⟨w1, w2⟩ := hw ps[j] (List.getElem_mem _)
    have e1 := h.2 j hj
    have e2 := c_numP hP hn hr w1 w2
    have e3 := c_occurs (C := (c1, c2, Int32.ofNat (frs p.1 p.2.1 [] (ps.take j)).length, Int32.ofNat (prS st (frs p.1 p.2.1 [] (ps.take j))), rest)) h hps hw hj
    have e4 := c_lengthOf w1 w2
    have ih := c_countNew_L hP hn hr hs hps hw h (rest := rest) k d (j + 1) n (by omega) (by omega)
    have et : ps.take (j + 1) = ps.take j ++ [ps[j]] := by rw [List.take_succ_eq_append_getElem hj]
    rw [et, frs_snoc] at ih
    rw [fX2_countNew_L12]
    simp only [] at ih ⊢
    rw [if_neg (by rw [h.1, J_le _ _ (by omega) (by omega)]; omega), if_neg (by rw [J_nat _ (by omega), i_0, J_lt _ _ (by omega) (by omega)]; omega), J_nat _ (by omega), e1, e2, gb1_some, M1_def, i_1, J_add, e3, gb1_some, e4, gb1_some, c_newPrice hs, gb1_some]
    simp only [nr_eq p.1 p.2.1 ps[j] (show p.1 < 1000000 by omega)]
    by_cases ck : fnd p.1 p.2.1 ps[j] < p.1
    · rw [if_pos (Or.inl ck)] at ih
      rw [if_neg (by simpa using ck)]
      exact ih
    · rw [if_pos ck]
      by_cases co : ps[j] ∈ ps.take j
      · rw [if_pos (Or.inr (frs_mem p.1 p.2.1 [] _ _ co ck))] at ih
        rw [if_pos co, if_neg (by decide)]
        exact ih
      · have hx : ¬ (fnd p.1 p.2.1 ps[j] < p.1 ∨ ps[j] ∈ frs p.1 p.2.1 [] (ps.take j)) := by
          rintro (h | h)
          · exact ck h
          · rcases frs_sub _ _ _ _ _ h with h | h
            · cases h
            · exact co h.1
        rw [if_neg hx, List.length_append, prS_app, List.length_singleton, prS, prS, Nat.add_zero] at ih
        rw [if_neg co, if_pos (by decide), if_neg (by rw [i_0, J_lt _ _ (by omega) (by omega)]; omega), J_add, J_add]
        exact ih
theorem mem_wf {l : List Nat} (hw : wf l) {s : List Nat} {j m : Nat} (h : s = (l.drop j).take m) : wf s := by
  rw [h]; exact wf_take _ (wf_drop _ hw)
theorem CL_len {sc : Nat → Nat → Nat} {dep : Nat} {l : List Nat} (hl : l.length ≤ 12) (hf : (TB sc dep l.length 0).1 < 1000000) : (CL sc dep l).length ≤ 12 := by
  rw [(CL_ok hl hf).2.1]
  have := (TB_bd sc dep l.length 0).2
  omega
theorem c_cutCheapest {p : aPs} {P : tPieces} (hP : cP p P) (hn : p.1 ≤ 24) (hr : okR p.1 p.2.1 12) {st : Nat → Nat} {settings : Nat → Int32} (hs : cS st settings) (h0 : st 0 ≤ 99) (h1 : st 1 ≤ 9) (h2 : st 2 ≤ 9) {l : List Nat} (hw : wf l) (hl : l.length ≤ 12) (C : tCut) (S : tCutR) : Ok (fX2_cutCheapest (L64 l) C S settings P) (fun r => cC (sC p.1 p.2.1 st true l) (st 2) l r.1 ∧ r.1.2.2.1 = Int32.ofNat (frs p.1 p.2.1 [] (CL (sC p.1 p.2.1 st true l) (st 2) l)).length ∧ r.1.2.2.2.1 = Int32.ofNat (prS st (frs p.1 p.2.1 [] (CL (sC p.1 p.2.1 st true l) (st 2) l)))) := by
  have hfin : (TB (sC p.1 p.2.1 st true l) (st 2) l.length 0).1 < 1000000 := by
    have := TB_bought (np := p.1) (pl := p.2.1) h0 h1 h2 hl l.length 0 (by omega)
    omega
  obtain ⟨o1, o2, o3⟩ := CL_ok hl hfin
  refine c_cut0 hP hn hr hs h0 h1 h2 hw hl true C S (fun C' S' a b => ?_)
  apply ok_gb1
  obtain ⟨a1, a2⟩ := a
  have := c_countNew_L hP hn hr hs (CL_len hl hfin) (fun s hs => by
    obtain ⟨s1, s2, j, m, s3, _⟩ := o3 s hs
    exact ⟨mem_wf hw s3, by omega⟩) a1 (rest := C'.2.2.2.2) (fun x => some x) (CL (sC p.1 p.2.1 st true l) (st 2) l).length 0 FU (by omega) (by have := CL_len hl hfin; simp only [FU]; omega)
  rw [fX2_countNew]
  rw [List.take_zero] at this
  refine ok_of_eq this (ok_some ⟨⟨a1, a2⟩, rfl, rfl⟩)
theorem tb_congr {sc sc' : Nat → Nat → Nat} {dep L : Nat} (h : ∀ i m, 1 ≤ m → m ≤ 6 → i + m ≤ L → sc i m = sc' i m) : ∀ j, j ≤ L → tb sc dep L j = tb sc' dep L j
  | 0, _ => rfl
  | j + 1, hj => by
    have ih := tb_congr (dep := dep) h j (by omega)
    unfold tb
    rw [ih]
    congr 1
    have hl := lg_le L (L - (j + 1))
    have key : ∀ (n : Nat) (cur : Nat × Nat × Nat), n ≤ lg L (L - (j + 1)) → inn sc dep (tb sc' dep L j) (L - (j + 1)) n cur = inn sc' dep (tb sc' dep L j) (L - (j + 1)) n cur := by
      intro n
      induction n with
      | zero => intro cur _; rfl
      | succ n ihn =>
        intro cur hn
        unfold inn
        have e : stp sc dep (tb sc' dep L j) (L - (j + 1)) (n + 1) cur = stp sc' dep (tb sc' dep L j) (L - (j + 1)) (n + 1) cur := by
          unfold stp
          rw [h _ (n + 1) (by omega) (by omega) (by omega)]
        rw [e]
        exact ihn _ (by omega)
    exact key _ _ (Nat.le_refl _)
theorem TB_congr {sc sc' : Nat → Nat → Nat} {dep L : Nat} (h : ∀ i m, 1 ≤ m → m ≤ 6 → i + m ≤ L → sc i m = sc' i m) : TB sc dep L = TB sc' dep L := tb_congr h L (Nat.le_refl _)
/-! surcharges set for one piece -/
def sSet (sc : Nat → Nat → Nat) (l s : List Nat) (v : Nat) (i m : Nat) : Nat := if (l.drop i).take m = s then v else sc i m
section CUT
variable {c1 c3 c4 dp len : Int32} {c2 : Nat → Int64} {lc pc fl wc : Nat → Int32}
theorem c_setSur_L {l : List Nat} (hw : wf l) (hl : l.length ≤ 12) {s : List Nat} (hs : wf s) (hs1 : 1 ≤ s.length) (hs6 : s.length ≤ 6) {sc : Nat → Nat → Nat} (v : Nat) {C : tCut} (hrow : C.2.2.2.2.1 = L64 l) (hlen : C.2.2.2.2.2.1 = Int32.ofNat l.length) {k : Int32 → tCutR → Option (Int32 × tCutR)} {Q : Int32 × tCutR → Prop} (hk : ∀ (c : Nat) S, c ≤ 1 → (c = 0 → ∀ i, i + s.length ≤ l.length → (l.drop i).take s.length ≠ s) → cR (sSet sc l s v) l S → Ok (k (Int32.ofNat c) S) Q) : ∀ (d i n c : Nat) (S : tCutR), i + d = l.length + 1 - s.length → l.length + 1 - i < n → c ≤ 1 → (c = 0 → ∀ j, j < i → (l.drop j).take s.length ≠ s) → (∀ j m, 1 ≤ m → m ≤ 6 → j + m ≤ l.length → S j m = Int32.ofNat (if j < i then sSet sc l s v j m else sc j m)) → Ok (fX2_setSurcharge_L6 (L64 s) (Int32.ofNat s.length) (Int32.ofNat v) C k n (Int32.ofNat c) (Int32.ofNat i) S) Q
  | d, i, 0, c, S, _, h2, _, _, _ => by omega
  | 0, i, n + 1, c, S, h1, h2, h3, h4, h5 => by
    by_cases hx : i + s.length ≤ l.length
    · omega
    · simp (disch := omega) only [fX2_setSurcharge_L6, hlen, J_lt, J_le, J_eq, J_nat, J_add, J_mul, J_sub, J_ne1, J_m1, J_le1, J_1le, J_1lt, J_lt1, J_dec, J_dec0, M1_def, M1_neg, n_leF, n_leT, n_ltF, n_ltT, false_or, or_false, true_or, or_true, and_true, true_and, false_and, and_false, not_true_eq_false, not_false_eq_true, if_true, if_false, ite_true, ite_false, Lt_eq, cmpJ, gb1_some, gb2_some, gb3_some, gb4_some, gb5_some, gb6_some, gb7_some, gb8_some, Nat.add_zero, Nat.zero_add, Nat.add_sub_cancel, i_0, i_1, i_2, i_3, i_4, i_5, i_6, i_7, i_8, i_9, i_10, i_11, i_12, i_13, i_14, i_15, i_16, i_17, i_18, i_19, i_20, i_21, i_22, i_23, i_24, i_25, i_26, i_27, i_28, i_29, i_31, i_32, i_48, i_57, i_59, i_61, i_63, i_72, i_96, i_97, i_99, i_100, i_122, i_128, i_141, i_160, i_192, i_255, i_256, i_365, i_600, i_730, i_3650, i_9999, i_1000000, -Int32.reduceOfNat]
      refine hk c S h3 (fun hc j hj => h4 hc j (by omega)) (fun j m a b e => ?_)
      rw [h5 j m a b e]
      by_cases hji : j < i
      · rw [if_pos hji]
      · rw [if_neg hji, sSet, if_neg]
        intro he
        have := congrArg List.length he
        simp at this
        omega
  | d + 1, i, n + 1, c, S, h1, h2, h3, h4, h5 => by
    have hx : i + s.length ≤ l.length := by omega
    have e1 := c_section hw hl (s := i) (n := s.length) (by omega) (by omega)
    have hlen2 : ((l.drop i).take s.length).length = s.length := by simp; omega
    have e2 := L64_inj (wf_take s.length (wf_drop i hw)) hs (by omega) (by omega)
    simp (disch := omega) only [fX2_setSurcharge_L6, hlen, hrow, e1, e2, J_lt, J_le, J_eq, J_nat, J_add, J_mul, J_sub, J_ne1, J_m1, J_le1, J_1le, J_1lt, J_lt1, J_dec, J_dec0, M1_def, M1_neg, n_leF, n_leT, n_ltF, n_ltT, false_or, or_false, true_or, or_true, and_true, true_and, false_and, and_false, not_true_eq_false, not_false_eq_true, if_true, if_false, ite_true, ite_false, Lt_eq, cmpJ, gb1_some, gb2_some, gb3_some, gb4_some, gb5_some, gb6_some, gb7_some, gb8_some, Nat.add_zero, Nat.zero_add, Nat.add_sub_cancel, i_0, i_1, i_2, i_3, i_4, i_5, i_6, i_7, i_8, i_9, i_10, i_11, i_12, i_13, i_14, i_15, i_16, i_17, i_18, i_19, i_20, i_21, i_22, i_23, i_24, i_25, i_26, i_27, i_28, i_29, i_31, i_32, i_48, i_57, i_59, i_61, i_63, i_72, i_96, i_97, i_99, i_100, i_122, i_128, i_141, i_160, i_192, i_255, i_256, i_365, i_600, i_730, i_3650, i_9999, i_1000000, -Int32.reduceOfNat]
    by_cases he : (l.drop i).take s.length = s
    · rw [if_pos he]
      refine c_setSur_L hw hl hs hs1 hs6 v hrow hlen hk d (i + 1) n 1 _ (by omega) (by omega) (Nat.le_refl _) (fun h => absurd h (by decide)) (fun j m a b e => ?_)
      by_cases hj : j = i ∧ m = s.length
      · obtain ⟨hj1, hj2⟩ := hj
        subst hj1
        rw [hj2, upd2_eq, if_pos (by omega), sSet, if_pos he]
      · rw [upd2_ne _ _ _ _ _ _ hj, h5 j m a b e]
        by_cases hji : j < i
        · rw [if_pos hji, if_pos (by omega)]
        · rw [if_neg hji]
          by_cases hj2 : j = i
          · rw [if_pos (by omega), sSet, if_neg]
            intro he2
            have := congrArg List.length he2
            simp at this
            omega
          · rw [if_neg (by omega)]
    · rw [if_neg he]
      refine c_setSur_L hw hl hs hs1 hs6 v hrow hlen hk d (i + 1) n c _ (by omega) (by omega) h3 (fun hc j hj => ?_) (fun j m a b e => ?_)
      · by_cases hji : j = i
        · rw [hji]; exact he
        · exact h4 hc j (by omega)
      · rw [h5 j m a b e]
        by_cases hji : j < i
        · rw [if_pos hji, if_pos (by omega)]
        · rw [if_neg hji]
          by_cases hj2 : j = i
          · subst hj2
            rw [if_pos (by omega), sSet, if_neg]
            intro he2
            have := congrArg List.length he2
            simp at this
            have hm : m = s.length := by omega
            rw [hm] at he2
            exact he he2
          · rw [if_neg (by omega)]
end CUT
theorem c_setSur {l : List Nat} (hw : wf l) (hl : l.length ≤ 12) {s : List Nat} (hs : wf s) (hs1 : 1 ≤ s.length) (hs6 : s.length ≤ 6) {sc : Nat → Nat → Nat} (v : Nat) {C : tCut} (hrow : C.2.2.2.2.1 = L64 l) (hlen : C.2.2.2.2.2.1 = Int32.ofNat l.length) {S : tCutR} (hS : cR sc l S) : Ok (fX2_setSurcharge (L64 s) (Int32.ofNat s.length) (Int32.ofNat v) C S) (fun r => (r.1 = Int32.ofNat 0 ∧ (∀ i, i + s.length ≤ l.length → (l.drop i).take s.length ≠ s) ∨ r.1 = Int32.ofNat 1) ∧ cR (sSet sc l s v) l r.2) := by
  rw [fX2_setSurcharge]
  refine c_setSur_L hw hl hs hs1 hs6 v hrow hlen (fun c S' hc h0 h => ?_) (l.length + 1 - s.length) 0 FU 0 S (by omega) (by simp only [FU]; omega) (by omega) (fun _ j hj => by omega) (fun j m a b e => by rw [if_neg (by omega)]; exact hS j m a b e)
  have hcc : c = 0 ∨ c = 1 := by omega
  rcases hcc with hc | hc
  · subst hc
    rw [if_pos (by decide)]
    exact ok_some ⟨Or.inl ⟨rfl, h0 rfl⟩, h⟩
  · subst hc
    rw [if_pos (by decide)]
    exact ok_some ⟨Or.inr rfl, h⟩
