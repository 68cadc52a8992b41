/-! the class's cutter -/
def jl (sc : Nat → Nat → Nat) (L i n : Nat) (S : tCutR) : Prop := (∀ i', i' < i → ∀ m, 1 ≤ m → m ≤ 6 → i' + m ≤ L → S i' m = Int32.ofNat (sc i' m)) ∧ ∀ m, 1 ≤ m → m < n → m ≤ 6 → i + m ≤ L → S i m = Int32.ofNat (sc i m)
theorem upd2_eq (S : Nat → Nat → Int32) (i j : Nat) (v : Int32) : upd2 S i j v i j = v := by simp [upd2, upd]
theorem upd2_ne (S : Nat → Nat → Int32) (i j : Nat) (v : Int32) (a b : Nat) (h : ¬ (a = i ∧ b = j)) : upd2 S i j v a b = S a b := by
  unfold upd2
  by_cases h1 : a = i
  · rw [if_pos h1, h1, upd_ne _ _ _ _ (fun h2 => h ⟨h1, h2⟩)]
  · rw [if_neg h1]
theorem jl_step {sc : Nat → Nat → Nat} {L i n : Nat} {S : tCutR} (h : jl sc L i n S) (v : Int32) (hv : v = Int32.ofNat (sc i n)) : jl sc L i (n + 1) (upd2 S i n v) := by
  constructor
  · intro i' hi m a b c
    rw [upd2_ne _ _ _ _ _ _ (by omega)]
    exact h.1 i' hi m a b c
  · intro m a b c d
    by_cases hm : m = n
    · rw [hm, upd2_eq, hv]
    · rw [upd2_ne _ _ _ _ _ _ (by omega)]
      exact h.2 m a (by omega) c d
theorem nr_eq (n : Nat) (f : Nat → List Nat) (x : List Nat) (hn : n < 1000000) : (nr n f x = M1) = ¬ (fnd n f x < n) := by
  unfold nr
  by_cases h : fnd n f x < n
  · rw [if_pos h, J_ne1 _ (by omega)]
    simp [h]
  · rw [if_neg h]
    simp [h]
section CUT
variable {c1 c3 c4 dp len : Int32} {c2 : Nat → Int64} {lc pc fl wc : Nat → Int32}
theorem c_look37 {p : aPs} {P : tPieces} (hP : cP p P) (hn : p.1 ≤ 24) (hr : okR p.1 p.2.1 12) {st : Nat → Nat} {settings : Nat → Int32} (hs : cS st settings) {l : List Nat} (hw : wf l) (hl : l.length ≤ 12) (b : Bool) {k : tCutR → Option (tCut × tCutR)} {Q : tCut × tCutR → Prop} {i : Nat} (hi : i < l.length) (hlen : len = Int32.ofNat l.length) (hk : ∀ S, jl (sC p.1 p.2.1 st b l) l.length i 7 S → Ok (k S) Q) : ∀ (d n f : Nat) (S : tCutR), n + d = lg l.length i + 1 → d < f → 1 ≤ n → jl (sC p.1 p.2.1 st b l) l.length i n S → Ok (fX2_lookUp_L37 (if b = true then 1 else 0) (Int32.ofNat i) (c1, c2, c3, c4, L64 l, len, dp, lc, pc, fl, wc) settings P k f (Int32.ofNat n) S) Q
  | d, n, 0, S, _, h, _, _ => by omega
  | 0, n, f + 1, S, h1, _, h3, hj => by
    have hlg := lg_le l.length i
    rw [fX2_lookUp_L37, c_longest hl (by omega) hlen, gb1_some]
    simp (disch := omega) only [J_lt, J_le, J_eq, J_nat, J_add, J_mul, J_sub, J_ne1, J_m1, J_le1, J_1le, J_1lt, J_lt1, J_dec, J_dec0, M1_def, M1_neg, n_leF, n_leT, n_ltF, n_ltT, false_or, or_false, true_or, or_true, and_true, true_and, false_and, and_false, not_true_eq_false, not_false_eq_true, if_true, if_false, ite_true, ite_false, Lt_eq, cmpJ, gb1_some, gb2_some, gb3_some, gb4_some, gb5_some, gb6_some, gb7_some, gb8_some, Nat.add_zero, Nat.zero_add, Nat.add_sub_cancel, i_0, i_1, i_2, i_3, i_4, i_5, i_6, i_7, i_8, i_9, i_10, i_11, i_12, i_13, i_14, i_15, i_16, i_17, i_18, i_19, i_20, i_21, i_22, i_23, i_24, i_25, i_26, i_27, i_28, i_29, i_31, i_32, i_48, i_57, i_59, i_61, i_63, i_72, i_96, i_97, i_99, i_100, i_122, i_128, i_141, i_160, i_192, i_255, i_256, i_365, i_600, i_730, i_3650, i_9999, i_1000000, -Int32.reduceOfNat]
    refine hk S ⟨hj.1, fun m a b' c e => hj.2 m a ?_ c e⟩
    have := hlg.2.2 m c (by omega)
    omega
  | d + 1, n, f + 1, S, h1, h2, h3, hj => by
    have hlg := lg_le l.length i
    have hsec : ((l.drop i).take n).length = n := by simp; omega
    rw [fX2_lookUp_L37, c_longest hl (by omega) hlen, gb1_some]
    have e1 := c_section hw hl (s := i) (n := n) (by omega) (by omega)
    have e2 := c_numP hP hn hr (x := (l.drop i).take n) (wf_take _ (wf_drop _ hw)) (by omega)
    simp (disch := omega) only [e1, e2, J_lt, J_le, J_eq, J_nat, J_add, J_mul, J_sub, J_ne1, J_m1, J_le1, J_1le, J_1lt, J_lt1, J_dec, J_dec0, M1_def, M1_neg, n_leF, n_leT, n_ltF, n_ltT, false_or, or_false, true_or, or_true, and_true, true_and, false_and, and_false, not_true_eq_false, not_false_eq_true, if_true, if_false, ite_true, ite_false, Lt_eq, cmpJ, gb1_some, gb2_some, gb3_some, gb4_some, gb5_some, gb6_some, gb7_some, gb8_some, Nat.add_zero, Nat.zero_add, Nat.add_sub_cancel, i_0, i_1, i_2, i_3, i_4, i_5, i_6, i_7, i_8, i_9, i_10, i_11, i_12, i_13, i_14, i_15, i_16, i_17, i_18, i_19, i_20, i_21, i_22, i_23, i_24, i_25, i_26, i_27, i_28, i_29, i_31, i_32, i_48, i_57, i_59, i_61, i_63, i_72, i_96, i_97, i_99, i_100, i_122, i_128, i_141, i_160, i_192, i_255, i_256, i_365, i_600, i_730, i_3650, i_9999, i_1000000, -Int32.reduceOfNat]
    rw [show (Int32.ofNat 1 : Int32) = Int32.ofNat 1 from rfl]
    simp only [nr_eq p.1 p.2.1 _ (show p.1 < 1000000 by omega)]
    have ih := fun v (hv : v = Int32.ofNat (sC p.1 p.2.1 st b l i n)) => c_look37 hP hn hr hs hw hl b hi hlen hk d (n + 1) f (upd2 S i n v) (by omega) (by omega) (by omega) (jl_step hj v hv)
    by_cases hf : fnd p.1 p.2.1 ((l.drop i).take n) < p.1
    · rw [if_neg (by simpa using hf)]
      exact ih _ (by unfold sC; rw [if_pos hf])
    · rw [if_pos hf]
      cases b with
      | true =>
        rw [if_neg (by decide), c_newPrice hs, gb1_some]
        exact ih _ (by unfold sC; rw [if_neg hf, if_pos rfl])
      | false =>
        rw [if_pos (by decide)]
        exact ih _ (by unfold sC; rw [if_neg hf, if_neg (by decide)])
theorem c_look25 {p : aPs} {P : tPieces} (hP : cP p P) (hn : p.1 ≤ 24) (hr : okR p.1 p.2.1 12) {st : Nat → Nat} {settings : Nat → Int32} (hs : cS st settings) {l : List Nat} (hw : wf l) (hl : l.length ≤ 12) (b : Bool) {k : tCutR → Option (tCut × tCutR)} {Q : tCut × tCutR → Prop} (hlen : len = Int32.ofNat l.length) (hk : ∀ S, (∀ i m, 1 ≤ m → m ≤ 6 → i + m ≤ l.length → S i m = Int32.ofNat (sC p.1 p.2.1 st b l i m)) → Ok (k S) Q) : ∀ (d i f : Nat) (S : tCutR), i + d = l.length → d < f → jl (sC p.1 p.2.1 st b l) l.length i 1 S → Ok (fX2_lookUp_L25 (if b = true then 1 else 0) (c1, c2, c3, c4, L64 l, len, dp, lc, pc, fl, wc) settings P k f (Int32.ofNat i) S) Q
  | d, i, 0, S, _, h, _ => by omega
  | 0, i, f + 1, S, h1, _, hj => by
    simp (disch := omega) only [fX2_lookUp_L25, hlen, J_lt, J_le, J_eq, J_nat, J_add, J_mul, J_sub, J_ne1, J_m1, J_le1, J_1le, J_1lt, J_lt1, J_dec, J_dec0, M1_def, M1_neg, n_leF, n_leT, n_ltF, n_ltT, false_or, or_false, true_or, or_true, and_true, true_and, false_and, and_false, not_true_eq_false, not_false_eq_true, if_true, if_false, ite_true, ite_false, Lt_eq, cmpJ, gb1_some, gb2_some, gb3_some, gb4_some, gb5_some, gb6_some, gb7_some, gb8_some, Nat.add_zero, Nat.zero_add, Nat.add_sub_cancel, i_0, i_1, i_2, i_3, i_4, i_5, i_6, i_7, i_8, i_9, i_10, i_11, i_12, i_13, i_14, i_15, i_16, i_17, i_18, i_19, i_20, i_21, i_22, i_23, i_24, i_25, i_26, i_27, i_28, i_29, i_31, i_32, i_48, i_57, i_59, i_61, i_63, i_72, i_96, i_97, i_99, i_100, i_122, i_128, i_141, i_160, i_192, i_255, i_256, i_365, i_600, i_730, i_3650, i_9999, i_1000000, -Int32.reduceOfNat]
    exact hk S (fun i' m a b c => hj.1 i' (by omega) m a b c)
  | d + 1, i, f + 1, S, h1, h2, hj => by
    have hlg := lg_le l.length i
    have h37 := c_look37 (c1 := c1) (c2 := c2) (c3 := c3) (c4 := c4) (dp := dp) (lc := lc) (pc := pc) (fl := fl) (wc := wc) (len := len) (k := fun S_1 => fX2_lookUp_L25 (if b = true then 1 else 0) (c1, c2, c3, c4, L64 l, len, dp, lc, pc, fl, wc) settings P k f (Int32.ofNat (i + 1)) S_1) (Q := Q) hP hn hr hs hw hl b (show i < l.length by omega) hlen (fun S' hj' => c_look25 hP hn hr hs hw hl b hlen hk d (i + 1) f S' (by omega) (by omega) ⟨fun i' hi m a b c => by
      by_cases hx : i' = i
      · subst hx
        exact hj'.2 m a (by omega) b c
      · exact hj'.1 i' (by omega) m a b c, fun m a b => by omega⟩) (lg l.length i) 1 FU S (by omega) (by simp only [FU]; omega) (Nat.le_refl _) hj
    rw [fX2_lookUp_L25]
    simp only [] at h37 ⊢
    rw [if_neg (by rw [hlen, J_le _ _ (by omega) (by omega)]; omega), i_1, J_add]
    exact h37
end CUT
theorem c_lookUp {p : aPs} {P : tPieces} (hP : cP p P) (hn : p.1 ≤ 24) (hr : okR p.1 p.2.1 12) {st : Nat → Nat} {settings : Nat → Int32} (hs : cS st settings) {l : List Nat} (hw : wf l) (hl : l.length ≤ 12) (b : Bool) (C : tCut) (S : tCutR) : Ok (fX2_lookUp (L64 l) (if b = true then 1 else 0) C S settings P) (fun r => r.1 = (C.1, C.2.1, C.2.2.1, C.2.2.2.1, L64 l, Int32.ofNat l.length, Int32.ofNat (st 2), C.2.2.2.2.2.2.2.1, C.2.2.2.2.2.2.2.2.1, C.2.2.2.2.2.2.2.2.2.1, C.2.2.2.2.2.2.2.2.2.2) ∧ ∀ i m, 1 ≤ m → m ≤ 6 → i + m ≤ l.length → r.2 i m = Int32.ofNat (sC p.1 p.2.1 st b l i m)) := by
  obtain ⟨c1, c2, c3, c4, row, len, dp, lc, pc, fl, wc⟩ := C
  rw [fX2_lookUp, c_lengthOf hw hl, gb1_some, i_1, c_depositsFor hs, gb1_some, Nat.mul_one]
  exact c_look25 (len := Int32.ofNat l.length) hP hn hr hs hw hl b rfl (fun S h => ok_some ⟨rfl, h⟩) l.length 0 FU S (by omega) (by simp only [FU]; omega) ⟨fun i' hi => by omega, fun m a b => by omega⟩
