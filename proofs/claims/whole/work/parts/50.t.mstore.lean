/-! the reference's changes: pieces bought, words stored -/
theorem mU_fr {u : aUs} {now now' : Nat → Int32} (h : mU u now) (hu : u.1 ≤ 4) (hf : ∀ k, (k = 5 ∨ (17 ≤ k ∧ k < 21)) → now' k = now k) : mU u now' := ⟨by rw [hf 5 (Or.inl rfl)]; exact h.1, fun i hi => by rw [hf (17 + i) (by omega)]; exact h.2 i hi⟩
theorem mP_fr {p : aPs} {now now' : Nat → Int32} (h : mP p now) (hn : p.1 ≤ 24) (hf : ∀ k, (k = 9 ∨ (21 ≤ k ∧ k < 141)) → now' k = now k) : mP p now' := ⟨by rw [hf 9 (Or.inl rfl)]; exact h.1, fun q hq => by
  rw [hf (21 + 5 * q) (by omega), hf (21 + 5 * q + 1) (by omega), hf (21 + 5 * q + 2) (by omega), hf (21 + 5 * q + 3) (by omega), hf (21 + 5 * q + 4) (by omega)]
  exact h.2 q hq⟩
theorem mR_fr {own : Nat} {pa : List Nat} {i : Nat} {now now' : Nat → Int32} (h : mR own pa i now) (hl : pa.length ≤ 12) (hf : ∀ k, 141 + 14 * i ≤ k → k < 141 + 14 * i + 14 → now' k = now k) : mR own pa i now' := by
  obtain ⟨a, b, c⟩ := h
  refine ⟨by rw [hf _ (by omega) (by omega)]; exact a, by rw [hf _ (by omega) (by omega)]; exact b, fun k hk => ?_⟩
  rw [hf _ (by omega) (by omega)]
  exact c k hk
theorem mW_fr {w : aWs} {now now' : Nat → Int32} (h : mW w now) (hf : ∀ k, (k = 10 ∨ 141 ≤ k) → now' k = now k) : mW w now' := ⟨by rw [hf 10 (Or.inl rfl)]; exact h.1, fun i hi => by
  obtain ⟨a, b, c⟩ := h.2 i hi
  refine ⟨by rw [hf (141 + 14 * i) (by omega)]; exact a, by rw [hf (141 + 14 * i + 1) (by omega)]; exact b, fun k hk => by rw [hf (141 + 14 * i + 2 + k) (by omega)]; exact c k hk⟩⟩
theorem mS_fr {st : Nat → Nat} {now now' : Nat → Int32} (h : mS st now) (hf : ∀ k, k < 5 → now' k = now k) : mS st now' := fun i hi => by rw [hf i hi]; exact h i hi
theorem mA_fr {f now now' : Nat → Int32} (h : mA f now) (hf : ∀ k, 11 ≤ k → k < 17 → now' k = now k) : mA f now' := fun i hi => by rw [hf (11 + i) (by omega) (by omega)]; exact h i hi
theorem m_usesUp {p : aPs} {now : Nat → Int32} (hP : mP p now) (hn : p.1 ≤ 24) {q : Nat} (hq : q < p.1) (hb : p.2.2.2.2.1 q < 1000000) : Ok (fX10_uses (Int32.ofNat q) 1 now) (fun now' => mP (pUse p q) now' ∧ ∀ k, ¬ (21 ≤ k ∧ k < 141) → now' k = now k) := by
  obtain ⟨_, _, _, e3, _⟩ := hP.2 q hq
  have eo := m_ofPiece (q := q) (w := 3) (upd now (21 + 5 * q + 3) (Int32.ofNat (p.2.2.2.2.1 q + 1))) (by omega) (by omega)
  rw [upd_eq] at eo
  simp (disch := omega) only [fX10_uses, e3, eo, J_lt, J_le, J_eq, J_nat, J_add, J_mul, J_sub, J_ne1, J_m1, J_le1, J_1le, J_1lt, J_lt1, J_dec, J_dec0, M1_def, M1_neg, n_leF, n_leT, n_ltF, n_ltT, false_or, or_false, true_or, or_true, and_true, true_and, false_and, and_false, not_true_eq_false, not_false_eq_true, if_true, if_false, ite_true, ite_false, Lt_eq, cmpJ, gb1_some, gb2_some, gb3_some, gb4_some, gb5_some, gb6_some, gb7_some, gb8_some, Nat.add_zero, Nat.zero_add, Nat.add_sub_cancel, i_0, i_1, i_2, i_3, i_4, i_5, i_6, i_7, i_8, i_9, i_10, i_11, i_12, i_13, i_14, i_15, i_16, i_17, i_18, i_19, i_20, i_21, i_22, i_23, i_24, i_25, i_26, i_27, i_28, i_29, i_31, i_32, i_48, i_57, i_59, i_61, i_63, i_72, i_96, i_97, i_99, i_100, i_122, i_128, i_141, i_160, i_192, i_255, i_256, i_365, i_600, i_730, i_3650, i_9999, i_1000000, -Int32.reduceOfNat]
  refine ok_some ⟨⟨?_, fun x hx => ?_⟩, fun k hk => upd_ne _ _ _ _ (by omega)⟩
  · rw [upd_ne _ _ _ _ (by omega)]; exact hP.1
  · have := hP.2 x hx
    by_cases c : x = q
    · subst c
      simp only [pUse, up_eq, upd_eq]
      rw [upd_ne _ _ _ _ (by omega), upd_ne _ _ _ _ (by omega), upd_ne _ _ _ _ (by omega), upd_ne _ _ _ _ (by omega)]
      exact ⟨this.1, this.2.1, this.2.2.1, trivial, this.2.2.2.2⟩
    · simp only [pUse, up_ne _ _ _ _ c]
      rw [upd_ne _ _ _ _ (by omega), upd_ne _ _ _ _ (by omega), upd_ne _ _ _ _ (by omega), upd_ne _ _ _ _ (by omega), upd_ne _ _ _ _ (by omega)]
      exact this
theorem J_subm (a : Nat) (h : 1 ≤ a) : Int32.ofNat a + M1 = Int32.ofNat (a - 1) := J_dec a h
theorem m_usesDn {p : aPs} {now : Nat → Int32} (hP : mP p now) (hn : p.1 ≤ 24) {q : Nat} (hq : q < p.1) (hu : 1 ≤ p.2.2.2.2.1 q) (hb : p.2.2.2.2.1 q < 1000000) : Ok (fX10_uses (Int32.ofNat q) (-1) now) (fun now' => mP (pEnd p q (now 6)) now' ∧ ∀ k, ¬ (21 ≤ k ∧ k < 141) → now' k = now k) := by
  obtain ⟨_, _, _, e3, _⟩ := hP.2 q hq
  have eo := m_ofPiece (q := q) (w := 3) (upd now (21 + 5 * q + 3) (Int32.ofNat (p.2.2.2.2.1 q - 1))) (by omega) (by omega)
  rw [upd_eq] at eo
  simp (disch := omega) only [fX10_uses, e3, eo, J_lt, J_le, J_eq, J_nat, J_add, J_mul, J_sub, J_ne1, J_m1, J_le1, J_1le, J_1lt, J_lt1, J_dec, J_dec0, M1_def, M1_neg, n_leF, n_leT, n_ltF, n_ltT, false_or, or_false, true_or, or_true, and_true, true_and, false_and, and_false, not_true_eq_false, not_false_eq_true, if_true, if_false, ite_true, ite_false, Lt_eq, cmpJ, gb1_some, gb2_some, gb3_some, gb4_some, gb5_some, gb6_some, gb7_some, gb8_some, Nat.add_zero, Nat.zero_add, Nat.add_sub_cancel, i_0, i_1, i_2, i_3, i_4, i_5, i_6, i_7, i_8, i_9, i_10, i_11, i_12, i_13, i_14, i_15, i_16, i_17, i_18, i_19, i_20, i_21, i_22, i_23, i_24, i_25, i_26, i_27, i_28, i_29, i_31, i_32, i_48, i_57, i_59, i_61, i_63, i_72, i_96, i_97, i_99, i_100, i_122, i_128, i_141, i_160, i_192, i_255, i_256, i_365, i_600, i_730, i_3650, i_9999, i_1000000, -Int32.reduceOfNat]
  by_cases c0 : p.2.2.2.2.1 q = 1
  · rw [if_pos (by omega)]
    refine ok_some ⟨⟨?_, fun x hx => ?_⟩, fun k hk => by rw [upd_ne _ _ _ _ (by omega), upd_ne _ _ _ _ (by omega)]⟩
    · rw [upd_ne _ _ _ _ (by omega), upd_ne _ _ _ _ (by omega)]; exact hP.1
    · have := hP.2 x hx
      by_cases c : x = q
      · subst c
        simp only [pEnd, up_eq, c0, if_true]
        rw [upd_ne _ _ _ _ (by omega), upd_ne _ _ _ _ (by omega), upd_ne _ _ _ _ (by omega), upd_ne _ _ _ _ (by omega), upd_ne _ _ _ _ (by omega), upd_ne _ _ _ _ (by omega), upd_ne _ _ _ _ (by omega), upd_eq, upd_eq, upd_ne _ _ _ _ (by omega)]
        exact ⟨this.1, this.2.1, this.2.2.1, rfl, rfl⟩
      · simp only [pEnd, up_ne _ _ _ _ c, c0, if_true]
        rw [upd_ne _ _ _ _ (by omega), upd_ne _ _ _ _ (by omega), upd_ne _ _ _ _ (by omega), upd_ne _ _ _ _ (by omega), upd_ne _ _ _ _ (by omega), upd_ne _ _ _ _ (by omega), upd_ne _ _ _ _ (by omega), upd_ne _ _ _ _ (by omega), upd_ne _ _ _ _ (by omega), upd_ne _ _ _ _ (by omega)]
        exact this
  · rw [if_neg (by omega)]
    refine ok_some ⟨⟨?_, fun x hx => ?_⟩, fun k hk => upd_ne _ _ _ _ (by omega)⟩
    · rw [upd_ne _ _ _ _ (by omega)]; exact hP.1
    · have := hP.2 x hx
      by_cases c : x = q
      · subst c
        simp only [pEnd, up_eq, c0, if_false]
        rw [upd_ne _ _ _ _ (by omega), upd_ne _ _ _ _ (by omega), upd_ne _ _ _ _ (by omega), upd_eq, upd_ne _ _ _ _ (by omega)]
        exact ⟨this.1, this.2.1, this.2.2.1, rfl, this.2.2.2.2⟩
      · simp only [pEnd, up_ne _ _ _ _ c, c0, if_false]
        rw [upd_ne _ _ _ _ (by omega), upd_ne _ _ _ _ (by omega), upd_ne _ _ _ _ (by omega), upd_ne _ _ _ _ (by omega), upd_ne _ _ _ _ (by omega)]
        exact this
def aBuy (A : aB) (u : Nat) (s : List Nat) : aB :=
  ((A.1.1, A.1.2.1, up A.1.2.2 u (A.1.2.2 u - (A.2.2.2.1 0 + A.2.2.2.1 1 * s.length))), pBuy A.2.2.2.1 (Int32.ofNat u) A.2.2.2.2.2.1 A.2.1 s, A.2.2.1, A.2.2.2.1, sBuy A.2.2.2.2.1 (A.2.2.2.1 0 + A.2.2.2.1 1 * s.length) 1, A.2.2.2.2.2.1, A.2.2.2.2.2.2.1 + Int32.ofNat (A.2.2.2.1 0 + A.2.2.2.1 1 * s.length), A.2.2.2.2.2.2.2)
theorem m_pays (now : Nat → Int32) {u : Nat} (hu : u < 4) (x : Int32) {t a : Nat} (ht : t < 11) (ha : a < 6) : fX10_pays (Int32.ofNat u) x (Int32.ofNat t) (Int32.ofNat a) now = some (upd (upd (upd now (17 + u) (now (17 + u) - x)) t (now t + x)) (11 + a) (now (11 + a) + x)) := by
  have n1 : t ≠ 17 + u := by omega
  have n2 : 11 + a ≠ t := by omega
  have n3 : 11 + a ≠ 17 + u := by omega
  simp (disch := omega) only [fX10_pays, upd_ne _ _ _ _ n1, upd_ne _ _ _ _ n2, upd_ne _ _ _ _ n3, J_lt, J_le, J_eq, J_nat, J_add, J_mul, J_sub, J_ne1, J_m1, J_le1, J_1le, J_1lt, J_lt1, J_dec, J_dec0, M1_def, M1_neg, n_leF, n_leT, n_ltF, n_ltT, false_or, or_false, true_or, or_true, and_true, true_and, false_and, and_false, not_true_eq_false, not_false_eq_true, if_true, if_false, ite_true, ite_false, Lt_eq, cmpJ, gb1_some, gb2_some, gb3_some, gb4_some, gb5_some, gb6_some, gb7_some, gb8_some, Nat.add_zero, Nat.zero_add, Nat.add_sub_cancel, i_0, i_1, i_2, i_3, i_4, i_5, i_6, i_7, i_8, i_9, i_10, i_11, i_12, i_13, i_14, i_15, i_16, i_17, i_18, i_19, i_20, i_21, i_22, i_23, i_24, i_25, i_26, i_27, i_28, i_29, i_31, i_32, i_48, i_57, i_59, i_61, i_63, i_72, i_96, i_97, i_99, i_100, i_122, i_128, i_141, i_160, i_192, i_255, i_256, i_365, i_600, i_730, i_3650, i_9999, i_1000000, -Int32.reduceOfNat]
theorem m_comes {now : Nat → Int32} {np : Nat} (h9 : now 9 = Int32.ofNat np) (hn : np < 24) (c x o : Int32) : fX10_comes c x o now = some (Int32.ofNat np, upd (upd (upd (upd (upd (upd now (21 + 5 * np) c) (21 + 5 * np + 1) x) (21 + 5 * np + 2) o) (21 + 5 * np + 3) 0) (21 + 5 * np + 4) (now 6)) 9 (Int32.ofNat (np + 1))) := by
  simp (disch := omega) only [fX10_comes, h9, upd_ne, J_lt, J_le, J_eq, J_nat, J_add, J_mul, J_sub, J_ne1, J_m1, J_le1, J_1le, J_1lt, J_lt1, J_dec, J_dec0, M1_def, M1_neg, n_leF, n_leT, n_ltF, n_ltT, false_or, or_false, true_or, or_true, and_true, true_and, false_and, and_false, not_true_eq_false, not_false_eq_true, if_true, if_false, ite_true, ite_false, Lt_eq, cmpJ, gb1_some, gb2_some, gb3_some, gb4_some, gb5_some, gb6_some, gb7_some, gb8_some, Nat.add_zero, Nat.zero_add, Nat.add_sub_cancel, i_0, i_1, i_2, i_3, i_4, i_5, i_6, i_7, i_8, i_9, i_10, i_11, i_12, i_13, i_14, i_15, i_16, i_17, i_18, i_19, i_20, i_21, i_22, i_23, i_24, i_25, i_26, i_27, i_28, i_29, i_31, i_32, i_48, i_57, i_59, i_61, i_63, i_72, i_96, i_97, i_99, i_100, i_122, i_128, i_141, i_160, i_192, i_255, i_256, i_365, i_600, i_730, i_3650, i_9999, i_1000000, -Int32.reduceOfNat]
theorem mP_comes {p : aPs} {now : Nat → Int32} (hP : mP p now) (s : List Nat) (paid : Nat) (own t : Int32) : mP (pAdd p s paid own t) (upd (upd (upd (upd (upd (upd now (21 + 5 * p.1) (B32 s)) (21 + 5 * p.1 + 1) (Int32.ofNat paid)) (21 + 5 * p.1 + 2) own) (21 + 5 * p.1 + 3) 0) (21 + 5 * p.1 + 4) t) 9 (Int32.ofNat (p.1 + 1))) := by
  refine ⟨by rw [upd_eq]; rfl, fun x hx => ?_⟩
  by_cases c : x = p.1
  · subst c
    simp only [pAdd, up_eq]
    simp (disch := omega) only [upd_ne, upd_eq]
    exact ⟨trivial, trivial, trivial, rfl, trivial⟩
  · have hx2 : x < p.1 := by simp only [pAdd] at hx; omega
    have := hP.2 x hx2
    simp only [pAdd, up_ne _ _ _ _ c]
    simp (disch := omega) only [upd_ne]
    exact this
theorem m_buys {A : aB} {now : Nat → Int32} (hB : mB A now) (hu4 : A.1.1 ≤ 4) {u : Nat} (hu : u < A.1.1) (hn : A.2.1.1 < 24) {s : List Nat} (hw : wf s) (hl : s.length ≤ 6) (hc : A.2.2.2.1 0 + A.2.2.2.1 1 * s.length ≤ A.1.2.2 u) : Ok (fX10_buys (B32 s) (Int32.ofNat u) now) (fun r => r.1 = Int32.ofNat A.2.1.1 ∧ mB (aBuy A u s) r.2) := by
  obtain ⟨b1, b2, b3, b4, b5, b6, b7, b8⟩ := hB
  rw [fX10_buys, m_priceOf b4 hw hl, gb1_some, i_7, i_0, m_pays now (show u < 4 by omega) _ (by omega) (by omega), gb1_some, Lt_eq, m_comes (np := A.2.1.1) (by simp (disch := omega) only [upd_ne]; exact b2.1) hn, gb2_some]
  refine ok_some ⟨rfl, ?_, ?_, ?_, ?_, ?_, ?_, ?_, ?_⟩
  · refine ⟨?_, fun i hi => ?_⟩
    · simp (disch := omega) only [upd_ne]; exact b1.1
    · simp only [aBuy] at hi ⊢
      by_cases c : i = u
      · subst c
        rw [up_eq]
        simp (disch := omega) only [upd_ne, upd_eq]
        rw [b1.2 i hi, J_sub _ _ hc]
      · rw [up_ne _ _ _ _ c]
        simp (disch := omega) only [upd_ne]
        exact b1.2 i hi
  · have b2' : mP A.2.1 (upd (upd (upd (upd now (17 + u) (now (17 + u) - Int32.ofNat (A.2.2.2.1 0 + A.2.2.2.1 1 * s.length))) 7 (now 7 + Int32.ofNat (A.2.2.2.1 0 + A.2.2.2.1 1 * s.length))) (11 + 0) (now (11 + 0) + Int32.ofNat (A.2.2.2.1 0 + A.2.2.2.1 1 * s.length))) 15 (upd (upd (upd now (17 + u) (now (17 + u) - Int32.ofNat (A.2.2.2.1 0 + A.2.2.2.1 1 * s.length))) 7 (now 7 + Int32.ofNat (A.2.2.2.1 0 + A.2.2.2.1 1 * s.length))) (11 + 0) (now (11 + 0) + Int32.ofNat (A.2.2.2.1 0 + A.2.2.2.1 1 * s.length)) 15 + 1)) := mP_fr b2 (by omega) (fun k hk => by simp (disch := omega) only [upd_ne])
    have := mP_comes b2' s (A.2.2.2.1 0 + A.2.2.2.1 1 * s.length) (Int32.ofNat u) A.2.2.2.2.2.1
    have e6 : upd (upd (upd (upd now (17 + u) (now (17 + u) - Int32.ofNat (A.2.2.2.1 0 + A.2.2.2.1 1 * s.length))) 7 (now 7 + Int32.ofNat (A.2.2.2.1 0 + A.2.2.2.1 1 * s.length))) (11 + 0) (now (11 + 0) + Int32.ofNat (A.2.2.2.1 0 + A.2.2.2.1 1 * s.length))) 15 (upd (upd (upd now (17 + u) (now (17 + u) - Int32.ofNat (A.2.2.2.1 0 + A.2.2.2.1 1 * s.length))) 7 (now 7 + Int32.ofNat (A.2.2.2.1 0 + A.2.2.2.1 1 * s.length))) (11 + 0) (now (11 + 0) + Int32.ofNat (A.2.2.2.1 0 + A.2.2.2.1 1 * s.length)) 15 + 1) 6 = A.2.2.2.2.2.1 := by
      simp (disch := omega) only [upd_ne]
      exact b6
    rw [e6]
    exact this
  · exact mW_fr b3 (fun k hk => by simp (disch := omega) only [upd_ne])
  · exact mS_fr b4 (fun k hk => by simp (disch := omega) only [upd_ne])
  · intro i hi
    simp only [aBuy, sBuy]
    by_cases c0 : i = 0
    · subst c0
      simp (disch := omega) only [upd_ne, upd_eq, if_true, Nat.add_zero]
      rw [b5 0 (by omega)]
    · rw [if_neg c0]
      by_cases c4 : i = 4
      · subst c4
        simp (disch := omega) only [upd_ne, upd_eq, if_true]
        have := b5 4 (by omega)
        rw [show (15 : Nat) = 11 + 4 from rfl, this]
        rfl
      · rw [if_neg c4]
        simp (disch := omega) only [upd_ne]
        exact b5 i hi
  · simp (disch := omega) only [upd_ne]; exact b6
  · simp (disch := omega) only [upd_ne, upd_eq]; rw [b7]; rfl
  · simp (disch := omega) only [upd_ne]; exact b8
