/-! books kept: both sides -/
theorem cU_cpy {u : aUs} {U U2 : tUsers} (h : cU u U2) (h4 : u.1 ≤ 4) : Ok (fX7_copyFrom U U2) (cU u) := by
  have e := h.1
  simp (disch := omega) only [fX7_copyFrom, e, J_lt, J_le, J_eq, J_nat, J_add, J_mul, J_sub, J_ne1, J_m1, J_le1, J_1le, J_1lt, J_lt1, J_dec, J_dec0, M1_def, M1_neg, n_leF, n_leT, n_ltF, n_ltT, false_or, or_false, true_or, or_true, and_true, true_and, false_and, and_false, not_true_eq_false, not_false_eq_true, if_true, if_false, ite_true, ite_false, Lt_eq, cmpJ, gb1_some, gb2_some, gb3_some, gb4_some, gb5_some, gb6_some, gb7_some, gb8_some, Nat.add_zero, Nat.zero_add, Nat.add_sub_cancel, i_0, i_1, i_2, i_3, i_4, i_5, i_6, i_7, i_8, i_9, i_10, i_11, i_12, i_13, i_14, i_15, i_16, i_17, i_18, i_19, i_20, i_21, i_22, i_23, i_24, i_25, i_26, i_27, i_28, i_29, i_31, i_32, i_48, i_57, i_59, i_61, i_63, i_72, i_96, i_97, i_99, i_100, i_122, i_128, i_141, i_160, i_192, i_255, i_256, i_365, i_600, i_730, i_3650, i_9999, i_1000000, -Int32.reduceOfNat]
  refine ok_some ⟨rfl, fun i hi => ?_⟩
  have := h.2 i hi
  simp only
  rw [cpy_in _ _ _ _ _ _ (Nat.zero_le _) (by omega), cpy_in _ _ _ _ _ _ (Nat.zero_le _) (by omega)]
  rw [Nat.zero_add, Nat.sub_zero]
  exact this
theorem cP_cpy {p : aPs} {P P2 : tPieces} (h : cP p P2) (h4 : p.1 ≤ 24) : Ok (fX6_copyFrom P P2) (cP p) := by
  have e := h.1
  simp (disch := omega) only [fX6_copyFrom, e, J_lt, J_le, J_eq, J_nat, J_add, J_mul, J_sub, J_ne1, J_m1, J_le1, J_1le, J_1lt, J_lt1, J_dec, J_dec0, M1_def, M1_neg, n_leF, n_leT, n_ltF, n_ltT, false_or, or_false, true_or, or_true, and_true, true_and, false_and, and_false, not_true_eq_false, not_false_eq_true, if_true, if_false, ite_true, ite_false, Lt_eq, cmpJ, gb1_some, gb2_some, gb3_some, gb4_some, gb5_some, gb6_some, gb7_some, gb8_some, Nat.add_zero, Nat.zero_add, Nat.add_sub_cancel, i_0, i_1, i_2, i_3, i_4, i_5, i_6, i_7, i_8, i_9, i_10, i_11, i_12, i_13, i_14, i_15, i_16, i_17, i_18, i_19, i_20, i_21, i_22, i_23, i_24, i_25, i_26, i_27, i_28, i_29, i_31, i_32, i_48, i_57, i_59, i_61, i_63, i_72, i_96, i_97, i_99, i_100, i_122, i_128, i_141, i_160, i_192, i_255, i_256, i_365, i_600, i_730, i_3650, i_9999, i_1000000, -Int32.reduceOfNat]
  refine ok_some ⟨rfl, fun i hi => ?_⟩
  have := h.2 i hi
  simp only
  rw [cpy_in _ _ _ _ _ _ (Nat.zero_le _) (by omega), cpy_in _ _ _ _ _ _ (Nat.zero_le _) (by omega), cpy_in _ _ _ _ _ _ (Nat.zero_le _) (by omega), cpy_in _ _ _ _ _ _ (Nat.zero_le _) (by omega), cpy_in _ _ _ _ _ _ (Nat.zero_le _) (by omega)]
  rw [Nat.zero_add, Nat.sub_zero]
  exact this
theorem cW_cpy {w : aWs} {W W2 : tWords} (h : cW w W2) (h4 : w.1 ≤ 16) (hl : ∀ j, j < w.1 → (w.2.2.2 j).length ≤ 12) : Ok (fX8_copyFrom W W2) (cW w) := by
  have e := h.1
  simp (disch := omega) only [fX8_copyFrom, e, J_lt, J_le, J_eq, J_nat, J_add, J_mul, J_sub, J_ne1, J_m1, J_le1, J_1le, J_1lt, J_lt1, J_dec, J_dec0, M1_def, M1_neg, n_leF, n_leT, n_ltF, n_ltT, false_or, or_false, true_or, or_true, and_true, true_and, false_and, and_false, not_true_eq_false, not_false_eq_true, if_true, if_false, ite_true, ite_false, Lt_eq, cmpJ, gb1_some, gb2_some, gb3_some, gb4_some, gb5_some, gb6_some, gb7_some, gb8_some, Nat.add_zero, Nat.zero_add, Nat.add_sub_cancel, i_0, i_1, i_2, i_3, i_4, i_5, i_6, i_7, i_8, i_9, i_10, i_11, i_12, i_13, i_14, i_15, i_16, i_17, i_18, i_19, i_20, i_21, i_22, i_23, i_24, i_25, i_26, i_27, i_28, i_29, i_31, i_32, i_48, i_57, i_59, i_61, i_63, i_72, i_96, i_97, i_99, i_100, i_122, i_128, i_141, i_160, i_192, i_255, i_256, i_365, i_600, i_730, i_3650, i_9999, i_1000000, -Int32.reduceOfNat]
  refine ok_some ⟨rfl, fun i hi => ?_⟩
  obtain ⟨a, b, c, d⟩ := h.2 i hi
  simp only
  rw [cpy_in _ _ _ _ _ _ (Nat.zero_le _) (by omega), cpy_in _ _ _ _ _ _ (Nat.zero_le _) (by omega), cpy_in _ _ _ _ _ _ (Nat.zero_le _) (by omega)]
  rw [Nat.zero_add, Nat.sub_zero]
  refine ⟨a, b, c, fun k hk => ?_⟩
  have := hl i hi
  rw [cpy_in _ _ _ _ _ _ (Nat.zero_le _) (by omega), Nat.zero_add, Nat.sub_zero]
  exact d k hk
theorem c_copy {A : aB} {b : tBk} (hc : cBk A b) (hI : Inv A) (d : tBk) : Ok (fX1_copyFrom d.1 d.2.1 d.2.2.1 d.2.2.2.1 d.2.2.2.2.1 d.2.2.2.2.2.1 d.2.2.2.2.2.2.1 d.2.2.2.2.2.2.2 b.1 b.2.1 b.2.2.1 b.2.2.2.1 b.2.2.2.2.1 b.2.2.2.2.2.1 b.2.2.2.2.2.2.1 b.2.2.2.2.2.2.2) (cBk A) := by
  obtain ⟨c1, c2, c3, c4, c5, c6, c7, c8⟩ := hc
  rw [fX1_copyFrom, if_neg (by decide), Lt_eq, if_neg (by decide), Lt_eq]
  apply ok_gb1
  refine ok_mono (cU_cpy c1 hI.1.1) ?_
  intro U1 h1
  apply ok_gb1
  refine ok_mono (cP_cpy c2 hI.2.1.1) ?_
  intro P1 h2
  apply ok_gb1
  refine ok_mono (cW_cpy c3 hI.2.2.1.1 (fun j hj => iW_len hI hj)) ?_
  intro W1 h3
  refine ok_some ⟨h1, h2, h3, fun i hi => ?_, fun i hi => ?_, c6, c7, c8⟩
  · simp only
    rw [cpy_in _ _ _ _ _ _ (Nat.zero_le _) (by omega), Nat.zero_add, Nat.sub_zero]
    exact c4 i hi
  · simp only
    rw [cpy_in _ _ _ _ _ _ (Nat.zero_le _) (by omega), Nat.zero_add, Nat.sub_zero]
    exact c5 i hi
theorem cpy_step (f g : Nat → Int32) (a b j : Nat) : upd (va_cpy f g a b j) (b + j) (f (a + j)) = va_cpy f g a b (j + 1) := by
  funext x
  by_cases c : x = b + j
  · subst c
    rw [upd_eq, cpy_in _ _ _ _ _ _ (by omega) (by omega)]
    congr 1
    omega
  · rw [upd_ne _ _ _ _ c]
    by_cases c2 : b ≤ x ∧ x < b + j
    · rw [cpy_in _ _ _ _ _ _ c2.1 c2.2, cpy_in _ _ _ _ _ _ c2.1 (by omega)]
    · by_cases c3 : x < b
      · rw [cpy_lo _ _ _ _ _ _ c3, cpy_lo _ _ _ _ _ _ c3]
      · rw [cpy_hi _ _ _ _ _ _ (by omega), cpy_hi _ _ _ _ _ _ (by omega)]
theorem cpy_0 (f g : Nat → Int32) (a b : Nat) : va_cpy f g a b 0 = g := by
  funext x
  unfold va_cpy
  rw [if_neg (by omega)]
theorem ok_gb8 {α0 α1 α2 α3 α4 α5 α6 α7 β : Type} {x : Option (α0 × α1 × α2 × α3 × α4 × α5 × α6 × α7)} {k : α0 → α1 → α2 → α3 → α4 → α5 → α6 → α7 → Option β} {Q : β → Prop} (h : Ok x (fun a => Ok (k a.1 a.2.1 a.2.2.1 a.2.2.2.1 a.2.2.2.2.1 a.2.2.2.2.2.1 a.2.2.2.2.2.2.1 a.2.2.2.2.2.2.2) Q)) : Ok (gb8 x k) Q := by
  obtain ⟨a, e, q⟩ := h
  rw [e]
  exact q
theorem vaup_eq {α : Type} (f : Nat → α) (k : Nat) (x : α) : va_up f k x k = x := by simp [va_up]
theorem vaup_ne {α : Type} (f : Nat → α) (k : Nat) (x : α) (j : Nat) (h : j ≠ k) : va_up f k x j = f j := by simp [va_up, h]
