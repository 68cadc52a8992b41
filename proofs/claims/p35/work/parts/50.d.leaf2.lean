/-! leaves of the class that change the book -/
def pAdd (p : aPs) (row : List Nat) (paid : Nat) (own : Int32) (t : Int32) : aPs := (p.1 + 1, up p.2.1 p.1 row, up p.2.2.1 p.1 paid, up p.2.2.2.1 p.1 own, up p.2.2.2.2.1 p.1 0, up p.2.2.2.2.2 p.1 t)
def pUse (p : aPs) (q : Nat) : aPs := (p.1, p.2.1, p.2.2.1, p.2.2.2.1, up p.2.2.2.2.1 q (p.2.2.2.2.1 q + 1), p.2.2.2.2.2)
def pEnd (p : aPs) (q : Nat) (t : Int32) : aPs := (p.1, p.2.1, p.2.2.1, p.2.2.2.1, up p.2.2.2.2.1 q (p.2.2.2.2.1 q - 1), if p.2.2.2.2.1 q = 1 then up p.2.2.2.2.2 q t else p.2.2.2.2.2)
def sh {α : Type} (f : Nat → α) (q : Nat) : Nat → α := fun j => if j < q then f j else f (j + 1)
def pDrop (p : aPs) (q : Nat) : aPs := (p.1 - 1, sh p.2.1 q, sh p.2.2.1 q, sh p.2.2.2.1 q, sh p.2.2.2.2.1 q, sh p.2.2.2.2.2 q)
def wAdd (w : aWs) (row : List Nat) (own : Nat) : aWs := (w.1 + 1, up w.2.1 w.1 row, up w.2.2.1 w.1 own, up w.2.2.2 w.1 [])
def wPart (w : aWs) (i q : Nat) : aWs := (w.1, w.2.1, w.2.2.1, up w.2.2.2 i (w.2.2.2 i ++ [q]))
def wClear (w : aWs) (i : Nat) : aWs := (w.1, w.2.1, w.2.2.1, up w.2.2.2 i [])
def wDrop (w : aWs) (i : Nat) : aWs := (w.1 - 1, sh w.2.1 i, sh w.2.2.1 i, sh w.2.2.2 i)
def gap (q : Nat) (l : List Nat) : List Nat := l.map fun x => if q < x then x - 1 else x
def wGap (w : aWs) (q : Nat) : aWs := (w.1, w.2.1, w.2.2.1, fun i => gap q (w.2.2.2 i))
theorem c_addP {p : aPs} {P : tPieces} (h : cP p P) (hn : p.1 < 24) (row : List Nat) (paid : Nat) (own t : Int32) : Ok (fX6_add (L64 row) (Int32.ofNat paid) own t P) (fun r => r.1 = Int32.ofNat p.1 ∧ cP (pAdd p row paid own t) r.2) := by
  simp (disch := omega) only [fX6_add, h.1, J_lt, J_le, J_eq, J_nat, J_add, J_mul, J_sub, J_ne1, J_m1, J_le1, J_1le, J_1lt, J_lt1, J_dec, J_dec0, M1_def, M1_neg, n_leF, n_leT, n_ltF, n_ltT, false_or, or_false, true_or, or_true, and_true, true_and, false_and, and_false, not_true_eq_false, not_false_eq_true, if_true, if_false, ite_true, ite_false, Lt_eq, cmpJ, gb1_some, gb2_some, gb3_some, gb4_some, gb5_some, gb6_some, gb7_some, gb8_some, Nat.add_zero, Nat.zero_add, Nat.add_sub_cancel, i_0, i_1, i_2, i_3, i_4, i_5, i_6, i_7, i_8, i_9, i_10, i_11, i_12, i_13, i_14, i_15, i_16, i_17, i_18, i_19, i_20, i_21, i_22, i_23, i_24, i_25, i_26, i_27, i_28, i_29, i_31, i_32, i_48, i_57, i_59, i_61, i_63, i_72, i_96, i_97, i_99, i_100, i_122, i_128, i_141, i_160, i_192, i_255, i_256, i_365, i_600, i_730, i_3650, i_9999, i_1000000, -Int32.reduceOfNat]
  refine ok_some ⟨rfl, rfl, fun i hi => ?_⟩
  by_cases c : i = p.1
  · subst c
    simp only [pAdd, upd_eq, updL_eq, up_eq, and_self]
  · have hi2 : i < p.1 := by simp only [pAdd] at hi; omega
    have := h.2 i hi2
    simp only [pAdd, upd_ne _ _ _ _ c, updL_ne _ _ _ _ c, up_ne _ _ _ _ c]
    exact this
theorem c_beginUse {p : aPs} {P : tPieces} (h : cP p P) (hn : p.1 ≤ 24) {q : Nat} (hq : q < p.1) : Ok (fX6_beginUse (Int32.ofNat q) P) (cP (pUse p q)) := by
  simp (disch := omega) only [fX6_beginUse, h.1, J_lt, J_le, J_eq, J_nat, J_add, J_mul, J_sub, J_ne1, J_m1, J_le1, J_1le, J_1lt, J_lt1, J_dec, J_dec0, M1_def, M1_neg, n_leF, n_leT, n_ltF, n_ltT, false_or, or_false, true_or, or_true, and_true, true_and, false_and, and_false, not_true_eq_false, not_false_eq_true, if_true, if_false, ite_true, ite_false, Lt_eq, cmpJ, gb1_some, gb2_some, gb3_some, gb4_some, gb5_some, gb6_some, gb7_some, gb8_some, Nat.add_zero, Nat.zero_add, Nat.add_sub_cancel, i_0, i_1, i_2, i_3, i_4, i_5, i_6, i_7, i_8, i_9, i_10, i_11, i_12, i_13, i_14, i_15, i_16, i_17, i_18, i_19, i_20, i_21, i_22, i_23, i_24, i_25, i_26, i_27, i_28, i_29, i_31, i_32, i_48, i_57, i_59, i_61, i_63, i_72, i_96, i_97, i_99, i_100, i_122, i_128, i_141, i_160, i_192, i_255, i_256, i_365, i_600, i_730, i_3650, i_9999, i_1000000, -Int32.reduceOfNat]
  refine ok_some ⟨rfl, fun i hi => ?_⟩
  have := h.2 i hi
  by_cases c : i = q
  · subst c
    simp only [pUse, upd_eq, up_eq]
    rw [this.2.2.2.1, J_add]
    exact ⟨this.1, this.2.1, this.2.2.1, rfl, this.2.2.2.2⟩
  · simp only [pUse, upd_ne _ _ _ _ c, up_ne _ _ _ _ c]
    exact this
theorem c_endUse {p : aPs} {P : tPieces} (h : cP p P) (hn : p.1 ≤ 24) {q : Nat} (hq : q < p.1) (hu : 1 ≤ p.2.2.2.2.1 q) (hu2 : p.2.2.2.2.1 q < 1000000) (t : Int32) : Ok (fX6_endUse (Int32.ofNat q) t P) (cP (pEnd p q t)) := by
  have e := (h.2 q hq).2.2.2.1
  simp (disch := omega) only [fX6_endUse, h.1, upd_eq, e, J_lt, J_le, J_eq, J_nat, J_add, J_mul, J_sub, J_ne1, J_m1, J_le1, J_1le, J_1lt, J_lt1, J_dec, J_dec0, M1_def, M1_neg, n_leF, n_leT, n_ltF, n_ltT, false_or, or_false, true_or, or_true, and_true, true_and, false_and, and_false, not_true_eq_false, not_false_eq_true, if_true, if_false, ite_true, ite_false, Lt_eq, cmpJ, gb1_some, gb2_some, gb3_some, gb4_some, gb5_some, gb6_some, gb7_some, gb8_some, Nat.add_zero, Nat.zero_add, Nat.add_sub_cancel, i_0, i_1, i_2, i_3, i_4, i_5, i_6, i_7, i_8, i_9, i_10, i_11, i_12, i_13, i_14, i_15, i_16, i_17, i_18, i_19, i_20, i_21, i_22, i_23, i_24, i_25, i_26, i_27, i_28, i_29, i_31, i_32, i_48, i_57, i_59, i_61, i_63, i_72, i_96, i_97, i_99, i_100, i_122, i_128, i_141, i_160, i_192, i_255, i_256, i_365, i_600, i_730, i_3650, i_9999, i_1000000, -Int32.reduceOfNat]
  by_cases c0 : p.2.2.2.2.1 q = 1
  · rw [if_pos (by omega)]
    refine ok_some ⟨rfl, fun i hi => ?_⟩
    have := h.2 i hi
    by_cases c : i = q
    · subst c
      simp only [pEnd, upd_eq, up_eq, c0, if_true]
      exact ⟨this.1, this.2.1, this.2.2.1, trivial, trivial⟩
    · simp only [pEnd, upd_ne _ _ _ _ c, up_ne _ _ _ _ c, c0, if_true]
      exact this
  · rw [if_neg (by omega)]
    refine ok_some ⟨rfl, fun i hi => ?_⟩
    have := h.2 i hi
    by_cases c : i = q
    · subst c
      simp only [pEnd, upd_eq, up_eq, c0, if_false]
      exact ⟨this.1, this.2.1, this.2.2.1, trivial, this.2.2.2.2⟩
    · simp only [pEnd, upd_ne _ _ _ _ c, up_ne _ _ _ _ c, c0, if_false]
      exact this
theorem sh_lo {α : Type} (f : Nat → α) (q j : Nat) (h : j < q) : sh f q j = f j := by simp [sh, h]
theorem sh_hi {α : Type} (f : Nat → α) (q j : Nat) (h : q ≤ j) : sh f q j = f (j + 1) := by
  unfold sh
  rw [if_neg (by omega)]
theorem c_dropP {p : aPs} {P : tPieces} (h : cP p P) (hn : p.1 ≤ 24) {q : Nat} (hq : q < p.1) : Ok (fX6_drop (Int32.ofNat q) P) (cP (pDrop p q)) := by
  simp (disch := omega) only [fX6_drop, h.1, J_lt, J_le, J_eq, J_nat, J_add, J_mul, J_sub, J_ne1, J_m1, J_le1, J_1le, J_1lt, J_lt1, J_dec, J_dec0, M1_def, M1_neg, n_leF, n_leT, n_ltF, n_ltT, false_or, or_false, true_or, or_true, and_true, true_and, false_and, and_false, not_true_eq_false, not_false_eq_true, if_true, if_false, ite_true, ite_false, Lt_eq, cmpJ, gb1_some, gb2_some, gb3_some, gb4_some, gb5_some, gb6_some, gb7_some, gb8_some, Nat.add_zero, Nat.zero_add, Nat.add_sub_cancel, i_0, i_1, i_2, i_3, i_4, i_5, i_6, i_7, i_8, i_9, i_10, i_11, i_12, i_13, i_14, i_15, i_16, i_17, i_18, i_19, i_20, i_21, i_22, i_23, i_24, i_25, i_26, i_27, i_28, i_29, i_31, i_32, i_48, i_57, i_59, i_61, i_63, i_72, i_96, i_97, i_99, i_100, i_122, i_128, i_141, i_160, i_192, i_255, i_256, i_365, i_600, i_730, i_3650, i_9999, i_1000000, -Int32.reduceOfNat]
  refine ok_some ⟨rfl, fun i hi => ?_⟩
  simp only [pDrop] at hi
  rcases Nat.lt_or_ge i q with c | c
  · have := h.2 i (by omega)
    simp only [pDrop, cpy_lo _ _ _ _ _ _ c, sh_lo _ _ _ c]
    exact this
  · have := h.2 (i + 1) (by omega)
    have ei : q + 1 + (i - q) = i + 1 := by omega
    simp only [pDrop, cpy_in _ _ _ _ _ _ c (show i < q + (p.1 - 1 - q) by omega), sh_hi _ _ _ c, ei]
    exact this
theorem c_goesBack {p : aPs} {P : tPieces} (h : cP p P) (hn : p.1 ≤ 24) {q : Nat} (hq : q < p.1) (hu : p.2.2.2.2.1 q < 1000000) (t keep : Int32) : fX6_goesBack (Int32.ofNat q) t keep P = some (if p.2.2.2.1 q ≠ M1 ∧ p.2.2.2.2.1 q = 0 ∧ ¬ (t - p.2.2.2.2.2 q ≤ keep) then Int32.ofNat 1 else Int32.ofNat 0) := by
  obtain ⟨_, _, e1, e2, e3⟩ := h.2 q hq
  simp (disch := omega) only [fX6_goesBack, h.1, e1, e2, e3, J_lt, J_le, J_eq, J_nat, J_add, J_mul, J_sub, J_ne1, J_m1, J_le1, J_1le, J_1lt, J_lt1, J_dec, J_dec0, M1_def, M1_neg, n_leF, n_leT, n_ltF, n_ltT, false_or, or_false, true_or, or_true, and_true, true_and, false_and, and_false, not_true_eq_false, not_false_eq_true, if_true, if_false, ite_true, ite_false, Lt_eq, cmpJ, gb1_some, gb2_some, gb3_some, gb4_some, gb5_some, gb6_some, gb7_some, gb8_some, Nat.add_zero, Nat.zero_add, Nat.add_sub_cancel, i_0, i_1, i_2, i_3, i_4, i_5, i_6, i_7, i_8, i_9, i_10, i_11, i_12, i_13, i_14, i_15, i_16, i_17, i_18, i_19, i_20, i_21, i_22, i_23, i_24, i_25, i_26, i_27, i_28, i_29, i_31, i_32, i_48, i_57, i_59, i_61, i_63, i_72, i_96, i_97, i_99, i_100, i_122, i_128, i_141, i_160, i_192, i_255, i_256, i_365, i_600, i_730, i_3650, i_9999, i_1000000, -Int32.reduceOfNat]
  by_cases c1 : p.2.2.2.1 q = M1
  · simp [c1]
  · by_cases c2 : p.2.2.2.2.1 q = 0
    · by_cases c3 : t - p.2.2.2.2.2 q ≤ keep
      · simp [c1, c2, c3]
      · simp only [c1, c2, c3, ne_eq, not_false_eq_true, and_self, if_true, if_false]
    · simp [c1, c2]
theorem c_isFullP {p : aPs} {P : tPieces} (h : cP p P) (hn : p.1 ≤ 24) : fX6_isFull P = some (if p.1 < 24 then Int32.ofNat 0 else Int32.ofNat 1) := by
  simp (disch := omega) only [fX6_isFull, h.1, J_lt, J_le, J_eq, J_nat, J_add, J_mul, J_sub, J_ne1, J_m1, J_le1, J_1le, J_1lt, J_lt1, J_dec, J_dec0, M1_def, M1_neg, n_leF, n_leT, n_ltF, n_ltT, false_or, or_false, true_or, or_true, and_true, true_and, false_and, and_false, not_true_eq_false, not_false_eq_true, if_true, if_false, ite_true, ite_false, Lt_eq, cmpJ, gb1_some, gb2_some, gb3_some, gb4_some, gb5_some, gb6_some, gb7_some, gb8_some, Nat.add_zero, Nat.zero_add, Nat.add_sub_cancel, i_0, i_1, i_2, i_3, i_4, i_5, i_6, i_7, i_8, i_9, i_10, i_11, i_12, i_13, i_14, i_15, i_16, i_17, i_18, i_19, i_20, i_21, i_22, i_23, i_24, i_25, i_26, i_27, i_28, i_29, i_31, i_32, i_48, i_57, i_59, i_61, i_63, i_72, i_96, i_97, i_99, i_100, i_122, i_128, i_141, i_160, i_192, i_255, i_256, i_365, i_600, i_730, i_3650, i_9999, i_1000000, -Int32.reduceOfNat]
  split <;> rfl
theorem c_isFullW {w : aWs} {W : tWords} (h : cW w W) (hn : w.1 ≤ 16) : fX8_isFull W = some (if w.1 < 16 then Int32.ofNat 0 else Int32.ofNat 1) := by
  simp (disch := omega) only [fX8_isFull, h.1, J_lt, J_le, J_eq, J_nat, J_add, J_mul, J_sub, J_ne1, J_m1, J_le1, J_1le, J_1lt, J_lt1, J_dec, J_dec0, M1_def, M1_neg, n_leF, n_leT, n_ltF, n_ltT, false_or, or_false, true_or, or_true, and_true, true_and, false_and, and_false, not_true_eq_false, not_false_eq_true, if_true, if_false, ite_true, ite_false, Lt_eq, cmpJ, gb1_some, gb2_some, gb3_some, gb4_some, gb5_some, gb6_some, gb7_some, gb8_some, Nat.add_zero, Nat.zero_add, Nat.add_sub_cancel, i_0, i_1, i_2, i_3, i_4, i_5, i_6, i_7, i_8, i_9, i_10, i_11, i_12, i_13, i_14, i_15, i_16, i_17, i_18, i_19, i_20, i_21, i_22, i_23, i_24, i_25, i_26, i_27, i_28, i_29, i_31, i_32, i_48, i_57, i_59, i_61, i_63, i_72, i_96, i_97, i_99, i_100, i_122, i_128, i_141, i_160, i_192, i_255, i_256, i_365, i_600, i_730, i_3650, i_9999, i_1000000, -Int32.reduceOfNat]
  split <;> rfl
theorem c_isFullU {u : aUs} {U : tUsers} (h : cU u U) (hn : u.1 ≤ 4) : fX7_isFull U = some (if u.1 < 4 then Int32.ofNat 0 else Int32.ofNat 1) := by
  simp (disch := omega) only [fX7_isFull, h.1, J_lt, J_le, J_eq, J_nat, J_add, J_mul, J_sub, J_ne1, J_m1, J_le1, J_1le, J_1lt, J_lt1, J_dec, J_dec0, M1_def, M1_neg, n_leF, n_leT, n_ltF, n_ltT, false_or, or_false, true_or, or_true, and_true, true_and, false_and, and_false, not_true_eq_false, not_false_eq_true, if_true, if_false, ite_true, ite_false, Lt_eq, cmpJ, gb1_some, gb2_some, gb3_some, gb4_some, gb5_some, gb6_some, gb7_some, gb8_some, Nat.add_zero, Nat.zero_add, Nat.add_sub_cancel, i_0, i_1, i_2, i_3, i_4, i_5, i_6, i_7, i_8, i_9, i_10, i_11, i_12, i_13, i_14, i_15, i_16, i_17, i_18, i_19, i_20, i_21, i_22, i_23, i_24, i_25, i_26, i_27, i_28, i_29, i_31, i_32, i_48, i_57, i_59, i_61, i_63, i_72, i_96, i_97, i_99, i_100, i_122, i_128, i_141, i_160, i_192, i_255, i_256, i_365, i_600, i_730, i_3650, i_9999, i_1000000, -Int32.reduceOfNat]
  split <;> rfl
theorem c_addU {u : aUs} {U : tUsers} (h : cU u U) (hn : u.1 < 4) (row : List Nat) (co : Nat) : Ok (fX7_add (L64 row) (Int32.ofNat co) U) (cU (u.1 + 1, up u.2.1 u.1 row, up u.2.2 u.1 co)) := by
  simp (disch := omega) only [fX7_add, h.1, J_lt, J_le, J_eq, J_nat, J_add, J_mul, J_sub, J_ne1, J_m1, J_le1, J_1le, J_1lt, J_lt1, J_dec, J_dec0, M1_def, M1_neg, n_leF, n_leT, n_ltF, n_ltT, false_or, or_false, true_or, or_true, and_true, true_and, false_and, and_false, not_true_eq_false, not_false_eq_true, if_true, if_false, ite_true, ite_false, Lt_eq, cmpJ, gb1_some, gb2_some, gb3_some, gb4_some, gb5_some, gb6_some, gb7_some, gb8_some, Nat.add_zero, Nat.zero_add, Nat.add_sub_cancel, i_0, i_1, i_2, i_3, i_4, i_5, i_6, i_7, i_8, i_9, i_10, i_11, i_12, i_13, i_14, i_15, i_16, i_17, i_18, i_19, i_20, i_21, i_22, i_23, i_24, i_25, i_26, i_27, i_28, i_29, i_31, i_32, i_48, i_57, i_59, i_61, i_63, i_72, i_96, i_97, i_99, i_100, i_122, i_128, i_141, i_160, i_192, i_255, i_256, i_365, i_600, i_730, i_3650, i_9999, i_1000000, -Int32.reduceOfNat]
  refine ok_some ⟨rfl, fun i hi => ?_⟩
  by_cases c : i = u.1
  · subst c
    simp only [upd_eq, updL_eq, up_eq, and_self]
  · have hi2 : i < u.1 := by simp only at hi; omega
    have := h.2 i hi2
    simp only [upd_ne _ _ _ _ c, updL_ne _ _ _ _ c, up_ne _ _ _ _ c]
    exact this
theorem c_addW {w : aWs} {W : tWords} (h : cW w W) (hn : w.1 < 16) (row : List Nat) (own : Nat) : Ok (fX8_add (L64 row) (Int32.ofNat own) W) (fun r => r.1 = Int32.ofNat w.1 ∧ cW (wAdd w row own) r.2) := by
  simp (disch := omega) only [fX8_add, h.1, J_lt, J_le, J_eq, J_nat, J_add, J_mul, J_sub, J_ne1, J_m1, J_le1, J_1le, J_1lt, J_lt1, J_dec, J_dec0, M1_def, M1_neg, n_leF, n_leT, n_ltF, n_ltT, false_or, or_false, true_or, or_true, and_true, true_and, false_and, and_false, not_true_eq_false, not_false_eq_true, if_true, if_false, ite_true, ite_false, Lt_eq, cmpJ, gb1_some, gb2_some, gb3_some, gb4_some, gb5_some, gb6_some, gb7_some, gb8_some, Nat.add_zero, Nat.zero_add, Nat.add_sub_cancel, i_0, i_1, i_2, i_3, i_4, i_5, i_6, i_7, i_8, i_9, i_10, i_11, i_12, i_13, i_14, i_15, i_16, i_17, i_18, i_19, i_20, i_21, i_22, i_23, i_24, i_25, i_26, i_27, i_28, i_29, i_31, i_32, i_48, i_57, i_59, i_61, i_63, i_72, i_96, i_97, i_99, i_100, i_122, i_128, i_141, i_160, i_192, i_255, i_256, i_365, i_600, i_730, i_3650, i_9999, i_1000000, -Int32.reduceOfNat]
  refine ok_some ⟨rfl, rfl, fun i hi => ?_⟩
  by_cases c : i = w.1
  · subst c
    simp only [wAdd, upd_eq, updL_eq, up_eq]
    exact ⟨trivial, trivial, rfl, fun k hk => by cases hk⟩
  · have hi2 : i < w.1 := by simp only [wAdd] at hi; omega
    have := h.2 i hi2
    simp only [wAdd, upd_ne _ _ _ _ c, updL_ne _ _ _ _ c, up_ne _ _ _ _ c]
    exact this
theorem c_addPart {w : aWs} {W : tWords} (h : cW w W) (hn : w.1 ≤ 16) {i : Nat} (hi : i < w.1) (hl : ∀ j, j < w.1 → (w.2.2.2 j).length ≤ 12) (hl2 : (w.2.2.2 i).length < 12) (q : Nat) : Ok (fX8_addPart (Int32.ofNat i) (Int32.ofNat q) W) (cW (wPart w i q)) := by
  obtain ⟨_, _, e2, e3⟩ := h.2 i hi
  simp (disch := omega) only [fX8_addPart, h.1, e2, J_lt, J_le, J_eq, J_nat, J_add, J_mul, J_sub, J_ne1, J_m1, J_le1, J_1le, J_1lt, J_lt1, J_dec, J_dec0, M1_def, M1_neg, n_leF, n_leT, n_ltF, n_ltT, false_or, or_false, true_or, or_true, and_true, true_and, false_and, and_false, not_true_eq_false, not_false_eq_true, if_true, if_false, ite_true, ite_false, Lt_eq, cmpJ, gb1_some, gb2_some, gb3_some, gb4_some, gb5_some, gb6_some, gb7_some, gb8_some, Nat.add_zero, Nat.zero_add, Nat.add_sub_cancel, i_0, i_1, i_2, i_3, i_4, i_5, i_6, i_7, i_8, i_9, i_10, i_11, i_12, i_13, i_14, i_15, i_16, i_17, i_18, i_19, i_20, i_21, i_22, i_23, i_24, i_25, i_26, i_27, i_28, i_29, i_31, i_32, i_48, i_57, i_59, i_61, i_63, i_72, i_96, i_97, i_99, i_100, i_122, i_128, i_141, i_160, i_192, i_255, i_256, i_365, i_600, i_730, i_3650, i_9999, i_1000000, -Int32.reduceOfNat]
  refine ok_some ⟨rfl, fun j hj => ?_⟩
  have hj2 : j < w.1 := hj
  have hj3 := hl j hj2
  obtain ⟨f0, f1, f2, f3⟩ := h.2 j hj2
  by_cases c : j = i
  · subst c
    simp only [wPart, upd_eq, up_eq]
    refine ⟨f0, f1, ?_, fun k hk => ?_⟩
    · rw [List.length_append, List.length_singleton]
    · rw [List.length_append, List.length_singleton] at hk
      by_cases ck : k = (w.2.2.2 j).length
      · subst ck
        rw [upd_eq, List.getElem_append_right (Nat.le_refl _)]
        simp
      · rw [upd_ne _ _ _ _ (by omega), f3 k (by omega), List.getElem_append_left]
  · simp only [wPart, upd_ne _ _ _ _ c, up_ne _ _ _ _ c]
    refine ⟨f0, f1, f2, fun k hk => ?_⟩
    rw [upd_ne _ _ _ _ (by omega)]
    exact f3 k hk
theorem c_clearParts {w : aWs} {W : tWords} (h : cW w W) (hn : w.1 ≤ 16) {i : Nat} (hi : i < w.1) : Ok (fX8_clearParts (Int32.ofNat i) W) (cW (wClear w i)) := by
  simp (disch := omega) only [fX8_clearParts, h.1, J_lt, J_le, J_eq, J_nat, J_add, J_mul, J_sub, J_ne1, J_m1, J_le1, J_1le, J_1lt, J_lt1, J_dec, J_dec0, M1_def, M1_neg, n_leF, n_leT, n_ltF, n_ltT, false_or, or_false, true_or, or_true, and_true, true_and, false_and, and_false, not_true_eq_false, not_false_eq_true, if_true, if_false, ite_true, ite_false, Lt_eq, cmpJ, gb1_some, gb2_some, gb3_some, gb4_some, gb5_some, gb6_some, gb7_some, gb8_some, Nat.add_zero, Nat.zero_add, Nat.add_sub_cancel, i_0, i_1, i_2, i_3, i_4, i_5, i_6, i_7, i_8, i_9, i_10, i_11, i_12, i_13, i_14, i_15, i_16, i_17, i_18, i_19, i_20, i_21, i_22, i_23, i_24, i_25, i_26, i_27, i_28, i_29, i_31, i_32, i_48, i_57, i_59, i_61, i_63, i_72, i_96, i_97, i_99, i_100, i_122, i_128, i_141, i_160, i_192, i_255, i_256, i_365, i_600, i_730, i_3650, i_9999, i_1000000, -Int32.reduceOfNat]
  refine ok_some ⟨rfl, fun j hj => ?_⟩
  obtain ⟨f0, f1, f2, f3⟩ := h.2 j hj
  by_cases c : j = i
  · subst c
    simp only [wClear, upd_eq, up_eq]
    exact ⟨f0, f1, rfl, fun k hk => by cases hk⟩
  · simp only [wClear, upd_ne _ _ _ _ c, up_ne _ _ _ _ c]
    exact ⟨f0, f1, f2, f3⟩
theorem c_dropW {w : aWs} {W : tWords} (h : cW w W) (hn : w.1 ≤ 16) {q : Nat} (hq : q < w.1) (hl : ∀ j, j < w.1 → (w.2.2.2 j).length ≤ 12) : Ok (fX8_drop (Int32.ofNat q) W) (cW (wDrop w q)) := by
  simp (disch := omega) only [fX8_drop, h.1, J_lt, J_le, J_eq, J_nat, J_add, J_mul, J_sub, J_ne1, J_m1, J_le1, J_1le, J_1lt, J_lt1, J_dec, J_dec0, M1_def, M1_neg, n_leF, n_leT, n_ltF, n_ltT, false_or, or_false, true_or, or_true, and_true, true_and, false_and, and_false, not_true_eq_false, not_false_eq_true, if_true, if_false, ite_true, ite_false, Lt_eq, cmpJ, gb1_some, gb2_some, gb3_some, gb4_some, gb5_some, gb6_some, gb7_some, gb8_some, Nat.add_zero, Nat.zero_add, Nat.add_sub_cancel, i_0, i_1, i_2, i_3, i_4, i_5, i_6, i_7, i_8, i_9, i_10, i_11, i_12, i_13, i_14, i_15, i_16, i_17, i_18, i_19, i_20, i_21, i_22, i_23, i_24, i_25, i_26, i_27, i_28, i_29, i_31, i_32, i_48, i_57, i_59, i_61, i_63, i_72, i_96, i_97, i_99, i_100, i_122, i_128, i_141, i_160, i_192, i_255, i_256, i_365, i_600, i_730, i_3650, i_9999, i_1000000, -Int32.reduceOfNat]
  refine ok_some ⟨rfl, fun i hi => ?_⟩
  simp only [wDrop] at hi
  rcases Nat.lt_or_ge i q with c | c
  · have := h.2 i (by omega)
    simp only [wDrop, cpy_lo _ _ _ _ _ _ c, sh_lo _ _ _ c]
    refine ⟨this.1, this.2.1, this.2.2.1, fun k hk => ?_⟩
    have := hl i (by omega)
    rw [cpy_lo _ _ _ _ _ _ (by omega)]
    exact (h.2 i (by omega)).2.2.2 k hk
  · have := h.2 (i + 1) (by omega)
    have ei : q + 1 + (i - q) = i + 1 := by omega
    simp only [wDrop, cpy_in _ _ _ _ _ _ c (show i < q + (w.1 - 1 - q) by omega), sh_hi _ _ _ c, ei]
    refine ⟨this.1, this.2.1, this.2.2.1, fun k hk => ?_⟩
    have h12 := hl (i + 1) (by omega)
    rw [cpy_in _ _ _ _ _ _ (show q * 12 ≤ i * 12 + k by omega) (show i * 12 + k < q * 12 + (w.1 - 1 - q) * 12 by omega)]
    rw [← this.2.2.2 k hk, show (q + 1) * 12 + (i * 12 + k - q * 12) = (i + 1) * 12 + k by omega]
def gI (q v : Int32) : Int32 := if v ≤ q then v else v - 1
theorem c_closeGap_L {N : Nat} (hN : N ≤ 16) (q c : Int32) (hc : c = Int32.ofNat N) (lt : Nat → Int64) (ow pc : Nat → Int32) (k : tWords → Option tWords) : ∀ (d n j : Nat) (pt : Nat → Int32), j + d = N * 12 → d < n → fX8_closeGap_L2 q k n (Int32.ofNat j) (c, lt, ow, pc, pt) = k (c, lt, ow, pc, fun x => if j ≤ x ∧ x < j + d then gI q (pt x) else pt x)
  | d, 0, j, pt, _, h2 => by omega
  | 0, n + 1, j, pt, h1, _ => by
    have e : (fun x => if j ≤ x ∧ x < j + 0 then gI q (pt x) else pt x) = pt := by
      funext x
      rw [if_neg (by omega)]
    rw [e]
    simp (disch := omega) only [fX8_closeGap_L2, hc, J_lt, J_le, J_eq, J_nat, J_add, J_mul, J_sub, J_ne1, J_m1, J_le1, J_1le, J_1lt, J_lt1, J_dec, J_dec0, M1_def, M1_neg, n_leF, n_leT, n_ltF, n_ltT, false_or, or_false, true_or, or_true, and_true, true_and, false_and, and_false, not_true_eq_false, not_false_eq_true, if_true, if_false, ite_true, ite_false, Lt_eq, cmpJ, gb1_some, gb2_some, gb3_some, gb4_some, gb5_some, gb6_some, gb7_some, gb8_some, Nat.add_zero, Nat.zero_add, Nat.add_sub_cancel, i_0, i_1, i_2, i_3, i_4, i_5, i_6, i_7, i_8, i_9, i_10, i_11, i_12, i_13, i_14, i_15, i_16, i_17, i_18, i_19, i_20, i_21, i_22, i_23, i_24, i_25, i_26, i_27, i_28, i_29, i_31, i_32, i_48, i_57, i_59, i_61, i_63, i_72, i_96, i_97, i_99, i_100, i_122, i_128, i_141, i_160, i_192, i_255, i_256, i_365, i_600, i_730, i_3650, i_9999, i_1000000, -Int32.reduceOfNat]
  | d + 1, n + 1, j, pt, h1, h2 => by
    simp (disch := omega) only [fX8_closeGap_L2, hc, J_lt, J_le, J_eq, J_nat, J_add, J_mul, J_sub, J_ne1, J_m1, J_le1, J_1le, J_1lt, J_lt1, J_dec, J_dec0, M1_def, M1_neg, n_leF, n_leT, n_ltF, n_ltT, false_or, or_false, true_or, or_true, and_true, true_and, false_and, and_false, not_true_eq_false, not_false_eq_true, if_true, if_false, ite_true, ite_false, Lt_eq, cmpJ, gb1_some, gb2_some, gb3_some, gb4_some, gb5_some, gb6_some, gb7_some, gb8_some, Nat.add_zero, Nat.zero_add, Nat.add_sub_cancel, i_0, i_1, i_2, i_3, i_4, i_5, i_6, i_7, i_8, i_9, i_10, i_11, i_12, i_13, i_14, i_15, i_16, i_17, i_18, i_19, i_20, i_21, i_22, i_23, i_24, i_25, i_26, i_27, i_28, i_29, i_31, i_32, i_48, i_57, i_59, i_61, i_63, i_72, i_96, i_97, i_99, i_100, i_122, i_128, i_141, i_160, i_192, i_255, i_256, i_365, i_600, i_730, i_3650, i_9999, i_1000000, -Int32.reduceOfNat]
    have ih := c_closeGap_L hN q (Int32.ofNat N) rfl lt ow pc k d n (j + 1)
    by_cases hv : pt j ≤ q
    · rw [if_pos hv, ih pt (by omega) (by omega)]
      congr 5
      funext x
      by_cases hx : x = j
      · subst hx
        rw [if_neg (by omega), if_pos (by omega), gI, if_pos hv]
      · by_cases h3 : j ≤ x ∧ x < j + (d + 1)
        · rw [if_pos (by omega), if_pos h3]
        · rw [if_neg (by omega), if_neg h3]
    · rw [if_neg hv, ih _ (by omega) (by omega)]
      congr 5
      funext x
      by_cases hx : x = j
      · subst hx
        rw [if_neg (by omega), if_pos (by omega), gI, if_neg hv, upd_eq]
        rfl
      · rw [upd_ne _ _ _ _ hx]
        by_cases h3 : j ≤ x ∧ x < j + (d + 1)
        · rw [if_pos (by omega), if_pos h3]
        · rw [if_neg (by omega), if_neg h3]
theorem c_closeGap {w : aWs} {W : tWords} (h : cW w W) (hn : w.1 ≤ 16) (hl : ∀ j, j < w.1 → (w.2.2.2 j).length ≤ 12) {q : Nat} (hq : q < 24) (hp : ∀ j, j < w.1 → ∀ x ∈ w.2.2.2 j, x < 24) : Ok (fX8_closeGap (Int32.ofNat q) W) (cW (wGap w q)) := by
  obtain ⟨c, lt, ow, pc, pt⟩ := W
  have hc : c = Int32.ofNat w.1 := h.1
  rw [fX8_closeGap, show (0 : Int32) = Int32.ofNat 0 from rfl, c_closeGap_L hn _ c hc lt ow pc _ (w.1 * 12) FU 0 pt (by omega) (by simp only [FU]; omega)]
  refine ok_some ⟨hc, fun i hi => ?_⟩
  have hi2 : i < w.1 := hi
  obtain ⟨a1, a2, a3, a4⟩ := h.2 i hi2
  refine ⟨a1, a2, ?_, fun m hm => ?_⟩
  · simp only [wGap, gap, List.length_map]; exact a3
  · simp only [wGap, gap, List.length_map] at hm
    have h12 := hl i hi2
    have hx := hp i hi2 _ (List.getElem_mem hm)
    have a5 := a4 m hm
    simp only at a5
    simp only [wGap, gap, List.getElem_map]
    rw [if_pos (by omega), a5, gI]
    simp (disch := omega) only [J_lt, J_le, J_eq, J_nat, J_add, J_mul, J_sub, J_ne1, J_m1, J_le1, J_1le, J_1lt, J_lt1, J_dec, J_dec0, M1_def, M1_neg, n_leF, n_leT, n_ltF, n_ltT, false_or, or_false, true_or, or_true, and_true, true_and, false_and, and_false, not_true_eq_false, not_false_eq_true, if_true, if_false, ite_true, ite_false, Lt_eq, cmpJ, gb1_some, gb2_some, gb3_some, gb4_some, gb5_some, gb6_some, gb7_some, gb8_some, Nat.add_zero, Nat.zero_add, Nat.add_sub_cancel, i_0, i_1, i_2, i_3, i_4, i_5, i_6, i_7, i_8, i_9, i_10, i_11, i_12, i_13, i_14, i_15, i_16, i_17, i_18, i_19, i_20, i_21, i_22, i_23, i_24, i_25, i_26, i_27, i_28, i_29, i_31, i_32, i_48, i_57, i_59, i_61, i_63, i_72, i_96, i_97, i_99, i_100, i_122, i_128, i_141, i_160, i_192, i_255, i_256, i_365, i_600, i_730, i_3650, i_9999, i_1000000, -Int32.reduceOfNat]
    by_cases c5 : q < (w.2.2.2 i)[m]
    · rw [if_neg (by omega), if_pos c5]
    · rw [if_pos (by omega), if_neg c5]
