/-! cutting: the table and the class's cutter -/
def stp (sc : Nat → Nat → Nat) (dep : Nat) (T : Nat → Nat × Nat × Nat) (i n : Nat) (cur : Nat × Nat × Nat) : Nat × Nat × Nat :=
  if 1000000 ≤ dep + sc i n + (T (i + n)).1 then cur
  else if dep + sc i n + (T (i + n)).1 < cur.1 ∨ (dep + sc i n + (T (i + n)).1 = cur.1 ∧ 1 + (T (i + n)).2.1 < cur.2.1) then (dep + sc i n + (T (i + n)).1, 1 + (T (i + n)).2.1, n) else cur
def inn (sc : Nat → Nat → Nat) (dep : Nat) (T : Nat → Nat × Nat × Nat) (i : Nat) : Nat → Nat × Nat × Nat → Nat × Nat × Nat
  | 0, cur => cur
  | n + 1, cur => inn sc dep T i n (stp sc dep T i (n + 1) cur)
def lg (L i : Nat) : Nat := if L - i < 6 then L - i else 6
def tb (sc : Nat → Nat → Nat) (dep L : Nat) : Nat → (Nat → Nat × Nat × Nat)
  | 0 => fun _ => (0, 0, 0)
  | j + 1 => up (tb sc dep L j) (L - (j + 1)) (inn sc dep (tb sc dep L j) (L - (j + 1)) (lg L (L - (j + 1))) (1000000, 0, 0))
theorem stp_bd {sc : Nat → Nat → Nat} {dep : Nat} {T : Nat → Nat × Nat × Nat} {i n : Nat} {cur : Nat × Nat × Nat} {B : Nat} (hT : (T (i + n)).2.1 ≤ B) (h1 : cur.1 ≤ 1000000) (h2 : cur.2.1 ≤ B + 1) : (stp sc dep T i n cur).1 ≤ 1000000 ∧ (stp sc dep T i n cur).2.1 ≤ B + 1 := by
  unfold stp
  split
  · exact ⟨h1, h2⟩
  · split
    · simp only; omega
    · exact ⟨h1, h2⟩
theorem inn_bd {sc : Nat → Nat → Nat} {dep : Nat} {T : Nat → Nat × Nat × Nat} {i : Nat} {B : Nat} (hT : ∀ x, (T x).2.1 ≤ B) : ∀ (n : Nat) (cur : Nat × Nat × Nat), cur.1 ≤ 1000000 → cur.2.1 ≤ B + 1 → (inn sc dep T i n cur).1 ≤ 1000000 ∧ (inn sc dep T i n cur).2.1 ≤ B + 1
  | 0, cur, h1, h2 => ⟨h1, h2⟩
  | n + 1, cur, h1, h2 => by
    have := stp_bd (sc := sc) (dep := dep) (hT (i + (n + 1))) h1 h2
    exact inn_bd hT n _ this.1 this.2
theorem tb_bd (sc : Nat → Nat → Nat) (dep L : Nat) : ∀ (j x : Nat), (tb sc dep L j x).1 ≤ 1000000 ∧ (tb sc dep L j x).2.1 ≤ j
  | 0, x => by simp [tb]
  | j + 1, x => by
    unfold tb
    by_cases h : x = L - (j + 1)
    · rw [h, up_eq]
      exact inn_bd (fun x => (tb_bd sc dep L j x).2) _ _ (by decide) (by simp)
    · rw [up_ne _ _ _ _ h]
      have := tb_bd sc dep L j x
      omega
theorem upd_upd (f : Nat → Int32) (k : Nat) (a b : Int32) : upd (upd f k a) k b = upd f k b := by
  funext j
  simp only [upd]
  split <;> rfl
section CUT
variable {c1 c3 c4 dp len : Int32} {c2 : Nat → Int64} {row : Int64} {wc : Nat → Int32}
theorem c_try {sc : Nat → Nat → Nat} {dep : Nat} {T : Nat → Nat × Nat × Nat} {i m : Nat} {cur : Nat × Nat × Nat} {S : tCutR} {lc pc fl : Nat → Int32} (hd : dp = Int32.ofNat dep) (hd9 : dep ≤ 9) (hi : i < 12) (hm : 1 ≤ m) (hm6 : m ≤ 6) (him : i + m ≤ 12) (hs : S i m = Int32.ofNat (sc i m)) (hs2 : sc i m ≤ 1000000) (hl : lc (i + m) = Int32.ofNat (T (i + m)).1) (hp : pc (i + m) = Int32.ofNat (T (i + m)).2.1) (hT : (T (i + m)).1 ≤ 1000000) (hT2 : (T (i + m)).2.1 ≤ 12) (hc1 : cur.1 ≤ 1000000) (hc2 : cur.2.1 ≤ 13) : fX2_tryFirst (Int32.ofNat i) (Int32.ofNat m) (c1, c2, c3, c4, row, len, dp, upd lc i (Int32.ofNat cur.1), upd pc i (Int32.ofNat cur.2.1), upd fl i (Int32.ofNat cur.2.2), wc) S = some (c1, c2, c3, c4, row, len, dp, upd lc i (Int32.ofNat (stp sc dep T i m cur).1), upd pc i (Int32.ofNat (stp sc dep T i m cur).2.1), upd fl i (Int32.ofNat (stp sc dep T i m cur).2.2), wc) := by
  have n1 : i + m ≠ i := by omega
  simp (disch := omega) only [fX2_tryFirst, hd, upd_eq, upd_ne _ _ _ _ n1, hs, hl, hp, upd_upd, J_lt, J_le, J_eq, J_nat, J_add, J_mul, J_sub, J_ne1, J_m1, J_le1, J_1le, J_1lt, J_lt1, J_dec, J_dec0, M1_def, M1_neg, n_leF, n_leT, n_ltF, n_ltT, false_or, or_false, true_or, or_true, and_true, true_and, false_and, and_false, not_true_eq_false, not_false_eq_true, if_true, if_false, ite_true, ite_false, Lt_eq, cmpJ, gb1_some, gb2_some, gb3_some, gb4_some, gb5_some, gb6_some, gb7_some, gb8_some, Nat.add_zero, Nat.zero_add, Nat.add_sub_cancel, i_0, i_1, i_2, i_3, i_4, i_5, i_6, i_7, i_8, i_9, i_10, i_11, i_12, i_13, i_14, i_15, i_16, i_17, i_18, i_19, i_20, i_21, i_22, i_23, i_24, i_25, i_26, i_27, i_28, i_29, i_31, i_32, i_48, i_57, i_59, i_61, i_63, i_72, i_96, i_97, i_99, i_100, i_122, i_128, i_141, i_160, i_192, i_255, i_256, i_365, i_600, i_730, i_3650, i_9999, i_1000000, -Int32.reduceOfNat]
  unfold stp
  by_cases g1 : 1000000 ≤ dep + sc i m + (T (i + m)).1
  · rw [if_pos g1, if_pos g1]
  · rw [if_neg g1, if_neg g1]
    by_cases g2 : dep + sc i m + (T (i + m)).1 ≤ cur.1
    · rw [if_pos g2]
      by_cases g3 : dep + sc i m + (T (i + m)).1 < cur.1
      · rw [if_pos g3, if_pos (Or.inl g3)]
      · rw [if_neg g3]
        by_cases g4 : cur.2.1 ≤ 1 + (T (i + m)).2.1
        · rw [if_pos g4, if_neg (by omega)]
        · rw [if_neg g4, if_pos (by omega)]
    · rw [if_neg g2, if_neg (by omega)]
theorem c_inner {sc : Nat → Nat → Nat} {dep : Nat} {T : Nat → Nat × Nat × Nat} {i : Nat} {S : tCutR} {lc pc fl : Nat → Int32} {k : tCut → Option tCut} (hd : dp = Int32.ofNat dep) (hd9 : dep ≤ 9) (hi : i < 12) (hT2 : ∀ x, (T x).1 ≤ 1000000 ∧ (T x).2.1 ≤ 12) : ∀ (n f : Nat) (cur : Nat × Nat × Nat), n < f → n ≤ 6 → i + n ≤ 12 → (∀ m, 1 ≤ m → m ≤ n → S i m = Int32.ofNat (sc i m) ∧ sc i m ≤ 1000000 ∧ lc (i + m) = Int32.ofNat (T (i + m)).1 ∧ pc (i + m) = Int32.ofNat (T (i + m)).2.1) → cur.1 ≤ 1000000 → cur.2.1 ≤ 13 → fX2_solve_L59 (Int32.ofNat i) S k f (Int32.ofNat n) (c1, c2, c3, c4, row, len, dp, upd lc i (Int32.ofNat cur.1), upd pc i (Int32.ofNat cur.2.1), upd fl i (Int32.ofNat cur.2.2), wc) = k (c1, c2, c3, c4, row, len, dp, upd lc i (Int32.ofNat (inn sc dep T i n cur).1), upd pc i (Int32.ofNat (inn sc dep T i n cur).2.1), upd fl i (Int32.ofNat (inn sc dep T i n cur).2.2), wc)
  | n, 0, cur, h, _, _, _, _, _ => by omega
  | 0, f + 1, cur, _, _, _, _, _, _ => by
    simp (disch := omega) only [fX2_solve_L59, inn, J_lt, J_le, J_eq, J_nat, J_add, J_mul, J_sub, J_ne1, J_m1, J_le1, J_1le, J_1lt, J_lt1, J_dec, J_dec0, M1_def, M1_neg, n_leF, n_leT, n_ltF, n_ltT, false_or, or_false, true_or, or_true, and_true, true_and, false_and, and_false, not_true_eq_false, not_false_eq_true, if_true, if_false, ite_true, ite_false, Lt_eq, cmpJ, gb1_some, gb2_some, gb3_some, gb4_some, gb5_some, gb6_some, gb7_some, gb8_some, Nat.add_zero, Nat.zero_add, Nat.add_sub_cancel, i_0, i_1, i_2, i_3, i_4, i_5, i_6, i_7, i_8, i_9, i_10, i_11, i_12, i_13, i_14, i_15, i_16, i_17, i_18, i_19, i_20, i_21, i_22, i_23, i_24, i_25, i_26, i_27, i_28, i_29, i_31, i_32, i_48, i_57, i_59, i_61, i_63, i_72, i_96, i_97, i_99, i_100, i_122, i_128, i_141, i_160, i_192, i_255, i_256, i_365, i_600, i_730, i_3650, i_9999, i_1000000, -Int32.reduceOfNat]
  | n + 1, f + 1, cur, hf, h6, h12, hm, b1, b2 => by
    obtain ⟨m1, m2, m3, m4⟩ := hm (n + 1) (by omega) (Nat.le_refl _)
    have t := c_try (c1 := c1) (c2 := c2) (c3 := c3) (c4 := c4) (row := row) (len := len) (wc := wc) (fl := fl) hd hd9 hi (by omega) h6 h12 m1 m2 m3 m4 (hT2 _).1 (hT2 _).2 b1 b2
    have bd := stp_bd (sc := sc) (dep := dep) (hT2 (i + (n + 1))).2 b1 b2
    simp (disch := omega) only [fX2_solve_L59, inn, t, J_lt, J_le, J_eq, J_nat, J_add, J_mul, J_sub, J_ne1, J_m1, J_le1, J_1le, J_1lt, J_lt1, J_dec, J_dec0, M1_def, M1_neg, n_leF, n_leT, n_ltF, n_ltT, false_or, or_false, true_or, or_true, and_true, true_and, false_and, and_false, not_true_eq_false, not_false_eq_true, if_true, if_false, ite_true, ite_false, Lt_eq, cmpJ, gb1_some, gb2_some, gb3_some, gb4_some, gb5_some, gb6_some, gb7_some, gb8_some, Nat.add_zero, Nat.zero_add, Nat.add_sub_cancel, i_0, i_1, i_2, i_3, i_4, i_5, i_6, i_7, i_8, i_9, i_10, i_11, i_12, i_13, i_14, i_15, i_16, i_17, i_18, i_19, i_20, i_21, i_22, i_23, i_24, i_25, i_26, i_27, i_28, i_29, i_31, i_32, i_48, i_57, i_59, i_61, i_63, i_72, i_96, i_97, i_99, i_100, i_122, i_128, i_141, i_160, i_192, i_255, i_256, i_365, i_600, i_730, i_3650, i_9999, i_1000000, -Int32.reduceOfNat]
    exact c_inner hd hd9 hi hT2 n f _ (by omega) (by omega) (by omega) (fun m a b => hm m a (by omega)) bd.1 bd.2
theorem c_longest {L i : Nat} (hL : L ≤ 12) (hi : i ≤ L) {x : tCut} (hx : x.2.2.2.2.2.1 = Int32.ofNat L) : fX2_longestAt (Int32.ofNat i) x = some (Int32.ofNat (lg L i)) := by
  simp (disch := omega) only [fX2_longestAt, hx, lg, J_lt, J_le, J_eq, J_nat, J_add, J_mul, J_sub, J_ne1, J_m1, J_le1, J_1le, J_1lt, J_lt1, J_dec, J_dec0, M1_def, M1_neg, n_leF, n_leT, n_ltF, n_ltT, false_or, or_false, true_or, or_true, and_true, true_and, false_and, and_false, not_true_eq_false, not_false_eq_true, if_true, if_false, ite_true, ite_false, Lt_eq, cmpJ, gb1_some, gb2_some, gb3_some, gb4_some, gb5_some, gb6_some, gb7_some, gb8_some, Nat.add_zero, Nat.zero_add, Nat.add_sub_cancel, i_0, i_1, i_2, i_3, i_4, i_5, i_6, i_7, i_8, i_9, i_10, i_11, i_12, i_13, i_14, i_15, i_16, i_17, i_18, i_19, i_20, i_21, i_22, i_23, i_24, i_25, i_26, i_27, i_28, i_29, i_31, i_32, i_48, i_57, i_59, i_61, i_63, i_72, i_96, i_97, i_99, i_100, i_122, i_128, i_141, i_160, i_192, i_255, i_256, i_365, i_600, i_730, i_3650, i_9999, i_1000000, -Int32.reduceOfNat]
  split <;> rfl
def agr (sc : Nat → Nat → Nat) (dep L j : Nat) (lc pc fl : Nat → Int32) : Prop := ∀ x, L - j ≤ x → x ≤ L → lc x = Int32.ofNat (tb sc dep L j x).1 ∧ pc x = Int32.ofNat (tb sc dep L j x).2.1 ∧ (x < L → fl x = Int32.ofNat (tb sc dep L j x).2.2)
theorem c_outer {sc : Nat → Nat → Nat} {dep L : Nat} {S : tCutR} {k : tCut → Option tCut} {Q : tCut → Prop} (hd : dp = Int32.ofNat dep) (hd9 : dep ≤ 9) (hL : L ≤ 12) (hlen : len = Int32.ofNat L) (hS : ∀ i m, 1 ≤ m → m ≤ 6 → i + m ≤ L → S i m = Int32.ofNat (sc i m) ∧ sc i m ≤ 1000000) (hk : ∀ lc pc fl, agr sc dep L L lc pc fl → Ok (k (c1, c2, c3, c4, row, len, dp, lc, pc, fl, wc)) Q) : ∀ (d j f : Nat) (lc pc fl : Nat → Int32), j + d = L → d < f → agr sc dep L j lc pc fl → Ok (fX2_solve_L27 S k f (if d = 0 then M1 else Int32.ofNat (d - 1)) (c1, c2, c3, c4, row, len, dp, lc, pc, fl, wc)) Q
  | d, j, 0, lc, pc, fl, _, h, _ => by omega
  | 0, j, f + 1, lc, pc, fl, h1, _, ha => by
    have e : M1 < Int32.ofNat 0 := by decide
    have hj : j = L := by omega
    subst hj
    simp (disch := omega) only [fX2_solve_L27, e, J_lt, J_le, J_eq, J_nat, J_add, J_mul, J_sub, J_ne1, J_m1, J_le1, J_1le, J_1lt, J_lt1, J_dec, J_dec0, M1_def, M1_neg, n_leF, n_leT, n_ltF, n_ltT, false_or, or_false, true_or, or_true, and_true, true_and, false_and, and_false, not_true_eq_false, not_false_eq_true, if_true, if_false, ite_true, ite_false, Lt_eq, cmpJ, gb1_some, gb2_some, gb3_some, gb4_some, gb5_some, gb6_some, gb7_some, gb8_some, Nat.add_zero, Nat.zero_add, Nat.add_sub_cancel, i_0, i_1, i_2, i_3, i_4, i_5, i_6, i_7, i_8, i_9, i_10, i_11, i_12, i_13, i_14, i_15, i_16, i_17, i_18, i_19, i_20, i_21, i_22, i_23, i_24, i_25, i_26, i_27, i_28, i_29, i_31, i_32, i_48, i_57, i_59, i_61, i_63, i_72, i_96, i_97, i_99, i_100, i_122, i_128, i_141, i_160, i_192, i_255, i_256, i_365, i_600, i_730, i_3650, i_9999, i_1000000, -Int32.reduceOfNat]
    exact hk lc pc fl ha
  | d + 1, j, f + 1, lc, pc, fl, h1, h2, ha => by
    have hjx : L - (j + 1) = d := by omega
    have e0 : (d + 1 = 0) = False := by simp
    have lgb : lg L d ≤ 6 ∧ d + lg L d ≤ L := by
      unfold lg
      split <;> omega
    simp (disch := omega) only [fX2_solve_L27, hlen, e0, Nat.add_sub_cancel, J_lt, J_le, J_eq, J_nat, J_add, J_mul, J_sub, J_ne1, J_m1, J_le1, J_1le, J_1lt, J_lt1, J_dec, J_dec0, M1_def, M1_neg, n_leF, n_leT, n_ltF, n_ltT, false_or, or_false, true_or, or_true, and_true, true_and, false_and, and_false, not_true_eq_false, not_false_eq_true, if_true, if_false, ite_true, ite_false, Lt_eq, cmpJ, gb1_some, gb2_some, gb3_some, gb4_some, gb5_some, gb6_some, gb7_some, gb8_some, Nat.add_zero, Nat.zero_add, Nat.add_sub_cancel, i_0, i_1, i_2, i_3, i_4, i_5, i_6, i_7, i_8, i_9, i_10, i_11, i_12, i_13, i_14, i_15, i_16, i_17, i_18, i_19, i_20, i_21, i_22, i_23, i_24, i_25, i_26, i_27, i_28, i_29, i_31, i_32, i_48, i_57, i_59, i_61, i_63, i_72, i_96, i_97, i_99, i_100, i_122, i_128, i_141, i_160, i_192, i_255, i_256, i_365, i_600, i_730, i_3650, i_9999, i_1000000, -Int32.reduceOfNat]
    rw [c_longest hL (show d ≤ L by omega) rfl, gb1_some]
    have t := c_inner (c1 := c1) (c2 := c2) (c3 := c3) (c4 := c4) (row := row) (len := Int32.ofNat L) (dp := dp) (wc := wc) (sc := sc) (dep := dep) (T := tb sc dep L j) (i := d) (S := S) (lc := lc) (pc := pc) (fl := fl) (k := fun C_4 => fX2_solve_L27 S k f (Int32.ofNat d + M1) C_4) hd hd9 (by omega) (fun x => ⟨(tb_bd sc dep L j x).1, by have := (tb_bd sc dep L j x).2; omega⟩) (lg L d) FU (1000000, 0, 0) (by simp only [FU]; omega) lgb.1 (by omega) (fun m a b => by
      obtain ⟨s1, s2⟩ := hS d m a (by omega) (by omega)
      obtain ⟨a1, a2, _⟩ := ha (d + m) (by omega) (by omega)
      exact ⟨s1, s2, a1, a2⟩) (by decide) (by decide)
    simp only at t
    rw [t]
    have ei : Int32.ofNat d + M1 = (if d = 0 then M1 else Int32.ofNat (d - 1)) := by
      by_cases c : d = 0
      · rw [c]; rfl
      · rw [if_neg c, J_dec _ (by omega)]
    rw [ei]
    have := c_outer (L := L) hd hd9 hL hlen hS hk d (j + 1) f (upd lc d (Int32.ofNat (inn sc dep (tb sc dep L j) d (lg L d) (1000000, 0, 0)).1)) (upd pc d (Int32.ofNat (inn sc dep (tb sc dep L j) d (lg L d) (1000000, 0, 0)).2.1)) (upd fl d (Int32.ofNat (inn sc dep (tb sc dep L j) d (lg L d) (1000000, 0, 0)).2.2)) (by omega) (by omega) (fun x hx1 hx2 => by
      rw [tb, hjx]
      by_cases c : x = d
      · subst c
        simp only [upd_eq, up_eq]
        exact ⟨trivial, trivial, fun _ => trivial⟩
      · simp only [upd_ne _ _ _ _ c, up_ne _ _ _ _ c]
        exact ha x (by omega) hx2)
    rw [hlen] at this
    exact this
theorem c_solve0 {L : Nat} {S : tCutR} {lc pc fl : Nat → Int32} (hL : L ≤ 12) : fX2_solve (c1, c2, c3, c4, row, Int32.ofNat L, dp, lc, pc, fl, wc) S = fX2_solve_L27 S (fun C => some C) FU (Int32.ofNat L - 1) (c1, c2, c3, c4, row, Int32.ofNat L, dp, upd lc L 0, upd pc L 0, fl, wc) := by
  rw [fX2_solve]
  simp only []
  have e : ¬ (Int32.ofNat L < 0 ∨ 13 ≤ (Int32.ofNat L).toNatClampNeg) := by
    simp (disch := omega) only [J_lt, J_le, J_eq, J_nat, J_add, J_mul, J_sub, J_ne1, J_m1, J_le1, J_1le, J_1lt, J_lt1, J_dec, J_dec0, M1_def, M1_neg, n_leF, n_leT, n_ltF, n_ltT, false_or, or_false, true_or, or_true, and_true, true_and, false_and, and_false, not_true_eq_false, not_false_eq_true, if_true, if_false, ite_true, ite_false, Lt_eq, cmpJ, gb1_some, gb2_some, gb3_some, gb4_some, gb5_some, gb6_some, gb7_some, gb8_some, Nat.add_zero, Nat.zero_add, Nat.add_sub_cancel, i_0, i_1, i_2, i_3, i_4, i_5, i_6, i_7, i_8, i_9, i_10, i_11, i_12, i_13, i_14, i_15, i_16, i_17, i_18, i_19, i_20, i_21, i_22, i_23, i_24, i_25, i_26, i_27, i_28, i_29, i_31, i_32, i_48, i_57, i_59, i_61, i_63, i_72, i_96, i_97, i_99, i_100, i_122, i_128, i_141, i_160, i_192, i_255, i_256, i_365, i_600, i_730, i_3650, i_9999, i_1000000, -Int32.reduceOfNat]
  rw [if_neg e, Lt_eq, if_neg e, Lt_eq, J_nat L (by omega)]
theorem c_solve {sc : Nat → Nat → Nat} {dep L : Nat} {S : tCutR} {lc pc fl : Nat → Int32} (hd : dp = Int32.ofNat dep) (hd9 : dep ≤ 9) (hL : L ≤ 12) (hlen : len = Int32.ofNat L) (hS : ∀ i m, 1 ≤ m → m ≤ 6 → i + m ≤ L → S i m = Int32.ofNat (sc i m) ∧ sc i m ≤ 1000000) : Ok (fX2_solve (c1, c2, c3, c4, row, len, dp, lc, pc, fl, wc) S) (fun r => ∃ lc' pc' fl', r = (c1, c2, c3, c4, row, len, dp, lc', pc', fl', wc) ∧ agr sc dep L L lc' pc' fl') := by
  rw [hlen, c_solve0 hL]
  have ei : Int32.ofNat L - 1 = (if L = 0 then M1 else Int32.ofNat (L - 1)) := by
    by_cases c : L = 0
    · rw [c]; rfl
    · rw [if_neg c, i_1, J_sub _ _ (by omega)]
  rw [ei]
  exact c_outer (len := Int32.ofNat L) hd hd9 hL rfl hS (fun a b c h => ok_some ⟨a, b, c, rfl, h⟩) L 0 FU (upd lc L 0) (upd pc L 0) fl (by omega) (by simp only [FU]; omega) (fun x hx1 hx2 => by
    have : x = L := by omega
    subst this
    simp only [upd_eq, tb]
    exact ⟨rfl, rfl, fun h => absurd h (Nat.lt_irrefl _)⟩)
end CUT
