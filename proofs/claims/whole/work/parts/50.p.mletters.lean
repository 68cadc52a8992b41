/-! letters in the reference -/
theorem Ji_bv (n : Nat) : (Int32.ofNat n).toBitVec = BitVec.ofNat 32 n := rfl
theorem J_or (a b : Nat) : Int32.ofNat a ||| Int32.ofNat b = Int32.ofNat (a ||| b) := by
  apply Int32.toBitVec_inj.mp
  rw [Int32.toBitVec_or, Ji_bv, Ji_bv, Ji_bv]
  apply BitVec.eq_of_toNat_eq
  simp only [BitVec.toNat_or, BitVec.toNat_ofNat]
  rw [Nat.or_mod_two_pow]
theorem J_and (a b : Nat) : Int32.ofNat a &&& Int32.ofNat b = Int32.ofNat (a &&& b) := by
  apply Int32.toBitVec_inj.mp
  rw [Int32.toBitVec_and, Ji_bv, Ji_bv, Ji_bv]
  apply BitVec.eq_of_toNat_eq
  simp only [BitVec.toNat_and, BitVec.toNat_ofNat]
  rw [Nat.and_mod_two_pow]
theorem J_and31 (a : Nat) : Int32.ofNat a &&& 31 = Int32.ofNat (a % 32) := by
  rw [i_31, J_and, show (31 : Nat) = 2 ^ 5 - 1 from rfl, Nat.and_two_pow_sub_one_eq_mod]
theorem sm32 : ∀ k : Nat, k < 32 → ((Int32.ofNat k).toBitVec.smod 32).toNat = k := by decide +kernel
theorem J_shl (v k : Nat) (hk : k < 32) : Int32.ofNat v <<< Int32.ofNat k = Int32.ofNat (v * 2 ^ k) := by
  apply Int32.toBitVec_inj.mp
  rw [Int32.toBitVec_shiftLeft]
  apply BitVec.eq_of_toNat_eq
  rw [BitVec.shiftLeft_eq', BitVec.toNat_shiftLeft, sm32 k hk, Ji_bv, Ji_bv, BitVec.toNat_ofNat, BitVec.toNat_ofNat, Nat.shiftLeft_eq, Nat.mod_mul_mod]
theorem J_shr (v k : Nat) (hv : v < 2147483648) (hk : k < 32) : Int32.ofNat v >>> Int32.ofNat k = Int32.ofNat (v / 2 ^ k) := by
  apply Int32.toBitVec_inj.mp
  rw [Int32.toBitVec_shiftRight]
  have hm : (BitVec.ofNat 32 v).msb = false := by
    rw [BitVec.msb_eq_false_iff_two_mul_lt, BitVec.toNat_ofNat]
    omega
  rw [BitVec.sshiftRight_eq', Ji_bv, BitVec.sshiftRight_eq_of_msb_false hm]
  apply BitVec.eq_of_toNat_eq
  have e := sm32 k hk
  rw [Ji_bv] at e
  rw [BitVec.toNat_ushiftRight, Ji_bv, e, BitVec.toNat_ofNat, Ji_bv, BitVec.toNat_ofNat, Nat.shiftRight_eq_div_pow, Nat.mod_eq_of_lt (show v < 2 ^ 32 by omega), Nat.mod_eq_of_lt]
  exact Nat.lt_of_le_of_lt (Nat.div_le_self _ _) (by omega)
theorem l5_31 : ((5 : Int32) &&& 31) = Int32.ofNat 5 := by decide
theorem J_push (v a : Nat) (ha : a < 32) : (Int32.ofNat v <<< ((5 : Int32) &&& 31)) ||| Int32.ofNat a = Int32.ofNat (a + 32 * v) := by
  rw [l5_31, J_shl _ _ (by decide), J_or]
  have := Nat.two_pow_add_eq_or_of_lt (i := 5) (show a < 2 ^ 5 from ha) v
  rw [Nat.mul_comm, ← this, Nat.add_comm]
theorem Lo_push (v a : Nat) (ha : a < 32) : (glshl (Int64.ofNat v) 5) ||| (Int32.ofNat a).toInt64 = Int64.ofNat (a + 32 * v) := by
  have e : (Int32.ofNat a).toInt64 = Int64.ofNat a := by
    have : ∀ a : Nat, a < 32 → (Int32.ofNat a).toInt64 = Int64.ofNat a := by decide +kernel
    exact this a ha
  rw [e, i_5, Lo_shl _ _ (by decide), Lo_or]
  have := Nat.two_pow_add_eq_or_of_lt (i := 5) (show a < 2 ^ 5 from ha) v
  rw [Nat.mul_comm, ← this, Nat.add_comm]
def sp (l : List Nat) (spelled : Nat → Int32) : Prop := ∀ k (h : k < l.length), spelled k = Int32.ofNat (l[k])
theorem wf_get {l : List Nat} (h : wf l) {k : Nat} (hk : k < l.length) : 1 ≤ l[k] ∧ l[k] ≤ 26 := h _ (List.getElem_mem hk)
theorem sec_snoc {l : List Nat} {i j : Nat} (h : i + j < l.length) : (l.drop i).take (j + 1) = (l.drop i).take j ++ [l[i + j]] := by
  have hj : j < (l.drop i).length := by simp; omega
  rw [List.take_succ_eq_append_getElem hj]
  congr 1
  simp
theorem m_code_L {l : List Nat} (hw : wf l) (hl : l.length ≤ 12) {spelled : Nat → Int32} (hs : sp l spelled) {i n0 : Nat} (hi : i + n0 ≤ l.length) (k : Int32 → Option Int32) : ∀ (d j n : Nat), j + d = n0 → d < n → fX10_code_L5 (Int32.ofNat i) (Int32.ofNat n0) spelled k n (B32 ((l.drop i).take j)) (Int32.ofNat j) = k (B32 ((l.drop i).take n0))
  | d, j, 0, _, h2 => by omega
  | 0, j, n + 1, h1, _ => by
    have : j = n0 := by omega
    subst this
    simp (disch := omega) only [fX10_code_L5, J_lt, J_le, J_eq, J_nat, J_add, J_mul, J_sub, J_ne1, J_m1, J_le1, J_1le, J_1lt, J_lt1, J_dec, J_dec0, M1_def, M1_neg, n_leF, n_leT, n_ltF, n_ltT, false_or, or_false, true_or, or_true, and_true, true_and, false_and, and_false, not_true_eq_false, not_false_eq_true, if_true, if_false, ite_true, ite_false, Lt_eq, cmpJ, gb1_some, gb2_some, gb3_some, gb4_some, gb5_some, gb6_some, gb7_some, gb8_some, Nat.add_zero, Nat.zero_add, Nat.add_sub_cancel, i_0, i_1, i_2, i_3, i_4, i_5, i_6, i_7, i_8, i_9, i_10, i_11, i_12, i_13, i_14, i_15, i_16, i_17, i_18, i_19, i_20, i_21, i_22, i_23, i_24, i_25, i_26, i_27, i_28, i_29, i_31, i_32, i_48, i_57, i_59, i_61, i_63, i_72, i_96, i_97, i_99, i_100, i_122, i_128, i_141, i_160, i_192, i_255, i_256, i_365, i_600, i_730, i_3650, i_9999, i_1000000, -Int32.reduceOfNat]
  | d + 1, j, n + 1, h1, h2 => by
    have hx := wf_get hw (show i + j < l.length by omega)
    rw [fX10_code_L5, if_neg (by rw [J_le _ _ (by omega) (by omega)]; omega), J_add, if_neg (by rw [i_0, J_lt _ _ (by omega) (by omega), J_nat _ (by omega)]; omega), J_nat _ (by omega), hs _ (by omega), B32, J_push _ _ (by omega), ← beN_snoc, ← sec_snoc (by omega), i_1, J_add]
    exact m_code_L hw hl hs hi k d (j + 1) n (by omega) (by omega)
theorem m_code {l : List Nat} (hw : wf l) (hl : l.length ≤ 12) {spelled : Nat → Int32} (hs : sp l spelled) {i n0 : Nat} (hi : i + n0 ≤ l.length) : fX10_code (Int32.ofNat i) (Int32.ofNat n0) spelled = some (B32 ((l.drop i).take n0)) := by
  have := m_code_L hw hl hs hi (fun x => some x) n0 0 FU (by omega) (by simp only [FU]; omega)
  rw [List.take_zero] at this
  exact this
theorem m_letters_L (k : Int32 → Option Int32) : ∀ (r : List Nat) (n c : Nat), wf r → r.length ≤ 6 → r.length < n → fX10_lettersOf_L4 k n (Int32.ofNat c) (Int32.ofNat (leN r)) = k (Int32.ofNat (c + r.length))
  | _, 0, _, _, _, h => by omega
  | [], n + 1, c, _, _, _ => by
    rw [fX10_lettersOf_L4, if_pos (by decide)]
    rfl
  | a :: r, n + 1, c, hw, hl, hn => by
    obtain ⟨h1, h2⟩ := wf_cons.mp hw
    rw [List.length_cons] at hl hn
    have hb : leN (a :: r) < 2 ^ 30 := Nat.lt_of_lt_of_le (leN_lt hw) (pow6 (by rw [List.length_cons]; omega))
    have hp := leN_pos hw (by simp)
    rw [fX10_lettersOf_L4, if_neg (by rw [i_0, J_le _ _ (by omega) (by omega)]; omega), l5_31, J_shr _ _ (by omega) (by decide), i_1, J_add]
    have e : leN (a :: r) / 2 ^ 5 = leN r := by
      simp only [leN]
      omega
    rw [e, m_letters_L k r n (c + 1) h2 (by omega) (by omega), List.length_cons]
    congr 2
    omega
theorem m_letters {l : List Nat} (hw : wf l) (hl : l.length ≤ 6) : fX10_lettersOf (B32 l) = some (Int32.ofNat l.length) := by
  have := m_letters_L (fun x => some x) l.reverse FU 0 (wf_rev hw) (by simpa using hl) (by simp only [FU, List.length_reverse]; omega)
  rw [Nat.zero_add, List.length_reverse] at this
  exact this
theorem m_name_L {l : List Nat} (hw : wf l) (hl : l.length ≤ 12) {spelled : Nat → Int32} (hs : sp l spelled) (k : Int64 → Option Int64) : ∀ (d j n : Nat), j + d = l.length → d < n → fX10_name_L4 (Int32.ofNat l.length) spelled k n (B64 (l.take j)) (Int32.ofNat j) = k (B64 l)
  | d, j, 0, _, h2 => by omega
  | 0, j, n + 1, h1, _ => by
    rw [List.take_of_length_le (by omega), fX10_name_L4, if_pos (by rw [J_le _ _ (by omega) (by omega)]; omega)]
  | d + 1, j, n + 1, h1, h2 => by
    have hj : j < l.length := by omega
    have hx := wf_get hw hj
    rw [fX10_name_L4, if_neg (by rw [J_le _ _ (by omega) (by omega)]; omega), if_neg (by rw [i_0, J_lt _ _ (by omega) (by omega), J_nat _ (by omega)]; omega), J_nat _ (by omega), hs _ hj, B64, Lo_push _ _ (by omega), ← beN_snoc, ← List.take_succ_eq_append_getElem hj, i_1, J_add]
    exact m_name_L hw hl hs k d (j + 1) n (by omega) (by omega)
theorem m_name {l : List Nat} (hw : wf l) (hl : l.length ≤ 12) {spelled : Nat → Int32} (hs : sp l spelled) : fX10_name (Int32.ofNat l.length) spelled = some (B64 l) := by
  have := m_name_L hw hl hs (fun x => some x) l.length 0 FU (by omega) (by simp only [FU]; omega)
  exact this
/-! the row of numbers -/
def mU (u : aUs) (now : Nat → Int32) : Prop := now 5 = Int32.ofNat u.1 ∧ ∀ i, i < u.1 → now (17 + i) = Int32.ofNat (u.2.2 i)
def mN (u : aUs) (names : Nat → Int64) : Prop := ∀ i, i < u.1 → names i = B64 (u.2.1 i)
def mP (p : aPs) (now : Nat → Int32) : Prop := now 9 = Int32.ofNat p.1 ∧ ∀ q, q < p.1 → now (21 + 5 * q) = B32 (p.2.1 q) ∧ now (21 + 5 * q + 1) = Int32.ofNat (p.2.2.1 q) ∧ now (21 + 5 * q + 2) = p.2.2.2.1 q ∧ now (21 + 5 * q + 3) = Int32.ofNat (p.2.2.2.2.1 q) ∧ now (21 + 5 * q + 4) = p.2.2.2.2.2 q
def mR (own : Nat) (pa : List Nat) (i : Nat) (now : Nat → Int32) : Prop := now (141 + 14 * i) = Int32.ofNat own ∧ now (141 + 14 * i + 1) = Int32.ofNat pa.length ∧ ∀ k (h : k < pa.length), now (141 + 14 * i + 2 + k) = Int32.ofNat (pa[k])
def mW (w : aWs) (now : Nat → Int32) : Prop := now 10 = Int32.ofNat w.1 ∧ ∀ i, i < w.1 → mR (w.2.2.1 i) (w.2.2.2 i) i now
def mS (st : Nat → Nat) (now : Nat → Int32) : Prop := ∀ i, i < 5 → now i = Int32.ofNat (st i)
def mA (f : Nat → Int32) (now : Nat → Int32) : Prop := ∀ i, i < 6 → now (11 + i) = f i
def mB (A : aB) (now : Nat → Int32) : Prop := mU A.1 now ∧ mP A.2.1 now ∧ mW A.2.2.1 now ∧ mS A.2.2.2.1 now ∧ mA A.2.2.2.2.1 now ∧ now 6 = A.2.2.2.2.2.1 ∧ now 7 = A.2.2.2.2.2.2.1 ∧ now 8 = A.2.2.2.2.2.2.2
theorem m_ofPiece {q w : Nat} (now : Nat → Int32) (hq : q < 24) (hw : w < 5) : fX10_ofPiece (Int32.ofNat q) (Int32.ofNat w) now = some (now (21 + 5 * q + w)) := by
  simp (disch := omega) only [fX10_ofPiece, J_lt, J_le, J_eq, J_nat, J_add, J_mul, J_sub, J_ne1, J_m1, J_le1, J_1le, J_1lt, J_lt1, J_dec, J_dec0, M1_def, M1_neg, n_leF, n_leT, n_ltF, n_ltT, false_or, or_false, true_or, or_true, and_true, true_and, false_and, and_false, not_true_eq_false, not_false_eq_true, if_true, if_false, ite_true, ite_false, Lt_eq, cmpJ, gb1_some, gb2_some, gb3_some, gb4_some, gb5_some, gb6_some, gb7_some, gb8_some, Nat.add_zero, Nat.zero_add, Nat.add_sub_cancel, i_0, i_1, i_2, i_3, i_4, i_5, i_6, i_7, i_8, i_9, i_10, i_11, i_12, i_13, i_14, i_15, i_16, i_17, i_18, i_19, i_20, i_21, i_22, i_23, i_24, i_25, i_26, i_27, i_28, i_29, i_31, i_32, i_48, i_57, i_59, i_61, i_63, i_72, i_96, i_97, i_99, i_100, i_122, i_128, i_141, i_160, i_192, i_255, i_256, i_365, i_600, i_730, i_3650, i_9999, i_1000000, -Int32.reduceOfNat]
theorem m_ofWord {i w : Nat} (now : Nat → Int32) (hq : i < 16) (hw : w < 14) : fX10_ofWord (Int32.ofNat i) (Int32.ofNat w) now = some (now (141 + 14 * i + w)) := by
  simp (disch := omega) only [fX10_ofWord, J_lt, J_le, J_eq, J_nat, J_add, J_mul, J_sub, J_ne1, J_m1, J_le1, J_1le, J_1lt, J_lt1, J_dec, J_dec0, M1_def, M1_neg, n_leF, n_leT, n_ltF, n_ltT, false_or, or_false, true_or, or_true, and_true, true_and, false_and, and_false, not_true_eq_false, not_false_eq_true, if_true, if_false, ite_true, ite_false, Lt_eq, cmpJ, gb1_some, gb2_some, gb3_some, gb4_some, gb5_some, gb6_some, gb7_some, gb8_some, Nat.add_zero, Nat.zero_add, Nat.add_sub_cancel, i_0, i_1, i_2, i_3, i_4, i_5, i_6, i_7, i_8, i_9, i_10, i_11, i_12, i_13, i_14, i_15, i_16, i_17, i_18, i_19, i_20, i_21, i_22, i_23, i_24, i_25, i_26, i_27, i_28, i_29, i_31, i_32, i_48, i_57, i_59, i_61, i_63, i_72, i_96, i_97, i_99, i_100, i_122, i_128, i_141, i_160, i_192, i_255, i_256, i_365, i_600, i_730, i_3650, i_9999, i_1000000, -Int32.reduceOfNat]
theorem m_pieceOf_L {p : aPs} {now : Nat → Int32} (h : mP p now) (hn : p.1 ≤ 24) (hr : okR p.1 p.2.1 6) {x : List Nat} (hx : wf x) (hl : x.length ≤ 6) (k : Option Int32) : ∀ (d n j : Nat), j + d = p.1 → d < n → fX10_pieceOf_L2 (B32 x) now k n (Int32.ofNat j) = if fndF p.2.1 x j d < p.1 then some (Int32.ofNat (fndF p.2.1 x j d)) else k
  | d, 0, j, _, h2 => by omega
  | 0, n + 1, j, h1, _ => by
    simp (disch := omega) only [fX10_pieceOf_L2, fndF, h.1, J_lt, J_le, J_eq, J_nat, J_add, J_mul, J_sub, J_ne1, J_m1, J_le1, J_1le, J_1lt, J_lt1, J_dec, J_dec0, M1_def, M1_neg, n_leF, n_leT, n_ltF, n_ltT, false_or, or_false, true_or, or_true, and_true, true_and, false_and, and_false, not_true_eq_false, not_false_eq_true, if_true, if_false, ite_true, ite_false, Lt_eq, cmpJ, gb1_some, gb2_some, gb3_some, gb4_some, gb5_some, gb6_some, gb7_some, gb8_some, Nat.add_zero, Nat.zero_add, Nat.add_sub_cancel, i_0, i_1, i_2, i_3, i_4, i_5, i_6, i_7, i_8, i_9, i_10, i_11, i_12, i_13, i_14, i_15, i_16, i_17, i_18, i_19, i_20, i_21, i_22, i_23, i_24, i_25, i_26, i_27, i_28, i_29, i_31, i_32, i_48, i_57, i_59, i_61, i_63, i_72, i_96, i_97, i_99, i_100, i_122, i_128, i_141, i_160, i_192, i_255, i_256, i_365, i_600, i_730, i_3650, i_9999, i_1000000, -Int32.reduceOfNat]
  | d + 1, n + 1, j, h1, h2 => by
    have e := (h.2 j (by omega)).1
    have ei := B32_inj (hr j (by omega)).1 hx (hr j (by omega)).2 hl
    have eo := m_ofPiece (q := j) (w := 0) now (by omega) (by omega)
    rw [Nat.add_zero, e] at eo
    rw [fX10_pieceOf_L2, if_neg (by rw [h.1, J_le _ _ (by omega) (by omega)]; omega), i_0, eo, gb1_some, i_1, J_add]
    simp only [ei, fndF]
    rw [m_pieceOf_L h hn hr hx hl k d n (j + 1) (by omega) (by omega)]
    by_cases c : p.2.1 j = x
    · simp (disch := omega) only [c, J_lt, J_le, J_eq, J_nat, J_add, J_mul, J_sub, J_ne1, J_m1, J_le1, J_1le, J_1lt, J_lt1, J_dec, J_dec0, M1_def, M1_neg, n_leF, n_leT, n_ltF, n_ltT, false_or, or_false, true_or, or_true, and_true, true_and, false_and, and_false, not_true_eq_false, not_false_eq_true, if_true, if_false, ite_true, ite_false, Lt_eq, cmpJ, gb1_some, gb2_some, gb3_some, gb4_some, gb5_some, gb6_some, gb7_some, gb8_some, Nat.add_zero, Nat.zero_add, Nat.add_sub_cancel, i_0, i_1, i_2, i_3, i_4, i_5, i_6, i_7, i_8, i_9, i_10, i_11, i_12, i_13, i_14, i_15, i_16, i_17, i_18, i_19, i_20, i_21, i_22, i_23, i_24, i_25, i_26, i_27, i_28, i_29, i_31, i_32, i_48, i_57, i_59, i_61, i_63, i_72, i_96, i_97, i_99, i_100, i_122, i_128, i_141, i_160, i_192, i_255, i_256, i_365, i_600, i_730, i_3650, i_9999, i_1000000, -Int32.reduceOfNat]
    · simp only [c, if_false]
theorem m_pieceOf {p : aPs} {now : Nat → Int32} (h : mP p now) (hn : p.1 ≤ 24) (hr : okR p.1 p.2.1 6) {x : List Nat} (hx : wf x) (hl : x.length ≤ 6) : fX10_pieceOf (B32 x) now = some (nr p.1 p.2.1 x) := by
  rw [fX10_pieceOf]
  have := m_pieceOf_L h hn hr hx hl (some M1) p.1 FU 0 (by omega) (by simp only [FU]; omega)
  simp only [M1_def] at this ⊢
  rw [show (0 : Int32) = Int32.ofNat 0 from rfl, this]
  unfold nr fnd
  split <;> rfl
theorem m_priceOf {st : Nat → Nat} {now : Nat → Int32} (h : mS st now) {x : List Nat} (hx : wf x) (hl : x.length ≤ 6) : fX10_priceOf (B32 x) now = some (Int32.ofNat (st 0 + st 1 * x.length)) := by
  rw [fX10_priceOf, m_letters hx hl, gb1_some, h 0 (by omega), h 1 (by omega), J_mul, J_add]
