/-! the two sides side by side -/
def sxb (v : Nat) : Int32 := (Int8.ofNat v).toInt32
def cBk (A : aB) (b : tBk) : Prop := cB A b.1 b.2.1 b.2.2.1 b.2.2.2.1 b.2.2.2.2.1 b.2.2.2.2.2.1 b.2.2.2.2.2.2.1 b.2.2.2.2.2.2.2
def blk (f : Nat → Int32) (j : Nat) : Nat → Int32 := fun k => f (365 * j + k)
def same (A B : aB) : Prop := B.1.1 = A.1.1 ∧ B.1.2.1 = A.1.2.1
def hHi (A : aB) (h : Nat) (HA : Nat → aB) (Hs : tHist) (undo : Nat → Int32) : Prop := h ≤ 10 ∧ Hs.1 = Int32.ofNat h ∧ ∀ j, j < h → cBk (HA j) (Hs.2.2 j) ∧ mB (HA j) (blk undo j) ∧ Inv (HA j) ∧ same A (HA j)
def hSl (A : aB) (SA : Nat → aB) (fl : Nat → Nat) (Sl : tSlots) (filled slots isSaved : Nat → Int32) : Prop := ∀ j, j < 2 → fl j ≤ 1 ∧ filled j = Int32.ofNat (fl j) ∧ isSaved j = Int32.ofNat (fl j) ∧ (fl j = 1 → cBk (SA j) (Sl.2 j) ∧ mB (SA j) (blk slots j) ∧ Inv (SA j) ∧ same A (SA j))
def tX (n : Nat) (bt : Nat → Nat) (buffered : Int32) (buffer : Nat → Int32) (length : Int32) (text : Nat → Int32) : Prop := n ≤ 600 ∧ n % 20 = 0 ∧ buffered = Int32.ofNat n ∧ length = Int32.ofNat n ∧ ∀ i, i < n → bt i < 256 ∧ buffer i = sxb (bt i) ∧ text i = sxb (bt i)
def Sim (S : LC) (T : LM) : Prop := ∃ (A : aB) (n : Nat) (bt : Nat → Nat) (h : Nat) (HA SA : Nat → aB) (fl : Nat → Nat), cBk A S.2.1 ∧ mB A T.2.1 ∧ mN A.1 T.2.2.2.1 ∧ Inv A ∧ tX n bt S.1.1 S.1.2.2 T.1.2.1 T.2.2.2.2.2.1 ∧ S.1.2.1 = T.1.2.2.2.2.2.2.2.2.1 ∧ hHi A h HA S.2.2.2.2.2.2.2.1 T.2.2.2.2.2.2.2.2.2.2.2.2.1 ∧ T.1.2.2.2.2.2.2.2.2.2.2.2.2 = Int32.ofNat h ∧ hSl A SA fl S.2.2.2.2.2.2.2.2.1 S.2.2.2.2.2.2.2.2.2 T.2.2.2.2.2.2.2.2.2.2.2.2.2.1 T.2.2.2.2.2.2.2.2.2.2.2.2.2.2
theorem J_of (x : Int32) (h : ¬ x < 0) : ∃ j, j < 2147483648 ∧ x = Int32.ofNat j := by
  refine ⟨x.toInt.toNat, ?_, ?_⟩
  · have := Int32.toInt_lt x
    omega
  · have h0 : 0 ≤ x.toInt := by
      rw [Int32.lt_iff_toInt_lt] at h
      have : (0 : Int32).toInt = 0 := by decide
      omega
    have h1 := Int32.toInt_lt x
    apply Int32.toInt_inj.mp
    rw [J_int _ (by omega)]
    omega
theorem idx_cases (x : Int32) (n : Nat) : (∃ i, i < n ∧ i < 2147483648 ∧ x = Int32.ofNat i) ∨ (x < 0 ∨ ∃ j, n ≤ j ∧ j < 2147483648 ∧ x = Int32.ofNat j) := by
  by_cases h : x < 0
  · exact Or.inr (Or.inl h)
  · obtain ⟨j, h1, h2⟩ := J_of x h
    by_cases c : j < n
    · exact Or.inl ⟨j, c, h1, h2⟩
    · exact Or.inr (Or.inr ⟨j, by omega, h1, h2⟩)
theorem within_in {x : Int32} {i n : Nat} (hx : x = Int32.ofNat i) (hi : i ≤ n) (hn : n < 2147483648) : fX10_within x 0 (Int32.ofNat n) = some 1 := by
  subst hx
  rw [fX10_within, i_0, if_neg (by rw [J_lt _ _ (by omega) (by omega)]; omega), if_neg (by rw [J_lt _ _ (by omega) (by omega)]; omega), i_1]
theorem within_out {x : Int32} {n : Nat} (hn : n < 2147483648) (h : x < 0 ∨ ∃ j, n + 1 ≤ j ∧ j < 2147483648 ∧ x = Int32.ofNat j) : fX10_within x 0 (Int32.ofNat n) = some 0 := by
  rcases h with h | ⟨j, h1, h2, rfl⟩
  · rw [fX10_within, if_pos h]
  · rw [fX10_within, i_0, if_neg (by rw [J_lt _ _ (by omega) (by omega)]; omega), if_pos (by rw [J_lt _ _ (by omega) (by omega)]; omega)]
theorem throws_no (k : Int32) : fX10_throwsIf 0 k 0 = some (0, 0) := by
  rw [fX10_throwsIf, Lt_eq, if_pos rfl, if_pos rfl]
  rfl
theorem throws_1 : fX10_throwsIf 1 1 0 = some (1, 1) := by decide
theorem throws_2 : fX10_throwsIf 1 2 0 = some (1, 2) := by decide
theorem throws_3 : fX10_throwsIf 1 3 0 = some (1, 3) := by decide
theorem no_in {i n : Nat} (hi : i < n) (hn : n ≤ 1000) : fX10_no (Int32.ofNat i) (Int32.ofNat n) 0 = some (0, 0) := by
  rw [fX10_no, i_1, J_sub _ _ (by omega), within_in rfl (show i ≤ n - 1 by omega) (by omega), gb1_some, Lt_eq, if_neg (by decide)]
  dsimp only
  rw [throws_no]
  rfl
theorem no_out {x : Int32} {n : Nat} (hn : n ≤ 1000) (h : x < 0 ∨ ∃ j, n ≤ j ∧ j < 2147483648 ∧ x = Int32.ofNat j) : fX10_no x (Int32.ofNat n) 0 = some (1, 1) := by
  have e : fX10_within x 0 (Int32.ofNat n - 1) = some 0 := by
    by_cases c : n = 0
    · subst c
      rcases h with h | ⟨j, h1, h2, rfl⟩
      · rw [fX10_within, if_pos h]
      · have : Int32.ofNat 0 - 1 = M1 := by decide
        rw [this, fX10_within, i_0, if_neg (by rw [J_lt _ _ (by omega) (by omega)]; omega), if_pos (by rw [J_1lt _ (by omega)]; trivial)]
    · rw [i_1, J_sub _ _ (by omega)]
      refine within_out (by omega) ?_
      rcases h with h | ⟨j, h1, h2, h3⟩
      · exact Or.inl h
      · exact Or.inr ⟨j, by omega, h2, h3⟩
  rw [fX10_no, e, gb1_some, Lt_eq, if_pos rfl]
  dsimp only
  rw [throws_1]
  rfl
theorem req_in {i n : Nat} (hi : i < n) (hn : n ≤ 1000) : (if Int32.ofNat i < 0 then some (1 : Int32) else if Int32.ofNat i < Int32.ofNat n then some 0 else some 1) = some 0 := by
  rw [if_neg (by rw [i_0, J_lt _ _ (by omega) (by omega)]; omega), if_pos (by rw [J_lt _ _ (by omega) (by omega)]; omega)]
theorem req_out {x : Int32} {n : Nat} (hn : n ≤ 1000) (h : x < 0 ∨ ∃ j, n ≤ j ∧ j < 2147483648 ∧ x = Int32.ofNat j) : (if x < 0 then some (1 : Int32) else if x < Int32.ofNat n then some 0 else some 1) = some 1 := by
  rcases h with h | ⟨j, h1, h2, rfl⟩
  · rw [if_pos h]
  · rw [if_neg (by rw [i_0, J_lt _ _ (by omega) (by omega)]; omega), if_neg (by rw [J_lt _ _ (by omega) (by omega)]; omega)]
theorem inck {i n m : Nat} (hi : i < n) (hn : n ≤ m) (hm : m ≤ 1000) : ¬ (Int32.ofNat i < 0 ∨ m ≤ (Int32.ofNat i).toNatClampNeg) := by
  rw [i_0, J_lt _ _ (by omega) (by omega), J_nat _ (by omega)]
  omega
theorem inck' {i n m : Nat} (hi : i < n) (hn : n ≤ m) (hm : m ≤ 1000) : ¬ (Int32.ofNat i < 0 ∨ m ≤ i) := by
  rw [i_0, J_lt _ _ (by omega) (by omega)]
  omega
theorem s_errorPosition {S : LC} {T : LM} (h : Sim S T) : ∃ S9 T9, pL_errorPosition S T S9 T9 ∧ Sim S9 T9 := by
  obtain ⟨A, n, bt, hh, HA, SA, fl, h1, h2, h3, h4, h5, h6, h7, h8, h9⟩ := id h
  exact ⟨S, _, ⟨_, _, _, rfl, rfl, h6, rfl, rfl⟩, h⟩
theorem s_size {S : LC} {T : LM} (h : Sim S T) (u1 : Int32) : ∃ S9 T9, pL_size S T u1 S9 T9 ∧ Sim S9 T9 := by
  obtain ⟨A, n, bt, hh, HA, SA, fl, h1, h2, h3, h4, h5, h6, h7, h8, h9⟩ := id h
  obtain ⟨b1, b2, b3, b4, b5, b6, b7, b8⟩ := h1
  obtain ⟨m1, m2, m3, m4, m5, m6, m7, m8⟩ := h2
  have key : ∃ (x r r2 t : Int32), fX9_size u1 S.2.1.1 S.2.1.2.1 S.2.1.2.2.1 S.2.1.2.2.2.1 S.2.1.2.2.2.2.2.1 S.2.1.2.2.2.2.2.2.1 S.2.1.2.2.2.2.2.2.2 S.2.2.2.2.2.2.2.1 = some (x, r) ∧ fX10_size u1 T.1.1 T.1.2.2.2.2.2.2.2.2.2.2.2.2 T.2.1 = some (r2, t) ∧ ((x = 0 ∧ t = 0 ∧ r = r2) ∨ (x = 2 ∧ t = 1)) := by
    have ew := fun (i : Nat) (hi : i ≤ 11) => within_in (x := Int32.ofNat i) rfl hi (by decide)
    rcases idx_cases u1 12 with ⟨i, hi, hi2, rfl⟩ | ho
    · have e : fX10_within (Int32.ofNat i) 0 11 = some 1 := ew i (by omega)
      have e2 : ∀ (K : Int32 → Int32 → Option (Int32 × Int32)), gb2 (fX10_throwsIf 0 1 0) K = K 0 0 := by intro K; rw [throws_no]; rfl
      have hi3 : i = 0 ∨ i = 1 ∨ i = 2 ∨ i = 3 ∨ i = 4 ∨ i = 5 ∨ i = 6 ∨ i = 7 ∨ i = 8 ∨ i = 9 ∨ i = 10 ∨ i = 11 := by omega
      rcases hi3 with rfl | rfl | rfl | rfl | rfl | rfl | rfl | rfl | rfl | rfl | rfl | rfl
      · exact ⟨0, _, _, 0, rfl, rfl, Or.inl ⟨rfl, rfl, by rw [b1.1, m1.1]⟩⟩
      · exact ⟨0, _, _, 0, rfl, rfl, Or.inl ⟨rfl, rfl, by rw [b2.1, m2.1]⟩⟩
      · exact ⟨0, _, _, 0, rfl, rfl, Or.inl ⟨rfl, rfl, by rw [b3.1, m3.1]⟩⟩
      · exact ⟨0, _, _, 0, rfl, rfl, Or.inl ⟨rfl, rfl, by rw [b6, m6]⟩⟩
      · exact ⟨0, _, _, 0, rfl, rfl, Or.inl ⟨rfl, rfl, by rw [b7, m7]⟩⟩
      · exact ⟨0, _, _, 0, rfl, rfl, Or.inl ⟨rfl, rfl, by rw [b8, m8]⟩⟩
      · exact ⟨0, _, _, 0, rfl, rfl, Or.inl ⟨rfl, rfl, by rw [b4 0 (by omega)]; exact (m4 0 (by omega)).symm⟩⟩
      · exact ⟨0, _, _, 0, rfl, rfl, Or.inl ⟨rfl, rfl, by rw [b4 1 (by omega)]; exact (m4 1 (by omega)).symm⟩⟩
      · exact ⟨0, _, _, 0, rfl, rfl, Or.inl ⟨rfl, rfl, by rw [b4 2 (by omega)]; exact (m4 2 (by omega)).symm⟩⟩
      · exact ⟨0, _, _, 0, rfl, rfl, Or.inl ⟨rfl, rfl, by rw [b4 3 (by omega)]; exact (m4 3 (by omega)).symm⟩⟩
      · exact ⟨0, _, _, 0, rfl, rfl, Or.inl ⟨rfl, rfl, by rw [b4 4 (by omega)]; exact (m4 4 (by omega)).symm⟩⟩
      · exact ⟨0, _, _, 0, rfl, rfl, Or.inl ⟨rfl, rfl, by rw [h7.2.1, h8]⟩⟩
    · have hne : ∀ i, i < 12 → u1 ≠ Int32.ofNat i := by
        intro i hi e
        subst e
        rcases ho with h | ⟨j, h1, h2, h3⟩
        · rw [i_0, J_lt _ _ (by omega) (by omega)] at h
          omega
        · have := J_inj (by omega) h2 h3
          omega
      have e : fX10_within u1 0 11 = some 0 := within_out (n := 11) (by decide) ho
      refine ⟨2, 0, 0, 1, ?_, ?_, Or.inr ⟨rfl, rfl⟩⟩
      · rw [fX9_size, if_neg (show ¬ u1 = 0 from hne 0 (by omega)), if_neg (show ¬ u1 = 1 from hne 1 (by omega)), if_neg (show ¬ u1 = 2 from hne 2 (by omega)), if_neg (show ¬ u1 = 3 from hne 3 (by omega)), if_neg (show ¬ u1 = 4 from hne 4 (by omega)), if_neg (show ¬ u1 = 5 from hne 5 (by omega)), if_neg (show ¬ u1 = 6 from hne 6 (by omega)), if_neg (show ¬ u1 = 7 from hne 7 (by omega)), if_neg (show ¬ u1 = 8 from hne 8 (by omega)), if_neg (show ¬ u1 = 9 from hne 9 (by omega)), if_neg (show ¬ u1 = 10 from hne 10 (by omega)), if_neg (show ¬ u1 = 11 from hne 11 (by omega))]
      · rw [fX10_size, e, gb1_some, Lt_eq, if_pos rfl]
        dsimp only
        rw [throws_1, gb2_some, if_neg (by decide)]
  obtain ⟨x, r, r2, t, a, b, c⟩ := key
  exact ⟨S, _, ⟨x, r, r2, t, a, b, c, rfl, rfl⟩, h⟩
theorem s_account {S : LC} {T : LM} (h : Sim S T) (u1 : Int32) : ∃ S9 T9, pL_account S T u1 S9 T9 ∧ Sim S9 T9 := by
  obtain ⟨A, n, bt, hh, HA, SA, fl, h1, h2, h3, h4, h5, h6, h7, h8, h9⟩ := id h
  obtain ⟨b1, b2, b3, b4, b5, b6, b7, b8⟩ := h1
  obtain ⟨m1, m2, m3, m4, m5, m6, m7, m8⟩ := h2
  have key : ∃ (x r r2 t : Int32), fX9_account u1 S.2.1.2.2.2.2.1 = some (x, r) ∧ fX10_account u1 T.1.1 T.2.1 = some (r2, t) ∧ ((x = 0 ∧ t = 0 ∧ r = r2) ∨ (x = 2 ∧ t = 1)) := by
    rcases idx_cases u1 6 with ⟨i, hi, hi2, rfl⟩ | ho
    · have e : fX10_within (Int32.ofNat i) 0 5 = some 1 := within_in (n := 5) rfl (by omega) (by decide)
      refine ⟨0, _, _, 0, ?_, ?_, Or.inl ⟨rfl, rfl, (b5 i hi).trans (m5 i hi).symm⟩⟩
      · rw [fX9_account, fX9_requireBelow, if_neg (by rw [i_0, J_lt _ _ (by omega) (by omega)]; omega), if_pos (by rw [i_6, J_lt _ _ (by omega) (by omega)]; omega), gb1_some, if_pos rfl, if_neg (inck (n := 6) hi (by omega) (by omega)), J_nat _ (by omega)]
      · rw [fX10_account, e, gb1_some, Lt_eq, if_neg (by decide)]
        dsimp only
        rw [throws_no, gb2_some, if_pos rfl, i_11, J_add, if_neg (inck (i := 11 + i) (n := 300) (by omega) (by omega) (by omega)), J_nat _ (by omega)]
    · have e : fX10_within u1 0 5 = some 0 := within_out (n := 5) (by decide) ho
      refine ⟨2, 0, 0, 1, ?_, ?_, Or.inr ⟨rfl, rfl⟩⟩
      · have : fX9_requireBelow u1 6 = some 2 := by
          rcases ho with h | ⟨j, h1, h2, rfl⟩
          · rw [fX9_requireBelow, if_pos h]
          · rw [fX9_requireBelow, if_neg (by rw [i_0, J_lt _ _ (by omega) (by omega)]; omega), if_neg (by rw [i_6, J_lt _ _ (by omega) (by omega)]; omega)]
        rw [fX9_account, this, gb1_some, if_neg (by decide)]
      · rw [fX10_account, e, gb1_some, Lt_eq, if_pos rfl]
        dsimp only
        rw [throws_1, gb2_some, if_neg (by decide)]
  obtain ⟨x, r, r2, t, a, b, c⟩ := key
  exact ⟨S, _, ⟨x, r, r2, t, a, b, c, rfl, rfl⟩, h⟩
