/-! the two sides side by side -/
def sxb (v : Nat) : Int32 := (Int8.ofNat v).toInt32
def cBk (A : aB) (b : tBk) : Prop := cB A b.1 b.2.1 b.2.2.1 b.2.2.2.1 b.2.2.2.2.1 b.2.2.2.2.2.1 b.2.2.2.2.2.2.1 b.2.2.2.2.2.2.2
theorem J_of (x : Int32) (h : ¬ x < 0) : ∃ j, j < 2147483648 ∧ x = Int32.ofNat j := by
  refine ⟨x.toInt.toNat, ?_, ?_⟩
  · have := Int32.toInt_lt x
    omega
  · have h0 : 0 ≤ x.toInt := by
      rw [Int32.lt_iff_toInt_lt] at h
      have : (0 : Int32).toInt = 0 := by decide
      omega
    have h1 := Int32.toInt_lt x
    apply Int32.toInt_inj.mp
    rw [J_int _ (by omega)]
    omega
theorem idx_cases (x : Int32) (n : Nat) : (∃ i, i < n ∧ i < 2147483648 ∧ x = Int32.ofNat i) ∨ (x < 0 ∨ ∃ j, n ≤ j ∧ j < 2147483648 ∧ x = Int32.ofNat j) := by
  by_cases h : x < 0
  · exact Or.inr (Or.inl h)
  · obtain ⟨j, h1, h2⟩ := J_of x h
    by_cases c : j < n
    · exact Or.inl ⟨j, c, h1, h2⟩
    · exact Or.inr (Or.inr ⟨j, by omega, h1, h2⟩)
theorem req_in {i n : Nat} (hi : i < n) (hn : n ≤ 1000) : (Lt (none : Option Unit) fun (j_1 : Option Unit) => if Int32.ofNat i < 0 then (j_1) else (if Int32.ofNat i < Int32.ofNat n then (some ()) else (j_1))) = some () := by
  rw [Lt_eq, if_neg (by rw [i_0, J_lt _ _ (by omega) (by omega)]; omega), if_pos (by rw [J_lt _ _ (by omega) (by omega)]; omega)]
theorem inck {i n m : Nat} (hi : i < n) (hn : n ≤ m) (hm : m ≤ 1000) : ¬ (Int32.ofNat i < 0 ∨ m ≤ (Int32.ofNat i).toNatClampNeg) := by
  rw [i_0, J_lt _ _ (by omega) (by omega), J_nat _ (by omega)]
  omega
theorem inck' {i n m : Nat} (hi : i < n) (hn : n ≤ m) (hm : m ≤ 1000) : ¬ (Int32.ofNat i < 0 ∨ m ≤ i) := by
  rw [i_0, J_lt _ _ (by omega) (by omega)]
  omega
