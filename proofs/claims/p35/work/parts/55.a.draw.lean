/-! draws: numbers below a bound, rows of the letters 1 and 2 -/
theorem gush8 (x : Int32) : ∃ v, v < 16777216 ∧ gush x 8 = Int32.ofNat v := by
  refine ⟨x.toBitVec.toNat / 256, ?_, ?_⟩
  · have := x.toBitVec.isLt
    omega
  · have h := x.toBitVec.isLt
    have ek : (8 : Int32).toUInt32 &&& Int32.toUInt32 31 = UInt32.ofNat 8 := by decide
    unfold gush
    rw [ek]
    apply Int32.toBitVec_inj.mp
    show (x.toUInt32 >>> UInt32.ofNat 8).toBitVec = BitVec.ofNat 32 (x.toBitVec.toNat / 256)
    apply BitVec.eq_of_toNat_eq
    show (x.toUInt32 >>> UInt32.ofNat 8).toNat = _
    rw [UInt32.toNat_shiftRight]
    have e1 : (x.toUInt32).toNat = x.toBitVec.toNat := rfl
    have e2 : (UInt32.ofNat 8).toNat = 8 := by decide
    rw [e1, e2, Nat.shiftRight_eq_div_pow, BitVec.toNat_ofNat]
    show x.toBitVec.toNat / 256 = x.toBitVec.toNat / 256 % 4294967296
    rw [Nat.mod_eq_of_lt (by omega)]
theorem z_draw {m : Nat} (h0 : 0 < m) (hm : m < 1000000) (g : Nat → Int32) : ∃ r g', r < m ∧ fL_draw (Int32.ofNat m) g = some (Int32.ofNat r, g') := by
  obtain ⟨v, hv, e⟩ := gush8 (upd g 0 ((g 0) * 1664525 + 1013904223) 0)
  refine ⟨v % m, upd g 0 ((g 0) * 1664525 + 1013904223), Nat.mod_lt _ h0, ?_⟩
  rw [fL_draw]
  simp only [Lt_eq]
  have hd := Nat.div_add_mod v m
  have hmul : v / m * m = m * (v / m) := Nat.mul_comm _ _
  rw [if_neg (by rw [J_eq0 _ (by omega)]; omega), e, J_div _ _ (by omega) (by omega), J_mul, J_sub _ _ (by omega), show v - v / m * m = v % m by omega]
theorem cd_surj : ∀ (n c : Nat), 2 ^ n ≤ c → c < 2 * 2 ^ n → ∃ l, ab l ∧ l.length = n ∧ cd l = c
  | 0, c, h1, h2 => ⟨[], fun _ h => absurd h List.not_mem_nil, rfl, by
      have : c = 1 := by simp at h1 h2; omega
      rw [this]; rfl⟩
  | n + 1, c, h1, h2 => by
    rw [Nat.pow_succ] at h1 h2
    obtain ⟨l, a1, a2, a3⟩ := cd_surj n (c / 2) (by omega) (by omega)
    refine ⟨l ++ [c % 2 + 1], ?_, by rw [List.length_append, a2]; rfl, ?_⟩
    · intro x hx
      rcases List.mem_append.mp hx with z | z
      · exact a1 x z
      · rw [List.mem_singleton] at z
        omega
    · rw [cd_app, a3]
      show c / 2 * 2 ^ 1 + (2 * 0 + (c % 2 + 1 - 1)) = c
      omega
theorem z_letters {m : Nat} (h0 : 0 < m) (hm : m ≤ 9) (g : Nat → Int32) : ∃ l g', ab l ∧ 1 ≤ l.length ∧ l.length ≤ m ∧ fL_letters (Int32.ofNat m) g = some (Int32.ofNat (cd l), g') := by
  obtain ⟨r, g1, hr, e1⟩ := z_draw h0 (show m < 1000000 by omega) g
  have p9 := pw9 (show 1 + r ≤ 9 by omega)
  obtain ⟨r2, g2, hr2, e2⟩ := z_draw (m := 2 ^ (1 + r)) (by omega) (by omega) g1
  obtain ⟨l, a1, a2, a3⟩ := cd_surj (1 + r) (2 ^ (1 + r) + r2) (by omega) (by omega)
  refine ⟨l, g2, a1, by omega, by omega, ?_⟩
  rw [fL_letters, e1, gb2_some, show (1 : Int32) = Int32.ofNat 1 from rfl, J_add, J_shl 1 _ (by omega), Nat.one_mul, e2, gb2_some, J_or _ _ (by omega) (by omega), a3]
  have := Nat.two_pow_add_eq_or_of_lt hr2 1
  rw [Nat.mul_one] at this
  rw [← this]
