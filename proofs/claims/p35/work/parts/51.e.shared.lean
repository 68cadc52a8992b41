/-! shared: sets of bits -/
def pcN : Nat → Nat → Nat
  | 0, _ => 0
  | n + 1, v => v % 2 + pcN n (v / 2)
theorem and_div2 (a b : Nat) : (a &&& b) / 2 = (a / 2) &&& (b / 2) := by
  apply Nat.eq_of_testBit_eq
  intro i
  rw [Nat.testBit_and, Nat.testBit_div_two, Nat.testBit_div_two, Nat.testBit_div_two, Nat.testBit_and]
theorem and_mod2 (a b : Nat) : (a &&& b) % 2 = if a % 2 = 1 ∧ b % 2 = 1 then 1 else 0 := by
  have h : (a &&& b) % 2 = (a % 2) &&& (b % 2) := by
    have := Nat.and_mod_two_pow (a := a) (b := b) (n := 1)
    simpa using this
  rw [h]
  rcases Nat.mod_two_eq_zero_or_one a with h1 | h1 <;> rcases Nat.mod_two_eq_zero_or_one b with h2 | h2 <;> rw [h1, h2] <;> decide
theorem pcN_0 : ∀ n, pcN n 0 = 0
  | 0 => rfl
  | n + 1 => by rw [pcN, Nat.zero_mod, Nat.zero_div, pcN_0 n]
theorem pcN_step : ∀ (n v : Nat), 0 < v → v < 2 ^ n → pcN n (v &&& (v - 1)) + 1 = pcN n v
  | 0, v, h1, h2 => by omega
  | n + 1, v, h1, h2 => by
    rw [pcN, pcN, and_div2, and_mod2]
    by_cases h : v % 2 = 1
    · have e : (v - 1) / 2 = v / 2 := by omega
      rw [e, Nat.and_self, if_neg (by omega)]
      omega
    · have e : (v - 1) / 2 = v / 2 - 1 := by omega
      rw [e, if_neg (by omega)]
      have := pcN_step n (v / 2) (by omega) (by rw [Nat.pow_succ] at h2; omega)
      omega
theorem smF_shift (f : Nat → Nat) : ∀ (n j : Nat), smF f (j + 1) n = smF (fun q => f (q + 1)) j n
  | 0, _ => rfl
  | n + 1, j => by rw [smF, smF, smF_shift f n (j + 1)]
theorem pcN_sm : ∀ (n v : Nat), pcN n v = smF (fun q => if v.testBit q = true then 1 else 0) 0 n
  | 0, _ => rfl
  | n + 1, v => by
    rw [pcN, smF, smF_shift, pcN_sm n (v / 2)]
    congr 1
    · rw [Nat.testBit_zero]
      by_cases h : v % 2 = 1
      · simp [h]
      · simp [h]; omega
    · apply congrFun
      apply congrFun
      congr 1
      funext q
      rw [Nat.testBit_div_two]
def bs : Nat → List Nat → Nat
  | s, [] => s
  | s, q :: l => bs (s ||| 2 ^ q) l
theorem bs_bit : ∀ (l : List Nat) (s i : Nat), (bs s l).testBit i = (s.testBit i || decide (i ∈ l))
  | [], s, i => by simp [bs]
  | q :: l, s, i => by
    rw [bs, bs_bit l, Nat.testBit_or, Nat.testBit_two_pow]
    by_cases h : q = i
    · simp [h]
    · have : ¬ i = q := fun e => h e.symm
      simp [h, this]
theorem bs_lt {N : Nat} : ∀ (l : List Nat) (s : Nat), s < 2 ^ N → (∀ q ∈ l, q < N) → bs s l < 2 ^ N
  | [], s, h, _ => h
  | q :: l, s, h, hq => bs_lt l _ (Nat.or_lt_two_pow h (Nat.pow_lt_pow_right (by decide) (hq q (by simp)))) (fun x hx => hq x (by simp [hx]))
theorem c_shared_L {A : aB} {P : tPieces} {W : tWords} (hP : cP A.2.1 P) (hW : cW A.2.2.1 W) (hI : Inv A) {w o : Nat} (hw : w < A.2.2.1.1) (ho : o < A.2.2.1.1) (k : Int32 → Option Int32) : ∀ (d j n acc : Nat), j + d = A.2.1.1 → d < n → fX9_shared_L15 (Int32.ofNat w) (Int32.ofNat o) P W k n (Int32.ofNat acc) (Int32.ofNat j) = k (Int32.ofNat (acc + smF (fun q => if q ∈ A.2.2.1.2.2.2 w ∧ q ∈ A.2.2.1.2.2.2 o then 1 else 0) j d))
  | d, j, 0, acc, _, h2 => by omega
  | 0, j, n + 1, acc, h1, _ => by
    have h24 := hI.2.1.1
    rw [fX9_shared_L15, hP.1, if_pos (by rw [J_le _ _ (by omega) (by omega)]; omega)]
    rfl
  | d + 1, j, n + 1, acc, h1, h2 => by
    have h24 := hI.2.1.1
    have e1 := c_usesIn hW hI.2.2.1.1 hw (iW_len hI hw) (w_24 hI w hw) j (by omega)
    have e2 := c_usesIn hW hI.2.2.1.1 ho (iW_len hI ho) (w_24 hI o ho) j (by omega)
    have l1 := List.count_le_length (a := j) (l := A.2.2.1.2.2.2 w)
    have l2 := List.count_le_length (a := j) (l := A.2.2.1.2.2.2 o)
    have b1 := iW_len hI hw
    have b2 := iW_len hI ho
    have ih := fun a => c_shared_L hP hW hI hw ho k d (j + 1) n a (by omega) (by omega)
    rw [fX9_shared_L15, hP.1, if_neg (by rw [J_le _ _ (by omega) (by omega)]; omega), e1, gb1_some, i_1, J_add, J_add, smF]
    by_cases c1 : j ∈ A.2.2.1.2.2.2 w
    · have := List.count_pos_iff.mpr c1
      rw [if_neg (by rw [i_0, J_le _ _ (by omega) (by omega)]; omega), e2, gb1_some]
      by_cases c2 : j ∈ A.2.2.1.2.2.2 o
      · have := List.count_pos_iff.mpr c2
        rw [if_neg (by rw [i_0, J_le _ _ (by omega) (by omega)]; omega), ih, if_pos ⟨c1, c2⟩, Nat.add_assoc]
      · have := List.count_eq_zero.mpr c2
        rw [if_pos (by rw [i_0, J_le _ _ (by omega) (by omega)]; omega), ih, if_neg (fun h => c2 h.2), Nat.zero_add]
    · have := List.count_eq_zero.mpr c1
      rw [if_pos (by rw [i_0, J_le _ _ (by omega) (by omega)]; omega), ih, if_neg (fun h => c1 h.1), Nat.zero_add]
theorem sm_tail (f : Nat → Nat) (n : Nat) : ∀ (d : Nat), (∀ q, n ≤ q → f q = 0) → sm f (n + d) = sm f n
  | 0, _ => rfl
  | d + 1, h => by rw [← Nat.add_assoc, sm_succ, h _ (by omega), sm_tail f n d h]; rfl
