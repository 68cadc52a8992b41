/-! shared: sets of bits -/
def pcN : Nat → Nat → Nat
  | 0, _ => 0
  | n + 1, v => v % 2 + pcN n (v / 2)
theorem and_div2 (a b : Nat) : (a &&& b) / 2 = (a / 2) &&& (b / 2) := by
  apply Nat.eq_of_testBit_eq
  intro i
  rw [Nat.testBit_and, Nat.testBit_div_two, Nat.testBit_div_two, Nat.testBit_div_two, Nat.testBit_and]
theorem and_mod2 (a b : Nat) : (a &&& b) % 2 = if a % 2 = 1 ∧ b % 2 = 1 then 1 else 0 := by
  have h : (a &&& b) % 2 = (a % 2) &&& (b % 2) := by
    have := Nat.and_mod_two_pow (a := a) (b := b) (n := 1)
    simpa using this
  rw [h]
  rcases Nat.mod_two_eq_zero_or_one a with h1 | h1 <;> rcases Nat.mod_two_eq_zero_or_one b with h2 | h2 <;> rw [h1, h2] <;> decide
theorem pcN_0 : ∀ n, pcN n 0 = 0
  | 0 => rfl
  | n + 1 => by rw [pcN, Nat.zero_mod, Nat.zero_div, pcN_0 n]
theorem pcN_step : ∀ (n v : Nat), 0 < v → v < 2 ^ n → pcN n (v &&& (v - 1)) + 1 = pcN n v
  | 0, v, h1, h2 => by omega
  | n + 1, v, h1, h2 => by
    rw [pcN, pcN, and_div2, and_mod2]
    by_cases h : v % 2 = 1
    · have e : (v - 1) / 2 = v / 2 := by omega
      rw [e, Nat.and_self, if_neg (by omega)]
      omega
    · have e : (v - 1) / 2 = v / 2 - 1 := by omega
      rw [e, if_neg (by omega)]
      have := pcN_step n (v / 2) (by omega) (by rw [Nat.pow_succ] at h2; omega)
      omega
theorem smF_shift (f : Nat → Nat) : ∀ (n j : Nat), smF f (j + 1) n = smF (fun q => f (q + 1)) j n
  | 0, _ => rfl
  | n + 1, j => by rw [smF, smF, smF_shift f n (j + 1)]
theorem pcN_sm : ∀ (n v : Nat), pcN n v = smF (fun q => if v.testBit q = true then 1 else 0) 0 n
  | 0, _ => rfl
  | n + 1, v => by
    rw [pcN, smF, smF_shift, pcN_sm n (v / 2)]
    congr 1
    · rw [Nat.testBit_zero]
      by_cases h : v % 2 = 1
      · simp [h]
      · simp [h]; omega
    · apply congrFun
      apply congrFun
      congr 1
      funext q
      rw [Nat.testBit_div_two]
def bs : Nat → List Nat → Nat
  | s, [] => s
  | s, q :: l => bs (s ||| 2 ^ q) l
theorem bs_bit : ∀ (l : List Nat) (s i : Nat), (bs s l).testBit i = (s.testBit i || decide (i ∈ l))
  | [], s, i => by simp [bs]
  | q :: l, s, i => by
    rw [bs, bs_bit l, Nat.testBit_or, Nat.testBit_two_pow]
    by_cases h : q = i
    · simp [h]
    · have : ¬ i = q := fun e => h e.symm
      simp [h, this]
theorem bs_lt {N : Nat} : ∀ (l : List Nat) (s : Nat), s < 2 ^ N → (∀ q ∈ l, q < N) → bs s l < 2 ^ N
  | [], s, h, _ => h
  | q :: l, s, h, hq => bs_lt l _ (Nat.or_lt_two_pow h (Nat.pow_lt_pow_right (by decide) (hq q (by simp)))) (fun x hx => hq x (by simp [hx]))
theorem m_set_L {A : aB} {now : Nat → Int32} (hm : mB A now) (hI : Inv A) {w : Nat} (hw : w < A.2.2.1.1) (k : Int32 → Option Int32) : ∀ (d j n s : Nat), j + d = (A.2.2.1.2.2.2 w).length → d < n → fX10_piecesOf_L4 (Int32.ofNat w) now k n (Int32.ofNat s) (Int32.ofNat j) = k (Int32.ofNat (bs s ((A.2.2.1.2.2.2 w).drop j)))
  | d, j, 0, s, _, h2 => by omega
  | 0, j, n + 1, s, h1, _ => by
    have h16 := hI.2.2.1.1
    have h12 := iW_len hI hw
    obtain ⟨_, g1, _⟩ := hm.2.2.1.2 w hw
    rw [fX10_piecesOf_L4, i_1, m_ofWord now (by omega) (by omega), gb1_some, g1, if_pos (by rw [J_le _ _ (by omega) (by omega)]; omega), List.drop_eq_nil_of_le (by omega)]
    rfl
  | d + 1, j, n + 1, s, h1, h2 => by
    have h16 := hI.2.2.1.1
    have h12 := iW_len hI hw
    obtain ⟨_, g1, g2⟩ := hm.2.2.1.2 w hw
    have hj : j < (A.2.2.1.2.2.2 w).length := by omega
    have hx := w_24 hI w hw _ (List.getElem_mem hj)
    have ew : fX10_ofWord (Int32.ofNat w) (2 + Int32.ofNat j) now = some (Int32.ofNat ((A.2.2.1.2.2.2 w)[j])) := by
      rw [i_2, J_add, m_ofWord now (by omega) (by omega), ← g2 j hj]
      congr 2
      omega
    rw [fX10_piecesOf_L4, i_1, m_ofWord now (by omega) (by omega), gb1_some, g1, if_neg (by rw [J_le _ _ (by omega) (by omega)]; omega), ew, gb1_some, J_and31, Nat.mod_eq_of_lt (by omega), J_shl _ _ (by omega), Nat.one_mul, J_or, J_add, m_set_L hm hI hw k d (j + 1) n _ (by omega) (by omega), List.drop_eq_getElem_cons hj]
    rfl
theorem m_set {A : aB} {now : Nat → Int32} (hm : mB A now) (hI : Inv A) {w : Nat} (hw : w < A.2.2.1.1) : fX10_piecesOf (Int32.ofNat w) now = some (Int32.ofNat (bs 0 (A.2.2.1.2.2.2 w))) := by
  have h12 := iW_len hI hw
  have e := m_set_L hm hI hw (fun x2_1 => some x2_1) (A.2.2.1.2.2.2 w).length 0 FU 0 (by omega) (by simp only [FU]; omega)
  rw [List.drop_zero] at e
  exact e
theorem m_pop {N : Nat} (hN : 2 ^ N ≤ 1000000000) (k : Int32 → Option (Int32 × Int32)) : ∀ (n v c : Nat), v < 2 ^ N → pcN N v < n → fX10_shared_L40 k n (Int32.ofNat c) (Int32.ofNat v) = k (Int32.ofNat (c + pcN N v))
  | 0, v, c, _, h => by omega
  | n + 1, v, c, h1, h2 => by
    have hv : v < 2147483648 := by omega
    rw [fX10_shared_L40]
    by_cases h : v = 0
    · subst h
      rw [if_pos (show Int32.ofNat 0 = 0 from rfl), pcN_0]
      rfl
    · have hs := pcN_step N v (by omega) h1
      rw [if_neg (by rw [i_0, J_eq _ _ hv (by omega)]; exact h), i_1, J_sub _ _ (by omega), J_and, J_add, m_pop hN k n (v &&& (v - 1)) (c + 1) (Nat.lt_of_le_of_lt Nat.and_le_left h1) (by omega)]
      congr 2
      omega
theorem c_shared_L {A : aB} {P : tPieces} {W : tWords} (hP : cP A.2.1 P) (hW : cW A.2.2.1 W) (hI : Inv A) {w o : Nat} (hw : w < A.2.2.1.1) (ho : o < A.2.2.1.1) (k : Int32 → Option (Int32 × Int32)) : ∀ (d j n acc : Nat), j + d = A.2.1.1 → d < n → fX9_shared_L15 (Int32.ofNat w) (Int32.ofNat o) P W k n (Int32.ofNat acc) (Int32.ofNat j) = k (Int32.ofNat (acc + smF (fun q => if q ∈ A.2.2.1.2.2.2 w ∧ q ∈ A.2.2.1.2.2.2 o then 1 else 0) j d))
  | d, j, 0, acc, _, h2 => by omega
  | 0, j, n + 1, acc, h1, _ => by
    have h24 := hI.2.1.1
    rw [fX9_shared_L15, hP.1, if_pos (by rw [J_le _ _ (by omega) (by omega)]; omega)]
    rfl
  | d + 1, j, n + 1, acc, h1, h2 => by
    have h24 := hI.2.1.1
    have e1 := c_usesIn hW hI.2.2.1.1 hw (iW_len hI hw) (w_24 hI w hw) j (by omega)
    have e2 := c_usesIn hW hI.2.2.1.1 ho (iW_len hI ho) (w_24 hI o ho) j (by omega)
    have l1 := List.count_le_length (a := j) (l := A.2.2.1.2.2.2 w)
    have l2 := List.count_le_length (a := j) (l := A.2.2.1.2.2.2 o)
    have b1 := iW_len hI hw
    have b2 := iW_len hI ho
    have ih := fun a => c_shared_L hP hW hI hw ho k d (j + 1) n a (by omega) (by omega)
    rw [fX9_shared_L15, hP.1, if_neg (by rw [J_le _ _ (by omega) (by omega)]; omega), e1, gb1_some, i_1, J_add, J_add, smF]
    by_cases c1 : j ∈ A.2.2.1.2.2.2 w
    · have := List.count_pos_iff.mpr c1
      rw [if_neg (by rw [i_0, J_le _ _ (by omega) (by omega)]; omega), e2, gb1_some]
      by_cases c2 : j ∈ A.2.2.1.2.2.2 o
      · have := List.count_pos_iff.mpr c2
        rw [if_neg (by rw [i_0, J_le _ _ (by omega) (by omega)]; omega), ih, if_pos ⟨c1, c2⟩, Nat.add_assoc]
      · have := List.count_eq_zero.mpr c2
        rw [if_pos (by rw [i_0, J_le _ _ (by omega) (by omega)]; omega), ih, if_neg (fun h => c2 h.2), Nat.zero_add]
    · have := List.count_eq_zero.mpr c1
      rw [if_pos (by rw [i_0, J_le _ _ (by omega) (by omega)]; omega), ih, if_neg (fun h => c1 h.1), Nat.zero_add]
theorem sm_tail (f : Nat → Nat) (n : Nat) : ∀ (d : Nat), (∀ q, n ≤ q → f q = 0) → sm f (n + d) = sm f n
  | 0, _ => rfl
  | d + 1, h => by rw [← Nat.add_assoc, sm_succ, h _ (by omega), sm_tail f n d h]; rfl
theorem q_shared {A : aB} {b : tBk} {now : Nat → Int32} (hc : cBk A b) (hm : mB A now) (hI : Inv A) (u1 u2 t0 : Int32) : ∃ (x r r2 t : Int32), fX9_shared u1 u2 b.2.2.2.2.2.2.1 b.2.2.2.2.2.2.2 = some (x, r) ∧ fX10_shared u1 u2 t0 now = some (r2, t) ∧ ((x = 0 ∧ t = 0 ∧ r = r2) ∨ (x = 1 ∧ t = 1)) := by
  have h16 := hI.2.2.1.1
  have h24 := hI.2.1.1
  rcases idx_cases u1 A.2.2.1.1 with ⟨w, hw, _, rfl⟩ | ho
  · have hno := noW_in hm.2.2.1.1 hw (show A.2.2.1.1 ≤ 1000 by omega) t0
    have hreq := reqW_in hc.2.2.1.1 hw (show A.2.2.1.1 ≤ 1000 by omega)
    rcases idx_cases u2 A.2.2.1.1 with ⟨o, ho, _, rfl⟩ | ho2
    · have e := c_shared_L hc.2.1 hc.2.2.1 hI hw ho (fun x3_1 => some (0, x3_1)) A.2.1.1 0 FU 0 (by omega) (by simp only [FU]; omega)
      obtain ⟨N, hN⟩ : ∃ N : Nat, N = 24 := ⟨24, rfl⟩
      have hN2 : 2 ^ N ≤ 1000000000 := by rw [hN]; decide
      have l1 := bs_lt (N := N) (A.2.2.1.2.2.2 w) 0 (Nat.two_pow_pos N) (by rw [hN]; exact w_24 hI w hw)
      have l2 := bs_lt (N := N) (A.2.2.1.2.2.2 o) 0 (Nat.two_pow_pos N) (by rw [hN]; exact w_24 hI o ho)
      have l3 : bs 0 (A.2.2.1.2.2.2 w) &&& bs 0 (A.2.2.1.2.2.2 o) < 2 ^ N := Nat.lt_of_le_of_lt Nat.and_le_left l1
      have hpc : pcN N (bs 0 (A.2.2.1.2.2.2 w) &&& bs 0 (A.2.2.1.2.2.2 o)) = smF (fun q => if q ∈ A.2.2.1.2.2.2 w ∧ q ∈ A.2.2.1.2.2.2 o then 1 else 0) 0 A.2.1.1 := by
        rw [pcN_sm]
        have e1 : (fun q => if (bs 0 (A.2.2.1.2.2.2 w) &&& bs 0 (A.2.2.1.2.2.2 o)).testBit q = true then 1 else 0) = (fun q => if q ∈ A.2.2.1.2.2.2 w ∧ q ∈ A.2.2.1.2.2.2 o then 1 else 0) := by
          funext q
          rw [Nat.testBit_and, bs_bit, bs_bit, Nat.zero_testBit]
          by_cases c1 : q ∈ A.2.2.1.2.2.2 w
          · by_cases c2 : q ∈ A.2.2.1.2.2.2 o
            · simp [c1, c2]
            · simp [c1, c2]
          · simp [c1]
        rw [e1]
        have := sm_tail (fun q => if q ∈ A.2.2.1.2.2.2 w ∧ q ∈ A.2.2.1.2.2.2 o then 1 else 0) A.2.1.1 (N - A.2.1.1) (fun q hq => if_neg (fun h => by have := (hI.2.2.1.2 w hw).2.1 q h.1; omega))
        rw [show A.2.1.1 + (N - A.2.1.1) = N by omega] at this
        exact this
      have hb : pcN N (bs 0 (A.2.2.1.2.2.2 w) &&& bs 0 (A.2.2.1.2.2.2 o)) ≤ N := by
        rw [pcN_sm]
        have := sm_le (fun q => if (bs 0 (A.2.2.1.2.2.2 w) &&& bs 0 (A.2.2.1.2.2.2 o)).testBit q = true then 1 else 0) 1 N (fun i _ => by split <;> omega)
        rw [Nat.one_mul] at this
        exact this
      have e2 := m_pop hN2 (fun x3_1 => some (x3_1, 0)) FU (bs 0 (A.2.2.1.2.2.2 w) &&& bs 0 (A.2.2.1.2.2.2 o)) 0 l3 (by simp only [FU]; omega)
      refine ⟨0, Int32.ofNat (0 + smF (fun q => if q ∈ A.2.2.1.2.2.2 w ∧ q ∈ A.2.2.1.2.2.2 o then 1 else 0) 0 A.2.1.1), Int32.ofNat (0 + pcN N (bs 0 (A.2.2.1.2.2.2 w) &&& bs 0 (A.2.2.1.2.2.2 o))), 0, ?_, ?_, Or.inl ⟨rfl, rfl, by rw [hpc]⟩⟩
      · rw [fX9_shared, hreq, gb1_some, if_pos rfl, reqW_in hc.2.2.1.1 ho (by omega), gb1_some, if_pos rfl]
        exact e
      · rw [fX10_shared, hno, gb2_some, if_pos rfl, hm.2.2.1.1, no_in ho (by omega), gb2_some, if_pos rfl, m_set hm hI hw, gb1_some, m_set hm hI ho, gb1_some, J_and]
        exact e2
    · refine ⟨1, 0, 0, 1, ?_, ?_, Or.inr ⟨rfl, rfl⟩⟩
      · rw [fX9_shared, hreq, gb1_some, if_pos rfl, reqW_out hc.2.2.1.1 (by omega) ho2, gb1_some, if_neg (by decide)]
      · rw [fX10_shared, hno, gb2_some, if_pos rfl, hm.2.2.1.1, no_out (by omega) ho2, gb2_some, if_neg (by decide)]
  · refine ⟨1, 0, 0, 1, ?_, ?_, Or.inr ⟨rfl, rfl⟩⟩
    · rw [fX9_shared, reqW_out hc.2.2.1.1 (by omega) ho, gb1_some, if_neg (by decide)]
    · rw [fX10_shared, noW_out hm.2.2.1.1 (by omega) ho, gb2_some, if_neg (by decide)]
