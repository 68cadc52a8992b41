/-! key words, and the small steps of both parsers -/
def kw (i : Nat) : List Nat := if i = 0 then [2, 15, 15, 11] else if i = 1 then [21, 19, 5, 18] else if i = 2 then [16, 9, 5, 3, 5] else [23, 15, 18, 4]
theorem kw_len : ∀ i, i < 4 → fJ0_length_8abf5 i = some (Int32.ofNat (kw i).length) := by decide +kernel
theorem kw_ch : ∀ i, i < 4 → ∀ j, j < (kw i).length → fJ0_charAt_5068e i (Int32.ofNat j) = some (Int32.ofNat ((kw i).getD j 0 + 96)) := by decide +kernel
theorem kw_bd : ∀ i, i < 4 → 4 ≤ (kw i).length ∧ (kw i).length ≤ 5 ∧ ∀ j, j < (kw i).length → 1 ≤ (kw i).getD j 0 ∧ (kw i).getD j 0 ≤ 26 := by decide +kernel
theorem take_ext {l T : List Nat} {j : Nat} (hj : j < l.length) (hT : j < T.length) (h : l.take j = T.take j) (e : l[j] = T[j]) : l.take (j + 1) = T.take (j + 1) := by
  rw [List.take_succ_eq_append_getElem hj, List.take_succ_eq_append_getElem hT, h, e]
theorem getD_get (T : List Nat) {j : Nat} (h : j < T.length) : T.getD j 0 = T[j] := by
  rw [List.getD_eq_getElem?_getD, List.getElem?_eq_getElem h, Option.getD_some]
theorem c_spell_L {l : List Nat} (hw : wf l) (hl : l.length ≤ 12) {i : Nat} (hi : i < 4) (k : Option Int32) : ∀ (d j n : Nat), j + d = (kw i).length → d < n → j ≤ l.length → l.take j = (kw i).take j → fX4_spell_L2 i (L64 l) k n (Int32.ofNat j) = if (kw i).length ≤ l.length ∧ l.take (kw i).length = kw i then k else some 0
  | d, j, 0, _, h, _, _ => by omega
  | 0, j, n + 1, h1, _, hle, ht => by
    obtain ⟨k1, k2, k3⟩ := kw_bd i hi
    rw [fX4_spell_L2, kw_len i hi, gb1_some, if_pos (by rw [J_le _ _ (by omega) (by omega)]; omega)]
    rw [List.take_of_length_le (l := kw i) (by omega)] at ht
    rw [if_pos ⟨by omega, by rw [show (kw i).length = j by omega]; exact ht⟩]
  | d + 1, j, n + 1, h1, h2, hle, ht => by
    obtain ⟨k1, k2, k3⟩ := kw_bd i hi
    have hT : j < (kw i).length := by omega
    have hb := k3 j hT
    have e97 : Int32.ofNat ((kw i).getD j 0 + 96) - 97 = Int32.ofNat ((kw i).getD j 0 - 1) := by
      rw [i_97, J_sub _ _ (by omega)]
      congr 1
    rw [fX4_spell_L2, kw_len i hi, gb1_some, if_neg (by rw [J_le _ _ (by omega) (by omega)]; omega)]
    by_cases hj : j < l.length
    · have hwj := wf_get hw hj
      rw [c_letter_in hw hl hj, gb1_some, kw_ch i hi j hT, gb1_some, e97]
      by_cases c : l[j] = (kw i).getD j 0
      · rw [if_pos (by rw [c]), i_1, J_add]
        exact c_spell_L hw hl hi k d (j + 1) n (by omega) (by omega) hj (take_ext hj hT ht (by rw [c, getD_get _ hT]))
      · rw [if_neg (by rw [J_eq _ _ (by omega) (by omega)]; omega), if_neg]
        intro e
        apply c
        rw [getD_get _ hT]
        have e2 : (l.take (kw i).length)[j]'(by rw [List.length_take]; omega) = (kw i)[j] := by simp only [e.2]
        rw [List.getElem_take] at e2
        exact e2
    · rw [c_letter_out hw hl (Or.inr ⟨j, by omega, by omega, rfl⟩), gb1_some, kw_ch i hi j hT, gb1_some, e97, if_neg (by rw [show (-1 : Int32) = M1 from rfl, eq_comm, J_ne1 _ (by omega)]; exact fun h => h), if_neg (by omega)]
theorem c_spell {l : List Nat} (hw : wf l) (hl : l.length ≤ 12) {i : Nat} (hi : i < 4) : fX4_spell i (L64 l) = some (if l = kw i then 1 else 0) := by
  obtain ⟨k1, k2, k3⟩ := kw_bd i hi
  have := c_spell_L hw hl hi (gb1 (fX4_lengthOf (L64 l)) fun (r_1 : Int32) => gb1 (fJ0_length_8abf5 i) fun (r_2 : Int32) => if r_1 = r_2 then (some 1) else (some 0)) (kw i).length 0 FU (by omega) (by simp only [FU]; omega) (Nat.zero_le _) (by simp)
  rw [fX4_spell]
  refine Eq.trans this ?_
  rw [c_lengthOf hw hl, gb1_some, kw_len i hi, gb1_some]
  by_cases c : l = kw i
  · rw [if_pos c, if_pos ⟨by rw [c]; omega, by rw [c]; simp⟩, if_pos (by rw [c])]
  · rw [if_neg c]
    by_cases c2 : (kw i).length ≤ l.length ∧ l.take (kw i).length = kw i
    · rw [if_pos c2, if_neg]
      rw [J_eq _ _ (by omega) (by omega)]
      intro e
      apply c
      rw [← c2.2, List.take_of_length_le (by omega)]
    · rw [if_neg c2]
theorem kc3 {K : Nat} (h : K ≤ 4) : (kc K = 3) = (K = 1) := by
  have : K = 0 ∨ K = 1 ∨ K = 2 ∨ K = 3 ∨ K = 4 := by omega
  rcases this with rfl | rfl | rfl | rfl | rfl <;> simp [kc]
theorem kc4 {K : Nat} (h : K ≤ 4) : (kc K = 4) = (K = 2) := by
  have : K = 0 ∨ K = 1 ∨ K = 2 ∨ K = 3 ∨ K = 4 := by omega
  rcases this with rfl | rfl | rfl | rfl | rfl <;> simp [kc]
theorem kc5 {K : Nat} (h : K ≤ 4) : (kc K = 5) = (K = 3) := by
  have : K = 0 ∨ K = 1 ∨ K = 2 ∨ K = 3 ∨ K = 4 := by omega
  rcases this with rfl | rfl | rfl | rfl | rfl <;> simp [kc]
theorem kc0 {K : Nat} (h : K ≤ 4) : (kc K = 0) = (K = 0) := by
  have : K = 0 ∨ K = 1 ∨ K = 2 ∨ K = 3 ∨ K = 4 := by omega
  rcases this with rfl | rfl | rfl | rfl | rfl <;> simp [kc]
variable {bt : Nat → Nat} {N : Nat} {tc tm : Nat → Int32} {p s e K v : Nat}
def nC (K : Nat) : Int32 := if K = 2 then 3 else 1
