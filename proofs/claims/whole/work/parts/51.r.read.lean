/-! key words, and the small steps of both parsers -/
def kw (i : Nat) : List Nat := if i = 0 then [2, 15, 15, 11] else if i = 1 then [21, 19, 5, 18] else if i = 2 then [16, 9, 5, 3, 5] else [23, 15, 18, 4]
theorem kw_len : ∀ i, i < 4 → fJ0_length_8abf5 i = some (Int32.ofNat (kw i).length) := by decide +kernel
theorem kw_ch : ∀ i, i < 4 → ∀ j, j < (kw i).length → fJ0_charAt_5068e i (Int32.ofNat j) = some (Int32.ofNat ((kw i).getD j 0 + 96)) := by decide +kernel
theorem kw_bd : ∀ i, i < 4 → 4 ≤ (kw i).length ∧ (kw i).length ≤ 5 ∧ ∀ j, j < (kw i).length → 1 ≤ (kw i).getD j 0 ∧ (kw i).getD j 0 ≤ 26 := by decide +kernel
theorem take_ext {l T : List Nat} {j : Nat} (hj : j < l.length) (hT : j < T.length) (h : l.take j = T.take j) (e : l[j] = T[j]) : l.take (j + 1) = T.take (j + 1) := by
  rw [List.take_succ_eq_append_getElem hj, List.take_succ_eq_append_getElem hT, h, e]
theorem getD_get (T : List Nat) {j : Nat} (h : j < T.length) : T.getD j 0 = T[j] := by
  rw [List.getD_eq_getElem?_getD, List.getElem?_eq_getElem h, Option.getD_some]
theorem c_spell_L {l : List Nat} (hw : wf l) (hl : l.length ≤ 12) {i : Nat} (hi : i < 4) (k : Option Int32) : ∀ (d j n : Nat), j + d = (kw i).length → d < n → j ≤ l.length → l.take j = (kw i).take j → fX4_spell_L2 i (L64 l) k n (Int32.ofNat j) = if (kw i).length ≤ l.length ∧ l.take (kw i).length = kw i then k else some 0
  | d, j, 0, _, h, _, _ => by omega
  | 0, j, n + 1, h1, _, hle, ht => by
    obtain ⟨k1, k2, k3⟩ := kw_bd i hi
    rw [fX4_spell_L2, kw_len i hi, gb1_some, if_pos (by rw [J_le _ _ (by omega) (by omega)]; omega)]
    rw [List.take_of_length_le (l := kw i) (by omega)] at ht
    rw [if_pos ⟨by omega, by rw [show (kw i).length = j by omega]; exact ht⟩]
  | d + 1, j, n + 1, h1, h2, hle, ht => by
    obtain ⟨k1, k2, k3⟩ := kw_bd i hi
    have hT : j < (kw i).length := by omega
    have hb := k3 j hT
    have e97 : Int32.ofNat ((kw i).getD j 0 + 96) - 97 = Int32.ofNat ((kw i).getD j 0 - 1) := by
      rw [i_97, J_sub _ _ (by omega)]
      congr 1
    rw [fX4_spell_L2, kw_len i hi, gb1_some, if_neg (by rw [J_le _ _ (by omega) (by omega)]; omega)]
    by_cases hj : j < l.length
    · have hwj := wf_get hw hj
      rw [c_letter_in hw hl hj, gb1_some, kw_ch i hi j hT, gb1_some, e97]
      by_cases c : l[j] = (kw i).getD j 0
      · rw [if_pos (by rw [c]), i_1, J_add]
        exact c_spell_L hw hl hi k d (j + 1) n (by omega) (by omega) hj (take_ext hj hT ht (by rw [c, getD_get _ hT]))
      · rw [if_neg (by rw [J_eq _ _ (by omega) (by omega)]; omega), if_neg]
        intro e
        apply c
        rw [getD_get _ hT]
        have e2 : (l.take (kw i).length)[j]'(by rw [List.length_take]; omega) = (kw i)[j] := by simp only [e.2]
        rw [List.getElem_take] at e2
        exact e2
    · rw [c_letter_out hw hl (Or.inr ⟨j, by omega, by omega, rfl⟩), gb1_some, kw_ch i hi j hT, gb1_some, e97, if_neg (by rw [show (-1 : Int32) = M1 from rfl, eq_comm, J_ne1 _ (by omega)]; exact fun h => h), if_neg (by omega)]
theorem c_spell {l : List Nat} (hw : wf l) (hl : l.length ≤ 12) {i : Nat} (hi : i < 4) : fX4_spell i (L64 l) = some (if l = kw i then 1 else 0) := by
  obtain ⟨k1, k2, k3⟩ := kw_bd i hi
  have := c_spell_L hw hl hi (gb1 (fX4_lengthOf (L64 l)) fun (r_1 : Int32) => gb1 (fJ0_length_8abf5 i) fun (r_2 : Int32) => if r_1 = r_2 then (some 1) else (some 0)) (kw i).length 0 FU (by omega) (by simp only [FU]; omega) (Nat.zero_le _) (by simp)
  rw [fX4_spell]
  refine Eq.trans this ?_
  rw [c_lengthOf hw hl, gb1_some, kw_len i hi, gb1_some]
  by_cases c : l = kw i
  · rw [if_pos c, if_pos ⟨by rw [c]; omega, by rw [c]; simp⟩, if_pos (by rw [c])]
  · rw [if_neg c]
    by_cases c2 : (kw i).length ≤ l.length ∧ l.take (kw i).length = kw i
    · rw [if_pos c2, if_neg]
      rw [J_eq _ _ (by omega) (by omega)]
      intro e
      apply c
      rw [← c2.2, List.take_of_length_le (by omega)]
    · rw [if_neg c2]
theorem m_isW_L {bt : Nat → Nat} {tm : Nat → Int32} {s e : Nat} (he : e ≤ 600) (hse : s ≤ e) (hlet : ∀ j, s ≤ j → j < e → pL (bt j) = true) (hbuf : ∀ j, j < e → tm j = sxb (bt j)) {i : Nat} (hi : i < 4) (hlen : e - s = (kw i).length) (k : Int32 → Option Int32) : ∀ (d j n : Nat), j + d = (kw i).length → d + 1 < n → (lets bt s e).take j = (kw i).take j → fX10_isWord_L32 i (Int32.ofNat s) tm k n 1 (Int32.ofNat j) = k (if lets bt s e = kw i then 1 else 0)
  | d, j, 0, _, h, _ => by omega
  | 0, j, n + 1, h1, _, ht => by
    obtain ⟨k1, k2, k3⟩ := kw_bd i hi
    rw [fX10_isWord_L32, kw_len i hi, gb1_some, if_pos (by rw [J_le _ _ (by omega) (by omega)]; omega)]
    rw [List.take_of_length_le (by rw [lets_len]; omega), List.take_of_length_le (by omega)] at ht
    rw [if_pos ht]
  | d + 1, j, n + 1, h1, h2, ht => by
    obtain ⟨k1, k2, k3⟩ := kw_bd i hi
    have hT : j < (kw i).length := by omega
    have hb := k3 j hT
    have hp := hlet (s + j) (by omega) (by omega)
    simp only [pL, decide_eq_true_eq] at hp
    have hj : j < (lets bt s e).length := by rw [lets_len]; omega
    have hg := lets_get bt s e j hj
    have et : tm (s + j) = Int32.ofNat (bt (s + j)) := by rw [hbuf _ (by omega), sxlo _ (by omega)]
    rw [fX10_isWord_L32, kw_len i hi, gb1_some, if_neg (by rw [J_le _ _ (by omega) (by omega)]; omega), if_neg (by decide), J_add, if_neg (inck (i := s + j) (n := 600) (by omega) (by omega) (by omega)), kw_ch i hi j hT, gb1_some, J_nat _ (by omega), et]
    by_cases c : bt (s + j) = (kw i).getD j 0 + 96
    · rw [if_pos (by rw [c]), i_1, J_add]
      exact m_isW_L he hse hlet hbuf hi hlen k d (j + 1) n (by omega) (by omega) (take_ext hj hT ht (by rw [hg, ← getD_get _ hT]; omega))
    · rw [if_neg (by rw [J_eq _ _ (by omega) (by omega)]; exact c), if_neg]
      · cases n with
        | zero => omega
        | succ n =>
          rw [fX10_isWord_L32, kw_len i hi, gb1_some, if_pos (c := (0 : Int32) = 0) rfl]
          split <;> rfl
      · intro e2
        apply c
        have : (lets bt s e)[j] = (kw i)[j] := by simp only [e2]
        rw [hg, ← getD_get _ hT] at this
        omega
theorem m_isW {bt : Nat → Nat} {N : Nat} (hN : N ≤ 600) {tc tm : Nat → Int32} (hY : tY N bt tc tm) {p s e K v : Nat} (h : Tok N bt tc tm p s e K v) {i : Nat} (hi : i < 4) : fX10_isWord i (Int32.ofNat s) (Int32.ofNat e) (Int32.ofNat K) tm = some (if K = 1 ∧ lets bt s e = kw i then 1 else 0) := by
  obtain ⟨h1, h2, h3, h4, h5, h6, h7, h8, h9⟩ := h
  obtain ⟨k1, k2, k3⟩ := kw_bd i hi
  have hno : fX10_isWord_L32 i (Int32.ofNat s) tm (fun x2_1 => (if x2_1 &&& 1 = x2_1 then (some x2_1) else none)) FU 0 0 = some 0 := by
    obtain ⟨m, hm⟩ := fu5
    rw [hm, fX10_isWord_L32, kw_len i hi, gb1_some, if_neg (by rw [i_0, J_le _ _ (by omega) (by omega)]; omega), if_pos rfl, if_pos (by decide)]
  rw [fX10_isWord, Lt_eq, Lt_eq]
  dsimp only
  by_cases cK : K = 1
  · obtain ⟨h61, h62⟩ := h6 cK
    rw [if_pos (by rw [cK]; rfl), kw_len i hi, gb1_some, J_sub _ _ h2]
    by_cases cl : e - s = (kw i).length
    · rw [if_pos (by rw [cl])]
      have := m_isW_L (tm := tm) (by omega) h2 h62 (fun j hj => (hY j (by omega)).2.2) hi cl (fun x2_1 => (if x2_1 &&& 1 = x2_1 then (some x2_1) else none)) (kw i).length 0 FU (by omega) (by simp only [FU]; omega) (by simp)
      refine this.trans ?_
      by_cases c : lets bt s e = kw i
      · rw [if_pos c, if_pos (show K = 1 ∧ lets bt s e = kw i from ⟨cK, c⟩)]
        rfl
      · rw [if_neg c, if_neg (show ¬ (K = 1 ∧ lets bt s e = kw i) from fun h => c h.2)]
        rfl
    · rw [if_neg (by rw [J_eq _ _ (by omega) (by omega)]; exact cl), hno, if_neg]
      intro h
      apply cl
      rw [← h.2, lets_len]
  · rw [if_neg (by rw [i_1, J_eq _ _ (by omega) (by omega)]; exact cK), hno, if_neg (fun h => cK h.1)]
theorem kc3 {K : Nat} (h : K ≤ 4) : (kc K = 3) = (K = 1) := by
  have : K = 0 ∨ K = 1 ∨ K = 2 ∨ K = 3 ∨ K = 4 := by omega
  rcases this with rfl | rfl | rfl | rfl | rfl <;> simp [kc]
theorem kc4 {K : Nat} (h : K ≤ 4) : (kc K = 4) = (K = 2) := by
  have : K = 0 ∨ K = 1 ∨ K = 2 ∨ K = 3 ∨ K = 4 := by omega
  rcases this with rfl | rfl | rfl | rfl | rfl <;> simp [kc]
theorem kc5 {K : Nat} (h : K ≤ 4) : (kc K = 5) = (K = 3) := by
  have : K = 0 ∨ K = 1 ∨ K = 2 ∨ K = 3 ∨ K = 4 := by omega
  rcases this with rfl | rfl | rfl | rfl | rfl <;> simp [kc]
theorem kc0 {K : Nat} (h : K ≤ 4) : (kc K = 0) = (K = 0) := by
  have : K = 0 ∨ K = 1 ∨ K = 2 ∨ K = 3 ∨ K = 4 := by omega
  rcases this with rfl | rfl | rfl | rfl | rfl <;> simp [kc]
variable {bt : Nat → Nat} {N : Nat} {tc tm : Nat → Int32} {p s e K v : Nat}
theorem c_letters (h : Tok N bt tc tm p s e K v) (ea ec k a : Int32) (l : Int64) (u : Int32) : (K = 1 → ∃ u', fX5_readLetters ea (Int32.ofNat N) (Int32.ofNat p) ec k a l u tc = some (1, ea, Int32.ofNat e, ec, kc K, Int32.ofNat s, L64 (lets bt s e), u')) ∧ (K ≠ 1 → ∃ l' u', fX5_readLetters ea (Int32.ofNat N) (Int32.ofNat p) ec k a l u tc = some (0, Int32.ofNat s, Int32.ofNat e, 1, kc K, Int32.ofNat s, l', u')) := by
  obtain ⟨h1, h2, h3, h4, h5, h6, h7, h8, h9⟩ := h
  obtain ⟨l', u', r1, r2, r3⟩ := h8 k a l u
  refine ⟨fun c => ⟨u', ?_⟩, fun c => ⟨l', u', ?_⟩⟩
  · rw [fX5_readLetters, r1, gb5_some, if_pos (by rw [kc3 h4]; exact c), r2 c]
  · rw [fX5_readLetters, r1, gb5_some, if_neg (by rw [kc3 h4]; exact c), fX5_fail, gb3_some, if_pos rfl]
theorem c_semi (h : Tok N bt tc tm p s e K v) (ea ec k a : Int32) (l : Int64) (u : Int32) : (K = 3 → ∃ l' u', fX5_readSemicolon ea (Int32.ofNat N) (Int32.ofNat p) ec k a l u tc = some (1, ea, Int32.ofNat e, ec, kc K, Int32.ofNat s, l', u')) ∧ (K ≠ 3 → ∃ l' u', fX5_readSemicolon ea (Int32.ofNat N) (Int32.ofNat p) ec k a l u tc = some (0, Int32.ofNat s, Int32.ofNat e, 1, kc K, Int32.ofNat s, l', u')) := by
  obtain ⟨h1, h2, h3, h4, h5, h6, h7, h8, h9⟩ := h
  obtain ⟨l', u', r1, r2, r3⟩ := h8 k a l u
  refine ⟨fun c => ⟨l', u', ?_⟩, fun c => ⟨l', u', ?_⟩⟩
  · rw [fX5_readSemicolon, r1, gb5_some, if_pos (by rw [kc5 h4]; exact c)]
  · rw [fX5_readSemicolon, r1, gb5_some, if_neg (by rw [kc5 h4]; exact c), fX5_fail, gb3_some, if_pos rfl]
def nC (K : Nat) : Int32 := if K = 2 then 3 else 1
theorem c_number (h : Tok N bt tc tm p s e K v) {lo hi : Nat} (hlo : lo ≤ 9999) (hhi : hi ≤ 9999) (ea ec k a : Int32) (l : Int64) (u : Int32) : (K = 2 ∧ lo ≤ v ∧ v ≤ hi → ∃ l', fX5_readNumber (Int32.ofNat lo) (Int32.ofNat hi) ea (Int32.ofNat N) (Int32.ofNat p) ec k a l u tc = some (1, ea, Int32.ofNat e, ec, kc K, Int32.ofNat s, l', Int32.ofNat v)) ∧ (¬ (K = 2 ∧ lo ≤ v ∧ v ≤ hi) → ∃ l' u', fX5_readNumber (Int32.ofNat lo) (Int32.ofNat hi) ea (Int32.ofNat N) (Int32.ofNat p) ec k a l u tc = some (0, Int32.ofNat s, Int32.ofNat e, nC K, kc K, Int32.ofNat s, l', u')) := by
  obtain ⟨h1, h2, h3, h4, h5, h6, h7, h8, h9⟩ := h
  obtain ⟨l', u', r1, r2, r3⟩ := h8 k a l u
  refine ⟨fun c => ⟨l', ?_⟩, fun c => ⟨l', u', ?_⟩⟩
  · rw [fX5_readNumber, r1, gb5_some, if_pos (by rw [kc4 h4]; exact c.1), r3 c.1, Lt_eq, if_neg (by rw [J_lt _ _ (by omega) (by omega)]; omega), if_pos (by rw [J_le _ _ (by omega) (by omega)]; omega)]
  · rw [fX5_readNumber, r1, gb5_some]
    by_cases cK : K = 2
    · rw [if_pos (by rw [kc4 h4]; exact cK), r3 cK, Lt_eq, fX5_fail, gb3_some, if_pos rfl, nC, if_pos cK]
      by_cases c1 : v < lo
      · rw [if_pos (by rw [J_lt _ _ (by omega) (by omega)]; exact c1)]
      · rw [if_neg (by rw [J_lt _ _ (by omega) (by omega)]; exact c1), if_neg (by rw [J_le _ _ (by omega) (by omega)]; omega)]
    · rw [if_neg (by rw [kc4 h4]; exact cK), fX5_fail, gb3_some, nC, if_neg cK]
theorem r_fails (c : Int32) (st ea : Int32) : fX10_fails c st 0 ea = some (0, c, st) := by rw [fX10_fails, if_pos rfl]
theorem r_no (c st nx tk vl ea : Int32) : fX10_starts c 0 (Int32.ofNat N) st nx tk vl 0 ea tm = some (0, st, nx, tk, vl, c, st) := by rw [fX10_starts, if_pos rfl, r_fails, gb3_some]
theorem r_go (h : Tok N bt tc tm p s e K v) (c st tk vl er ea : Int32) : fX10_starts c 1 (Int32.ofNat N) st (Int32.ofNat p) tk vl er ea tm = some (1, Int32.ofNat s, Int32.ofNat e, Int32.ofNat K, Int32.ofNat v, er, ea) := by
  rw [fX10_starts, if_neg (by decide), h.2.2.2.2.2.2.2.2, gb4_some]
theorem r_spells (hN : N ≤ 600) (hY : tY N bt tc tm) (h : Tok N bt tc tm p s e K v) (er ea many : Int32) (spl : Nat → Int32) : (K = 1 → wf (lets bt s e) ∧ (lets bt s e).length ≤ 12 ∧ lets bt s e ≠ [] ∧ ∃ spl', fX10_spells (Int32.ofNat s) (Int32.ofNat e) (Int32.ofNat K) er ea many tm spl = some (1, er, ea, Int32.ofNat (lets bt s e).length, spl') ∧ sp (lets bt s e) spl') ∧ (K ≠ 1 → fX10_spells (Int32.ofNat s) (Int32.ofNat e) (Int32.ofNat K) 0 ea many tm spl = some (0, 1, Int32.ofNat s, many, spl)) := by
  obtain ⟨h1, h2, h3, h4, h5, h6, h7, h8, h9⟩ := h
  refine ⟨fun c => ?_, fun c => ?_⟩
  · obtain ⟨h61, h62⟩ := h6 c
    refine ⟨lets_wf h62, by rw [lets_len]; exact h61, ?_, ?_⟩
    · intro h0
      have := lets_len bt s e
      rw [h0, List.length_nil] at this
      omega
    · obtain ⟨⟨m1, s1⟩, e1, e2, e3⟩ := m_spT (text := tm) h2 (by omega) h61 h62 (fun j hj => (hY j (by omega)).2.2) many spl
      simp only at e2 e3
      refine ⟨s1, ?_, e3⟩
      rw [fX10_spells, if_pos (by rw [c]; rfl), e1, gb2_some, e2, lets_len]
  · rw [fX10_spells, if_neg (by rw [i_1, J_eq _ _ (by omega) (by omega)]; exact c), r_fails, gb3_some]
theorem within_J {v lo hi : Nat} (hv : v ≤ 9999) (hlo : lo ≤ 9999) (hhi : hi ≤ 9999) : fX10_within (Int32.ofNat v) (Int32.ofNat lo) (Int32.ofNat hi) = some (if lo ≤ v ∧ v ≤ hi then 1 else 0) := by
  rw [fX10_within]
  by_cases c1 : v < lo
  · rw [if_pos (by rw [J_lt _ _ (by omega) (by omega)]; exact c1), if_neg (by omega)]
  · rw [if_neg (by rw [J_lt _ _ (by omega) (by omega)]; exact c1)]
    by_cases c2 : hi < v
    · rw [if_pos (by rw [J_lt _ _ (by omega) (by omega)]; exact c2), if_neg (by omega)]
    · rw [if_neg (by rw [J_lt _ _ (by omega) (by omega)]; exact c2), if_pos (by omega)]
theorem r_lays (h : Tok N bt tc tm p s e K v) {s' e' K' v' : Nat} (h' : Tok N bt tc tm e s' e' K' v') {lo hi : Nat} (hlo : lo ≤ 9999) (hhi : hi ≤ 9999) {w : Nat} (hw : w < 365) (ea nu : Int32) (now : Nat → Int32) : (K = 2 ∧ lo ≤ v ∧ v ≤ hi → fX10_lays (Int32.ofNat w) (Int32.ofNat lo) (Int32.ofNat hi) (Int32.ofNat N) (Int32.ofNat s) (Int32.ofNat e) (Int32.ofNat K) (Int32.ofNat v) 0 ea nu now tm = some (1, Int32.ofNat s', Int32.ofNat e', Int32.ofNat K', Int32.ofNat v', 0, ea, Int32.ofNat v, upd now w (Int32.ofNat v))) ∧ (¬ (K = 2 ∧ lo ≤ v ∧ v ≤ hi) → fX10_lays (Int32.ofNat w) (Int32.ofNat lo) (Int32.ofNat hi) (Int32.ofNat N) (Int32.ofNat s) (Int32.ofNat e) (Int32.ofNat K) (Int32.ofNat v) 0 ea nu now tm = some (0, Int32.ofNat s, Int32.ofNat e, Int32.ofNat K, Int32.ofNat v, nC K, Int32.ofNat s, nu, now)) := by
  obtain ⟨h1, h2, h3, h4, h5, h6, h7, h8, h9⟩ := h
  refine ⟨fun c => ?_, fun c => ?_⟩
  · rw [fX10_lays, fX10_takes, if_pos (by rw [c.1]; rfl), within_J h7 hlo hhi, gb1_some, if_pos c.2, if_neg (by decide), h'.2.2.2.2.2.2.2.2, gb4_some, gb8_some, if_neg (by decide), if_neg (inck (i := w) (n := 365) hw (by omega) (by omega)), Lt_eq, J_nat _ (by omega)]
  · rw [fX10_lays, fX10_takes]
    by_cases cK : K = 2
    · rw [if_pos (by rw [cK]; rfl), within_J h7 hlo hhi, gb1_some, if_neg (fun h => c ⟨cK, h⟩), if_pos rfl, r_fails, gb3_some, gb8_some, if_pos rfl, nC, if_pos cK]
    · rw [if_neg (by rw [i_2, J_eq _ _ (by omega) (by omega)]; exact cK), r_fails, gb3_some, gb8_some, if_pos rfl, nC, if_neg cK]
theorem r_closes (h : Tok N bt tc tm p s e K v) {s' e' K' v' : Nat} (h' : Tok N bt tc tm e s' e' K' v') (ea : Int32) : (K = 3 → fX10_closes (Int32.ofNat N) (Int32.ofNat s) (Int32.ofNat e) (Int32.ofNat K) (Int32.ofNat v) 0 ea tm = some (1, Int32.ofNat s', Int32.ofNat e', Int32.ofNat K', Int32.ofNat v', 0, ea)) ∧ (K ≠ 3 → fX10_closes (Int32.ofNat N) (Int32.ofNat s) (Int32.ofNat e) (Int32.ofNat K) (Int32.ofNat v) 0 ea tm = some (0, Int32.ofNat s, Int32.ofNat e, Int32.ofNat K, Int32.ofNat v, 1, Int32.ofNat s)) := by
  have h4 := h.2.2.2.1
  refine ⟨fun c => ?_, fun c => ?_⟩
  · rw [fX10_closes, Lt_eq, if_pos (by rw [c]; rfl)]
    dsimp only
    rw [r_go h', gb7_some]
  · rw [fX10_closes, Lt_eq, if_neg (by rw [i_3, J_eq _ _ (by omega) (by omega)]; exact c)]
    dsimp only
    rw [r_no, gb7_some]
