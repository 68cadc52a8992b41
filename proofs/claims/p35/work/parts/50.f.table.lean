/-! the table: what its entries are -/
def FARN : Nat := 1000000
theorem stp_cases (sc : Nat → Nat → Nat) (dep : Nat) (T : Nat → Nat × Nat × Nat) (i n : Nat) (cur : Nat × Nat × Nat) : (stp sc dep T i n cur = cur ∧ (1000000 ≤ dep + sc i n + (T (i + n)).1 ∨ cur.1 ≤ dep + sc i n + (T (i + n)).1)) ∨ (stp sc dep T i n cur = (dep + sc i n + (T (i + n)).1, 1 + (T (i + n)).2.1, n) ∧ dep + sc i n + (T (i + n)).1 < 1000000 ∧ dep + sc i n + (T (i + n)).1 ≤ cur.1) := by
  unfold stp
  by_cases h1 : 1000000 ≤ dep + sc i n + (T (i + n)).1
  · rw [if_pos h1]
    exact Or.inl ⟨rfl, Or.inl h1⟩
  · rw [if_neg h1]
    by_cases h2 : dep + sc i n + (T (i + n)).1 < cur.1 ∨ (dep + sc i n + (T (i + n)).1 = cur.1 ∧ 1 + (T (i + n)).2.1 < cur.2.1)
    · rw [if_pos h2]
      exact Or.inr ⟨rfl, by omega, by omega⟩
    · rw [if_neg h2]
      exact Or.inl ⟨rfl, by omega⟩
theorem stp_congr {sc : Nat → Nat → Nat} {dep : Nat} {T U : Nat → Nat × Nat × Nat} {i n : Nat} (cur : Nat × Nat × Nat) (h : T (i + n) = U (i + n)) : stp sc dep T i n cur = stp sc dep U i n cur := by
  unfold stp
  rw [h]
theorem inn_congr {sc : Nat → Nat → Nat} {dep : Nat} {T U : Nat → Nat × Nat × Nat} {i : Nat} : ∀ (n : Nat) (cur : Nat × Nat × Nat), (∀ m, 1 ≤ m → m ≤ n → T (i + m) = U (i + m)) → inn sc dep T i n cur = inn sc dep U i n cur
  | 0, cur, _ => rfl
  | n + 1, cur, h => by
    unfold inn
    rw [stp_congr cur (h (n + 1) (by omega) (Nat.le_refl _))]
    exact inn_congr n _ (fun m a b => h m a (by omega))
theorem inn_cases (sc : Nat → Nat → Nat) (dep : Nat) (T : Nat → Nat × Nat × Nat) (i : Nat) : ∀ (n : Nat) (cur : Nat × Nat × Nat), (inn sc dep T i n cur = cur ∨ ∃ m, 1 ≤ m ∧ m ≤ n ∧ inn sc dep T i n cur = (dep + sc i m + (T (i + m)).1, 1 + (T (i + m)).2.1, m) ∧ dep + sc i m + (T (i + m)).1 < 1000000) ∧ (inn sc dep T i n cur).1 ≤ cur.1 ∧ ∀ m, 1 ≤ m → m ≤ n → dep + sc i m + (T (i + m)).1 < 1000000 → (inn sc dep T i n cur).1 ≤ dep + sc i m + (T (i + m)).1
  | 0, cur => ⟨Or.inl rfl, Nat.le_refl _, fun m a b => by omega⟩
  | n + 1, cur => by
    obtain ⟨h1, h2, h3⟩ := inn_cases sc dep T i n (stp sc dep T i (n + 1) cur)
    have e : inn sc dep T i (n + 1) cur = inn sc dep T i n (stp sc dep T i (n + 1) cur) := rfl
    rw [e]
    rcases stp_cases sc dep T i (n + 1) cur with ⟨s1, s2⟩ | ⟨s1, s2, s3⟩
    · rw [s1] at h1 h2 h3 ⊢
      refine ⟨?_, h2, fun m a b c => ?_⟩
      · rcases h1 with h | ⟨m, a, b, c⟩
        · exact Or.inl h
        · exact Or.inr ⟨m, a, by omega, c⟩
      · by_cases hm : m = n + 1
        · subst hm; omega
        · exact h3 m a (by omega) c
    · have e1 : (stp sc dep T i (n + 1) cur).1 = dep + sc i (n + 1) + (T (i + (n + 1))).1 := by rw [s1]
      refine ⟨?_, by omega, fun m a b c => ?_⟩
      · rcases h1 with h | ⟨m, a, b, c⟩
        · exact Or.inr ⟨n + 1, by omega, Nat.le_refl _, by rw [h, s1], s2⟩
        · exact Or.inr ⟨m, a, by omega, c⟩
      · by_cases hm : m = n + 1
        · subst hm; omega
        · exact h3 m a (by omega) c
def TB (sc : Nat → Nat → Nat) (dep L : Nat) : Nat → Nat × Nat × Nat := tb sc dep L L
theorem tb_stable (sc : Nat → Nat → Nat) (dep L : Nat) : ∀ (e j x : Nat), j + e ≤ L → L - j ≤ x → tb sc dep L (j + e) x = tb sc dep L j x
  | 0, j, x, _, _ => rfl
  | e + 1, j, x, h, hx => by
    have : tb sc dep L (j + (e + 1)) = up (tb sc dep L (j + e)) (L - (j + e + 1)) (inn sc dep (tb sc dep L (j + e)) (L - (j + e + 1)) (lg L (L - (j + e + 1))) (1000000, 0, 0)) := rfl
    rw [this, up_ne _ _ _ _ (by omega)]
    exact tb_stable sc dep L e j x (by omega) hx
theorem lg_le (L i : Nat) : lg L i ≤ 6 ∧ lg L i ≤ L - i ∧ (∀ m, m ≤ 6 → m ≤ L - i → m ≤ lg L i) := by
  unfold lg
  split
  · exact ⟨by omega, by omega, fun m _ h => h⟩
  · exact ⟨by omega, by omega, fun m h _ => h⟩
theorem TB_L (sc : Nat → Nat → Nat) (dep L : Nat) : TB sc dep L L = (0, 0, 0) := by
  have := tb_stable sc dep L L 0 L (by omega) (by omega)
  rw [Nat.zero_add] at this
  rw [TB, this]; rfl
theorem TB_eq {sc : Nat → Nat → Nat} {dep L i : Nat} (h : i < L) : TB sc dep L i = inn sc dep (TB sc dep L) i (lg L i) (1000000, 0, 0) := by
  have e : L = (L - 1 - i + 1) + i := by omega
  have e1 : TB sc dep L i = tb sc dep L (L - 1 - i + 1) i := by
    have := tb_stable sc dep L i (L - 1 - i + 1) i (by omega) (by omega)
    rw [← e] at this
    exact this
  have e2 : L - (L - 1 - i + 1) = i := by omega
  rw [e1]
  have e3 : tb sc dep L (L - 1 - i + 1) = up (tb sc dep L (L - 1 - i)) (L - (L - 1 - i + 1)) (inn sc dep (tb sc dep L (L - 1 - i)) (L - (L - 1 - i + 1)) (lg L (L - (L - 1 - i + 1))) (1000000, 0, 0)) := rfl
  rw [e3, e2, up_eq]
  apply inn_congr
  intro m hm hm2
  have hl := lg_le L i
  have := tb_stable sc dep L (i + 1) (L - 1 - i) (i + m) (by omega) (by omega)
  rw [← this, TB]
  congr 1; omega
theorem TB_cases {sc : Nat → Nat → Nat} {dep L i : Nat} (h : i < L) : (TB sc dep L i = (1000000, 0, 0) ∨ ∃ m, 1 ≤ m ∧ m ≤ 6 ∧ i + m ≤ L ∧ TB sc dep L i = (dep + sc i m + (TB sc dep L (i + m)).1, 1 + (TB sc dep L (i + m)).2.1, m) ∧ dep + sc i m + (TB sc dep L (i + m)).1 < 1000000) ∧ ∀ m, 1 ≤ m → m ≤ 6 → i + m ≤ L → dep + sc i m + (TB sc dep L (i + m)).1 < 1000000 → (TB sc dep L i).1 ≤ dep + sc i m + (TB sc dep L (i + m)).1 := by
  obtain ⟨h1, h2, h3⟩ := inn_cases sc dep (TB sc dep L) i (lg L i) (1000000, 0, 0)
  rw [← TB_eq h] at h1 h2 h3
  obtain ⟨l1, l2, l3⟩ := lg_le L i
  refine ⟨?_, fun m a b c d => h3 m a (l3 m b (by omega)) d⟩
  rcases h1 with h1 | ⟨m, a, b, c, d⟩
  · exact Or.inl h1
  · exact Or.inr ⟨m, a, by omega, by omega, c, d⟩
/-- a finite entry names its first piece -/
theorem TB_fin {sc : Nat → Nat → Nat} {dep L i : Nat} (h : i < L) (hf : (TB sc dep L i).1 < 1000000) : 1 ≤ (TB sc dep L i).2.2 ∧ (TB sc dep L i).2.2 ≤ 6 ∧ i + (TB sc dep L i).2.2 ≤ L ∧ (TB sc dep L i).1 = dep + sc i (TB sc dep L i).2.2 + (TB sc dep L (i + (TB sc dep L i).2.2)).1 ∧ (TB sc dep L i).2.1 = 1 + (TB sc dep L (i + (TB sc dep L i).2.2)).2.1 := by
  obtain ⟨h1, _⟩ := TB_cases (sc := sc) (dep := dep) h
  rcases h1 with h1 | ⟨m, a, b, c, d, e⟩
  · rw [h1] at hf
    exact absurd hf (by decide)
  · have e1 : (TB sc dep L i).2.2 = m := by rw [d]
    rw [e1]
    refine ⟨a, b, c, ?_, ?_⟩
    · rw [d]
    · rw [d]
theorem TB_inf {sc : Nat → Nat → Nat} {dep L i : Nat} (h : i < L) (hf : ¬ (TB sc dep L i).1 < 1000000) : TB sc dep L i = (1000000, 0, 0) := by
  obtain ⟨h1, _⟩ := TB_cases (sc := sc) (dep := dep) h
  rcases h1 with h1 | ⟨m, a, b, c, d, e⟩
  · exact h1
  · rw [d] at hf
    exact absurd e hf
theorem TB_bd (sc : Nat → Nat → Nat) (dep L x : Nat) : (TB sc dep L x).1 ≤ 1000000 ∧ (TB sc dep L x).2.1 ≤ L := tb_bd sc dep L L x
theorem TB_small {sc : Nat → Nat → Nat} {dep L : Nat} (hsc : ∀ i m, m ≤ 6 → sc i m = 1000000 ∨ sc i m ≤ 180) (hd : dep ≤ 9) : ∀ (d i : Nat), i + d = L → (TB sc dep L i).1 < 1000000 → (TB sc dep L i).1 ≤ 189 * d
  | 0, i, h, _ => by
    have : i = L := by omega
    rw [this, TB_L]
    exact Nat.zero_le _
  | d + 1, i, h, hf => by
    obtain ⟨a, b, c, e1, _⟩ := TB_fin (sc := sc) (dep := dep) (show i < L by omega) hf
    have hs := hsc i (TB sc dep L i).2.2 b
    have := TB_small (L := L) hsc hd (L - (i + (TB sc dep L i).2.2)) (i + (TB sc dep L i).2.2) (by omega) (by omega)
    have hx : 189 * (L - (i + (TB sc dep L i).2.2)) ≤ 189 * d := Nat.mul_le_mul_left _ (show L - (i + (TB sc dep L i).2.2) ≤ d by omega)
    omega
/-! the walk along a table -/
def cl (fi : Nat → Nat) (l : List Nat) : Nat → Nat → List (List Nat)
  | 0, _ => []
  | f + 1, i => if i < l.length ∧ 0 < fi i then (l.drop i).take (fi i) :: cl fi l f (i + fi i) else []
def CL (sc : Nat → Nat → Nat) (dep : Nat) (l : List Nat) : List (List Nat) := cl (fun i => (TB sc dep l.length i).2.2) l 13 0
theorem cl_ok {sc : Nat → Nat → Nat} {dep : Nat} {l : List Nat} : ∀ (f i : Nat), l.length - i < f → i ≤ l.length → (TB sc dep l.length i).1 < 1000000 → (cl (fun i => (TB sc dep l.length i).2.2) l f i).flatten = l.drop i ∧ (cl (fun i => (TB sc dep l.length i).2.2) l f i).length = (TB sc dep l.length i).2.1 ∧ ∀ s ∈ cl (fun i => (TB sc dep l.length i).2.2) l f i, 1 ≤ s.length ∧ s.length ≤ 6 ∧ ∃ j m, s = (l.drop j).take m ∧ 1 ≤ m ∧ m ≤ 6 ∧ j + m ≤ l.length ∧ sc j m < 1000000
  | 0, i, h, _, _ => by omega
  | f + 1, i, h, hi, hf => by
    by_cases c : i < l.length
    · obtain ⟨a1, a2, a3, a4, a5⟩ := TB_fin c hf
      rw [cl, if_pos ⟨c, by omega⟩]
      have hh : (TB sc dep l.length (i + (TB sc dep l.length i).2.2)).1 < 1000000 := by omega
      obtain ⟨b1, b2, b3⟩ := cl_ok (sc := sc) (dep := dep) (l := l) f (i + (TB sc dep l.length i).2.2) (by omega) a3 hh
      refine ⟨?_, ?_, ?_⟩
      · rw [List.flatten_cons, b1, ← List.drop_drop, List.take_append_drop]
      · rw [List.length_cons, b2, a5]; omega
      · intro s hs
        rcases List.mem_cons.mp hs with h1 | h1
        · subst h1
          refine ⟨?_, ?_, i, _, rfl, a1, a2, a3, by omega⟩
          · simp; omega
          · simp; omega
        · exact b3 s h1
    · have : i = l.length := by omega
      rw [cl, if_neg (by omega), this, TB_L]
      exact ⟨by simp, rfl, fun s hs => by cases hs⟩
theorem CL_ok {sc : Nat → Nat → Nat} {dep : Nat} {l : List Nat} (hl : l.length ≤ 12) (hf : (TB sc dep l.length 0).1 < 1000000) : (CL sc dep l).flatten = l ∧ (CL sc dep l).length = (TB sc dep l.length 0).2.1 ∧ ∀ s ∈ CL sc dep l, 1 ≤ s.length ∧ s.length ≤ 6 ∧ ∃ j m, s = (l.drop j).take m ∧ 1 ≤ m ∧ m ≤ 6 ∧ j + m ≤ l.length ∧ sc j m < 1000000 := by
  have := cl_ok (sc := sc) (dep := dep) (l := l) 13 0 (by omega) (by omega) hf
  rw [List.drop_zero] at this
  exact this
/-! what a start of a piece costs -/
def sC (np : Nat) (pl : Nat → List Nat) (st : Nat → Nat) (b : Bool) (l : List Nat) (i n : Nat) : Nat := if fnd np pl ((l.drop i).take n) < np then 0 else if b = true then st 0 + st 1 * n else 1000000
theorem sC_bd {np : Nat} {pl : Nat → List Nat} {st : Nat → Nat} {b : Bool} {l : List Nat} (h0 : st 0 ≤ 99) (h1 : st 1 ≤ 9) (i n : Nat) (hn : n ≤ 6) : sC np pl st b l i n = 1000000 ∨ sC np pl st b l i n ≤ 180 := by
  unfold sC
  split
  · right; omega
  · split
    · right
      have : st 1 * n ≤ 9 * 6 := Nat.mul_le_mul h1 hn
      omega
    · left; rfl
theorem TB_bought {np : Nat} {pl : Nat → List Nat} {st : Nat → Nat} {l : List Nat} (h0 : st 0 ≤ 99) (h1 : st 1 ≤ 9) (h2 : st 2 ≤ 9) (hl : l.length ≤ 12) : ∀ (d i : Nat), i + d = l.length → (TB (sC np pl st true l) (st 2) l.length i).1 ≤ 189 * d
  | 0, i, h => by
    have : i = l.length := by omega
    rw [this, TB_L]
    exact Nat.zero_le _
  | d + 1, i, h => by
    have ih := TB_bought (np := np) (pl := pl) h0 h1 h2 hl d (i + 1) (by omega)
    have hs : sC np pl st true l i 1 ≤ 180 := by
      rcases sC_bd (np := np) (pl := pl) (b := true) (l := l) h0 h1 i 1 (by omega) with h | h
      · unfold sC at h
        split at h
        · omega
        · rw [if_pos rfl] at h
          omega
      · exact h
    have := (TB_cases (sc := sC np pl st true l) (dep := st 2) (show i < l.length by omega)).2 1 (by omega) (by omega) (by omega) (by omega)
    omega
theorem TB_known {np : Nat} {pl : Nat → List Nat} {st : Nat → Nat} {l : List Nat} {sc : Nat → Nat → Nat} (hd : st 2 ≤ 9) (hl : l.length ≤ 12) (hsc : ∀ i m, fnd np pl ((l.drop i).take m) < np → sc i m = 0) : ∀ (qs : List (List Nat)) (i : Nat), i ≤ l.length → l.drop i = qs.flatten → (∀ q ∈ qs, 1 ≤ q.length ∧ q.length ≤ 6 ∧ fnd np pl q < np) → (TB sc (st 2) l.length i).1 ≤ st 2 * qs.length ∧ qs.length ≤ l.length - i
  | [], i, hi, h, _ => by
    have : i = l.length := by
      have := congrArg List.length h
      simp at this
      omega
    rw [this, TB_L]
    exact ⟨Nat.zero_le _, by simp⟩
  | q :: qs, i, hi, h, hq => by
    obtain ⟨a1, a2, a3⟩ := hq q (by simp)
    rw [List.flatten_cons] at h
    have hlen := congrArg List.length h
    simp only [List.length_drop, List.length_append] at hlen
    have h2 : l.drop (i + q.length) = qs.flatten := by
      rw [← List.drop_drop, h, List.drop_left]
    have h3 : (l.drop i).take q.length = q := by
      rw [h, List.take_left]
    obtain ⟨ih, ih2⟩ := TB_known hd hl hsc qs (i + q.length) (by omega) h2 (fun x hx => hq x (by simp [hx]))
    have hs := hsc i q.length (by rw [h3]; exact a3)
    have hb : st 2 * qs.length ≤ 9 * 12 := Nat.mul_le_mul hd (by omega)
    have := (TB_cases (sc := sc) (dep := st 2) (show i < l.length by omega)).2 q.length a1 a2 (by omega) (by omega)
    rw [List.length_cons, Nat.mul_add]
    constructor
    · omega
    · omega
theorem TB_zero {sc : Nat → Nat → Nat} {dep L : Nat} (hsc : ∀ i m, sc i m = 0 ∨ sc i m = 1000000) : ∀ (d i : Nat), i + d = L → (TB sc dep L i).1 < 1000000 → (TB sc dep L i).1 = dep * (TB sc dep L i).2.1
  | 0, i, h, _ => by
    have : i = L := by omega
    rw [this, TB_L]
    rfl
  | d + 1, i, h, hf => by
    obtain ⟨a, b, c, e1, e2⟩ := TB_fin (sc := sc) (dep := dep) (show i < L by omega) hf
    have hs := hsc i (TB sc dep L i).2.2
    have hz : sc i (TB sc dep L i).2.2 = 0 := by
      rcases hs with h | h
      · exact h
      · omega
    have ih := TB_zero (L := L) (dep := dep) hsc (L - (i + (TB sc dep L i).2.2)) (i + (TB sc dep L i).2.2) (by omega) (by omega)
    rw [e1, e2, Nat.mul_add, Nat.mul_one, hz, ih, Nat.add_zero]
