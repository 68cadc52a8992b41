/-! the abstract book, and what the leaves of the class do to it -/
def up {α : Type} (f : Nat → α) (k : Nat) (v : α) : Nat → α := fun j => if j = k then v else f j
theorem up_eq {α : Type} (f : Nat → α) (k : Nat) (v : α) : up f k v k = v := by simp [up]
theorem up_ne {α : Type} (f : Nat → α) (k : Nat) (v : α) (j : Nat) (h : j ≠ k) : up f k v j = f j := by simp [up, h]
def fndF (f : Nat → List Nat) (x : List Nat) : Nat → Nat → Nat
  | j, 0 => j
  | j, d + 1 => if f j = x then j else fndF f x (j + 1) d
def fnd (n : Nat) (f : Nat → List Nat) (x : List Nat) : Nat := fndF f x 0 n
def nr (n : Nat) (f : Nat → List Nat) (x : List Nat) : Int32 := if fnd n f x < n then Int32.ofNat (fnd n f x) else M1
theorem fndF_le (f : Nat → List Nat) (x : List Nat) : ∀ (d j : Nat), j ≤ fndF f x j d ∧ fndF f x j d ≤ j + d
  | 0, j => by simp [fndF]
  | d + 1, j => by
    unfold fndF
    by_cases h : f j = x
    · rw [if_pos h]; omega
    · rw [if_neg h]
      have := fndF_le f x d (j + 1)
      omega
theorem fndF_hit (f : Nat → List Nat) (x : List Nat) : ∀ (d j : Nat), fndF f x j d < j + d → f (fndF f x j d) = x
  | 0, j, h => by simp [fndF] at h
  | d + 1, j, h => by
    unfold fndF at h ⊢
    by_cases e : f j = x
    · rw [if_pos e]; exact e
    · rw [if_neg e] at h ⊢
      exact fndF_hit f x d (j + 1) (by omega)
theorem fndF_miss (f : Nat → List Nat) (x : List Nat) : ∀ (d j i : Nat), j ≤ i → i < fndF f x j d → f i ≠ x
  | 0, j, i, h1, h2 => by simp [fndF] at h2; omega
  | d + 1, j, i, h1, h2 => by
    unfold fndF at h2
    by_cases e : f j = x
    · rw [if_pos e] at h2; omega
    · rw [if_neg e] at h2
      by_cases hj : i = j
      · rw [hj]; exact e
      · exact fndF_miss f x d (j + 1) i (by omega) h2
theorem fnd_le (n : Nat) (f : Nat → List Nat) (x : List Nat) : fnd n f x ≤ n := by
  have := (fndF_le f x n 0).2
  unfold fnd; omega
theorem fnd_hit {n : Nat} {f : Nat → List Nat} {x : List Nat} (h : fnd n f x < n) : f (fnd n f x) = x := fndF_hit f x n 0 (by simpa [fnd] using h)
theorem fnd_miss {n : Nat} {f : Nat → List Nat} {x : List Nat} {i : Nat} (h : i < fnd n f x) : f i ≠ x := fndF_miss f x n 0 i (Nat.zero_le _) h
theorem fnd_eq {n : Nat} {f : Nat → List Nat} {x : List Nat} {i : Nat} (hi : i < n) (h : f i = x) (hm : ∀ j, j < i → f j ≠ x) : fnd n f x = i := by
  rcases Nat.lt_trichotomy (fnd n f x) i with h1 | h1 | h1
  · exact absurd (fnd_hit (Nat.lt_trans h1 hi)) (hm _ h1)
  · exact h1
  · exact absurd h (fnd_miss h1)
theorem fnd_none {n : Nat} {f : Nat → List Nat} {x : List Nat} (hm : ∀ j, j < n → f j ≠ x) : fnd n f x = n := by
  rcases Nat.lt_or_ge (fnd n f x) n with h1 | h1
  · exact absurd (fnd_hit h1) (hm _ h1)
  · exact Nat.le_antisymm (fnd_le n f x) h1
theorem fnd_lt {n : Nat} {f : Nat → List Nat} {x : List Nat} {i : Nat} (hi : i < n) (h : f i = x) : fnd n f x < n := by
  rcases Nat.lt_or_ge (fnd n f x) n with h1 | h1
  · exact h1
  · exact absurd h (fnd_miss (n := n) (by omega))
theorem fnd_congr {n : Nat} {f g : Nat → List Nat} {x : List Nat} (h : ∀ j, j < n → f j = g j) : fnd n f x = fnd n g x := by
  by_cases h1 : fnd n g x < n
  · refine fnd_eq h1 ?_ ?_
    · rw [h _ h1]; exact fnd_hit h1
    · intro j hj
      rw [h _ (Nat.lt_trans hj h1)]
      exact fnd_miss hj
  · have := fnd_le n g x
    have e : fnd n g x = n := by omega
    rw [e]
    refine fnd_none fun j hj => ?_
    rw [h _ hj]
    exact fnd_miss (n := n) (by omega)
abbrev aUs : Type := Nat × (Nat → List Nat) × (Nat → Nat)
abbrev aPs : Type := Nat × (Nat → List Nat) × (Nat → Nat) × (Nat → Int32) × (Nat → Nat) × (Nat → Int32)
abbrev aWs : Type := Nat × (Nat → List Nat) × (Nat → Nat) × (Nat → List Nat)
def cU (u : aUs) (U : tUsers) : Prop := U.1 = Int32.ofNat u.1 ∧ ∀ i, i < u.1 → U.2.1 i = L64 (u.2.1 i) ∧ U.2.2 i = Int32.ofNat (u.2.2 i)
def cP (p : aPs) (P : tPieces) : Prop := P.1 = Int32.ofNat p.1 ∧ ∀ i, i < p.1 → P.2.1 i = L64 (p.2.1 i) ∧ P.2.2.1 i = Int32.ofNat (p.2.2.1 i) ∧ P.2.2.2.1 i = p.2.2.2.1 i ∧ P.2.2.2.2.1 i = Int32.ofNat (p.2.2.2.2.1 i) ∧ P.2.2.2.2.2 i = p.2.2.2.2.2 i
def cW (w : aWs) (W : tWords) : Prop := W.1 = Int32.ofNat w.1 ∧ ∀ i, i < w.1 → W.2.1 i = L64 (w.2.1 i) ∧ W.2.2.1 i = Int32.ofNat (w.2.2.1 i) ∧ W.2.2.2.1 i = Int32.ofNat (w.2.2.2 i).length ∧ ∀ k (h : k < (w.2.2.2 i).length), W.2.2.2.2 (i * 12 + k) = Int32.ofNat ((w.2.2.2 i)[k])
def cS (st : Nat → Nat) (settings : Nat → Int32) : Prop := ∀ i, i < 5 → settings i = Int32.ofNat (st i)
def okR (n : Nat) (f : Nat → List Nat) (m : Nat) : Prop := ∀ i, i < n → wf (f i) ∧ (f i).length ≤ m
theorem c_numP_L {p : aPs} {P : tPieces} (h : cP p P) (hn : p.1 ≤ 24) (hr : okR p.1 p.2.1 12) {x : List Nat} (hx : wf x) (hl : x.length ≤ 12) (k : Option Int32) : ∀ (d n j : Nat), j + d = p.1 → d < n → fX6_numberOf_L2 (L64 x) P k n (Int32.ofNat j) = if fndF p.2.1 x j d < p.1 then some (Int32.ofNat (fndF p.2.1 x j d)) else k
  | d, 0, j, _, h2 => by omega
  | 0, n + 1, j, h1, _ => by
    simp (disch := omega) only [fX6_numberOf_L2, fndF, h.1, J_lt, J_le, J_eq, J_nat, J_add, J_mul, J_sub, J_ne1, J_m1, J_le1, J_1le, J_1lt, J_lt1, J_dec, J_dec0, M1_def, M1_neg, n_leF, n_leT, n_ltF, n_ltT, false_or, or_false, true_or, or_true, and_true, true_and, false_and, and_false, not_true_eq_false, not_false_eq_true, if_true, if_false, ite_true, ite_false, Lt_eq, cmpJ, gb1_some, gb2_some, gb3_some, gb4_some, gb5_some, gb6_some, gb7_some, gb8_some, Nat.add_zero, Nat.zero_add, Nat.add_sub_cancel, i_0, i_1, i_2, i_3, i_4, i_5, i_6, i_7, i_8, i_9, i_10, i_11, i_12, i_13, i_14, i_15, i_16, i_17, i_18, i_19, i_20, i_21, i_22, i_23, i_24, i_25, i_26, i_27, i_28, i_29, i_31, i_32, i_48, i_57, i_59, i_61, i_63, i_72, i_96, i_97, i_99, i_100, i_122, i_128, i_141, i_160, i_192, i_255, i_256, i_365, i_600, i_730, i_3650, i_9999, i_1000000, -Int32.reduceOfNat]
  | d + 1, n + 1, j, h1, h2 => by
    have e := (h.2 j (by omega)).1
    have ei := L64_inj (hr j (by omega)).1 hx (hr j (by omega)).2 hl
    simp (disch := omega) only [fX6_numberOf_L2, fndF, h.1, e, ei, J_lt, J_le, J_eq, J_nat, J_add, J_mul, J_sub, J_ne1, J_m1, J_le1, J_1le, J_1lt, J_lt1, J_dec, J_dec0, M1_def, M1_neg, n_leF, n_leT, n_ltF, n_ltT, false_or, or_false, true_or, or_true, and_true, true_and, false_and, and_false, not_true_eq_false, not_false_eq_true, if_true, if_false, ite_true, ite_false, Lt_eq, cmpJ, gb1_some, gb2_some, gb3_some, gb4_some, gb5_some, gb6_some, gb7_some, gb8_some, Nat.add_zero, Nat.zero_add, Nat.add_sub_cancel, i_0, i_1, i_2, i_3, i_4, i_5, i_6, i_7, i_8, i_9, i_10, i_11, i_12, i_13, i_14, i_15, i_16, i_17, i_18, i_19, i_20, i_21, i_22, i_23, i_24, i_25, i_26, i_27, i_28, i_29, i_31, i_32, i_48, i_57, i_59, i_61, i_63, i_72, i_96, i_97, i_99, i_100, i_122, i_128, i_141, i_160, i_192, i_255, i_256, i_365, i_600, i_730, i_3650, i_9999, i_1000000, -Int32.reduceOfNat]
    rw [c_numP_L h hn hr hx hl k d n (j + 1) (by omega) (by omega)]
    by_cases c : p.2.1 j = x
    · simp (disch := omega) only [c, J_lt, J_le, J_eq, J_nat, J_add, J_mul, J_sub, J_ne1, J_m1, J_le1, J_1le, J_1lt, J_lt1, J_dec, J_dec0, M1_def, M1_neg, n_leF, n_leT, n_ltF, n_ltT, false_or, or_false, true_or, or_true, and_true, true_and, false_and, and_false, not_true_eq_false, not_false_eq_true, if_true, if_false, ite_true, ite_false, Lt_eq, cmpJ, gb1_some, gb2_some, gb3_some, gb4_some, gb5_some, gb6_some, gb7_some, gb8_some, Nat.add_zero, Nat.zero_add, Nat.add_sub_cancel, i_0, i_1, i_2, i_3, i_4, i_5, i_6, i_7, i_8, i_9, i_10, i_11, i_12, i_13, i_14, i_15, i_16, i_17, i_18, i_19, i_20, i_21, i_22, i_23, i_24, i_25, i_26, i_27, i_28, i_29, i_31, i_32, i_48, i_57, i_59, i_61, i_63, i_72, i_96, i_97, i_99, i_100, i_122, i_128, i_141, i_160, i_192, i_255, i_256, i_365, i_600, i_730, i_3650, i_9999, i_1000000, -Int32.reduceOfNat]
    · simp only [c, if_false]
theorem c_numP {p : aPs} {P : tPieces} (h : cP p P) (hn : p.1 ≤ 24) (hr : okR p.1 p.2.1 12) {x : List Nat} (hx : wf x) (hl : x.length ≤ 12) : fX6_numberOf (L64 x) P = some (nr p.1 p.2.1 x) := by
  rw [fX6_numberOf]
  have := c_numP_L h hn hr hx hl (some M1) p.1 FU 0 (by omega) (by simp only [FU]; omega)
  simp only [M1_def] at this ⊢
  rw [show (0 : Int32) = Int32.ofNat 0 from rfl, this]
  unfold nr fnd
  split <;> rfl
theorem c_numU_L {p : aUs} {P : tUsers} (h : cU p P) (hn : p.1 ≤ 4) (hr : okR p.1 p.2.1 12) {x : List Nat} (hx : wf x) (hl : x.length ≤ 12) (k : Option Int32) : ∀ (d n j : Nat), j + d = p.1 → d < n → fX7_numberOf_L2 (L64 x) P k n (Int32.ofNat j) = if fndF p.2.1 x j d < p.1 then some (Int32.ofNat (fndF p.2.1 x j d)) else k
  | d, 0, j, _, h2 => by omega
  | 0, n + 1, j, h1, _ => by
    simp (disch := omega) only [fX7_numberOf_L2, fndF, h.1, J_lt, J_le, J_eq, J_nat, J_add, J_mul, J_sub, J_ne1, J_m1, J_le1, J_1le, J_1lt, J_lt1, J_dec, J_dec0, M1_def, M1_neg, n_leF, n_leT, n_ltF, n_ltT, false_or, or_false, true_or, or_true, and_true, true_and, false_and, and_false, not_true_eq_false, not_false_eq_true, if_true, if_false, ite_true, ite_false, Lt_eq, cmpJ, gb1_some, gb2_some, gb3_some, gb4_some, gb5_some, gb6_some, gb7_some, gb8_some, Nat.add_zero, Nat.zero_add, Nat.add_sub_cancel, i_0, i_1, i_2, i_3, i_4, i_5, i_6, i_7, i_8, i_9, i_10, i_11, i_12, i_13, i_14, i_15, i_16, i_17, i_18, i_19, i_20, i_21, i_22, i_23, i_24, i_25, i_26, i_27, i_28, i_29, i_31, i_32, i_48, i_57, i_59, i_61, i_63, i_72, i_96, i_97, i_99, i_100, i_122, i_128, i_141, i_160, i_192, i_255, i_256, i_365, i_600, i_730, i_3650, i_9999, i_1000000, -Int32.reduceOfNat]
  | d + 1, n + 1, j, h1, h2 => by
    have e := (h.2 j (by omega)).1
    have ei := L64_inj (hr j (by omega)).1 hx (hr j (by omega)).2 hl
    simp (disch := omega) only [fX7_numberOf_L2, fndF, h.1, e, ei, J_lt, J_le, J_eq, J_nat, J_add, J_mul, J_sub, J_ne1, J_m1, J_le1, J_1le, J_1lt, J_lt1, J_dec, J_dec0, M1_def, M1_neg, n_leF, n_leT, n_ltF, n_ltT, false_or, or_false, true_or, or_true, and_true, true_and, false_and, and_false, not_true_eq_false, not_false_eq_true, if_true, if_false, ite_true, ite_false, Lt_eq, cmpJ, gb1_some, gb2_some, gb3_some, gb4_some, gb5_some, gb6_some, gb7_some, gb8_some, Nat.add_zero, Nat.zero_add, Nat.add_sub_cancel, i_0, i_1, i_2, i_3, i_4, i_5, i_6, i_7, i_8, i_9, i_10, i_11, i_12, i_13, i_14, i_15, i_16, i_17, i_18, i_19, i_20, i_21, i_22, i_23, i_24, i_25, i_26, i_27, i_28, i_29, i_31, i_32, i_48, i_57, i_59, i_61, i_63, i_72, i_96, i_97, i_99, i_100, i_122, i_128, i_141, i_160, i_192, i_255, i_256, i_365, i_600, i_730, i_3650, i_9999, i_1000000, -Int32.reduceOfNat]
    rw [c_numU_L h hn hr hx hl k d n (j + 1) (by omega) (by omega)]
    by_cases c : p.2.1 j = x
    · simp (disch := omega) only [c, J_lt, J_le, J_eq, J_nat, J_add, J_mul, J_sub, J_ne1, J_m1, J_le1, J_1le, J_1lt, J_lt1, J_dec, J_dec0, M1_def, M1_neg, n_leF, n_leT, n_ltF, n_ltT, false_or, or_false, true_or, or_true, and_true, true_and, false_and, and_false, not_true_eq_false, not_false_eq_true, if_true, if_false, ite_true, ite_false, Lt_eq, cmpJ, gb1_some, gb2_some, gb3_some, gb4_some, gb5_some, gb6_some, gb7_some, gb8_some, Nat.add_zero, Nat.zero_add, Nat.add_sub_cancel, i_0, i_1, i_2, i_3, i_4, i_5, i_6, i_7, i_8, i_9, i_10, i_11, i_12, i_13, i_14, i_15, i_16, i_17, i_18, i_19, i_20, i_21, i_22, i_23, i_24, i_25, i_26, i_27, i_28, i_29, i_31, i_32, i_48, i_57, i_59, i_61, i_63, i_72, i_96, i_97, i_99, i_100, i_122, i_128, i_141, i_160, i_192, i_255, i_256, i_365, i_600, i_730, i_3650, i_9999, i_1000000, -Int32.reduceOfNat]
    · simp only [c, if_false]
theorem c_numU {p : aUs} {P : tUsers} (h : cU p P) (hn : p.1 ≤ 4) (hr : okR p.1 p.2.1 12) {x : List Nat} (hx : wf x) (hl : x.length ≤ 12) : fX7_numberOf (L64 x) P = some (nr p.1 p.2.1 x) := by
  rw [fX7_numberOf]
  have := c_numU_L h hn hr hx hl (some M1) p.1 FU 0 (by omega) (by simp only [FU]; omega)
  simp only [M1_def] at this ⊢
  rw [show (0 : Int32) = Int32.ofNat 0 from rfl, this]
  unfold nr fnd
  split <;> rfl
theorem c_coinsOf {us : aUs} {U : tUsers} (h : cU us U) (h4 : us.1 ≤ 4) {u : Nat} (hu : u < us.1) : fX7_coinsOf (Int32.ofNat u) U = some (Int32.ofNat (us.2.2 u)) := by
  have hck : ¬ (Int32.ofNat u < 0 ∨ 4 ≤ (Int32.ofNat u).toNatClampNeg) := by
    rw [i_0, J_lt _ _ (by omega) (by omega), J_nat _ (by omega)]
    omega
  rw [fX7_coinsOf, if_neg (fun x => hck (.inl x)), if_neg (by rw [h.1, J_le _ _ (by omega) (by omega)]; omega), if_neg hck, J_nat _ (by omega), (h.2 u hu).2]
theorem c_give {us : aUs} {U : tUsers} (h : cU us U) (h4 : us.1 ≤ 4) {u : Nat} (hu : u < us.1) (d : Int32) : fX7_give (Int32.ofNat u) d U = some (U.1, U.2.1, upd U.2.2 u (Int32.ofNat (us.2.2 u) + d)) := by
  have hck : ¬ (Int32.ofNat u < 0 ∨ 4 ≤ (Int32.ofNat u).toNatClampNeg) := by
    rw [i_0, J_lt _ _ (by omega) (by omega), J_nat _ (by omega)]
    omega
  rw [fX7_give, if_neg (fun x => hck (.inl x)), if_neg (by rw [h.1, J_le _ _ (by omega) (by omega)]; omega), if_neg hck, if_neg hck, Lt_eq, J_nat _ (by omega), (h.2 u hu).2]
theorem J_subn (a b : Nat) (h : b ≤ a) : Int32.ofNat a + -Int32.ofNat b = Int32.ofNat (a - b) := by
  rw [← Int32.sub_eq_add_neg, J_sub _ _ h]
theorem c_numW_L {p : aWs} {P : tWords} (h : cW p P) (hn : p.1 ≤ 16) (hr : okR p.1 p.2.1 12) {x : List Nat} (hx : wf x) (hl : x.length ≤ 12) (k : Option Int32) : ∀ (d n j : Nat), j + d = p.1 → d < n → fX8_numberOf_L2 (L64 x) P k n (Int32.ofNat j) = if fndF p.2.1 x j d < p.1 then some (Int32.ofNat (fndF p.2.1 x j d)) else k
  | d, 0, j, _, h2 => by omega
  | 0, n + 1, j, h1, _ => by
    simp (disch := omega) only [fX8_numberOf_L2, fndF, h.1, J_lt, J_le, J_eq, J_nat, J_add, J_mul, J_sub, J_ne1, J_m1, J_le1, J_1le, J_1lt, J_lt1, J_dec, J_dec0, M1_def, M1_neg, n_leF, n_leT, n_ltF, n_ltT, false_or, or_false, true_or, or_true, and_true, true_and, false_and, and_false, not_true_eq_false, not_false_eq_true, if_true, if_false, ite_true, ite_false, Lt_eq, cmpJ, gb1_some, gb2_some, gb3_some, gb4_some, gb5_some, gb6_some, gb7_some, gb8_some, Nat.add_zero, Nat.zero_add, Nat.add_sub_cancel, i_0, i_1, i_2, i_3, i_4, i_5, i_6, i_7, i_8, i_9, i_10, i_11, i_12, i_13, i_14, i_15, i_16, i_17, i_18, i_19, i_20, i_21, i_22, i_23, i_24, i_25, i_26, i_27, i_28, i_29, i_31, i_32, i_48, i_57, i_59, i_61, i_63, i_72, i_96, i_97, i_99, i_100, i_122, i_128, i_141, i_160, i_192, i_255, i_256, i_365, i_600, i_730, i_3650, i_9999, i_1000000, -Int32.reduceOfNat]
  | d + 1, n + 1, j, h1, h2 => by
    have e := (h.2 j (by omega)).1
    have ei := L64_inj (hr j (by omega)).1 hx (hr j (by omega)).2 hl
    simp (disch := omega) only [fX8_numberOf_L2, fndF, h.1, e, ei, J_lt, J_le, J_eq, J_nat, J_add, J_mul, J_sub, J_ne1, J_m1, J_le1, J_1le, J_1lt, J_lt1, J_dec, J_dec0, M1_def, M1_neg, n_leF, n_leT, n_ltF, n_ltT, false_or, or_false, true_or, or_true, and_true, true_and, false_and, and_false, not_true_eq_false, not_false_eq_true, if_true, if_false, ite_true, ite_false, Lt_eq, cmpJ, gb1_some, gb2_some, gb3_some, gb4_some, gb5_some, gb6_some, gb7_some, gb8_some, Nat.add_zero, Nat.zero_add, Nat.add_sub_cancel, i_0, i_1, i_2, i_3, i_4, i_5, i_6, i_7, i_8, i_9, i_10, i_11, i_12, i_13, i_14, i_15, i_16, i_17, i_18, i_19, i_20, i_21, i_22, i_23, i_24, i_25, i_26, i_27, i_28, i_29, i_31, i_32, i_48, i_57, i_59, i_61, i_63, i_72, i_96, i_97, i_99, i_100, i_122, i_128, i_141, i_160, i_192, i_255, i_256, i_365, i_600, i_730, i_3650, i_9999, i_1000000, -Int32.reduceOfNat]
    rw [c_numW_L h hn hr hx hl k d n (j + 1) (by omega) (by omega)]
    by_cases c : p.2.1 j = x
    · simp (disch := omega) only [c, J_lt, J_le, J_eq, J_nat, J_add, J_mul, J_sub, J_ne1, J_m1, J_le1, J_1le, J_1lt, J_lt1, J_dec, J_dec0, M1_def, M1_neg, n_leF, n_leT, n_ltF, n_ltT, false_or, or_false, true_or, or_true, and_true, true_and, false_and, and_false, not_true_eq_false, not_false_eq_true, if_true, if_false, ite_true, ite_false, Lt_eq, cmpJ, gb1_some, gb2_some, gb3_some, gb4_some, gb5_some, gb6_some, gb7_some, gb8_some, Nat.add_zero, Nat.zero_add, Nat.add_sub_cancel, i_0, i_1, i_2, i_3, i_4, i_5, i_6, i_7, i_8, i_9, i_10, i_11, i_12, i_13, i_14, i_15, i_16, i_17, i_18, i_19, i_20, i_21, i_22, i_23, i_24, i_25, i_26, i_27, i_28, i_29, i_31, i_32, i_48, i_57, i_59, i_61, i_63, i_72, i_96, i_97, i_99, i_100, i_122, i_128, i_141, i_160, i_192, i_255, i_256, i_365, i_600, i_730, i_3650, i_9999, i_1000000, -Int32.reduceOfNat]
    · simp only [c, if_false]
theorem c_numW {p : aWs} {P : tWords} (h : cW p P) (hn : p.1 ≤ 16) (hr : okR p.1 p.2.1 12) {x : List Nat} (hx : wf x) (hl : x.length ≤ 12) : fX8_numberOf (L64 x) P = some (nr p.1 p.2.1 x) := by
  rw [fX8_numberOf]
  have := c_numW_L h hn hr hx hl (some M1) p.1 FU 0 (by omega) (by simp only [FU]; omega)
  simp only [M1_def] at this ⊢
  rw [show (0 : Int32) = Int32.ofNat 0 from rfl, this]
  unfold nr fnd
  split <;> rfl
def smF (f : Nat → Nat) : Nat → Nat → Nat
  | _, 0 => 0
  | j, d + 1 => f j + smF f (j + 1) d
def sm (f : Nat → Nat) (n : Nat) : Nat := smF f 0 n
theorem c_depositsFor {st : Nat → Nat} {settings : Nat → Int32} (h : cS st settings) (n : Nat) : fX1_depositsFor (Int32.ofNat n) settings = some (Int32.ofNat (st 2 * n)) := by
  rw [fX1_depositsFor, h 2 (by omega), J_mul]
theorem c_newPrice {st : Nat → Nat} {settings : Nat → Int32} (h : cS st settings) (n : Nat) : fX1_newPrice (Int32.ofNat n) settings = some (Int32.ofNat (st 0 + st 1 * n)) := by
  rw [fX1_newPrice, h 0 (by omega), h 1 (by omega), J_mul, J_add]
theorem c_held_L {w : aWs} {W : tWords} (h : cW w W) (hn : w.1 ≤ 16) (u : Nat) (hu : u < 2147483648) (ho : ∀ i, i < w.1 → w.2.2.1 i < 2147483648) (k : Int32 → Option Int32) : ∀ (d n j acc : Nat), j + d = w.1 → d < n → fX1_heldFor_L4 (Int32.ofNat u) W k n (Int32.ofNat acc) (Int32.ofNat j) = k (Int32.ofNat (acc + smF (fun i => if w.2.2.1 i = u then (w.2.2.2 i).length else 0) j d))
  | d, 0, j, acc, _, h2 => by omega
  | 0, n + 1, j, acc, h1, _ => by
    simp (disch := omega) only [fX1_heldFor_L4, smF, h.1, J_lt, J_le, J_eq, J_nat, J_add, J_mul, J_sub, J_ne1, J_m1, J_le1, J_1le, J_1lt, J_lt1, J_dec, J_dec0, M1_def, M1_neg, n_leF, n_leT, n_ltF, n_ltT, false_or, or_false, true_or, or_true, and_true, true_and, false_and, and_false, not_true_eq_false, not_false_eq_true, if_true, if_false, ite_true, ite_false, Lt_eq, cmpJ, gb1_some, gb2_some, gb3_some, gb4_some, gb5_some, gb6_some, gb7_some, gb8_some, Nat.add_zero, Nat.zero_add, Nat.add_sub_cancel, i_0, i_1, i_2, i_3, i_4, i_5, i_6, i_7, i_8, i_9, i_10, i_11, i_12, i_13, i_14, i_15, i_16, i_17, i_18, i_19, i_20, i_21, i_22, i_23, i_24, i_25, i_26, i_27, i_28, i_29, i_31, i_32, i_48, i_57, i_59, i_61, i_63, i_72, i_96, i_97, i_99, i_100, i_122, i_128, i_141, i_160, i_192, i_255, i_256, i_365, i_600, i_730, i_3650, i_9999, i_1000000, -Int32.reduceOfNat]
  | d + 1, n + 1, j, acc, h1, h2 => by
    obtain ⟨_, e1, e2, _⟩ := h.2 j (by omega)
    have eo := ho j (by omega)
    simp (disch := omega) only [fX1_heldFor_L4, smF, h.1, e1, e2, J_lt, J_le, J_eq, J_nat, J_add, J_mul, J_sub, J_ne1, J_m1, J_le1, J_1le, J_1lt, J_lt1, J_dec, J_dec0, M1_def, M1_neg, n_leF, n_leT, n_ltF, n_ltT, false_or, or_false, true_or, or_true, and_true, true_and, false_and, and_false, not_true_eq_false, not_false_eq_true, if_true, if_false, ite_true, ite_false, Lt_eq, cmpJ, gb1_some, gb2_some, gb3_some, gb4_some, gb5_some, gb6_some, gb7_some, gb8_some, Nat.add_zero, Nat.zero_add, Nat.add_sub_cancel, i_0, i_1, i_2, i_3, i_4, i_5, i_6, i_7, i_8, i_9, i_10, i_11, i_12, i_13, i_14, i_15, i_16, i_17, i_18, i_19, i_20, i_21, i_22, i_23, i_24, i_25, i_26, i_27, i_28, i_29, i_31, i_32, i_48, i_57, i_59, i_61, i_63, i_72, i_96, i_97, i_99, i_100, i_122, i_128, i_141, i_160, i_192, i_255, i_256, i_365, i_600, i_730, i_3650, i_9999, i_1000000, -Int32.reduceOfNat]
    have ih := c_held_L h hn u hu ho k d n (j + 1)
    by_cases c : w.2.2.1 j = u
    · simp only [c, if_true]
      rw [ih _ (by omega) (by omega), Nat.add_assoc]
    · simp only [c, if_false]
      rw [ih _ (by omega) (by omega), Nat.zero_add]
theorem c_held {w : aWs} {W : tWords} (h : cW w W) (hn : w.1 ≤ 16) {st : Nat → Nat} {settings : Nat → Int32} (hs : cS st settings) (u : Nat) (hu : u < 2147483648) (ho : ∀ i, i < w.1 → w.2.2.1 i < 2147483648) : fX1_heldFor (Int32.ofNat u) settings W = some (Int32.ofNat (st 2 * sm (fun i => if w.2.2.1 i = u then (w.2.2.2 i).length else 0) w.1)) := by
  rw [fX1_heldFor, show (0 : Int32) = Int32.ofNat 0 from rfl, c_held_L h hn u hu ho _ w.1 FU 0 0 (by omega) (by simp only [FU]; omega), c_depositsFor hs, gb1_some, Nat.zero_add]
  rfl
theorem c_countOf_L {w : aWs} {W : tWords} (h : cW w W) (hn : w.1 ≤ 16) (u : Nat) (hu : u < 2147483648) (ho : ∀ i, i < w.1 → w.2.2.1 i < 2147483648) (k : Int32 → Option Int32) : ∀ (d n j acc : Nat), j + d = w.1 → d < n → fX8_countOf_L4 (Int32.ofNat u) W k n (Int32.ofNat acc) (Int32.ofNat j) = k (Int32.ofNat (acc + smF (fun i => if w.2.2.1 i = u then 1 else 0) j d))
  | d, 0, j, acc, _, h2 => by omega
  | 0, n + 1, j, acc, h1, _ => by
    simp (disch := omega) only [fX8_countOf_L4, smF, h.1, J_lt, J_le, J_eq, J_nat, J_add, J_mul, J_sub, J_ne1, J_m1, J_le1, J_1le, J_1lt, J_lt1, J_dec, J_dec0, M1_def, M1_neg, n_leF, n_leT, n_ltF, n_ltT, false_or, or_false, true_or, or_true, and_true, true_and, false_and, and_false, not_true_eq_false, not_false_eq_true, if_true, if_false, ite_true, ite_false, Lt_eq, cmpJ, gb1_some, gb2_some, gb3_some, gb4_some, gb5_some, gb6_some, gb7_some, gb8_some, Nat.add_zero, Nat.zero_add, Nat.add_sub_cancel, i_0, i_1, i_2, i_3, i_4, i_5, i_6, i_7, i_8, i_9, i_10, i_11, i_12, i_13, i_14, i_15, i_16, i_17, i_18, i_19, i_20, i_21, i_22, i_23, i_24, i_25, i_26, i_27, i_28, i_29, i_31, i_32, i_48, i_57, i_59, i_61, i_63, i_72, i_96, i_97, i_99, i_100, i_122, i_128, i_141, i_160, i_192, i_255, i_256, i_365, i_600, i_730, i_3650, i_9999, i_1000000, -Int32.reduceOfNat]
  | d + 1, n + 1, j, acc, h1, h2 => by
    obtain ⟨_, e1, e2, _⟩ := h.2 j (by omega)
    have eo := ho j (by omega)
    simp (disch := omega) only [fX8_countOf_L4, smF, h.1, e1, J_lt, J_le, J_eq, J_nat, J_add, J_mul, J_sub, J_ne1, J_m1, J_le1, J_1le, J_1lt, J_lt1, J_dec, J_dec0, M1_def, M1_neg, n_leF, n_leT, n_ltF, n_ltT, false_or, or_false, true_or, or_true, and_true, true_and, false_and, and_false, not_true_eq_false, not_false_eq_true, if_true, if_false, ite_true, ite_false, Lt_eq, cmpJ, gb1_some, gb2_some, gb3_some, gb4_some, gb5_some, gb6_some, gb7_some, gb8_some, Nat.add_zero, Nat.zero_add, Nat.add_sub_cancel, i_0, i_1, i_2, i_3, i_4, i_5, i_6, i_7, i_8, i_9, i_10, i_11, i_12, i_13, i_14, i_15, i_16, i_17, i_18, i_19, i_20, i_21, i_22, i_23, i_24, i_25, i_26, i_27, i_28, i_29, i_31, i_32, i_48, i_57, i_59, i_61, i_63, i_72, i_96, i_97, i_99, i_100, i_122, i_128, i_141, i_160, i_192, i_255, i_256, i_365, i_600, i_730, i_3650, i_9999, i_1000000, -Int32.reduceOfNat]
    have ih := c_countOf_L h hn u hu ho k d n (j + 1)
    by_cases c : w.2.2.1 j = u
    · simp only [c, if_true]
      rw [ih _ (by omega) (by omega), Nat.add_assoc]
    · simp only [c, if_false]
      rw [ih _ (by omega) (by omega), Nat.zero_add]
theorem c_countOf {w : aWs} {W : tWords} (h : cW w W) (hn : w.1 ≤ 16) (u : Nat) (hu : u < 2147483648) (ho : ∀ i, i < w.1 → w.2.2.1 i < 2147483648) : fX8_countOf (Int32.ofNat u) W = some (Int32.ofNat (sm (fun i => if w.2.2.1 i = u then 1 else 0) w.1)) := by
  rw [fX8_countOf, show (0 : Int32) = Int32.ofNat 0 from rfl, c_countOf_L h hn u hu ho _ w.1 FU 0 0 (by omega) (by simp only [FU]; omega), Nat.zero_add]
  rfl
theorem c_ownedBy_L {p : aPs} {P : tPieces} (h : cP p P) (hn : p.1 ≤ 24) (u : Int32) (k : Int32 → Option Int32) : ∀ (d n j acc : Nat), j + d = p.1 → d < n → fX6_ownedBy_L4 u P k n (Int32.ofNat acc) (Int32.ofNat j) = k (Int32.ofNat (acc + smF (fun i => if p.2.2.2.1 i = u then 1 else 0) j d))
  | d, 0, j, acc, _, h2 => by omega
  | 0, n + 1, j, acc, h1, _ => by
    simp (disch := omega) only [fX6_ownedBy_L4, smF, h.1, J_lt, J_le, J_eq, J_nat, J_add, J_mul, J_sub, J_ne1, J_m1, J_le1, J_1le, J_1lt, J_lt1, J_dec, J_dec0, M1_def, M1_neg, n_leF, n_leT, n_ltF, n_ltT, false_or, or_false, true_or, or_true, and_true, true_and, false_and, and_false, not_true_eq_false, not_false_eq_true, if_true, if_false, ite_true, ite_false, Lt_eq, cmpJ, gb1_some, gb2_some, gb3_some, gb4_some, gb5_some, gb6_some, gb7_some, gb8_some, Nat.add_zero, Nat.zero_add, Nat.add_sub_cancel, i_0, i_1, i_2, i_3, i_4, i_5, i_6, i_7, i_8, i_9, i_10, i_11, i_12, i_13, i_14, i_15, i_16, i_17, i_18, i_19, i_20, i_21, i_22, i_23, i_24, i_25, i_26, i_27, i_28, i_29, i_31, i_32, i_48, i_57, i_59, i_61, i_63, i_72, i_96, i_97, i_99, i_100, i_122, i_128, i_141, i_160, i_192, i_255, i_256, i_365, i_600, i_730, i_3650, i_9999, i_1000000, -Int32.reduceOfNat]
  | d + 1, n + 1, j, acc, h1, h2 => by
    obtain ⟨_, e1, e2, _⟩ := h.2 j (by omega)
    simp (disch := omega) only [fX6_ownedBy_L4, smF, h.1, e2, J_lt, J_le, J_eq, J_nat, J_add, J_mul, J_sub, J_ne1, J_m1, J_le1, J_1le, J_1lt, J_lt1, J_dec, J_dec0, M1_def, M1_neg, n_leF, n_leT, n_ltF, n_ltT, false_or, or_false, true_or, or_true, and_true, true_and, false_and, and_false, not_true_eq_false, not_false_eq_true, if_true, if_false, ite_true, ite_false, Lt_eq, cmpJ, gb1_some, gb2_some, gb3_some, gb4_some, gb5_some, gb6_some, gb7_some, gb8_some, Nat.add_zero, Nat.zero_add, Nat.add_sub_cancel, i_0, i_1, i_2, i_3, i_4, i_5, i_6, i_7, i_8, i_9, i_10, i_11, i_12, i_13, i_14, i_15, i_16, i_17, i_18, i_19, i_20, i_21, i_22, i_23, i_24, i_25, i_26, i_27, i_28, i_29, i_31, i_32, i_48, i_57, i_59, i_61, i_63, i_72, i_96, i_97, i_99, i_100, i_122, i_128, i_141, i_160, i_192, i_255, i_256, i_365, i_600, i_730, i_3650, i_9999, i_1000000, -Int32.reduceOfNat]
    have ih := c_ownedBy_L h hn u k d n (j + 1)
    by_cases c : p.2.2.2.1 j = u
    · simp only [c, if_true]
      rw [ih _ (by omega) (by omega), Nat.add_assoc]
    · simp only [c, if_false]
      rw [ih _ (by omega) (by omega), Nat.zero_add]
theorem c_ownedBy {p : aPs} {P : tPieces} (h : cP p P) (hn : p.1 ≤ 24) (u : Int32) : fX6_ownedBy u P = some (Int32.ofNat (sm (fun i => if p.2.2.2.1 i = u then 1 else 0) p.1)) := by
  rw [fX6_ownedBy, show (0 : Int32) = Int32.ofNat 0 from rfl, c_ownedBy_L h hn u _ p.1 FU 0 0 (by omega) (by simp only [FU]; omega), Nat.zero_add]
  rfl
theorem c_paidBy_L {p : aPs} {P : tPieces} (h : cP p P) (hn : p.1 ≤ 24) (u : Int32) (k : Int32 → Option Int32) : ∀ (d n j acc : Nat), j + d = p.1 → d < n → fX6_pricesPaidBy_L4 u P k n (Int32.ofNat acc) (Int32.ofNat j) = k (Int32.ofNat (acc + smF (fun i => if p.2.2.2.1 i = u then p.2.2.1 i else 0) j d))
  | d, 0, j, acc, _, h2 => by omega
  | 0, n + 1, j, acc, h1, _ => by
    simp (disch := omega) only [fX6_pricesPaidBy_L4, smF, h.1, J_lt, J_le, J_eq, J_nat, J_add, J_mul, J_sub, J_ne1, J_m1, J_le1, J_1le, J_1lt, J_lt1, J_dec, J_dec0, M1_def, M1_neg, n_leF, n_leT, n_ltF, n_ltT, false_or, or_false, true_or, or_true, and_true, true_and, false_and, and_false, not_true_eq_false, not_false_eq_true, if_true, if_false, ite_true, ite_false, Lt_eq, cmpJ, gb1_some, gb2_some, gb3_some, gb4_some, gb5_some, gb6_some, gb7_some, gb8_some, Nat.add_zero, Nat.zero_add, Nat.add_sub_cancel, i_0, i_1, i_2, i_3, i_4, i_5, i_6, i_7, i_8, i_9, i_10, i_11, i_12, i_13, i_14, i_15, i_16, i_17, i_18, i_19, i_20, i_21, i_22, i_23, i_24, i_25, i_26, i_27, i_28, i_29, i_31, i_32, i_48, i_57, i_59, i_61, i_63, i_72, i_96, i_97, i_99, i_100, i_122, i_128, i_141, i_160, i_192, i_255, i_256, i_365, i_600, i_730, i_3650, i_9999, i_1000000, -Int32.reduceOfNat]
  | d + 1, n + 1, j, acc, h1, h2 => by
    obtain ⟨_, e1, e2, _⟩ := h.2 j (by omega)
    simp (disch := omega) only [fX6_pricesPaidBy_L4, smF, h.1, e1, e2, J_lt, J_le, J_eq, J_nat, J_add, J_mul, J_sub, J_ne1, J_m1, J_le1, J_1le, J_1lt, J_lt1, J_dec, J_dec0, M1_def, M1_neg, n_leF, n_leT, n_ltF, n_ltT, false_or, or_false, true_or, or_true, and_true, true_and, false_and, and_false, not_true_eq_false, not_false_eq_true, if_true, if_false, ite_true, ite_false, Lt_eq, cmpJ, gb1_some, gb2_some, gb3_some, gb4_some, gb5_some, gb6_some, gb7_some, gb8_some, Nat.add_zero, Nat.zero_add, Nat.add_sub_cancel, i_0, i_1, i_2, i_3, i_4, i_5, i_6, i_7, i_8, i_9, i_10, i_11, i_12, i_13, i_14, i_15, i_16, i_17, i_18, i_19, i_20, i_21, i_22, i_23, i_24, i_25, i_26, i_27, i_28, i_29, i_31, i_32, i_48, i_57, i_59, i_61, i_63, i_72, i_96, i_97, i_99, i_100, i_122, i_128, i_141, i_160, i_192, i_255, i_256, i_365, i_600, i_730, i_3650, i_9999, i_1000000, -Int32.reduceOfNat]
    have ih := c_paidBy_L h hn u k d n (j + 1)
    by_cases c : p.2.2.2.1 j = u
    · simp only [c, if_true]
      rw [ih _ (by omega) (by omega), Nat.add_assoc]
    · simp only [c, if_false]
      rw [ih _ (by omega) (by omega), Nat.zero_add]
theorem c_paidBy {p : aPs} {P : tPieces} (h : cP p P) (hn : p.1 ≤ 24) (u : Int32) : fX6_pricesPaidBy u P = some (Int32.ofNat (sm (fun i => if p.2.2.2.1 i = u then p.2.2.1 i else 0) p.1)) := by
  rw [fX6_pricesPaidBy, show (0 : Int32) = Int32.ofNat 0 from rfl, c_paidBy_L h hn u _ p.1 FU 0 0 (by omega) (by simp only [FU]; omega), Nat.zero_add]
  rfl
theorem c_partAt {w : aWs} {W : tWords} (h : cW w W) (hn : w.1 ≤ 16) {i k : Nat} (hi : i < w.1) (hk : k < (w.2.2.2 i).length) (hl : (w.2.2.2 i).length ≤ 12) : fX8_partAt (Int32.ofNat i) (Int32.ofNat k) W = some (Int32.ofNat ((w.2.2.2 i)[k])) := by
  obtain ⟨_, _, e2, e3⟩ := h.2 i hi
  simp (disch := omega) only [fX8_partAt, h.1, e2, e3 k hk, J_lt, J_le, J_eq, J_nat, J_add, J_mul, J_sub, J_ne1, J_m1, J_le1, J_1le, J_1lt, J_lt1, J_dec, J_dec0, M1_def, M1_neg, n_leF, n_leT, n_ltF, n_ltT, false_or, or_false, true_or, or_true, and_true, true_and, false_and, and_false, not_true_eq_false, not_false_eq_true, if_true, if_false, ite_true, ite_false, Lt_eq, cmpJ, gb1_some, gb2_some, gb3_some, gb4_some, gb5_some, gb6_some, gb7_some, gb8_some, Nat.add_zero, Nat.zero_add, Nat.add_sub_cancel, i_0, i_1, i_2, i_3, i_4, i_5, i_6, i_7, i_8, i_9, i_10, i_11, i_12, i_13, i_14, i_15, i_16, i_17, i_18, i_19, i_20, i_21, i_22, i_23, i_24, i_25, i_26, i_27, i_28, i_29, i_31, i_32, i_48, i_57, i_59, i_61, i_63, i_72, i_96, i_97, i_99, i_100, i_122, i_128, i_141, i_160, i_192, i_255, i_256, i_365, i_600, i_730, i_3650, i_9999, i_1000000, -Int32.reduceOfNat]
theorem c_usesIn_L {w : aWs} {W : tWords} (h : cW w W) (hn : w.1 ≤ 16) {i : Nat} (hi : i < w.1) (hl : (w.2.2.2 i).length ≤ 12) (hp : ∀ q ∈ w.2.2.2 i, q < 24) (q : Nat) (hq : q < 24) (k : Int32 → Option Int32) : ∀ (d n j acc : Nat), j + d = (w.2.2.2 i).length → d < n → fX8_usesIn_L5 (Int32.ofNat i) (Int32.ofNat q) W k n (Int32.ofNat acc) (Int32.ofNat j) = k (Int32.ofNat (acc + ((w.2.2.2 i).drop j).count q))
  | d, 0, j, acc, _, h2 => by omega
  | 0, n + 1, j, acc, h1, _ => by
    obtain ⟨_, _, e2, e3⟩ := h.2 i hi
    have ed : (w.2.2.2 i).drop j = [] := List.drop_eq_nil_of_le (by omega)
    simp (disch := omega) only [fX8_usesIn_L5, h.1, e2, ed, List.count_nil, J_lt, J_le, J_eq, J_nat, J_add, J_mul, J_sub, J_ne1, J_m1, J_le1, J_1le, J_1lt, J_lt1, J_dec, J_dec0, M1_def, M1_neg, n_leF, n_leT, n_ltF, n_ltT, false_or, or_false, true_or, or_true, and_true, true_and, false_and, and_false, not_true_eq_false, not_false_eq_true, if_true, if_false, ite_true, ite_false, Lt_eq, cmpJ, gb1_some, gb2_some, gb3_some, gb4_some, gb5_some, gb6_some, gb7_some, gb8_some, Nat.add_zero, Nat.zero_add, Nat.add_sub_cancel, i_0, i_1, i_2, i_3, i_4, i_5, i_6, i_7, i_8, i_9, i_10, i_11, i_12, i_13, i_14, i_15, i_16, i_17, i_18, i_19, i_20, i_21, i_22, i_23, i_24, i_25, i_26, i_27, i_28, i_29, i_31, i_32, i_48, i_57, i_59, i_61, i_63, i_72, i_96, i_97, i_99, i_100, i_122, i_128, i_141, i_160, i_192, i_255, i_256, i_365, i_600, i_730, i_3650, i_9999, i_1000000, -Int32.reduceOfNat]
  | d + 1, n + 1, j, acc, h1, h2 => by
    obtain ⟨_, _, e2, e3⟩ := h.2 i hi
    have hj : j < (w.2.2.2 i).length := by omega
    have e := c_partAt h hn hi hj hl
    have hb := hp _ (List.getElem_mem hj)
    have ih := c_usesIn_L h hn hi hl hp q hq k d n (j + 1)
    rw [List.drop_eq_getElem_cons hj, List.count_cons]
    simp (disch := omega) only [fX8_usesIn_L5, h.1, e2, e, J_lt, J_le, J_eq, J_nat, J_add, J_mul, J_sub, J_ne1, J_m1, J_le1, J_1le, J_1lt, J_lt1, J_dec, J_dec0, M1_def, M1_neg, n_leF, n_leT, n_ltF, n_ltT, false_or, or_false, true_or, or_true, and_true, true_and, false_and, and_false, not_true_eq_false, not_false_eq_true, if_true, if_false, ite_true, ite_false, Lt_eq, cmpJ, gb1_some, gb2_some, gb3_some, gb4_some, gb5_some, gb6_some, gb7_some, gb8_some, Nat.add_zero, Nat.zero_add, Nat.add_sub_cancel, i_0, i_1, i_2, i_3, i_4, i_5, i_6, i_7, i_8, i_9, i_10, i_11, i_12, i_13, i_14, i_15, i_16, i_17, i_18, i_19, i_20, i_21, i_22, i_23, i_24, i_25, i_26, i_27, i_28, i_29, i_31, i_32, i_48, i_57, i_59, i_61, i_63, i_72, i_96, i_97, i_99, i_100, i_122, i_128, i_141, i_160, i_192, i_255, i_256, i_365, i_600, i_730, i_3650, i_9999, i_1000000, -Int32.reduceOfNat]
    by_cases c : (w.2.2.2 i)[j] = q
    · simp only [c, if_true, beq_self_eq_true]
      rw [ih _ (by omega) (by omega)]
      congr 2; omega
    · simp only [c, if_false, beq_iff_eq]
      rw [ih _ (by omega) (by omega)]
      rfl
theorem c_usesIn {w : aWs} {W : tWords} (h : cW w W) (hn : w.1 ≤ 16) {i : Nat} (hi : i < w.1) (hl : (w.2.2.2 i).length ≤ 12) (hp : ∀ q ∈ w.2.2.2 i, q < 24) (q : Nat) (hq : q < 24) : fX8_usesIn (Int32.ofNat i) (Int32.ofNat q) W = some (Int32.ofNat ((w.2.2.2 i).count q)) := by
  rw [fX8_usesIn, show (0 : Int32) = Int32.ofNat 0 from rfl, c_usesIn_L h hn hi hl hp q hq _ (w.2.2.2 i).length FU 0 0 (by omega) (by simp only [FU]; omega), Nat.zero_add, List.drop_zero]
