/-! fewest pieces, sums, the best part: the law's book -/
section ZB
variable {A : aB} {price letter deposit keep refund users pieces words time chest fund : Int32} {coins accounts code paid owner uses idle user word cut : Nat → Int32}
theorem z_few0 (hB : lB A price letter deposit keep refund users pieces words time chest fund coins accounts code paid owner uses idle user word cut) (hI : Iv A) {i : Nat} (hi : i < A.2.2.1.1) : fX10_fewest (Int32.ofNat i) 0 price letter deposit pieces code word = some (Int32.ofNat (gn A i [])) := by
  have o := Iv_oP hI
  have h16 := hI.1.2.2.1.1
  obtain ⟨a1, a2, a3, a4, a5⟩ := Iv_word hI hi
  have hf := (kS_ok hI.1 hi).2.2.2.2
  have hg := gn_nil hI.1 hi
  obtain ⟨s0, s1, s2', s2, s3, s4⟩ := hI.1.2.2.2.2.1
  obtain ⟨⟨b1, b2, b3, b4, b5⟩, b6, b7, b8, b9, b10, b11, b12, b13⟩ := hB
  have hC := lC_of b8 o
  obtain ⟨s, e1, hS, es⟩ := z_best0 hC s0 s1 s2 a1 a2 a3 false hf
  have e1' : fX10_best (Int32.ofNat (cd (A.2.2.1.2.1 i))) 0 0 (Int32.ofNat (A.2.2.2.1 0)) (Int32.ofNat (A.2.2.2.1 1)) (Int32.ofNat (A.2.2.2.1 2)) (Int32.ofNat A.2.1.1) code = some (Int32.ofNat s) := e1
  have hb := z_bc hS
  have h1 := hS.2.2
  have hk : (CL (sC A.2.1.1 A.2.1.2.1 A.2.2.2.1 false (A.2.2.1.2.1 i)) (A.2.2.2.1 2) (A.2.2.1.2.1 i)).length = gn A i [] := hg.symm
  rw [fX10_fewest, if_neg (setIx (show i < 17 by omega) (by decide)), J_nat i (by omega), (b9.2 i hi).2.1, b1, b2, b3, b8.1, e1', gb1_some, hb, gb1_some, i_1, J_add, ← hk, show (CL (sC A.2.1.1 A.2.1.2.1 A.2.2.2.1 false (A.2.2.1.2.1 i)) (A.2.2.2.1 2) (A.2.2.1.2.1 i)).length - 1 + 1 = (CL (sC A.2.1.1 A.2.1.2.1 A.2.2.2.1 false (A.2.2.1.2.1 i)) (A.2.2.2.1 2) (A.2.2.1.2.1 i)).length by omega]
theorem z_fewS (hB : lB A price letter deposit keep refund users pieces words time chest fund coins accounts code paid owner uses idle user word cut) (hI : Iv A) {x : List Nat} (hx : ab x) (hx9 : x.length ≤ 9) {i : Nat} (hi : i < A.2.2.1.1) : fX10_fewest (Int32.ofNat i) (Int32.ofNat (cd x)) price letter deposit pieces code word = some (Int32.ofNat (gn A i x)) := by
  have o := Iv_oP hI
  have h16 := hI.1.2.2.1.1
  obtain ⟨a1, a2, a3, a4, a5⟩ := Iv_word hI hi
  have hf := TB_finA hI.1 hi x
  obtain ⟨s0, s1, s2', s2, s3, s4⟩ := hI.1.2.2.2.2.1
  obtain ⟨⟨b1, b2, b3, b4, b5⟩, b6, b7, b8, b9, b10, b11, b12, b13⟩ := hB
  have hC := lC_of b8 o
  obtain ⟨s, e1, e2, e3⟩ := z_bestS hC s0 s1 s2 a1 a2 a3 hx hx9 hf
  rw [fX10_fewest, if_neg (setIx (show i < 17 by omega) (by decide)), J_nat i (by omega), (b9.2 i hi).2.1, b1, b2, b3, b8.1, e1, gb1_some, e2, gb1_some, i_1, J_add]
  unfold gn
  rw [Nat.sub_add_cancel e3]
theorem z_sum_L {x1 : Int32} {f : Nat → Nat} {nw : Nat} (h16 : nw ≤ 16) (hf : ∀ i, i < nw → fX10_fewest (Int32.ofNat i) x1 price letter deposit pieces code word = some (Int32.ofNat (f i))) (k : Int32 → Option Int32) : ∀ (d n j : Nat), j + d = nw → d < n → fL_sum_L4 x1 price letter deposit pieces (Int32.ofNat nw) code word k n (Int32.ofNat (sm f j)) (Int32.ofNat j) = k (Int32.ofNat (sm f nw)) := by
  intro d
  induction d with
  | zero =>
    intro n j e hn
    obtain ⟨n, rfl⟩ : ∃ x, n = x + 1 := ⟨n - 1, by omega⟩
    rw [fL_sum_L4, if_pos (by rw [J_le _ _ (by omega) (by omega)]; omega), show j = nw by omega]
  | succ d ih =>
    intro n j e hn
    obtain ⟨n, rfl⟩ : ∃ x, n = x + 1 := ⟨n - 1, by omega⟩
    rw [fL_sum_L4, if_neg (by rw [J_le _ _ (by omega) (by omega)]; omega), hf j (by omega), gb1_some, J_add, i_1, J_add, ← sm_succ]
    exact ih n (j + 1) (by omega) (by omega)
theorem z_sum0 (hB : lB A price letter deposit keep refund users pieces words time chest fund coins accounts code paid owner uses idle user word cut) (hI : Iv A) : fL_sum 0 price letter deposit pieces words code word = some (Int32.ofNat (sm (fun w => gn A w []) A.2.2.1.1)) := by
  have h16 := hI.1.2.2.1.1
  have := z_sum_L (x1 := 0) (price := price) (letter := letter) (deposit := deposit) (pieces := pieces) (code := code) (word := word) (f := fun w => gn A w []) h16 (fun i hi => z_few0 hB hI hi) (fun x => some x) A.2.2.1.1 FU 0 (by omega) (by simp only [FU]; omega)
  rw [fL_sum, hB.2.2.2.2.1.1]
  exact this
theorem z_sumS (hB : lB A price letter deposit keep refund users pieces words time chest fund coins accounts code paid owner uses idle user word cut) (hI : Iv A) {x : List Nat} (hx : ab x) (hx9 : x.length ≤ 9) : fL_sum (Int32.ofNat (cd x)) price letter deposit pieces words code word = some (Int32.ofNat (sm (fun w => gn A w x) A.2.2.1.1)) := by
  have h16 := hI.1.2.2.1.1
  have := z_sum_L (x1 := Int32.ofNat (cd x)) (price := price) (letter := letter) (deposit := deposit) (pieces := pieces) (code := code) (word := word) (f := fun w => gn A w x) h16 (fun i hi => z_fewS hB hI hx hx9 hi) (fun x => some x) A.2.2.1.1 FU 0 (by omega) (by simp only [FU]; omega)
  rw [fL_sum, hB.2.2.2.2.1.1]
  exact this
end ZB
/-- the best of a set of sections: most gain, then shortest, then first -/
def lxx (x y : Nat × Nat) : Prop := x.2 < y.2 ∨ (x.2 = y.2 ∧ x.1 < y.1)
def bo (G : Nat × Nat → Int32) (S : Nat × Nat → Prop) (s : Int32 × Int32 × Int32) : Prop := (s = (-1, 0, 0) ∧ ∀ x, S x → ¬ 0 < G x) ∨ ∃ x, S x ∧ x.1 < 1000 ∧ x.2 < 1000 ∧ s = (Int32.ofNat x.1, Int32.ofNat x.2, G x) ∧ 0 < G x ∧ ∀ y, S y → G y < G x ∨ (G y = G x ∧ (lxx x y ∨ x = y))
theorem bo_uq {G : Nat × Nat → Int32} {S : Nat × Nat → Prop} {s t : Int32 × Int32 × Int32} (h : bo G S s) (g : bo G S t) : s = t := by
  rcases h with ⟨h1, h2⟩ | ⟨x, h1, _, _, h2, h3, h4⟩
  · rcases g with ⟨g1, g2⟩ | ⟨y, g1, _, _, g2, g3, g4⟩
    · rw [h1, g1]
    · exact absurd g3 (h2 y g1)
  · rcases g with ⟨g1, g2⟩ | ⟨y, g1, _, _, g2, g3, g4⟩
    · exact absurd h3 (g2 x h1)
    · have a := h4 y g1
      have b := g4 x h1
      have e : x = y := by
        simp only [Int32.lt_iff_toInt_lt, lxx] at a b
        rcases a with a | ⟨a, a'⟩
        · rcases b with b | ⟨b, b'⟩
          · omega
          · rw [b] at a; omega
        · rcases b with b | ⟨b, b'⟩
          · rw [a] at b; omega
          · rcases a' with a' | a'
            · rcases b' with b' | b'
              · omega
              · exact b'.symm
            · exact a'
      rw [h2, g2, e]
theorem bo_set {G : Nat × Nat → Int32} {S T : Nat × Nat → Prop} {s : Int32 × Int32 × Int32} (h : bo G S s) (e : ∀ x, S x ↔ T x) : bo G T s := by
  have : S = T := funext fun x => propext (e x)
  rw [← this]
  exact h
theorem bo_nil {G : Nat × Nat → Int32} {S : Nat × Nat → Prop} (h : ∀ x, ¬ S x) : bo G S (-1, 0, 0) := Or.inl ⟨rfl, fun x hx => absurd hx (h x)⟩
theorem bo_skip {G : Nat × Nat → Int32} {S : Nat × Nat → Prop} {s : Int32 × Int32 × Int32} (h : bo G S s) {x : Nat × Nat} (hx : ¬ 0 < G x ∨ G x < s.2.2 ∨ (G x = s.2.2 ∧ ∃ y, S y ∧ s = (Int32.ofNat y.1, Int32.ofNat y.2, G y) ∧ lxx y x)) (hu : ∀ y, S y → s = (Int32.ofNat y.1, Int32.ofNat y.2, G y) → y.1 < 1000 ∧ y.2 < 1000) : bo G (fun y => S y ∨ y = x) s := by
  rcases h with ⟨h1, h2⟩ | ⟨z, h1, z1, z2, h2, h3, h4⟩
  · refine Or.inl ⟨h1, fun y hy => ?_⟩
    rcases hy with hy | rfl
    · exact h2 y hy
    · rcases hx with hx | hx | ⟨hx, y', hy, e, _⟩
      · exact hx
      · rw [h1] at hx
        intro g
        simp only [Int32.lt_iff_toInt_lt] at hx g
        omega
      · intro g
        rw [hx, h1] at g
        exact absurd g (by decide)
  · refine Or.inr ⟨z, Or.inl h1, z1, z2, h2, h3, fun y hy => ?_⟩
    rcases hy with hy | rfl
    · exact h4 y hy
    · rw [h2] at hx
      simp only at hx
      rcases hx with hx | hx | ⟨hx, y', hy, e, hl⟩
      · left
        simp only [Int32.lt_iff_toInt_lt] at hx h3 ⊢
        omega
      · exact Or.inl hx
      · obtain ⟨u1, u2⟩ := hu y' hy (by rw [h2]; exact e)
        have e1 : z.1 = y'.1 := J_inj (by omega) (by omega) (congrArg (fun q => q.1) e)
        have e2 : z.2 = y'.2 := J_inj (by omega) (by omega) (congrArg (fun q => q.2.1) e)
        refine Or.inr ⟨hx, Or.inl ?_⟩
        unfold lxx at hl ⊢
        omega
theorem bo_take {G : Nat × Nat → Int32} {S : Nat × Nat → Prop} {s : Int32 × Int32 × Int32} (h : bo G S s) {x : Nat × Nat} (x1 : x.1 < 1000) (x2 : x.2 < 1000) (hp : 0 < G x) (hx : s.2.2 < G x ∨ (G x = s.2.2 ∧ Int32.ofNat x.2 < s.2.1)) : bo G (fun y => S y ∨ y = x) (Int32.ofNat x.1, Int32.ofNat x.2, G x) := by
  refine Or.inr ⟨x, Or.inr rfl, x1, x2, rfl, hp, fun y hy => ?_⟩
  rcases hy with hy | rfl
  · rcases h with ⟨h1, h2⟩ | ⟨z, h1, z1, z2, h2, h3, h4⟩
    · have := h2 y hy
      left
      simp only [Int32.lt_iff_toInt_lt] at this hp ⊢
      omega
    · rw [h2] at hx
      simp only at hx
      have a := h4 y hy
      rcases hx with hx | ⟨hx, hl⟩
      · left
        rcases a with a | ⟨a, _⟩
        · simp only [Int32.lt_iff_toInt_lt] at hx a ⊢
          omega
        · rw [a]
          exact hx
      · rw [J_lt _ _ (by omega) (by omega)] at hl
        rcases a with a | ⟨a, a'⟩
        · rw [hx]
          exact Or.inl a
        · refine Or.inr ⟨by rw [a, hx], Or.inl ?_⟩
          rcases a' with a' | a'
          · unfold lxx at a' ⊢
            omega
          · rw [← a']
            exact Or.inl hl
  · exact Or.inr ⟨rfl, Or.inr rfl⟩
theorem bo_cases {G : Nat × Nat → Int32} {S : Nat × Nat → Prop} {s : Int32 × Int32 × Int32} (h : bo G S s) : (s = (-1, 0, 0) ∧ ∀ x, S x → ¬ 0 < G x) ∨ ∃ y, S y ∧ y.1 < 1000 ∧ y.2 < 1000 ∧ s = (Int32.ofNat y.1, Int32.ofNat y.2, G y) ∧ 0 < G y := by
  rcases h with h | ⟨x, h1, z1, z2, h2, h3, h4⟩
  · exact Or.inl h
  · exact Or.inr ⟨x, h1, z1, z2, h2, h3⟩
/-- the class's order -/
theorem scn_bo {G : List Nat → Int32} {l : List Nat} : ∀ (xs acc : List (Nat × Nat)) (s : Int32 × Int32 × Int32), List.Pairwise lxx (acc ++ xs) → (∀ x ∈ acc ++ xs, x.1 < 1000 ∧ x.2 < 1000) → bo (fun x => G (sec l x)) (· ∈ acc) s → bo (fun x => G (sec l x)) (· ∈ acc ++ xs) (scn G l xs s)
  | [], acc, s, _, _, h => by rw [List.append_nil]; exact h
  | x :: xs, acc, s, hp, hb, h => by
    have e : acc ++ x :: xs = (acc ++ [x]) ++ xs := by simp
    have hx := hb x (by simp)
    have hlt : ∀ y ∈ acc, lxx y x := fun y hy => (List.pairwise_append.mp hp).2.2 y hy x List.mem_cons_self
    have hset : ∀ y, (y ∈ acc ∨ y = x) ↔ y ∈ acc ++ [x] := fun y => by simp
    rw [e] at hp hb ⊢
    rw [scn]
    by_cases c : G (sec l x) ≤ s.2.2
    · rw [if_pos c]
      refine scn_bo xs (acc ++ [x]) s hp hb (bo_set (bo_skip h ?_ (fun y hy _ => hb y (by simp [hy]))) hset)
      rcases bo_cases h with ⟨h1, h2⟩ | ⟨y, h1, z1, z2, h2, h3⟩
      · left
        rw [h1] at c
        intro g
        simp only [Int32.lt_iff_toInt_lt, Int32.le_iff_toInt_le] at c g
        omega
      · by_cases g : G (sec l x) = s.2.2
        · exact Or.inr (Or.inr ⟨g, y, h1, h2, hlt y h1⟩)
        · refine Or.inr (Or.inl ?_)
          have : (G (sec l x)).toInt ≠ s.2.2.toInt := fun z => g (Int32.toInt_inj.mp z)
          simp only [Int32.lt_iff_toInt_lt, Int32.le_iff_toInt_le] at c ⊢
          omega
    · rw [if_neg c]
      refine scn_bo xs (acc ++ [x]) _ hp hb (bo_set (bo_take h hx.1 hx.2 ?_ (Or.inl ?_)) hset)
      · have : ¬ s.2.2 < 0 := by
          rcases bo_cases h with ⟨h1, h2⟩ | ⟨y, h1, z1, z2, h2, h3⟩
          · rw [h1]; decide
          · rw [h2]
            intro z
            simp only [Int32.lt_iff_toInt_lt] at z h3
            omega
        simp only [Int32.lt_iff_toInt_lt, Int32.le_iff_toInt_le] at c this ⊢
        omega
      · simp only [Int32.lt_iff_toInt_lt, Int32.le_iff_toInt_le] at c ⊢
        omega
theorem rowP_mem (A : aB) (l : List Nat) (n : Nat) : ∀ (d i : Nat) (x : Nat × Nat), x ∈ rowP A l n i d ↔ i ≤ x.1 ∧ x.1 < i + d ∧ x.2 = n ∧ ¬ fnd A.2.1.1 A.2.1.2.1 (sec l x) < A.2.1.1
  | 0, i, x => by
    rw [rowP]
    exact ⟨fun h => absurd h List.not_mem_nil, fun h => by omega⟩
  | d + 1, i, x => by
    have ih := rowP_mem A l n d (i + 1) x
    have hx : x = (x.1, x.2) := rfl
    rw [rowP]
    by_cases c : fnd A.2.1.1 A.2.1.2.1 (sec l (i, n)) < A.2.1.1
    · rw [if_pos c, ih]
      constructor
      · rintro ⟨a, b, e, g⟩
        exact ⟨by omega, by omega, e, g⟩
      · rintro ⟨a, b, e, g⟩
        refine ⟨?_, by omega, e, g⟩
        rcases Nat.lt_or_ge i x.1 with z | z
        · exact z
        · exact absurd (by rw [hx, show x.1 = i by omega, e]; exact c) g
    · rw [if_neg c, List.mem_cons, ih]
      constructor
      · rintro (rfl | ⟨a, b, e, g⟩)
        · exact ⟨Nat.le_refl _, by show i < i + (d + 1); omega, rfl, c⟩
        · exact ⟨by omega, by omega, e, g⟩
      · rintro ⟨a, b, e, g⟩
        rcases Nat.lt_or_ge i x.1 with z | z
        · exact Or.inr ⟨z, by omega, e, g⟩
        · exact Or.inl (by rw [hx, show x.1 = i by omega, e])
theorem allP_mem (A : aB) (l : List Nat) : ∀ (e n : Nat) (x : Nat × Nat), x ∈ allP A l n e ↔ n ≤ x.2 ∧ x.2 < n + e ∧ x.1 < l.length + 1 - x.2 ∧ ¬ fnd A.2.1.1 A.2.1.2.1 (sec l x) < A.2.1.1
  | 0, n, x => by
    rw [allP]
    exact ⟨fun h => absurd h List.not_mem_nil, fun h => by omega⟩
  | e + 1, n, x => by
    rw [allP, List.mem_append, rowP_mem, allP_mem A l e (n + 1) x]
    constructor
    · rintro (⟨a, b, c, d⟩ | ⟨a, b, c, d⟩)
      · exact ⟨by omega, by omega, by omega, d⟩
      · exact ⟨by omega, by omega, c, d⟩
    · rintro ⟨a, b, c, d⟩
      rcases Nat.lt_or_ge n x.2 with z | z
      · exact Or.inr ⟨by omega, by omega, c, d⟩
      · exact Or.inl ⟨by omega, by omega, by omega, d⟩
theorem rowP_pw (A : aB) (l : List Nat) (n : Nat) : ∀ (d i : Nat), List.Pairwise lxx (rowP A l n i d)
  | 0, i => by rw [rowP]; exact List.Pairwise.nil
  | d + 1, i => by
    rw [rowP]
    split
    · exact rowP_pw A l n d (i + 1)
    · refine List.pairwise_cons.mpr ⟨fun y hy => ?_, rowP_pw A l n d (i + 1)⟩
      have := (rowP_mem A l n d (i + 1) y).mp hy
      exact Or.inr ⟨this.2.2.1.symm, by have := this.1; show i < y.1; omega⟩
theorem allP_pw (A : aB) (l : List Nat) : ∀ (e n : Nat), List.Pairwise lxx (allP A l n e)
  | 0, n => by rw [allP]; exact List.Pairwise.nil
  | e + 1, n => by
    rw [allP]
    refine List.pairwise_append.mpr ⟨rowP_pw A l n _ _, allP_pw A l e (n + 1), fun x hx y hy => ?_⟩
    have a := (rowP_mem A l n _ _ x).mp hx
    have b := (allP_mem A l e (n + 1) y).mp hy
    exact Or.inl (by omega)
/-- what the law takes for the gain of a section -/
def gLx (A : aB) (l : List Nat) (x : Nat × Nat) : Int32 := if fnd A.2.1.1 A.2.1.2.1 (sec l x) < A.2.1.1 then 0 else gv A A.2.2.1.1 (sec l x)
def inL (l : List Nat) (x : Nat × Nat) : Prop := 1 ≤ x.2 ∧ x.2 ≤ 6 ∧ x.1 + x.2 ≤ l.length
theorem bo_bQ {A : aB} {u : Nat} (h12 : (A.2.2.1.2.1 u).length ≤ 12) : bo (gLx A (A.2.2.1.2.1 u)) (inL (A.2.2.1.2.1 u)) (bQ A u) := by
  have h := scn_bo (G := gv A A.2.2.1.1) (l := A.2.2.1.2.1 u) (allP A (A.2.2.1.2.1 u) 1 6) [] (-1, 0, 0) (by rw [List.nil_append]; exact allP_pw _ _ _ _) (fun x hx => by
    rw [List.nil_append] at hx
    have := (allP_mem A _ 6 1 x).mp hx
    exact ⟨by omega, by omega⟩) (bo_nil (fun x => List.not_mem_nil))
  rw [List.nil_append] at h
  have h' : bo (fun x => gv A A.2.2.1.1 (sec (A.2.2.1.2.1 u) x)) (· ∈ allP A (A.2.2.1.2.1 u) 1 6) (bQ A u) := h
  generalize bQ A u = s at h'
  have hm : ∀ x, x ∈ allP A (A.2.2.1.2.1 u) 1 6 ↔ inL (A.2.2.1.2.1 u) x ∧ ¬ fnd A.2.1.1 A.2.1.2.1 (sec (A.2.2.1.2.1 u) x) < A.2.1.1 := fun x => by
    rw [allP_mem]
    unfold inL
    constructor
    · rintro ⟨a, b, c, d⟩
      exact ⟨⟨by omega, by omega, by omega⟩, d⟩
    · rintro ⟨⟨a, b, c⟩, d⟩
      exact ⟨by omega, by omega, by omega, d⟩
  have hz : ∀ y, inL (A.2.2.1.2.1 u) y → (y ∈ allP A (A.2.2.1.2.1 u) 1 6 ∧ gLx A (A.2.2.1.2.1 u) y = gv A A.2.2.1.1 (sec (A.2.2.1.2.1 u) y)) ∨ gLx A (A.2.2.1.2.1 u) y = 0 := fun y hy => by
    unfold gLx
    by_cases c : fnd A.2.1.1 A.2.1.2.1 (sec (A.2.2.1.2.1 u) y) < A.2.1.1
    · rw [if_pos c]
      exact Or.inr rfl
    · rw [if_neg c]
      exact Or.inl ⟨(hm y).mpr ⟨hy, c⟩, rfl⟩
  rcases h' with ⟨h1, h2⟩ | ⟨x, h1, x1, x2, h2, h3, h4⟩
  · refine Or.inl ⟨h1, fun y hy => ?_⟩
    rcases hz y hy with ⟨a, b⟩ | b
    · rw [b]
      exact h2 y a
    · rw [b]
      decide
  · have hx := (hm x).mp h1
    have e : gLx A (A.2.2.1.2.1 u) x = gv A A.2.2.1.1 (sec (A.2.2.1.2.1 u) x) := by
      unfold gLx
      rw [if_neg hx.2]
    refine Or.inr ⟨x, hx.1, x1, x2, by rw [e]; exact h2, by rw [e]; exact h3, fun y hy => ?_⟩
    rcases hz y hy with ⟨a, b⟩ | b
    · rw [b, e]
      exact h4 y a
    · rw [b, e]
      exact Or.inl h3
section ZB2
variable {A : aB} {b : tBk} {price letter deposit keep refund users pieces words time chest fund : Int32} {coins accounts code paid owner uses idle user word cut : Nat → Int32}
def ar (n18 : Nat → Int32) (s : Int32 × Int32 × Int32) : Prop := n18 0 = s.1 ∧ n18 1 = s.2.1 ∧ n18 2 = s.2.2
theorem z_b46 (hB : lB A price letter deposit keep refund users pieces words time chest fund coins accounts code paid owner uses idle user word cut) (hI : Iv A) {u : Nat} (hu : u < A.2.2.1.1) {f : Nat} (hf : f < (A.2.2.1.2.1 u).length) {k : (Nat → Int32) → Option (Int32 × tAdv × tCut × tCutR)} {Q : Int32 × tAdv × tCut × tCutR → Prop} (hk : ∀ n18 s, ar n18 s → bo (gLx A (A.2.2.1.2.1 u)) (fun x => inL (A.2.2.1.2.1 u) x ∧ x.1 < f + 1) s → Ok (k n18) Q) : ∀ (d m n : Nat) (n18 : Nat → Int32) (s : Int32 × Int32 × Int32), n + d = 7 → d < m → 1 ≤ n → ar n18 s → bo (gLx A (A.2.2.1.2.1 u)) (fun x => inL (A.2.2.1.2.1 u) x ∧ (x.1 < f ∨ x.1 = f ∧ x.2 < n)) s → Ok (fL_best_L46 (Int32.ofNat u) (Int32.ofNat (A.2.2.1.2.1 u).length) (Int32.ofNat (sm (fun w => gn A w []) A.2.2.1.1)) (Int32.ofNat f) price letter deposit pieces words code word 1 3 k m (Int32.ofNat n) n18) Q := by
  have o := Iv_oP hI
  have h16 := hI.1.2.2.1.1
  have hB0 := hB
  obtain ⟨a1, a2, a3, a4, a5⟩ := Iv_word hI hu
  obtain ⟨⟨b1, b2, b3, b4, b5⟩, b6, b7, b8, b9, b10, b11, b12, b13⟩ := hB
  have hC := lC_of b8 o
  intro d
  induction d with
  | zero =>
    intro m n n18 s e hm h1 ha hb
    obtain ⟨m, rfl⟩ : ∃ x, m = x + 1 := ⟨m - 1, by omega⟩
    rw [fL_best_L46, if_pos (by rw [i_6, J_lt _ _ (by omega) (by omega)]; omega)]
    refine hk n18 s ha (bo_set hb (fun x => ?_))
    constructor
    · rintro ⟨z, y⟩
      exact ⟨z, by omega⟩
    · rintro ⟨z, y⟩
      refine ⟨z, ?_⟩
      have := z.2.1
      omega
  | succ d ih =>
    intro m n n18 s e hm h1 ha hb
    obtain ⟨m, rfl⟩ : ∃ x, m = x + 1 := ⟨m - 1, by omega⟩
    rw [fL_best_L46, if_neg (by rw [i_6, J_lt _ _ (by omega) (by omega)]; omega), J_add]
    by_cases c : (A.2.2.1.2.1 u).length < f + n
    · rw [if_pos (by rw [J_lt _ _ (by omega) (by omega)]; exact c)]
      refine hk n18 s ha (bo_set hb (fun x => ?_))
      constructor
      · rintro ⟨z, y⟩
        exact ⟨z, by omega⟩
      · rintro ⟨z, y⟩
        refine ⟨z, ?_⟩
        have := z.2.2
        omega
    · have hsec : sec (A.2.2.1.2.1 u) (f, n) = ((A.2.2.1.2.1 u).drop f).take n := rfl
      have hsa : ab (sec (A.2.2.1.2.1 u) (f, n)) := ab_sub a1 f n
      have hsl : (sec (A.2.2.1.2.1 u) (f, n)).length = n := take_len (by omega)
      have ep : fX10_part (Int32.ofNat (cd (A.2.2.1.2.1 u))) (Int32.ofNat f) (Int32.ofNat (f + n)) = some (Int32.ofNat (cd (sec (A.2.2.1.2.1 u) (f, n)))) := by
        rw [z_part a1 a2 (show f < f + n by omega) (by omega), Nat.add_sub_cancel_left, ← hsec]
      have hnext : ∀ (n18' : Nat → Int32) (s' : Int32 × Int32 × Int32), ar n18' s' → bo (gLx A (A.2.2.1.2.1 u)) (fun y => (inL (A.2.2.1.2.1 u) y ∧ (y.1 < f ∨ y.1 = f ∧ y.2 < n)) ∨ y = (f, n)) s' → Ok (fL_best_L46 (Int32.ofNat u) (Int32.ofNat (A.2.2.1.2.1 u).length) (Int32.ofNat (sm (fun w => gn A w []) A.2.2.1.1)) (Int32.ofNat f) price letter deposit pieces words code word 1 3 k m (Int32.ofNat n + 1) n18') Q := by
        intro n18' s' ha' hb'
        rw [i_1, J_add]
        refine ih m (n + 1) n18' s' (by omega) (by omega) (by omega) ha' (bo_set hb' (fun x => ?_))
        constructor
        · rintro (⟨z, y⟩ | rfl)
          · exact ⟨z, by omega⟩
          · exact ⟨⟨h1, by show n ≤ 6; omega, by show f + n ≤ _; omega⟩, Or.inr ⟨rfl, by show n < n + 1; omega⟩⟩
        · rintro ⟨z, y⟩
          by_cases g : x.1 = f ∧ x.2 = n
          · right
            have hx : x = (x.1, x.2) := rfl
            rw [hx, g.1, g.2]
          · left
            exact ⟨z, by omega⟩
      have hbd : ∀ y : Nat × Nat, (inL (A.2.2.1.2.1 u) y ∧ (y.1 < f ∨ y.1 = f ∧ y.2 < n)) → y.1 < 1000 ∧ y.2 < 1000 := fun y hy => by
        have := hy.1.2.1
        omega
      rw [if_neg (by rw [J_lt _ _ (by omega) (by omega)]; exact c), if_neg (setIx (show u < 17 by omega) (by decide)), J_nat u (by omega), (b9.2 u hu).2.1, ep, gb1_some, if_neg (by decide), b8.1, z_find hC hsa (by omega), gb1_some, Lt_eq]
      by_cases g : fnd A.2.1.1 A.2.1.2.1 (sec (A.2.2.1.2.1 u) (f, n)) < A.2.1.1
      · have hnr : ¬ nr A.2.1.1 A.2.1.2.1 (sec (A.2.2.1.2.1 u) (f, n)) < 0 := by
          have := hC.1
          unfold nr
          rw [if_pos g, i_0, J_lt _ _ (by omega) (by omega)]
          omega
        have hg0 : gLx A (A.2.2.1.2.1 u) (f, n) = 0 := by
          unfold gLx
          rw [if_pos g]
        rw [if_neg hnr]
        dsimp only
        rw [if_pos rfl, ← b8.1]
        exact hnext n18 s ha (bo_skip hb (Or.inl (by rw [hg0]; decide)) (fun y hy _ => hbd y hy))
      · have hnr : nr A.2.1.1 A.2.1.2.1 (sec (A.2.2.1.2.1 u) (f, n)) < 0 := by
          unfold nr
          rw [if_neg g]
          decide
        have hg0 : Int32.ofNat (sm (fun w => gn A w []) A.2.2.1.1) - Int32.ofNat (sm (fun w => gn A w (sec (A.2.2.1.2.1 u) (f, n))) A.2.2.1.1) = gLx A (A.2.2.1.2.1 u) (f, n) := by
          unfold gLx
          rw [if_neg g]
          rfl
        rw [if_pos hnr, ← b8.1, z_sumS hB0 hI hsa (by omega), gb1_some, hg0, ha.2.1, ha.2.2]
        dsimp only
        generalize hG : gLx A (A.2.2.1.2.1 u) (f, n) = v
        by_cases c0 : v = 0
        · rw [if_pos c0]
          exact hnext n18 s ha (bo_skip hb (Or.inl (by rw [hG, c0]; decide)) (fun y hy _ => hbd y hy))
        rw [if_neg c0]
        by_cases c1 : v < s.2.2
        · rw [if_pos c1]
          exact hnext n18 s ha (bo_skip hb (Or.inr (Or.inl (by rw [hG]; exact c1))) (fun y hy _ => hbd y hy))
        rw [if_neg c1]
        simp only [Lt_eq]
        have hs0 : ¬ s.2.2 < 0 := by
          rcases bo_cases hb with ⟨e1, e2⟩ | ⟨y, e1, y1, y2, e2, e3⟩
          · rw [e1]; decide
          · rw [e2]
            intro z
            simp only [Int32.lt_iff_toInt_lt] at z e3
            omega
        have hvp : 0 < gLx A (A.2.2.1.2.1 u) (f, n) := by
          have : v.toInt ≠ (0 : Int32).toInt := fun z => c0 (Int32.toInt_inj.mp z)
          rw [hG]
          simp only [Int32.lt_iff_toInt_lt] at c1 hs0 ⊢
          omega
        have har : ar (upd (upd (upd n18 0 (Int32.ofNat f)) 1 (Int32.ofNat n)) 2 v) (Int32.ofNat f, Int32.ofNat n, gLx A (A.2.2.1.2.1 u) (f, n)) := by
          rw [hG]
          exact ⟨by rw [upd_ne _ _ _ _ (by decide), upd_ne _ _ _ _ (by decide), upd_eq], by rw [upd_ne _ _ _ _ (by decide), upd_eq], by rw [upd_eq]⟩
        by_cases c2 : v = s.2.2
        · rw [if_pos c2]
          by_cases c3 : Int32.ofNat n < s.2.1
          · rw [if_pos c3]
            exact hnext _ _ har (bo_take hb (show f < 1000 by omega) (show n < 1000 by omega) hvp (Or.inr ⟨by rw [hG]; exact c2, c3⟩))
          · rw [if_neg c3]
            refine hnext n18 s ha (bo_skip hb (Or.inr (Or.inr ⟨by rw [hG]; exact c2, ?_⟩)) (fun y hy _ => hbd y hy))
            rcases bo_cases hb with ⟨e1, e2⟩ | ⟨y, e1, y1, y2, e2, e3⟩
            · exact absurd (by rw [c2, e1]) c0
            · refine ⟨y, e1, e2, ?_⟩
              rw [e2] at c3
              simp only at c3
              rw [J_lt _ _ (by omega) (by omega)] at c3
              unfold lxx
              have := e1.2
              show y.2 < n ∨ (y.2 = n ∧ y.1 < f)
              omega
        · rw [if_neg c2]
          refine hnext _ _ har (bo_take hb (show f < 1000 by omega) (show n < 1000 by omega) hvp (Or.inl ?_))
          have : v.toInt ≠ s.2.2.toInt := fun z => c2 (Int32.toInt_inj.mp z)
          rw [hG]
          simp only [Int32.lt_iff_toInt_lt] at c1 ⊢
          omega
theorem z_b37 (hB : lB A price letter deposit keep refund users pieces words time chest fund coins accounts code paid owner uses idle user word cut) (hI : Iv A) {u : Nat} (hu : u < A.2.2.1.1) {k : (Nat → Int32) → Option (Int32 × tAdv × tCut × tCutR)} {Q : Int32 × tAdv × tCut × tCutR → Prop} (hk : ∀ n18, ar n18 (bQ A u) → Ok (k n18) Q) : ∀ (d m f : Nat) (n18 : Nat → Int32) (s : Int32 × Int32 × Int32), f + d = (A.2.2.1.2.1 u).length → d < m → ar n18 s → bo (gLx A (A.2.2.1.2.1 u)) (fun x => inL (A.2.2.1.2.1 u) x ∧ x.1 < f) s → Ok (fL_best_L37 (Int32.ofNat u) (Int32.ofNat (A.2.2.1.2.1 u).length) (Int32.ofNat (sm (fun w => gn A w []) A.2.2.1.1)) price letter deposit pieces words code word 1 3 k m (Int32.ofNat f) n18) Q := by
  obtain ⟨a1, a2, a3, a4, a5⟩ := Iv_word hI hu
  intro d
  induction d with
  | zero =>
    intro m f n18 s e hm ha hb
    obtain ⟨m, rfl⟩ : ∃ x, m = x + 1 := ⟨m - 1, by omega⟩
    rw [fL_best_L37, if_pos (by rw [J_le _ _ (by omega) (by omega)]; omega)]
    have : s = bQ A u := bo_uq (bo_set hb (fun x => ⟨fun z => z.1, fun z => ⟨z, by have := z.2.2; have := z.1; omega⟩⟩)) (bo_bQ (by omega))
    rw [this] at ha
    exact hk n18 ha
  | succ d ih =>
    intro m f n18 s e hm ha hb
    obtain ⟨m, rfl⟩ : ∃ x, m = x + 1 := ⟨m - 1, by omega⟩
    rw [fL_best_L37, if_neg (by rw [J_le _ _ (by omega) (by omega)]; omega), show (1 : Int32) = Int32.ofNat 1 from rfl]
    refine z_b46 hB hI hu (f := f) (by omega) (fun n18' s' ha' hb' => ?_) 6 FU 1 n18 s (by omega) (by simp only [FU]; omega) (by omega) ha (bo_set hb (fun x => ?_))
    · rw [J_add]
      exact ih m (f + 1) n18' s' (by omega) (by omega) ha' hb'
    · constructor
      · rintro ⟨z, y⟩
        exact ⟨z, by omega⟩
      · rintro ⟨z, y⟩
        have := z.1
        exact ⟨z, by omega⟩
theorem z_b172 (hc : cBk A b) (hI : Iv A) {u : Nat} (hu : u < A.2.2.1.1) {n18 : Nat → Int32} (ha : ar n18 (bQ A u)) {k : tAdv → tCut → tCutR → Option (Int32 × tAdv × tCut × tCutR)} {Q : Int32 × tAdv × tCut × tCutR → Prop} (hk : ∀ V C S, Ok (k V C S) Q) : ∀ (d m i : Nat) (V : tAdv) (C : tCut) (S : tCutR), i + d = 3 → d < m → Ok (fL_best_L172 (Int32.ofNat u) b.2.2.2.1 b.2.2.2.2.2.2.1 b.2.2.2.2.2.2.2 n18 1 3 k m (Int32.ofNat i) V C S) Q := by
  obtain ⟨a1, a2, a3, a4, a5⟩ := Iv_word hI hu
  have hv : ((0 : Int32) ≤ n18 0) = ¬ (bQ A u).1 = -1 := by
    rw [ha.1]
    rcases bo_cases (bo_bQ (A := A) (u := u) (by omega)) with ⟨e1, e2⟩ | ⟨y, e1, y1, y2, e2, e3⟩
    · rw [e1]
      decide
    · rw [e2]
      simp only
      rw [J_0le _ (by omega), M1_def, J_ne1 _ (by omega)]
      simp
  intro d
  induction d with
  | zero =>
    intro m i V C S e hm
    obtain ⟨m, rfl⟩ : ∃ x, m = x + 1 := ⟨m - 1, by omega⟩
    rw [fL_best_L172, if_pos (by rw [i_3, J_le _ _ (by omega) (by omega)]; omega)]
    exact hk V C S
  | succ d ih =>
    intro m i V C S e hm
    obtain ⟨m, rfl⟩ : ∃ x, m = x + 1 := ⟨m - 1, by omega⟩
    obtain ⟨V', C', S', eb⟩ := e_bestPart hc hI.1 hu (show i < 3 by omega) V C S
    have hn : Ok (fL_best_L172 (Int32.ofNat u) b.2.2.2.1 b.2.2.2.2.2.2.1 b.2.2.2.2.2.2.2 n18 1 3 k m (Int32.ofNat i + 1) V' C' S') Q := by
      rw [i_1, J_add]
      exact ih m (i + 1) V' C' S' (by omega) (by omega)
    rw [fL_best_L172, if_neg (by rw [i_3, J_le _ _ (by omega) (by omega)]; omega), eb, gb4_some, if_neg (by decide), Lt_eq]
    by_cases g : (bQ A u).1 = -1
    · rw [if_neg (by rw [hv]; exact fun z => z g), if_pos g]
      dsimp only
      rw [if_pos rfl]
      exact hn
    · rw [if_pos (by rw [hv]; exact g), if_neg (setIx (show i < 3 by omega) (by decide)), if_neg g, J_nat i (by omega)]
      dsimp only
      rw [if_pos]
      · exact hn
      · rcases (show i = 0 ∨ i = 1 ∨ i = 2 by omega) with rfl | rfl | rfl
        · rw [if_pos rfl, ha.1]
        · rw [if_neg (by decide), if_pos rfl, ha.2.1]
        · rw [if_neg (by decide), if_neg (by decide), ha.2.2]
theorem z_bestP (hc : cBk A b) (hB : lB A price letter deposit keep refund users pieces words time chest fund coins accounts code paid owner uses idle user word cut) (hI : Iv A) {u : Nat} (hu : u < A.2.2.1.1) (V : tAdv) (C3 : tCut) (S3 : tCutR) : Ok (fL_best (Int32.ofNat u) b.2.2.2.1 b.2.2.2.2.2.2.1 b.2.2.2.2.2.2.2 V C3 S3 price letter deposit pieces words code word) (fun r => r.1 = 1) := by
  obtain ⟨a1, a2, a3, a4, a5⟩ := Iv_word hI hu
  have h16 := hI.1.2.2.1.1
  have hw := (hB.2.2.2.2.1.2 u hu).2.1
  rw [fL_best, if_neg (setIx (show u < 17 by omega) (by decide)), J_nat u (by omega), hw, z_size a1 a2, gb1_some, z_sum0 hB hI, gb1_some]
  rw [Lt_eq, Lt_eq, Lt_eq]
  have h0 : ar (upd (upd (upd (fun _ => (0 : Int32)) 0 (-1)) 1 0) 2 0) (-1, 0, 0) := ⟨by rw [upd_ne _ _ _ _ (by decide), upd_ne _ _ _ _ (by decide), upd_eq], by rw [upd_ne _ _ _ _ (by decide), upd_eq], by rw [upd_eq]⟩
  have k172 : ∀ n18, ar n18 (bQ A u) → Ok (fL_best_L172 (Int32.ofNat u) b.2.2.2.1 b.2.2.2.2.2.2.1 b.2.2.2.2.2.2.2 n18 1 3 (fun (V_1 : tAdv) (C3_1 : tCut) (S3_1 : tCutR) => some ((1 : Int32), V_1, C3_1, S3_1)) FU 0 V C3 S3) (fun r => r.1 = 1) := fun n18 ha => by
    have h := z_b172 (k := fun (V_1 : tAdv) (C3_1 : tCut) (S3_1 : tCutR) => some ((1 : Int32), V_1, C3_1, S3_1)) (Q := fun r => r.1 = 1) hc hI hu ha (fun V C S => ok_some rfl) 3 FU 0 V C3 S3 (by omega) (by simp only [FU]; omega)
    rw [← i_0] at h
    exact h
  have k37 := z_b37 (k := fun (n18_4 : (Nat → Int32)) => (fL_best_L172 (Int32.ofNat u) b.2.2.2.1 b.2.2.2.2.2.2.1 b.2.2.2.2.2.2.2 n18_4 1 3 (fun (V_1 : tAdv) (C3_1 : tCut) (S3_1 : tCutR) => some ((1 : Int32), V_1, C3_1, S3_1)) FU 0 V C3 S3)) (Q := fun r => r.1 = 1) hB hI hu k172 (A.2.2.1.2.1 u).length FU 0 _ (-1, 0, 0) (by omega) (by simp only [FU]; omega) h0 (bo_nil (fun x hx => by have := hx.2; omega))
  rw [← i_0] at k37
  exact k37
end ZB2
