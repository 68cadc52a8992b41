/-! the class's state is the law's book -/
theorem upd2_at (S : tCutR) (i j : Nat) (v : Int32) (a c : Nat) : upd2 S i j v a c = if a = i ∧ c = j then v else S a c := by
  unfold upd2
  by_cases h : a = i
  · by_cases h2 : c = j
    · simp [h, h2, upd_eq]
    · simp [h, h2, upd_ne _ _ _ _ h2]
  · simp [h]
theorem ok_eq1 {x : Option Int32} (h : Ok x (fun r => r = 1)) : x = some 1 := by
  obtain ⟨r, e, h⟩ := h
  rw [e, h]
section ST
variable {A : aB} {b : tBk} {nc ns : Nat} {coins accounts code paid owner uses idle user word cut : Nat → Int32} {Q1 : Int32 → Prop}
theorem s_L89 {Hs : tHist} {n2 : Nat → Int32} (hn : ¬ (6 < nc ∨ 35 < ns)) (h : ∀ w, w < 11 → fX9_size (Int32.ofNat w) b.1 b.2.1 b.2.2.1 b.2.2.2.1 b.2.2.2.2.2.1 b.2.2.2.2.2.2.1 b.2.2.2.2.2.2.2 Hs = some (n2 w)) (k : Option Int32) : ∀ (d m w : Nat), w + d = 11 → d < m → fL_state_L89 b.1 b.2.1 b.2.2.1 b.2.2.2.1 b.2.2.2.2.2.1 b.2.2.2.2.2.2.1 b.2.2.2.2.2.2.2 Hs n2 nc ns k m (Int32.ofNat w) = k := by
  intro d
  induction d with
  | zero =>
    intro m w e hm
    obtain ⟨m, rfl⟩ : ∃ x, m = x + 1 := ⟨m - 1, by omega⟩
    rw [fL_state_L89, if_pos (by rw [i_11, J_le _ _ (by omega) (by omega)]; omega)]
  | succ d ih =>
    intro m w e hm
    obtain ⟨m, rfl⟩ : ∃ x, m = x + 1 := ⟨m - 1, by omega⟩
    rw [fL_state_L89, if_neg (by rw [i_11, J_le _ _ (by omega) (by omega)]; omega), h w (by omega), gb1_some, if_neg hn, if_neg (setIx (show w < 11 by omega) (by decide)), if_pos (by rw [J_nat w (by omega)]), i_1, J_add]
    exact ih m (w + 1) (by omega) (by omega)
/-- what the law has counted up to piece q and word w -/
def qS (A : aB) (u q w : Nat) (Q : tCutR) : Prop := (∀ a, a < u → Q a 0 = Int32.ofNat (A.1.2.2 a)) ∧ (∀ a, Q a 1 = Int32.ofNat (sm (fun k => if A.2.2.1.2.2.1 k = a then 1 else 0) w)) ∧ (∀ a, Q a 2 = Int32.ofNat (A.2.2.2.1 2 * sm (fun k => if A.2.2.1.2.2.1 k = a then (A.2.2.1.2.2.2 k).length else 0) w)) ∧ (∀ a, a < 4 → Q a 3 = Int32.ofNat (sm (fun k => if A.2.1.2.2.2.1 k = Int32.ofNat a then 1 else 0) q)) ∧ ∀ a, a < 4 → Q a 4 = Int32.ofNat (sm (fun k => if A.2.1.2.2.2.1 k = Int32.ofNat a then A.2.1.2.2.1 k else 0) q)
theorem s_L124 {users : Int32} (h4 : A.1.1 ≤ 4) (hu : users = Int32.ofNat A.1.1) (hc : ∀ u, u < A.1.1 → coins u = Int32.ofNat (A.1.2.2 u)) {k : tCutR → Option Int32} (hk : ∀ Q, qS A A.1.1 0 0 Q → Ok (k Q) Q1) : ∀ (d m u : Nat) (Q : tCutR), u + d = A.1.1 → d < m → qS A u 0 0 Q → Ok (fL_state_L124 users coins nc ns k m (Int32.ofNat u) Q) Q1 := by
  intro d
  induction d with
  | zero =>
    intro m u Q e hm hq
    obtain ⟨m, rfl⟩ : ∃ x, m = x + 1 := ⟨m - 1, by omega⟩
    rw [fL_state_L124, hu, if_pos (by rw [J_le _ _ (by omega) (by omega)]; omega)]
    rw [show u = A.1.1 by omega] at hq
    exact hk Q hq
  | succ d ih =>
    intro m u Q e hm hq
    obtain ⟨m, rfl⟩ : ∃ x, m = x + 1 := ⟨m - 1, by omega⟩
    have hix := setIx (show u < 4 by omega) (by decide)
    rw [fL_state_L124, hu, if_neg (by rw [J_le _ _ (by omega) (by omega)]; omega), if_neg hix, if_neg hix, Lt_eq, J_nat u (by omega), i_1, J_add, ← hu]
    refine ih m (u + 1) _ (by omega) (by omega) ?_
    obtain ⟨q1, q2, q3, q4, q5⟩ := hq
    refine ⟨fun a ha => ?_, fun a => ?_, fun a => ?_, fun a ha => ?_, fun a ha => ?_⟩
    · rw [upd2_at]
      by_cases c : a = u
      · rw [if_pos ⟨c, rfl⟩, c]
        exact hc u (by omega)
      · rw [if_neg (fun z => c z.1)]
        exact q1 a (by omega)
    · rw [upd2_at, if_neg (fun z => absurd z.2 (by decide))]
      exact q2 a
    · rw [upd2_at, if_neg (fun z => absurd z.2 (by decide))]
      exact q3 a
    · rw [upd2_at, if_neg (fun z => absurd z.2 (by decide))]
      exact q4 a ha
    · rw [upd2_at, if_neg (fun z => absurd z.2 (by decide))]
      exact q5 a ha
/-- one letter of a number -/
theorem cd_bit {l : List Nat} (h : ab l) (h9 : l.length ≤ 9) {i : Nat} (hi : i < l.length) : ((Int32.ofNat (cd l) >>> (((Int32.ofNat l.length - 1) - Int32.ofNat i) &&& 31)) &&& 1) = Int32.ofNat (l[i] - 1) := by
  have hs := cd_sm h h9
  have hb := cd_bd h
  have e1 : cd l / 2 ^ (l.length - 1 - i) % 2 = l[i] - 1 := by
    have ht : l.take (i + 1) ++ l.drop (i + 1) = l := List.take_append_drop _ _
    have h2 := cd_app (l.take (i + 1)) (l.drop (i + 1))
    rw [ht, List.length_drop] at h2
    have hlt := cdF_lt (l.drop (i + 1)) (fun x hx => h x (List.mem_of_mem_drop hx))
    rw [List.length_drop] at hlt
    have hp : 0 < 2 ^ (l.length - (i + 1)) := Nat.pow_pos (by decide)
    have e3 : cd l / 2 ^ (l.length - (i + 1)) = cd (l.take (i + 1)) := by
      rw [h2, Nat.mul_comm, Nat.mul_add_div hp, Nat.div_eq_of_lt hlt, Nat.add_zero]
    rw [show l.length - 1 - i = l.length - (i + 1) by omega, e3]
    have e4 : l.take (i + 1) = l.take i ++ [l[i]] := by rw [List.take_succ, List.getElem?_eq_getElem hi]; rfl
    rw [e4, cd_app]
    show (cd (l.take i) * 2 ^ 1 + (2 * 0 + (l[i] - 1))) % 2 = l[i] - 1
    have := h l[i] (List.getElem_mem hi)
    omega
  have hle : l.length - 1 - i < 32 := by omega
  have hdiv : cd l / 2 ^ (l.length - 1 - i) ≤ cd l := Nat.div_le_self _ _
  rw [i_1, J_sub _ _ (by omega), J_sub _ _ (by omega), J_shr _ _ (by omega) hle, J_and _ _ (by omega) (by omega), Nat.and_one_is_mod, e1]
theorem s_L278 (hn : ¬ (6 < nc ∨ 35 < ns)) (hc : cBk A b) (hI : Iv A) {pieces : Int32} (hL : lP A.2.1 pieces code paid owner uses idle) {q : Nat} (hq : q < A.2.1.1) {x4 : Int32} (k : Option Int32) : ∀ (d m i : Nat), i + d = 7 → d < m → fL_state_L278 x4 (Int32.ofNat q) (Int32.ofNat (A.2.1.2.1 q).length) b.2.2.2.2.2.2.1 code nc ns k m (Int32.ofNat i) = k := by
  have h24 := hI.1.2.1.1
  have o := Iv_oP hI
  obtain ⟨a1, a2, a3⟩ := o.2 q hq
  have hco := (hL.2 q hq).1
  intro d
  induction d with
  | zero =>
    intro m i e hm
    obtain ⟨m, rfl⟩ : ∃ x, m = x + 1 := ⟨m - 1, by omega⟩
    rw [fL_state_L278, if_pos (by rw [i_7, J_le _ _ (by omega) (by omega)]; omega)]
  | succ d ih =>
    intro m i e hm
    obtain ⟨m, rfl⟩ : ∃ x, m = x + 1 := ⟨m - 1, by omega⟩
    have ihn := ih m (i + 1) (by omega) (by omega)
    have hix := setIx (show q < 25 by omega) (by decide)
    rw [fL_state_L278, if_neg (by rw [i_7, J_le _ _ (by omega) (by omega)]; omega), e_pieceLetter hc hI.1 hq (show i < 1000 by omega), gb1_some, if_neg hn]
    simp only [Lt_eq]
    by_cases g : i < (A.2.1.2.1 q).length
    · rw [dif_pos g, if_neg (by rw [J_le _ _ (by omega) (by omega)]; omega), if_neg hix, J_nat q (by omega), hco, cd_bit a1 (by omega) g, if_pos rfl]
      rw [i_1, J_add]
      exact ihn
    · rw [dif_neg g, if_pos (by rw [J_le _ _ (by omega) (by omega)]; omega), if_pos rfl, i_1, J_add]
      exact ihn
end ST
