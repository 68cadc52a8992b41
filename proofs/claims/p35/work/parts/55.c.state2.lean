/-! the class's state is the law's book: pieces, words, users, accounts -/
theorem bm_bd (f : Nat → Nat) {n b : Nat} (h : bm f n = some b) : b < n := bm_lt f n b h
theorem sm_suc (f : Nat → Nat) (n : Nat) : sm f (n + 1) = sm f n + f n := by
  unfold sm
  rw [smF_snoc, Nat.zero_add]
section ST2
variable {A : aB} {b : tBk} {nc ns : Nat} {coins accounts code paid owner uses idle user word cut : Nat → Int32} {Q1 : Int32 → Prop}
theorem s_L158 (hn : ¬ (6 < nc ∨ 35 < ns)) (hc : cBk A b) (hI : Iv A) {pieces : Int32} (hL : lP A.2.1 pieces code paid owner uses idle) {k : Int32 → tCutR → Option Int32} (hk : ∀ Q, qS A A.1.1 A.2.1.1 0 Q → Ok (k (oI (bm A.2.1.2.2.2.2.1 A.2.1.1)) Q) Q1) : ∀ (d m q : Nat) (Q : tCutR), q + d = A.2.1.1 → d < m → qS A A.1.1 q 0 Q → Ok (fL_state_L158 b.2.2.2.2.2.2.1 pieces code paid owner uses idle nc ns k m (oI (bm A.2.1.2.2.2.2.1 q)) (Int32.ofNat q) Q) Q1 := by
  have h24 := hI.1.2.1.1
  have h4 := hI.1.1.1
  have o := Iv_oP hI
  have hp := hL.1
  intro d
  induction d with
  | zero =>
    intro m q Q e hm hq
    obtain ⟨m, rfl⟩ : ∃ x, m = x + 1 := ⟨m - 1, by omega⟩
    have e' : q = A.2.1.1 := by omega
    subst e'
    rw [fL_state_L158, hp, if_pos (by rw [J_le _ _ (by omega) (by omega)]; omega)]
    exact hk Q hq
  | succ d ih =>
    intro m q Q e hm hq
    obtain ⟨m, rfl⟩ : ∃ x, m = x + 1 := ⟨m - 1, by omega⟩
    have hlt : q < A.2.1.1 := by omega
    obtain ⟨a1, a2, a3⟩ := o.2 q hlt
    obtain ⟨l1, l2, l3, l4, l5⟩ := hL.2 q hlt
    have hix := setIx (show q < 25 by omega) (by decide)
    have hix' := setIx' (show q < 25 by omega) (by decide)
    obtain ⟨e0, e1, e2, e3, e4⟩ := e_piece hc hI.1 hlt
    have hub := Inv_ub hI.1 q hlt
    obtain ⟨_, _, _, hpd, hown⟩ := hI.1.2.1.2 q hlt
    have sL := s_L278 (x4 := oI (bm A.2.1.2.2.2.2.1 q)) hn hc hI hL hlt
    -- the next step, whatever has been counted
    have next : ∀ Q' : tCutR, qS A A.1.1 (q + 1) 0 Q' → Ok (if oI (bm A.2.1.2.2.2.2.1 q) < 0 then fL_state_L158 b.2.2.2.2.2.2.1 (Int32.ofNat A.2.1.1) code paid owner uses idle nc ns k m (Int32.ofNat q) (Int32.ofNat (q + 1)) Q' else (if Int32.ofNat q < 0 ∨ 25 ≤ q then none else if oI (bm A.2.1.2.2.2.2.1 q) < 0 ∨ 25 ≤ (oI (bm A.2.1.2.2.2.2.1 q)).toNatClampNeg then none else if Int32.ofNat (A.2.1.2.2.2.2.1 q) ≤ uses (oI (bm A.2.1.2.2.2.2.1 q)).toNatClampNeg then fL_state_L158 b.2.2.2.2.2.2.1 (Int32.ofNat A.2.1.1) code paid owner uses idle nc ns k m (oI (bm A.2.1.2.2.2.2.1 q)) (Int32.ofNat (q + 1)) Q' else fL_state_L158 b.2.2.2.2.2.2.1 (Int32.ofNat A.2.1.1) code paid owner uses idle nc ns k m (Int32.ofNat q) (Int32.ofNat (q + 1)) Q')) Q1 := by
      intro Q' hQ'
      have ihn := ih m (q + 1) Q' (by omega) (by omega) hQ'
      rw [hp] at ihn
      cases hb : bm A.2.1.2.2.2.2.1 q with
      | none =>
        rw [bm_none _ hb] at ihn
        rw [if_pos (show oI none < 0 by decide)]
        exact ihn
      | some x =>
        have hx := bm_bd _ hb
        rw [bm_some _ hb] at ihn
        have hxu := (hL.2 x (by omega)).2.2.2.1
        have hbx := Inv_ub hI.1 x (by omega)
        show Ok (if Int32.ofNat x < 0 then _ else _) Q1
        rw [if_neg (by rw [J_neg _ (by omega)]; exact id), if_neg hix']
        show Ok (if Int32.ofNat x < 0 ∨ 25 ≤ (Int32.ofNat x).toNatClampNeg then _ else if Int32.ofNat (A.2.1.2.2.2.2.1 q) ≤ uses (Int32.ofNat x).toNatClampNeg then _ else _) Q1
        rw [if_neg (setIx (show x < 25 by omega) (by decide)), J_nat x (by omega), hxu]
        by_cases g : A.2.1.2.2.2.2.1 x < A.2.1.2.2.2.2.1 q
        · rw [if_neg (by rw [J_le _ _ (by omega) (by omega)]; omega)]
          rw [if_pos g] at ihn
          exact ihn
        · rw [if_pos (by rw [J_le _ _ (by omega) (by omega)]; omega)]
          rw [if_neg g] at ihn
          exact ihn
    rw [fL_state_L158, hp, if_neg (by rw [J_le _ _ (by omega) (by omega)]; omega), if_neg hix, J_nat q (by omega), l1, z_size a1 (by omega), gb1_some, if_neg hn, e0, gb1_some, if_pos rfl, e1, gb1_some, if_neg hix', l2, if_pos rfl, e2, gb1_some, if_neg hix', l3, if_pos rfl, e3, gb1_some, if_neg hix', l4, if_pos rfl, e4, gb1_some, if_neg hix']
    simp only [Lt_eq]
    have hidle : (if A.2.1.2.2.2.2.1 q = 0 then A.2.1.2.2.2.2.2 q else (-1 : Int32)) = (if Int32.ofNat (A.2.1.2.2.2.2.1 q) ≤ 0 then idle q else -1) := by
      by_cases c : A.2.1.2.2.2.2.1 q = 0
      · rw [if_pos c, if_pos (by rw [c]; decide), l5 c]
      · rw [if_neg c, if_neg (by rw [i_0, J_le _ _ (by omega) (by omega)]; omega)]
    have hfin : ∀ X : Option Int32, Ok X Q1 → Ok (if Int32.ofNat (A.2.1.2.2.2.2.1 q) ≤ 0 then (if Int32.ofNat q < 0 ∨ 25 ≤ q then none else if (if A.2.1.2.2.2.2.1 q = 0 then A.2.1.2.2.2.2.2 q else (-1 : Int32)) = idle q then X else some 0) else if (if A.2.1.2.2.2.2.1 q = 0 then A.2.1.2.2.2.2.2 q else (-1 : Int32)) = -1 then X else some 0) Q1 := by
      intro X hX
      by_cases c : Int32.ofNat (A.2.1.2.2.2.2.1 q) ≤ 0
      · rw [if_pos c] at hidle ⊢
        rw [if_neg hix', if_pos hidle]
        exact hX
      · rw [if_neg c] at hidle ⊢
        rw [if_pos hidle]
        exact hX
    refine hfin _ ?_
    rw [show (0 : Int32) = Int32.ofNat 0 from rfl, sL _ 7 FU 0 (by omega) (by simp only [FU]; omega), if_neg (by rw [← i_0]; exact hix'), i_1, J_add, ← i_0]
    obtain ⟨q1, q2, q3, q4, q5⟩ := hq
    rcases hown with c0 | ⟨u, hu, c0⟩
    · have keep : qS A A.1.1 (q + 1) 0 Q := by
        have hne : ∀ a, a < 4 → ¬ A.2.1.2.2.2.1 q = Int32.ofNat a := by
          intro a ha z
          rw [c0] at z
          have := J_m1 a (by omega)
          exact this.mp z
        refine ⟨q1, q2, q3, fun a ha => ?_, fun a ha => ?_⟩
        · rw [sm_suc, if_neg (hne a ha), Nat.add_zero]
          exact q4 a ha
        · rw [sm_suc, if_neg (hne a ha), Nat.add_zero]
          exact q5 a ha
      rw [c0, if_pos (by decide)]
      exact next Q keep
    · have hux := setIx (show u < 4 by omega) (by decide)
      rw [c0, if_neg (by rw [J_neg _ (by omega)]; exact id), if_neg hix', if_neg hux, if_neg hix', if_neg hux, if_neg hix', J_nat u (by omega)]
      refine next _ ⟨fun a ha => ?_, fun a => ?_, fun a => ?_, fun a ha => ?_, fun a ha => ?_⟩
      · rw [upd2_at, if_neg (fun z => absurd z.2 (by decide)), upd2_at, if_neg (fun z => absurd z.2 (by decide))]
        exact q1 a ha
      · rw [upd2_at, if_neg (fun z => absurd z.2 (by decide)), upd2_at, if_neg (fun z => absurd z.2 (by decide))]
        exact q2 a
      · rw [upd2_at, if_neg (fun z => absurd z.2 (by decide)), upd2_at, if_neg (fun z => absurd z.2 (by decide))]
        exact q3 a
      · rw [upd2_at, if_neg (fun z => absurd z.2 (by decide)), upd2_at, sm_suc, c0]
        by_cases c : a = u
        · subst c
          rw [if_pos ⟨rfl, rfl⟩, if_pos rfl, q4 a ha, J_add]
        · rw [if_neg (fun z => c z.1), if_neg (by rw [J_eq _ _ (by omega) (by omega)]; exact fun z => c z.symm), Nat.add_zero]
          exact q4 a ha
      · rw [upd2_at, upd2_at, sm_suc, c0]
        by_cases c : a = u
        · subst c
          rw [if_pos ⟨rfl, rfl⟩, if_neg (fun z => absurd z.2 (by decide)), if_pos rfl, q5 a ha, J_add]
        · rw [if_neg (fun z => c z.1), upd2_at, if_neg (fun z => c z.1), if_neg (by rw [J_eq _ _ (by omega) (by omega)]; exact fun z => c z.symm), Nat.add_zero]
          exact q5 a ha
end ST2
