/-! parse: the text -/
theorem l_text {N : Nat} (hN : N ≤ 600) {bt : Nat → Nat} {buf tm : Nat → Int32} (hX : ∀ i, i < N → bt i < 256 ∧ buf i = sxb (bt i) ∧ tm i = sxb (bt i)) (ea0 ln0 nx0 ec0 kd0 at0 : Int32) (le0 : Int64) (nu0 : Int32) (d : tBk) (C : tCut) (S : tCutR) (text2 : Nat → Int32) (st0 tk0 vl0 nu2 many fm : Int32) {nw : Nat → Int32} (hz : ∀ k, k < 365 → nw k = 0) (names : Nat → Int64) (spl c f g fa : Nat → Int32) :
  (∃ (q : Nat) (cd nx kd' at' : Int32) (le' : Int64) (nu' : Int32) (d' : tBk) (C' : tCut) (S' : tCutR) (tc : Nat → Int32) (st' nx' tk' vl' : Int32) (nu2' many' fm' : Int32) (now' : Nat → Int32) (names' : Nat → Int64) (spl' c' f' g' fa' : Nat → Int32), cd ≠ 0 ∧ fX5_readText 600 (Int32.ofNat N) ea0 ln0 nx0 ec0 kd0 at0 le0 nu0 d.1 d.2.1 d.2.2.1 d.2.2.2.1 d.2.2.2.2.1 d.2.2.2.2.2.1 d.2.2.2.2.2.2.1 d.2.2.2.2.2.2.2 C S text2 buf = some (cd, Int32.ofNat q, Int32.ofNat N, nx, cd, kd', at', le', nu', d'.1, d'.2.1, d'.2.2.1, d'.2.2.2.1, d'.2.2.2.2.1, d'.2.2.2.2.2.1, d'.2.2.2.2.2.2.1, d'.2.2.2.2.2.2.2, C', S', tc) ∧ ∀ kR : Int32 → Int32 → Int32 → Int32 → Int32 → Int32 → Int32 → Int32 → Int32 → Int32 → (Nat → Int32) → (Nat → Int64) → (Nat → Int32) → (Nat → Int32) → (Nat → Int32) → (Nat → Int32) → (Nat → Int32) → Option (Int32 × Int32 × Int32 × Int32 × Int32 × Int32 × Int32 × Int32 × Int32 × Int32 × Int32 × Int32 × Int32 × Int32 × (Nat → Int32) × (Nat → Int32) × (Nat → Int64) × (Nat → Int64) × (Nat → Int32) × (Nat → Int32) × (Nat → Int32) × (Nat → Int32) × (Nat → Int32) × (Nat → Int32)), (gb4 (fX10_advance (Int32.ofNat N) st0 0 tk0 vl0 tm) fun (M_start_1 : Int32) (M_next_1 : Int32) (M_token_1 : Int32) (M_value_1 : Int32) => gb9 (fX10_head (Int32.ofNat N) M_start_1 M_next_1 M_token_1 M_value_1 0 (-1) nu2 nw tm) fun (r_3 : Int32) (M_start_2 : Int32) (M_next_2 : Int32) (M_token_2 : Int32) (M_value_2 : Int32) (M_error_1 : Int32) (M_errorAt_1 : Int32) (M_number_1 : Int32) (now_2 : (Nat → Int32)) => fX10_parse_L124 (Int32.ofNat N) tm kR FU r_3 M_start_2 M_next_2 M_token_2 M_value_2 M_error_1 M_errorAt_1 M_number_1 many fm now_2 names spl c f g fa) = kR 0 st' nx' tk' vl' cd (Int32.ofNat q) nu2' many' fm' now' names' spl' c' f' g' fa') ∨
  (∃ (nx kd' at' : Int32) (le' : Int64) (nu' : Int32) (d' : tBk) (C' : tCut) (S' : tCutR) (tc : Nat → Int32) (st' nx' tk' vl' : Int32) (nu2' many' fm' : Int32) (now' : Nat → Int32) (names' : Nat → Int64) (spl' c' f' g' fa' : Nat → Int32) (A' : aB), fX5_readText 600 (Int32.ofNat N) ea0 ln0 nx0 ec0 kd0 at0 le0 nu0 d.1 d.2.1 d.2.2.1 d.2.2.2.1 d.2.2.2.2.1 d.2.2.2.2.2.1 d.2.2.2.2.2.2.1 d.2.2.2.2.2.2.2 C S text2 buf = some (0, -1, Int32.ofNat N, nx, 0, kd', at', le', nu', d'.1, d'.2.1, d'.2.2.1, d'.2.2.2.1, d'.2.2.2.2.1, d'.2.2.2.2.2.1, d'.2.2.2.2.2.2.1, d'.2.2.2.2.2.2.2, C', S', tc) ∧ (∀ kR : Int32 → Int32 → Int32 → Int32 → Int32 → Int32 → Int32 → Int32 → Int32 → Int32 → (Nat → Int32) → (Nat → Int64) → (Nat → Int32) → (Nat → Int32) → (Nat → Int32) → (Nat → Int32) → (Nat → Int32) → Option (Int32 × Int32 × Int32 × Int32 × Int32 × Int32 × Int32 × Int32 × Int32 × Int32 × Int32 × Int32 × Int32 × Int32 × (Nat → Int32) × (Nat → Int32) × (Nat → Int64) × (Nat → Int64) × (Nat → Int32) × (Nat → Int32) × (Nat → Int32) × (Nat → Int32) × (Nat → Int32) × (Nat → Int32)), (gb4 (fX10_advance (Int32.ofNat N) st0 0 tk0 vl0 tm) fun (M_start_1 : Int32) (M_next_1 : Int32) (M_token_1 : Int32) (M_value_1 : Int32) => gb9 (fX10_head (Int32.ofNat N) M_start_1 M_next_1 M_token_1 M_value_1 0 (-1) nu2 nw tm) fun (r_3 : Int32) (M_start_2 : Int32) (M_next_2 : Int32) (M_token_2 : Int32) (M_value_2 : Int32) (M_error_1 : Int32) (M_errorAt_1 : Int32) (M_number_1 : Int32) (now_2 : (Nat → Int32)) => fX10_parse_L124 (Int32.ofNat N) tm kR FU r_3 M_start_2 M_next_2 M_token_2 M_value_2 M_error_1 M_errorAt_1 M_number_1 many fm now_2 names spl c f g fa) = kR 1 st' nx' tk' vl' 0 (-1) nu2' many' fm' now' names' spl' c' f' g' fa') ∧ cBk A' d' ∧ mB A' now' ∧ mN A'.1 names' ∧ dI A') := by
  have hY : tY N bt (va_cpy buf text2 0 0 N) tm := by
    intro i hi
    rw [cpy_in _ _ _ _ _ _ (Nat.zero_le _) (by omega), Nat.zero_add, Nat.sub_zero]
    exact hX i hi
  obtain ⟨s, e, K, v, T0⟩ := tok hN hY (Nat.zero_le N)
  obtain ⟨s6, h6, ecl⟩ := c_clear d.1 d.2.1 d.2.2.1 d.2.2.2.2.1 d.2.2.2.2.2.1 d.2.2.2.2.2.2.1 d.2.2.2.2.2.2.2
  have eadv : fX10_advance (Int32.ofNat N) st0 0 tk0 vl0 tm = some (Int32.ofNat s, Int32.ofNat e, Int32.ofNat K, Int32.ofNat v) := T0.2.2.2.2.2.2.2.2 st0 tk0 vl0
  have hbd : ¬ ((0 : Int32) < 0 ∨ (0 : Int32) < 0 ∨ Int32.ofNat N < 0 ∨ 600 < 0 + (Int32.ofNat N).toNatClampNeg ∨ 600 < 0 + (Int32.ofNat N).toNatClampNeg) := by
    rw [i_0, J_lt _ _ (by omega) (by omega), J_lt _ _ (by omega) (by omega), J_nat _ (by omega)]
    omega
  have hfit : ∀ i, i < (Int32.ofNat N).toNatClampNeg → fits .byte (.int (buf (0 + i))) = true := by
    intro i hi
    rw [J_nat _ (by omega)] at hi
    rw [Nat.zero_add, (hX i hi).2.1]
    exact sx_fits _ (hX i hi).1
  have ez1 : (if (600 : Int32) < Int32.ofNat 600 then 600 else Int32.ofNat 600) = Int32.ofNat 600 := by decide
  have ez2 : (if Int32.ofNat 600 < Int32.ofNat N then Int32.ofNat 600 else Int32.ofNat N) = Int32.ofNat N := if_neg (by rw [J_lt _ _ (by omega) (by omega)]; omega)
  rcases l_head hN hY T0 kd0 at0 le0 nu0 d.2.2.2.1 nu2 nw with ⟨q, cd, nx, kd', at', le', nu', st', s', nx', tk', vl', nu2', now', g1, g2, g3⟩ | ⟨p2, s2, e2, K2, v2, kd', at', le', nu', st', nu2', now', w, T2, g2, g3, g4, g5, g6⟩
  · obtain ⟨m, hm⟩ := fu5
    refine Or.inl ⟨q, cd, nx, kd', at', le', nu', (0, 0, 0, st', s6, (0, d.2.2.2.2.2.1.2.1, d.2.2.2.2.2.1.2.2), (0, d.2.2.2.2.2.2.1.2.1, d.2.2.2.2.2.2.1.2.2.1, d.2.2.2.2.2.2.1.2.2.2.1, d.2.2.2.2.2.2.1.2.2.2.2.1, d.2.2.2.2.2.2.1.2.2.2.2.2), (0, d.2.2.2.2.2.2.2.2.1, d.2.2.2.2.2.2.2.2.2.1, d.2.2.2.2.2.2.2.2.2.2.1, d.2.2.2.2.2.2.2.2.2.2.2)), C, S, va_cpy buf text2 0 0 N, s', nx', tk', vl', nu2', many, fm, now', names, spl, c, f, g, fa, g1, ?_, fun kR => ?_⟩
    · rw [fX5_readText, Lt_eq, Lt_eq, ez1, ez2, if_neg hbd, if_pos hfit, Lt_eq, ecl, gb7_some, J_nat _ (by omega), g2, gb9_some, hm, fX5_readText_L60, if_pos rfl]
    · rw [eadv, gb4_some, g3, gb9_some, hm, fX10_parse_L124, if_pos rfl]
  · have hp2 : p2 ≤ N := by
      have := T2.1
      have := T2.2.1
      have := T2.2.2.1
      omega
    have hmB : mB (aE w) now' := mB_E (fun i hi => (g5 i hi).2) (fun i h1 h2 => by rw [g6 i h1]; exact hz i h2)
    have hcB : cBk (aE w) (0, 0, 0, st', s6, (0, d.2.2.2.2.2.1.2.1, d.2.2.2.2.2.1.2.2), (0, d.2.2.2.2.2.2.1.2.1, d.2.2.2.2.2.2.1.2.2.1, d.2.2.2.2.2.2.1.2.2.2.1, d.2.2.2.2.2.2.1.2.2.2.2.1, d.2.2.2.2.2.2.1.2.2.2.2.2), (0, d.2.2.2.2.2.2.2.2.1, d.2.2.2.2.2.2.2.2.2.1, d.2.2.2.2.2.2.2.2.2.2.1, d.2.2.2.2.2.2.2.2.2.2.2)) := cB_E (fun i hi => (g5 i hi).1) h6 rfl rfl rfl
    rcases l_loop hN hY (time := 0) (sett := st') (np := 600) (p1 := buf) N p2 0 FU FU (aE w) _ now' names s2 e2 K2 v2 kd' at' le' nu' C S nu2' many fm spl c f g fa (by omega) hp2 (by omega) (by simp only [FU]; omega) (by simp only [FU]; omega) hcB rfl rfl hmB (fun i hi => absurd hi (Nat.not_lt_zero i)) (dI_E g4) T2 with ⟨q, cd, nx, kd2, at2, le2, nu2x, bx, Cx, Sx, st2, nx2, tk2, vl2, nu3, many3, fm3, now3, names3, spl3, c3, f3, g3x, fa3, y1, y2, y3⟩ | ⟨nx, kd2, at2, le2, nu2x, bx, Cx, Sx, st2, nx2, tk2, vl2, nu3, many3, fm3, now3, names3, spl3, c3, f3, g3x, fa3, A3, y2, y3, y4, y5, y6⟩
    · refine Or.inl ⟨q, cd, nx, kd2, at2, le2, nu2x, (0, bx.2.1, bx.2.2.1, st', bx.2.2.2.2.1, bx.2.2.2.2.2.1, bx.2.2.2.2.2.2.1, bx.2.2.2.2.2.2.2), Cx, Sx, va_cpy buf text2 0 0 N, st2, nx2, tk2, vl2, nu3, many3, fm3, now3, names3, spl3, c3, f3, g3x, fa3, y1, ?_, fun kR => ?_⟩
      · rw [fX5_readText, Lt_eq, Lt_eq, ez1, ez2, if_neg hbd, if_pos hfit, Lt_eq, ecl, gb7_some, J_nat _ (by omega), g2, gb9_some]
        exact (y2 _).trans rfl
      · rw [eadv, gb4_some, g3, gb9_some]
        exact y3 kR
    · obtain ⟨b1, b2, b3, b4, b5, b6, b7, b8⟩ := bx
      simp only at y4 y5
      subst y4 y5
      refine Or.inr ⟨nx, kd2, at2, le2, nu2x, (0, b2, b3, b4, b5, b6, b7, b8), Cx, Sx, va_cpy buf text2 0 0 N, st2, nx2, tk2, vl2, nu3, many3, fm3, now3, names3, spl3, c3, f3, g3x, fa3, A3, ?_, fun kR => ?_, y6⟩
      · rw [fX5_readText, Lt_eq, Lt_eq, ez1, ez2, if_neg hbd, if_pos hfit, Lt_eq, ecl, gb7_some, J_nat _ (by omega), g2, gb9_some]
        exact y2 _
      · rw [eadv, gb4_some, g3, gb9_some]
        exact y3 kR
