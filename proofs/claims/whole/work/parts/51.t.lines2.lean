/-! lines of a text: pieces -/
variable {bt : Nat → Nat} {N : Nat} {tc tm : Nat → Int32}
theorem l_piece (hN : N ≤ 600) (hY : tY N bt tc tm) {A : aB} {P : tPieces} {now : Nat → Int32} (hc : cP A.2.1 P) (hm : mB A now) (hD : dI A) {s e : Nat} (he : e ≤ N) (k : Int32) (le : Int64) (nu tk vl many : Int32) (spl : Nat → Int32) : (∃ (q : Nat) (c nx kd at' : Int32) (le' : Int64) (nu' : Int32) (P' : tPieces) (st' nx' tk' vl' many' : Int32) (now' : Nat → Int32) (spl' : Nat → Int32), c ≠ 0 ∧ fX5_readPiece (-1) (Int32.ofNat N) (Int32.ofNat e) 0 k (Int32.ofNat s) le nu P tc = some (0, Int32.ofNat q, nx, c, kd, at', le', nu', P') ∧ fX10_pieceLine (Int32.ofNat N) (Int32.ofNat s) (Int32.ofNat e) tk vl 0 (-1) many now tm spl = some (0, st', nx', tk', vl', c, Int32.ofNat q, many', now', spl')) ∨ (∃ (p2 s2 e2 K2 v2 : Nat) (kd at' : Int32) (le' : Int64) (nu' : Int32) (P' : tPieces) (many' : Int32) (now' : Nat → Int32) (spl' : Nat → Int32) (A' : aB), e ≤ p2 ∧ Tok N bt tc tm p2 s2 e2 K2 v2 ∧ fX5_readPiece (-1) (Int32.ofNat N) (Int32.ofNat e) 0 k (Int32.ofNat s) le nu P tc = (gb8 (fX5_readSemicolon (-1) (Int32.ofNat N) (Int32.ofNat p2) 0 kd at' le' nu' tc) fun r a b c d e f g => some (r, a, b, c, d, e, f, g, P')) ∧ fX10_pieceLine (Int32.ofNat N) (Int32.ofNat s) (Int32.ofNat e) tk vl 0 (-1) many now tm spl = some (1, Int32.ofNat s2, Int32.ofNat e2, Int32.ofNat K2, Int32.ofNat v2, 0, -1, many', now', spl') ∧ A'.1 = A.1 ∧ A'.2.2 = A.2.2 ∧ cP A'.2.1 P' ∧ mB A' now' ∧ dI A') := by
  have hI := hD.1
  have h4 := hI.1.1
  have h24 := hI.2.1.1
  by_cases cf : A.2.1.1 < 24
  · obtain ⟨s1, e1, K1, v1, T1⟩ := tok hN hY he
    have cl := c_letters T1 (-1) 0 k (Int32.ofNat s) le nu
    have rs := r_spells hN hY T1 0 (-1) many spl
    have hpreC : fX5_readPiece (-1) (Int32.ofNat N) (Int32.ofNat e) 0 k (Int32.ofNat s) le nu P tc = gb8 (fX5_readLetters (-1) (Int32.ofNat N) (Int32.ofNat e) 0 k (Int32.ofNat s) le nu tc) fun (r_2 : Int32) (Pr_errorAt_1 : Int32) (Pr_next_1 : Int32) (Pr_errorCode_1 : Int32) (Pr_kind_1 : Int32) (Pr_tokenAt_1 : Int32) (Pr_letters_1 : Int64) (Pr_number_1 : Int32) => if r_2 = 0 then (some (0, Pr_errorAt_1, Pr_next_1, Pr_errorCode_1, Pr_kind_1, Pr_tokenAt_1, Pr_letters_1, Pr_number_1, P)) else (gb1 (fX6_numberOf Pr_letters_1 P) fun (r_3 : Int32) => if r_3 = (-1) then (gb1 (fX4_lengthOf Pr_letters_1) fun (r_4 : Int32) => if r_4 ≤ 6 then (gb2 (fX6_add Pr_letters_1 0 (-1) 0 P) fun (r_5 : Int32) (P_1 : tPieces) => gb8 (fX5_readSemicolon Pr_errorAt_1 (Int32.ofNat N) Pr_next_1 Pr_errorCode_1 Pr_kind_1 Pr_tokenAt_1 Pr_letters_1 Pr_number_1 tc) fun (r_6 : Int32) (Pr_errorAt_2 : Int32) (Pr_next_2 : Int32) (Pr_errorCode_2 : Int32) (Pr_kind_2 : Int32) (Pr_tokenAt_2 : Int32) (Pr_letters_2 : Int64) (Pr_number_2 : Int32) => some (r_6, Pr_errorAt_2, Pr_next_2, Pr_errorCode_2, Pr_kind_2, Pr_tokenAt_2, Pr_letters_2, Pr_number_2, P_1)) else (gb3 (fX5_fail 3 Pr_errorAt_1 Pr_errorCode_1 Pr_tokenAt_1) fun (r_7 : Int32) (Pr_errorAt_3 : Int32) (Pr_errorCode_3 : Int32) => some (r_7, Pr_errorAt_3, Pr_next_1, Pr_errorCode_3, Pr_kind_1, Pr_tokenAt_1, Pr_letters_1, Pr_number_1, P))) else (gb3 (fX5_fail 2 Pr_errorAt_1 Pr_errorCode_1 Pr_tokenAt_1) fun (r_8 : Int32) (Pr_errorAt_4 : Int32) (Pr_errorCode_4 : Int32) => some (r_8, Pr_errorAt_4, Pr_next_1, Pr_errorCode_4, Pr_kind_1, Pr_tokenAt_1, Pr_letters_1, Pr_number_1, P))) := by
      rw [fX5_readPiece, c_isFullP hc h24, gb1_some, if_pos cf, if_pos (by rfl)]
    by_cases cK : K1 = 1
    · obtain ⟨u', cl1⟩ := cl.1 cK
      obtain ⟨hw, hl, hne, spl1, rs1, rs2⟩ := rs.1 cK
      have eC := c_numP hc h24 (okP_Inv hI) hw hl
      have eL := c_lengthOf hw hl
      have enr := nr_eq1 A.2.1.1 A.2.1.2.1 (lets bt s1 e1) (by omega)
      have hpreR : fX10_pieceLine (Int32.ofNat N) (Int32.ofNat s) (Int32.ofNat e) tk vl 0 (-1) many now tm spl = if Int32.ofNat (lets bt s1 e1).length ≤ 6 then (gb1 (fX10_code 0 (Int32.ofNat (lets bt s1 e1).length) spl1) fun (r_3 : Int32) => gb1 (fX10_pieceOf r_3 now) fun (r_4 : Int32) => Lt (fun (t0_2 : Int32) => (gb7 (fX10_starts 2 t0_2 (Int32.ofNat N) (Int32.ofNat s1) (Int32.ofNat e1) (Int32.ofNat K1) (Int32.ofNat v1) 0 (-1) tm) fun (r_5 : Int32) (M_start_2 : Int32) (M_next_2 : Int32) (M_token_2 : Int32) (M_value_2 : Int32) (M_error_3 : Int32) (M_errorAt_3 : Int32) => if r_5 = 0 then (some (0, M_start_2, M_next_2, M_token_2, M_value_2, M_error_3, M_errorAt_3, Int32.ofNat (lets bt s1 e1).length, now, spl1)) else (gb2 (fX10_comes r_3 0 (-1) now) fun (r_6 : Int32) (now_1 : (Nat → Int32)) => some (1, M_start_2, M_next_2, M_token_2, M_value_2, M_error_3, M_errorAt_3, Int32.ofNat (lets bt s1 e1).length, now_1, spl1)))) fun (j_2 : Int32 → Option (Int32 × Int32 × Int32 × Int32 × Int32 × Int32 × Int32 × Int32 × (Nat → Int32) × (Nat → Int32))) => if r_4 = (-1) then (j_2 1) else (j_2 0)) else (gb3 (fX10_fails 3 (Int32.ofNat s1) 0 (-1)) fun (r_7 : Int32) (M_error_4 : Int32) (M_errorAt_4 : Int32) => some (r_7, Int32.ofNat s1, Int32.ofNat e1, Int32.ofNat K1, Int32.ofNat v1, M_error_4, M_errorAt_4, Int32.ofNat (lets bt s1 e1).length, now, spl1)) := by
        rw [fX10_pieceLine, hm.2.1.1, Lt_eq, if_neg (by rw [i_24, J_le _ _ (by omega) (by omega)]; omega)]
        dsimp only
        rw [r_go T1, gb7_some, if_neg (by decide), rs1, gb5_some, if_neg (by decide)]
      by_cases c6 : (lets bt s1 e1).length ≤ 6
      · have ec := m_code hw hl rs2 (i := 0) (n0 := (lets bt s1 e1).length) (by omega)
        rw [List.drop_zero, List.take_length] at ec
        have ec' : fX10_code 0 (Int32.ofNat (lets bt s1 e1).length) spl1 = some (B32 (lets bt s1 e1)) := ec
        have eP := m_pieceOf hm.2.1 h24 (ok6_Inv hI) hw c6
        by_cases ck : fnd A.2.1.1 A.2.1.2.1 (lets bt s1 e1) < A.2.1.1
        · have hnn : ¬ (nr A.2.1.1 A.2.1.2.1 (lets bt s1 e1) = -1) := by
            rw [enr]
            exact fun h => h ck
          refine Or.inl ⟨s1, 2, Int32.ofNat e1, kc K1, Int32.ofNat s1, L64 (lets bt s1 e1), u', P, Int32.ofNat s1, Int32.ofNat e1, Int32.ofNat K1, Int32.ofNat v1, Int32.ofNat (lets bt s1 e1).length, now, spl1, by decide, ?_, ?_⟩
          · rw [hpreC, cl1, gb8_some, if_neg (by decide), eC, gb1_some, if_neg hnn, fX5_fail, gb3_some]
          · rw [hpreR, if_pos (by rw [i_6, J_le _ _ (by omega) (by omega)]; exact c6), ec', gb1_some, eP, gb1_some, Lt_eq, if_neg hnn]
            dsimp only
            rw [r_no, gb7_some, if_pos rfl]
        · have hnn : nr A.2.1.1 A.2.1.2.1 (lets bt s1 e1) = -1 := by
            rw [enr]
            exact ck
          have hl1 : 1 ≤ (lets bt s1 e1).length := by
            cases hll : lets bt s1 e1 with
            | nil => exact absurd hll hne
            | cons a l => simp
          obtain ⟨s2, e2, K2, v2, T2⟩ := tok hN hY T1.2.2.1
          obtain ⟨⟨r5, P'⟩, ca, cb, cc⟩ := c_addP hc cf (lets bt s1 e1) 0 M1 0
          simp only at cc
          refine Or.inr ⟨e1, s2, e2, K2, v2, kc K1, Int32.ofNat s1, L64 (lets bt s1 e1), u', P', Int32.ofNat (lets bt s1 e1).length, upd (upd (upd (upd (upd (upd now (21 + 5 * A.2.1.1) (B32 (lets bt s1 e1))) (21 + 5 * A.2.1.1 + 1) 0) (21 + 5 * A.2.1.1 + 2) M1) (21 + 5 * A.2.1.1 + 3) 0) (21 + 5 * A.2.1.1 + 4) (now 6)) 9 (Int32.ofNat (A.2.1.1 + 1)), spl1, aPiece A (lets bt s1 e1), ?_, T2, ?_, ?_, rfl, rfl, cc, ?_, dI_piece hD cf hw hl1 c6⟩
          · have := T1.1
            have := T1.2.1
            omega
          · rw [hpreC, cl1, gb8_some, if_neg (by decide), eC, gb1_some, if_pos hnn, eL, gb1_some, if_pos (by rw [i_6, J_le _ _ (by omega) (by omega)]; exact c6)]
            refine (congrArg (fun x => gb2 x _) ca).trans ?_
            rw [gb2_some]
          · rw [hpreR, if_pos (by rw [i_6, J_le _ _ (by omega) (by omega)]; exact c6), ec', gb1_some, eP, gb1_some, Lt_eq, if_pos hnn]
            dsimp only
            rw [r_go T2, gb7_some, if_neg (by decide)]
            refine (congrArg (fun x => gb2 x _) (m_comes hm.2.1.1 cf (B32 (lets bt s1 e1)) 0 (-1))).trans ?_
            rw [gb2_some]
            rfl
          · obtain ⟨b1, b2, b3, b4, b5, b6, b7, b8⟩ := hm
            have hf : ∀ x, x ≠ 9 → ¬ (21 + 5 * A.2.1.1 ≤ x ∧ x < 21 + 5 * A.2.1.1 + 5) → upd (upd (upd (upd (upd (upd now (21 + 5 * A.2.1.1) (B32 (lets bt s1 e1))) (21 + 5 * A.2.1.1 + 1) 0) (21 + 5 * A.2.1.1 + 2) M1) (21 + 5 * A.2.1.1 + 3) 0) (21 + 5 * A.2.1.1 + 4) (now 6)) 9 (Int32.ofNat (A.2.1.1 + 1)) x = now x := by
              intro x h1 h2
              rw [upd_ne _ _ _ _ h1, upd_ne _ _ _ _ (by omega), upd_ne _ _ _ _ (by omega), upd_ne _ _ _ _ (by omega), upd_ne _ _ _ _ (by omega), upd_ne _ _ _ _ (by omega)]
            refine ⟨mU_fr b1 h4 (fun x hx => hf x (by omega) (by omega)), ?_, mW_fr b3 (fun x hx => hf x (by omega) (by omega)), mS_fr b4 (fun x hx => hf x (by omega) (by omega)), mA_fr b5 (fun x h1 h2 => hf x (by omega) (by omega)), by rw [hf 6 (by omega) (by omega)]; exact b6, by rw [hf 7 (by omega) (by omega)]; exact b7, by rw [hf 8 (by omega) (by omega)]; exact b8⟩
            rw [b6, hD.2.2]
            exact mP_comes b2 (lets bt s1 e1) 0 M1 0
      · have hnr := nr_long hI (x := lets bt s1 e1) (by omega)
        refine Or.inl ⟨s1, 3, Int32.ofNat e1, kc K1, Int32.ofNat s1, L64 (lets bt s1 e1), u', P, Int32.ofNat s1, Int32.ofNat e1, Int32.ofNat K1, Int32.ofNat v1, Int32.ofNat (lets bt s1 e1).length, now, spl1, by decide, ?_, ?_⟩
        · rw [hpreC, cl1, gb8_some, if_neg (by decide), eC, gb1_some, if_pos (show nr A.2.1.1 A.2.1.2.1 (lets bt s1 e1) = -1 from hnr), eL, gb1_some, if_neg (by rw [i_6, J_le _ _ (by omega) (by omega)]; exact c6), fX5_fail, gb3_some]
        · rw [hpreR, if_neg (by rw [i_6, J_le _ _ (by omega) (by omega)]; exact c6), r_fails, gb3_some]
    · obtain ⟨l', u', cl1⟩ := cl.2 cK
      have rs1 := rs.2 cK
      refine Or.inl ⟨s1, 1, Int32.ofNat e1, kc K1, Int32.ofNat s1, l', u', P, Int32.ofNat s1, Int32.ofNat e1, Int32.ofNat K1, Int32.ofNat v1, many, now, spl, by decide, ?_, ?_⟩
      · rw [hpreC, cl1, gb8_some, if_pos rfl]
      · rw [fX10_pieceLine, hm.2.1.1, Lt_eq, if_neg (by rw [i_24, J_le _ _ (by omega) (by omega)]; omega)]
        dsimp only
        rw [r_go T1, gb7_some, if_neg (by decide), rs1, gb5_some, if_pos rfl]
  · refine Or.inl ⟨s, 5, Int32.ofNat e, k, Int32.ofNat s, le, nu, P, Int32.ofNat s, Int32.ofNat e, tk, vl, many, now, spl, by decide, ?_, ?_⟩
    · rw [fX5_readPiece, c_isFullP hc h24, gb1_some, if_neg cf, if_neg (by decide), fX5_fail, gb3_some]
    · rw [fX10_pieceLine, hm.2.1.1, Lt_eq, if_pos (by rw [i_24, J_le _ _ (by omega) (by omega)]; omega)]
      dsimp only
      rw [r_no, gb7_some, if_pos rfl]
