/-! questions about users, pieces and words -/
theorem low5 {l : List Nat} (hw : wf l) (hl : l.length ≤ 12) (j : Nat) (hj : j ≤ 12) : ((glush (L64 l) (5 * Int32.ofNat j)).toInt32) &&& 31 = Int32.ofNat (leN (l.drop j) % 32) := by
  rw [L64_shr hw hl j hj, L64, Int64.toInt32_ofNat', J_and31]
theorem c_letter_in {l : List Nat} (hw : wf l) (hl : l.length ≤ 12) {j : Nat} (hj : j < l.length) : fX4_letterAt (L64 l) (Int32.ofNat j) = some (Int32.ofNat (l[j] - 1)) := by
  have e := low5 hw hl j (by omega)
  have hd : 0 < (l.drop j).length := by simp; omega
  rw [leN_head (wf_drop j hw) hd] at e
  have hg : (l.drop j)[0] = l[j] := by simp
  rw [hg] at e
  have hb := wf_get hw hj
  rw [fX4_letterAt, e, if_neg (by rw [i_0, J_lt _ _ (by omega) (by omega)]; omega), if_pos (by rw [i_12, J_lt _ _ (by omega) (by omega)]; omega), if_neg (by rw [i_0, J_eq _ _ (by omega) (by omega)]; omega), i_1, J_sub _ _ (by omega)]
theorem c_letter_out {l : List Nat} (hw : wf l) (hl : l.length ≤ 12) {x : Int32} (h : x < 0 ∨ ∃ j, l.length ≤ j ∧ j < 2147483648 ∧ x = Int32.ofNat j) : fX4_letterAt (L64 l) x = some (-1) := by
  rcases h with h | ⟨j, h1, h2, rfl⟩
  · rw [fX4_letterAt, if_pos h]
  · rw [fX4_letterAt, if_neg (by rw [i_0, J_lt _ _ (by omega) (by omega)]; omega)]
    by_cases c : j < 12
    · have e := low5 hw hl j (by omega)
      rw [List.drop_eq_nil_of_le (by omega)] at e
      rw [if_pos (by rw [i_12, J_lt _ _ (by omega) (by omega)]; omega), e, if_pos (by rfl)]
    · rw [if_neg (by rw [i_12, J_lt _ _ (by omega) (by omega)]; omega)]
theorem reqU_in {U : tUsers} {n i : Nat} (hU : U.1 = Int32.ofNat n) (hi : i < n) (hn : n ≤ 1000) : fX9_requireUser (Int32.ofNat i) U = some 0 := by rw [fX9_requireUser, hU]; exact req_in hi hn
theorem reqU_out {U : tUsers} {n : Nat} {x : Int32} (hU : U.1 = Int32.ofNat n) (hn : n ≤ 1000) (h : x < 0 ∨ ∃ j, n ≤ j ∧ j < 2147483648 ∧ x = Int32.ofNat j) : fX9_requireUser x U = some 1 := by rw [fX9_requireUser, hU]; exact req_out hn h
theorem reqP_in {U : tPieces} {n i : Nat} (hU : U.1 = Int32.ofNat n) (hi : i < n) (hn : n ≤ 1000) : fX9_requirePiece (Int32.ofNat i) U = some 0 := by rw [fX9_requirePiece, hU]; exact req_in hi hn
theorem reqP_out {U : tPieces} {n : Nat} {x : Int32} (hU : U.1 = Int32.ofNat n) (hn : n ≤ 1000) (h : x < 0 ∨ ∃ j, n ≤ j ∧ j < 2147483648 ∧ x = Int32.ofNat j) : fX9_requirePiece x U = some 1 := by rw [fX9_requirePiece, hU]; exact req_out hn h
theorem reqW_in {U : tWords} {n i : Nat} (hU : U.1 = Int32.ofNat n) (hi : i < n) (hn : n ≤ 1000) : fX9_requireWord (Int32.ofNat i) U = some 0 := by rw [fX9_requireWord, hU]; exact req_in hi hn
theorem reqW_out {U : tWords} {n : Nat} {x : Int32} (hU : U.1 = Int32.ofNat n) (hn : n ≤ 1000) (h : x < 0 ∨ ∃ j, n ≤ j ∧ j < 2147483648 ∧ x = Int32.ofNat j) : fX9_requireWord x U = some 1 := by rw [fX9_requireWord, hU]; exact req_out hn h
theorem noU_in {now : Nat → Int32} {n i : Nat} (h : now 5 = Int32.ofNat n) (hi : i < n) (hn : n ≤ 1000) (t : Int32) : fX10_noUser (Int32.ofNat i) t now = some (0, 0) := by rw [fX10_noUser, h, no_in hi hn]; rfl
theorem noU_out {now : Nat → Int32} {n : Nat} {x : Int32} (h : now 5 = Int32.ofNat n) (hn : n ≤ 1000) (hx : x < 0 ∨ ∃ j, n ≤ j ∧ j < 2147483648 ∧ x = Int32.ofNat j) (t : Int32) : fX10_noUser x t now = some (1, 1) := by rw [fX10_noUser, h, no_out hn hx]; rfl
theorem noP_in {now : Nat → Int32} {n i : Nat} (h : now 9 = Int32.ofNat n) (hi : i < n) (hn : n ≤ 1000) (t : Int32) : fX10_noPiece (Int32.ofNat i) t now = some (0, 0) := by rw [fX10_noPiece, h, no_in hi hn]; rfl
theorem noP_out {now : Nat → Int32} {n : Nat} {x : Int32} (h : now 9 = Int32.ofNat n) (hn : n ≤ 1000) (hx : x < 0 ∨ ∃ j, n ≤ j ∧ j < 2147483648 ∧ x = Int32.ofNat j) (t : Int32) : fX10_noPiece x t now = some (1, 1) := by rw [fX10_noPiece, h, no_out hn hx]; rfl
theorem noW_in {now : Nat → Int32} {n i : Nat} (h : now 10 = Int32.ofNat n) (hi : i < n) (hn : n ≤ 1000) (t : Int32) : fX10_noWord (Int32.ofNat i) t now = some (0, 0) := by rw [fX10_noWord, h, no_in hi hn]; rfl
theorem noW_out {now : Nat → Int32} {n : Nat} {x : Int32} (h : now 10 = Int32.ofNat n) (hn : n ≤ 1000) (hx : x < 0 ∨ ∃ j, n ≤ j ∧ j < 2147483648 ∧ x = Int32.ofNat j) (t : Int32) : fX10_noWord x t now = some (1, 1) := by rw [fX10_noWord, h, no_out hn hx]; rfl
/-! pieceLetter, wordLetter, part -/
theorem q_pieceLetter {A : aB} {b : tBk} {now : Nat → Int32} (hc : cBk A b) (hm : mB A now) (hI : Inv A) (u1 u2 t0 : Int32) : ∃ (x r r2 t : Int32), fX9_pieceLetter u1 u2 b.2.2.2.2.2.2.1 = some (x, r) ∧ fX10_pieceLetter u1 u2 t0 now = some (r2, t) ∧ ((x = 0 ∧ t = 0 ∧ r = r2) ∨ (x = 1 ∧ t = 1)) := by
  have h24 := hI.2.1.1
  rcases idx_cases u1 A.2.1.1 with ⟨q, hq, _, rfl⟩ | ho
  · obtain ⟨p1, p2, p3, _⟩ := hI.2.1.2 q hq
    obtain ⟨f0, _⟩ := hc.2.1.2 q hq
    obtain ⟨g0, _⟩ := hm.2.1.2 q hq
    have eo := m_ofPiece (q := q) (w := 0) now (by omega) (by omega)
    rw [Nat.add_zero, g0] at eo
    have hbe := beN_31 p1 p3
    have hC := fun v (hv : fX4_letterAt (L64 (A.2.1.2.1 q)) u2 = some v) => show fX9_pieceLetter (Int32.ofNat q) u2 b.2.2.2.2.2.2.1 = some (0, v) by
      rw [fX9_pieceLetter, reqP_in hc.2.1.1 hq (by omega), gb1_some, if_pos rfl, if_neg (inck hq h24 (by omega)), J_nat _ (by omega), f0, hv, gb1_some]
    rcases idx_cases u2 (A.2.1.2.1 q).length with ⟨j, hj, _, rfl⟩ | hj
    · have hb := wf_get p1 hj
      refine ⟨0, _, _, 0, hC _ (c_letter_in p1 (by omega) hj), ?_, Or.inl ⟨rfl, rfl, rfl⟩⟩
      have e5 : (5 * Int32.ofNat ((A.2.1.2.1 q).length - 1 - j)) &&& 31 = Int32.ofNat (5 * ((A.2.1.2.1 q).length - 1 - j)) := by
        rw [J_lmul, J_and31, Nat.mod_eq_of_lt (by omega)]
      have e6 : (B32 (A.2.1.2.1 q) >>> Int32.ofNat (5 * ((A.2.1.2.1 q).length - 1 - j))) &&& 31 = Int32.ofNat ((A.2.1.2.1 q)[j]) := by
        rw [B32, J_shr _ _ (by omega) (by omega), J_and31, beN_digit p1 (by omega)]
        congr 2
        omega
      rw [fX10_pieceLetter, noP_in hm.2.1.1 hq (by omega), gb2_some, if_pos rfl, i_0, eo, gb1_some, m_letters p1 p3, gb1_some, i_1, J_sub _ _ (by omega), ← i_0, within_in rfl (show j ≤ (A.2.1.2.1 q).length - 1 by omega) (by omega), gb1_some, if_neg (by decide), gb1_some, J_sub _ _ (by omega), e5, e6, J_sub _ _ (by omega)]
    · refine ⟨0, _, _, 0, hC _ (c_letter_out p1 (by omega) hj), ?_, Or.inl ⟨rfl, rfl, rfl⟩⟩
      rw [fX10_pieceLetter, noP_in hm.2.1.1 hq (by omega), gb2_some, if_pos rfl, i_0, eo, gb1_some, m_letters p1 p3, gb1_some, i_1, J_sub _ _ (by omega), ← i_0, within_out (by omega) (by
        rcases hj with h | ⟨j, h1, h2, h3⟩
        · exact Or.inl h
        · exact Or.inr ⟨j, by omega, h2, h3⟩), gb1_some, if_pos rfl]
  · refine ⟨1, 0, 0, 1, ?_, ?_, Or.inr ⟨rfl, rfl⟩⟩
    · rw [fX9_pieceLetter, reqP_out hc.2.1.1 (by omega) ho, gb1_some, if_neg (by decide)]
    · rw [fX10_pieceLetter, noP_out hm.2.1.1 (by omega) ho, gb2_some, if_neg (by decide)]
theorem q_wordLetter {A : aB} {b : tBk} {now : Nat → Int32} (hc : cBk A b) (hm : mB A now) (hI : Inv A) (u1 u2 t0 many : Int32) (spl : Nat → Int32) : ∃ (x r r2 t many' : Int32) (spl' : Nat → Int32), fX9_wordLetter u1 u2 b.2.2.2.2.2.2.1 b.2.2.2.2.2.2.2 = some (x, r) ∧ fX10_wordLetter u1 u2 t0 many now spl = some (r2, t, many', spl') ∧ ((x = 0 ∧ t = 0 ∧ r = r2) ∨ (x = 1 ∧ t = 1)) := by
  have h16 := hI.2.2.1.1
  rcases idx_cases u1 A.2.2.1.1 with ⟨w, hw, _, rfl⟩ | ho
  · obtain ⟨w1, w2, w3, w4, w5⟩ := hI.2.2.1.2 w hw
    have hwf := iW_wf hI hw
    obtain ⟨⟨many', spl'⟩, e, e1, e2⟩ := m_spellsWord hm hI hw many spl
    simp only at e1 e2
    subst e1
    have hC := fun v (hv : fX4_letterAt (L64 (A.2.2.1.2.1 w)) u2 = some v) => show fX9_wordLetter (Int32.ofNat w) u2 b.2.2.2.2.2.2.1 b.2.2.2.2.2.2.2 = some (0, v) by
      rw [fX9_wordLetter, reqW_in hc.2.2.1.1 hw (by omega), gb1_some, if_pos rfl, c_madeUp hc.2.1 hc.2.2.1 hI hw, gb1_some, hv, gb1_some]
    have hpos : 1 ≤ (A.2.2.1.2.1 w).length := by
      rcases Nat.eq_zero_or_pos (A.2.2.1.2.1 w).length with h | h
      · exact absurd (List.length_eq_zero_iff.mp h) w4
      · exact h
    rcases idx_cases u2 (A.2.2.1.2.1 w).length with ⟨j, hj, _, rfl⟩ | hj
    · have hb := wf_get hwf hj
      refine ⟨0, _, _, 0, Int32.ofNat (A.2.2.1.2.1 w).length, spl', hC _ (c_letter_in hwf w5 hj), ?_, Or.inl ⟨rfl, rfl, rfl⟩⟩
      · rw [fX10_wordLetter, noW_in hm.2.2.1.1 hw (by omega), gb2_some, if_pos rfl, e, gb2_some, i_1, J_sub _ _ hpos, within_in rfl (show j ≤ (A.2.2.1.2.1 w).length - 1 by omega) (by omega), gb1_some, if_neg (by decide), if_neg (inck hj w5 (by omega)), J_nat _ (by omega), e2 j hj, J_sub _ _ (by omega)]
    · refine ⟨0, _, _, 0, Int32.ofNat (A.2.2.1.2.1 w).length, spl', hC _ (c_letter_out hwf w5 hj), ?_, Or.inl ⟨rfl, rfl, rfl⟩⟩
      · rw [fX10_wordLetter, noW_in hm.2.2.1.1 hw (by omega), gb2_some, if_pos rfl, e, gb2_some, i_1, J_sub _ _ hpos, within_out (by omega) (by
          rcases hj with h | ⟨j, h1, h2, h3⟩
          · exact Or.inl h
          · exact Or.inr ⟨j, by omega, h2, h3⟩), gb1_some, if_pos rfl]
  · refine ⟨1, 0, 0, 1, many, spl, ?_, ?_, Or.inr ⟨rfl, rfl⟩⟩
    · rw [fX9_wordLetter, reqW_out hc.2.2.1.1 (by omega) ho, gb1_some, if_neg (by decide)]
    · rw [fX10_wordLetter, noW_out hm.2.2.1.1 (by omega) ho, gb2_some, if_neg (by decide)]
theorem q_part {A : aB} {b : tBk} {now : Nat → Int32} (hc : cBk A b) (hm : mB A now) (hI : Inv A) (u1 u2 t0 : Int32) : ∃ (x r r2 t : Int32), fX9_part u1 u2 b.2.2.2.2.2.2.2 = some (x, r) ∧ fX10_part u1 u2 t0 now = some (r2, t) ∧ ((x = 0 ∧ t = 0 ∧ r = r2) ∨ (x = 1 ∧ t = 1)) := by
  have h16 := hI.2.2.1.1
  rcases idx_cases u1 A.2.2.1.1 with ⟨w, hw, _, rfl⟩ | ho
  · have h12 := iW_len hI hw
    obtain ⟨_, _, f2, _⟩ := hc.2.2.1.2 w hw
    obtain ⟨_, g1, g2⟩ := hm.2.2.1.2 w hw
    have hC := fun v (hv : fX8_partAt (Int32.ofNat w) u2 b.2.2.2.2.2.2.2 = some v) => show fX9_part (Int32.ofNat w) u2 b.2.2.2.2.2.2.2 = some (0, v) by
      rw [fX9_part, reqW_in hc.2.2.1.1 hw (by omega), gb1_some, if_pos rfl, hv, gb1_some]
    rcases idx_cases u2 (A.2.2.1.2.2.2 w).length with ⟨j, hj, _, rfl⟩ | hj
    · refine ⟨0, _, _, 0, hC _ (c_partAt hc.2.2.1 h16 hw hj h12), ?_, Or.inl ⟨rfl, rfl, rfl⟩⟩
      have ew : fX10_ofWord (Int32.ofNat w) (2 + Int32.ofNat j) now = some (Int32.ofNat ((A.2.2.1.2.2.2 w)[j])) := by
        rw [i_2, J_add, m_ofWord now (by omega) (by omega), ← g2 j hj]
        congr 2
        omega
      rw [fX10_part, noW_in hm.2.2.1.1 hw (by omega), gb2_some, if_pos rfl, i_1, m_ofWord now (by omega) (by omega), gb1_some, g1, J_sub _ _ (by omega), within_in rfl (show j ≤ (A.2.2.1.2.2.2 w).length - 1 by omega) (by omega), gb1_some, if_neg (by decide), ew, gb1_some]
    · refine ⟨0, -1, -1, 0, hC _ ?_, ?_, Or.inl ⟨rfl, rfl, rfl⟩⟩
      · rw [fX8_partAt, if_neg (by rw [i_0, J_lt _ _ (by omega) (by omega)]; omega), if_neg (by rw [hc.2.2.1.1, J_le _ _ (by omega) (by omega)]; omega)]
        rcases hj with h | ⟨j, h1, h2, rfl⟩
        · rw [if_pos h]
        · rw [if_neg (by rw [i_0, J_lt _ _ (by omega) (by omega)]; omega), if_neg (inck hw h16 (by omega)), J_nat _ (by omega), f2, if_neg (by rw [J_lt _ _ (by omega) (by omega)]; omega)]
      · have e : fX10_within u2 0 (Int32.ofNat (A.2.2.1.2.2.2 w).length - 1) = some 0 := by
          by_cases c : (A.2.2.1.2.2.2 w).length = 0
          · rw [c]
            have : Int32.ofNat 0 - 1 = M1 := by decide
            rcases hj with h | ⟨j, h1, h2, rfl⟩
            · rw [fX10_within, if_pos h]
            · rw [this, fX10_within, i_0, if_neg (by rw [J_lt _ _ (by omega) (by omega)]; omega), if_pos (by rw [J_1lt _ (by omega)]; trivial)]
          · rw [i_1, J_sub _ _ (by omega)]
            refine within_out (by omega) ?_
            rcases hj with h | ⟨j, h1, h2, h3⟩
            · exact Or.inl h
            · exact Or.inr ⟨j, by omega, h2, h3⟩
        rw [fX10_part, noW_in hm.2.2.1.1 hw (by omega), gb2_some, if_pos rfl, i_1, m_ofWord now (by omega) (by omega), gb1_some, g1, ← i_1, e, gb1_some, if_pos rfl]
  · refine ⟨1, 0, 0, 1, ?_, ?_, Or.inr ⟨rfl, rfl⟩⟩
    · rw [fX9_part, reqW_out hc.2.2.1.1 (by omega) ho, gb1_some, if_neg (by decide)]
    · rw [fX10_part, noW_out hm.2.2.1.1 (by omega) ho, gb2_some, if_neg (by decide)]
