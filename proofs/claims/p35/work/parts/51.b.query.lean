/-! questions about users, pieces and words -/
theorem low5 {l : List Nat} (hw : wf l) (hl : l.length ≤ 12) (j : Nat) (hj : j ≤ 12) : ((glush (L64 l) (5 * Int32.ofNat j)).toInt32) &&& 31 = Int32.ofNat (leN (l.drop j) % 32) := by
  rw [L64_shr hw hl j hj, L64, Int64.toInt32_ofNat', J_and31]
theorem c_letter_in {l : List Nat} (hw : wf l) (hl : l.length ≤ 12) {j : Nat} (hj : j < l.length) : fX4_letterAt (L64 l) (Int32.ofNat j) = some (Int32.ofNat (l[j] - 1)) := by
  have e := low5 hw hl j (by omega)
  have hd : 0 < (l.drop j).length := by simp; omega
  rw [leN_head (wf_drop j hw) hd] at e
  have hg : (l.drop j)[0] = l[j] := by simp
  rw [hg] at e
  have hb := wf_get hw hj
  rw [fX4_letterAt, e, if_neg (by rw [i_0, J_lt _ _ (by omega) (by omega)]; omega), if_pos (by rw [i_12, J_lt _ _ (by omega) (by omega)]; omega), if_neg (by rw [i_0, J_eq _ _ (by omega) (by omega)]; omega), i_1, J_sub _ _ (by omega)]
theorem c_letter_out {l : List Nat} (hw : wf l) (hl : l.length ≤ 12) {x : Int32} (h : x < 0 ∨ ∃ j, l.length ≤ j ∧ j < 2147483648 ∧ x = Int32.ofNat j) : fX4_letterAt (L64 l) x = some (-1) := by
  rcases h with h | ⟨j, h1, h2, rfl⟩
  · rw [fX4_letterAt, if_pos h]
  · rw [fX4_letterAt, if_neg (by rw [i_0, J_lt _ _ (by omega) (by omega)]; omega)]
    by_cases c : j < 12
    · have e := low5 hw hl j (by omega)
      rw [List.drop_eq_nil_of_le (by omega)] at e
      rw [if_pos (by rw [i_12, J_lt _ _ (by omega) (by omega)]; omega), e, if_pos (by rfl)]
    · rw [if_neg (by rw [i_12, J_lt _ _ (by omega) (by omega)]; omega)]
theorem reqU_in {U : tUsers} {n i : Nat} (hU : U.1 = Int32.ofNat n) (hi : i < n) (hn : n ≤ 1000) : fX9_requireUser (Int32.ofNat i) U = some () := by rw [fX9_requireUser, hU]; exact req_in hi hn
theorem reqP_in {U : tPieces} {n i : Nat} (hU : U.1 = Int32.ofNat n) (hi : i < n) (hn : n ≤ 1000) : fX9_requirePiece (Int32.ofNat i) U = some () := by rw [fX9_requirePiece, hU]; exact req_in hi hn
theorem reqW_in {U : tWords} {n i : Nat} (hU : U.1 = Int32.ofNat n) (hi : i < n) (hn : n ≤ 1000) : fX9_requireWord (Int32.ofNat i) U = some () := by rw [fX9_requireWord, hU]; exact req_in hi hn
/-! pieceLetter, wordLetter, part -/
