/-! what the class answers to questions that are allowed -/
theorem gb0_some {β : Type} (k : Option β) : gb0 (some ()) k = k := rfl
section EQ
variable {A : aB} {b : tBk}
theorem e_size (hc : cBk A b) (hI : Inv A) (Hs : tHist) : fX9_size 0 b.1 b.2.1 b.2.2.1 b.2.2.2.1 b.2.2.2.2.2.1 b.2.2.2.2.2.2.1 b.2.2.2.2.2.2.2 Hs = some (Int32.ofNat A.1.1) ∧ fX9_size 1 b.1 b.2.1 b.2.2.1 b.2.2.2.1 b.2.2.2.2.2.1 b.2.2.2.2.2.2.1 b.2.2.2.2.2.2.2 Hs = some (Int32.ofNat A.2.1.1) ∧ fX9_size 2 b.1 b.2.1 b.2.2.1 b.2.2.2.1 b.2.2.2.2.2.1 b.2.2.2.2.2.2.1 b.2.2.2.2.2.2.2 Hs = some (Int32.ofNat A.2.2.1.1) ∧ fX9_size 3 b.1 b.2.1 b.2.2.1 b.2.2.2.1 b.2.2.2.2.2.1 b.2.2.2.2.2.2.1 b.2.2.2.2.2.2.2 Hs = some A.2.2.2.2.2.1 ∧ fX9_size 4 b.1 b.2.1 b.2.2.1 b.2.2.2.1 b.2.2.2.2.2.1 b.2.2.2.2.2.2.1 b.2.2.2.2.2.2.2 Hs = some A.2.2.2.2.2.2.1 ∧ fX9_size 5 b.1 b.2.1 b.2.2.1 b.2.2.2.1 b.2.2.2.2.2.1 b.2.2.2.2.2.2.1 b.2.2.2.2.2.2.2 Hs = some A.2.2.2.2.2.2.2 ∧ ∀ i, i < 5 → fX9_size (Int32.ofNat (6 + i)) b.1 b.2.1 b.2.2.1 b.2.2.2.1 b.2.2.2.2.2.1 b.2.2.2.2.2.2.1 b.2.2.2.2.2.2.2 Hs = some (Int32.ofNat (A.2.2.2.1 i)) := by
  obtain ⟨h1, h2, h3, h4, h5, h6, h7, h8⟩ := hc
  refine ⟨?_, ?_, ?_, ?_, ?_, ?_, ?_⟩
  · rw [fX9_size, if_pos rfl, h1.1]
  · rw [fX9_size, if_neg (by decide), if_pos rfl, h2.1]
  · rw [fX9_size, if_neg (by decide), if_neg (by decide), if_pos rfl, h3.1]
  · rw [fX9_size, if_neg (by decide), if_neg (by decide), if_neg (by decide), if_pos rfl, h6]
  · rw [fX9_size, if_neg (by decide), if_neg (by decide), if_neg (by decide), if_neg (by decide), if_pos rfl, h7]
  · rw [fX9_size, if_neg (by decide), if_neg (by decide), if_neg (by decide), if_neg (by decide), if_neg (by decide), if_pos rfl, h8]
  · intro i hi
    rcases (show i = 0 ∨ i = 1 ∨ i = 2 ∨ i = 3 ∨ i = 4 by omega) with rfl | rfl | rfl | rfl | rfl
    · rw [← h4 0 (by omega)]; rfl
    · rw [← h4 1 (by omega)]; rfl
    · rw [← h4 2 (by omega)]; rfl
    · rw [← h4 3 (by omega)]; rfl
    · rw [← h4 4 (by omega)]; rfl
/-- coins, words, deposits, pieces and prices of a user -/
def uQ (A : aB) (u i : Nat) : Nat := if i = 0 then A.1.2.2 u else if i = 1 then sm (fun k => if A.2.2.1.2.2.1 k = u then 1 else 0) A.2.2.1.1 else if i = 2 then hel A u else if i = 3 then sm (fun k => if A.2.1.2.2.2.1 k = Int32.ofNat u then 1 else 0) A.2.1.1 else sm (fun k => if A.2.1.2.2.2.1 k = Int32.ofNat u then A.2.1.2.2.1 k else 0) A.2.1.1
theorem e_user (hc : cBk A b) (hI : Inv A) {u : Nat} (hu : u < A.1.1) {i : Nat} (hi : i < 5) : fX9_user (Int32.ofNat u) (Int32.ofNat i) b.2.2.2.1 b.2.2.2.2.2.1 b.2.2.2.2.2.2.1 b.2.2.2.2.2.2.2 = some (Int32.ofNat (uQ A u i)) := by
  have h4 := hI.1.1
  have h16 := hI.2.2.1.1
  have h24 := hI.2.1.1
  have hreq := reqU_in hc.1.1 hu (show A.1.1 ≤ 1000 by omega)
  rcases (show i = 0 ∨ i = 1 ∨ i = 2 ∨ i = 3 ∨ i = 4 by omega) with rfl | rfl | rfl | rfl | rfl
  · rw [fX9_user, hreq, gb0_some, if_pos (by decide), c_coinsOf hc.1 h4 hu, gb1_some]
    rfl
  · rw [fX9_user, hreq, gb0_some, if_neg (by decide), if_pos (by decide), c_countOf hc.2.2.1 h16 u (by omega) (fun i hi => by have := (hI.2.2.1.2 i hi).1; omega), gb1_some]
    rfl
  · rw [fX9_user, hreq, gb0_some, if_neg (by decide), if_neg (by decide), if_pos (by decide), c_held' hc.2.2.1 hc.2.2.2.1 hI (by omega), gb1_some]
    rfl
  · rw [fX9_user, hreq, gb0_some, if_neg (by decide), if_neg (by decide), if_neg (by decide), if_pos (by decide), c_ownedBy hc.2.1 h24, gb1_some]
    rfl
  · rw [fX9_user, hreq, gb0_some, if_neg (by decide), if_neg (by decide), if_neg (by decide), if_neg (by decide), if_pos (by decide), c_paidBy hc.2.1 h24, gb1_some]
    rfl
theorem e_piece (hc : cBk A b) (hI : Inv A) {q : Nat} (hq : q < A.2.1.1) : fX9_piece (Int32.ofNat q) 0 b.2.2.2.2.2.2.1 = some (Int32.ofNat (A.2.1.2.1 q).length) ∧ fX9_piece (Int32.ofNat q) 1 b.2.2.2.2.2.2.1 = some (Int32.ofNat (A.2.1.2.2.1 q)) ∧ fX9_piece (Int32.ofNat q) 2 b.2.2.2.2.2.2.1 = some (A.2.1.2.2.2.1 q) ∧ fX9_piece (Int32.ofNat q) 3 b.2.2.2.2.2.2.1 = some (Int32.ofNat (A.2.1.2.2.2.2.1 q)) ∧ fX9_piece (Int32.ofNat q) 4 b.2.2.2.2.2.2.1 = some (if A.2.1.2.2.2.2.1 q = 0 then A.2.1.2.2.2.2.2 q else -1) := by
  have h24 := hI.2.1.1
  obtain ⟨p1, p2, p3, _⟩ := hI.2.1.2 q hq
  obtain ⟨f0, f1, f2, f3, f4⟩ := hc.2.1.2 q hq
  have hub := Inv_ub hI q hq
  have hreq := reqP_in hc.2.1.1 hq (show A.2.1.1 ≤ 1000 by omega)
  have hck := inck hq h24 (show 24 ≤ 1000 by omega)
  refine ⟨?_, ?_, ?_, ?_, ?_⟩
  · rw [fX9_piece, hreq, gb0_some, if_pos (by decide), if_neg hck, J_nat _ (by omega), f0, c_lengthOf p1 (by omega), gb1_some]
  · rw [fX9_piece, hreq, gb0_some, if_neg (by decide), if_pos (by decide), if_neg hck, J_nat _ (by omega), f1]
  · rw [fX9_piece, hreq, gb0_some, if_neg (by decide), if_neg (by decide), if_pos (by decide), if_neg hck, J_nat _ (by omega), f2]
  · rw [fX9_piece, hreq, gb0_some, if_neg (by decide), if_neg (by decide), if_neg (by decide), if_pos (by decide), if_neg hck, J_nat _ (by omega), f3]
  · rw [fX9_piece, hreq, gb0_some, if_neg (by decide), if_neg (by decide), if_neg (by decide), if_neg (by decide), if_pos (by decide), if_neg hck, J_nat _ (by omega), f3]
    by_cases c0 : A.2.1.2.2.2.2.1 q = 0
    · rw [if_pos (by rw [c0]; decide), if_neg (setIx' (show q < 24 by omega) (by decide)), f4, if_pos c0]
    · rw [if_neg (by rw [i_0, J_le _ _ (by omega) (by omega)]; omega), if_neg c0]
theorem e_pieceLetter (hc : cBk A b) (hI : Inv A) {q : Nat} (hq : q < A.2.1.1) {i : Nat} (hi : i < 1000) : fX9_pieceLetter (Int32.ofNat q) (Int32.ofNat i) b.2.2.2.2.2.2.1 = some (if h : i < (A.2.1.2.1 q).length then Int32.ofNat ((A.2.1.2.1 q)[i] - 1) else -1) := by
  have h24 := hI.2.1.1
  obtain ⟨p1, p2, p3, _⟩ := hI.2.1.2 q hq
  obtain ⟨f0, _⟩ := hc.2.1.2 q hq
  rw [fX9_pieceLetter, reqP_in hc.2.1.1 hq (by omega), gb0_some, if_neg (inck hq h24 (by omega)), J_nat _ (by omega), f0]
  by_cases h : i < (A.2.1.2.1 q).length
  · rw [dif_pos h, c_letter_in p1 (by omega) h, gb1_some]
  · rw [dif_neg h, c_letter_out p1 (by omega) (Or.inr ⟨i, by omega, by omega, rfl⟩), gb1_some]
theorem e_word (hc : cBk A b) (hI : Inv A) {w : Nat} (hw : w < A.2.2.1.1) : fX9_word (Int32.ofNat w) 0 b.2.2.2.1 b.2.2.2.2.2.2.2 = some (Int32.ofNat (A.2.2.1.2.2.1 w)) ∧ fX9_word (Int32.ofNat w) 1 b.2.2.2.1 b.2.2.2.2.2.2.2 = some (Int32.ofNat (A.2.2.1.2.1 w).length) ∧ fX9_word (Int32.ofNat w) 2 b.2.2.2.1 b.2.2.2.2.2.2.2 = some (Int32.ofNat (A.2.2.1.2.2.2 w).length) ∧ fX9_word (Int32.ofNat w) 3 b.2.2.2.1 b.2.2.2.2.2.2.2 = some (Int32.ofNat (A.2.2.2.1 2 * (A.2.2.1.2.2.2 w).length)) := by
  have h16 := hI.2.2.1.1
  obtain ⟨w1, w2, w3, w4, w5⟩ := hI.2.2.1.2 w hw
  obtain ⟨f0, f1, f2, _⟩ := hc.2.2.1.2 w hw
  have hwf := iW_wf hI hw
  have hreq := reqW_in hc.2.2.1.1 hw (show A.2.2.1.1 ≤ 1000 by omega)
  have hck := inck hw h16 (show 16 ≤ 1000 by omega)
  refine ⟨?_, ?_, ?_, ?_⟩
  · rw [fX9_word, hreq, gb0_some, if_pos (by decide), if_neg hck, J_nat _ (by omega), f1]
  · rw [fX9_word, hreq, gb0_some, if_neg (by decide), if_pos (by decide), if_neg hck, J_nat _ (by omega), f0, c_lengthOf hwf w5, gb1_some]
  · rw [fX9_word, hreq, gb0_some, if_neg (by decide), if_neg (by decide), if_pos (by decide), if_neg hck, J_nat _ (by omega), f2]
  · rw [fX9_word, hreq, gb0_some, if_neg (by decide), if_neg (by decide), if_neg (by decide), if_pos (by decide), if_neg hck, J_nat _ (by omega), f2, c_depositsFor hc.2.2.2.1, gb1_some]
theorem e_part (hc : cBk A b) (hI : Inv A) {w : Nat} (hw : w < A.2.2.1.1) {i : Nat} (hi : i < 1000) : fX9_part (Int32.ofNat w) (Int32.ofNat i) b.2.2.2.2.2.2.2 = some (if h : i < (A.2.2.1.2.2.2 w).length then Int32.ofNat ((A.2.2.1.2.2.2 w)[i]) else -1) := by
  have h16 := hI.2.2.1.1
  have h12 := iW_len hI hw
  obtain ⟨_, _, f2, _⟩ := hc.2.2.1.2 w hw
  rw [fX9_part, reqW_in hc.2.2.1.1 hw (by omega), gb0_some]
  by_cases h : i < (A.2.2.1.2.2.2 w).length
  · rw [dif_pos h, c_partAt hc.2.2.1 h16 hw h h12, gb1_some]
  · have hp : fX8_partAt (Int32.ofNat w) (Int32.ofNat i) b.2.2.2.2.2.2.2 = some (-1) := by
      rw [fX8_partAt, if_neg (by rw [i_0, J_lt _ _ (by omega) (by omega)]; omega), if_neg (by rw [hc.2.2.1.1, J_le _ _ (by omega) (by omega)]; omega), if_neg (by rw [i_0, J_lt _ _ (by omega) (by omega)]; omega), if_neg (inck hw h16 (by omega)), J_nat _ (by omega), f2, if_neg (by rw [J_lt _ _ (by omega) (by omega)]; omega)]
    rw [dif_neg h, hp, gb1_some]
theorem e_account (hc : cBk A b) {i : Nat} (hi : i < 6) : fX9_account (Int32.ofNat i) b.2.2.2.2.1 = some (A.2.2.2.2.1 i) := by
  have hreq : fX9_requireBelow (Int32.ofNat i) 6 = some () := by
    rw [fX9_requireBelow, i_6]
    exact req_in hi (by decide)
  rw [fX9_account, hreq, gb0_some, if_neg (setIx hi (by decide)), J_nat _ (by omega), hc.2.2.2.2.1 i hi]
theorem e_wordLetter (hc : cBk A b) (hI : Inv A) {w : Nat} (hw : w < A.2.2.1.1) {i : Nat} (hi : i < 1000) : fX9_wordLetter (Int32.ofNat w) (Int32.ofNat i) b.2.2.2.2.2.2.1 b.2.2.2.2.2.2.2 = some (if h : i < (A.2.2.1.2.1 w).length then Int32.ofNat ((A.2.2.1.2.1 w)[i] - 1) else -1) := by
  obtain ⟨w1, w2, w3, w4, w5⟩ := hI.2.2.1.2 w hw
  have h16 := hI.2.2.1.1
  have hwf := iW_wf hI hw
  rw [fX9_wordLetter, reqW_in hc.2.2.1.1 hw (by omega), gb0_some, c_madeUp hc.2.1 hc.2.2.1 hI hw, gb1_some]
  by_cases h : i < (A.2.2.1.2.1 w).length
  · rw [dif_pos h, c_letter_in hwf w5 h, gb1_some]
  · rw [dif_neg h, c_letter_out hwf w5 (Or.inr ⟨i, by omega, by omega, rfl⟩), gb1_some]
theorem e_favourite (hc : cBk A b) (hI : Inv A) : fX9_favourite b.2.2.2.2.2.2.1 = some (oI (bm A.2.1.2.2.2.2.1 A.2.1.1)) := by
  have h24 := hI.2.1.1
  have e : fX6_mostUsed b.2.2.2.2.2.2.1 = some (oI (bm A.2.1.2.2.2.2.1 A.2.1.1)) := c_most_L hc.2.1 h24 (fun q hq => by have := uses_bd hI hq; omega) (fun x1_1 => some x1_1) A.2.1.1 0 FU (by omega) (by simp only [FU]; omega)
  rw [fX9_favourite, e, gb1_some]
theorem e_richest (hc : cBk A b) (hI : Inv A) : fX9_richest b.2.2.2.1 b.2.2.2.2.2.1 b.2.2.2.2.2.2.2 = some (oI (bm (wea A) A.1.1)) := by
  have h4 := hI.1.1
  exact c_rich_L hc.1 hc.2.2.1 hc.2.2.2.1 hI (fun x1_1 => some x1_1) A.1.1 0 FU (by omega) (by simp only [FU]; omega)
end EQ
theorem e_isWhole {A : aB} {b : tBk} (hc : cBk A b) (hI : Inv A) (hf : A.2.2.2.2.2.2.2 = Int32.ofNat (sm (hel A) A.1.1)) : fX9_isWhole b.2.2.1 b.2.2.2.1 b.2.2.2.2.2.1 b.2.2.2.2.2.2.1 b.2.2.2.2.2.2.2 = some 1 := by
  rw [fX9_isWhole, c_wordsMade hc.2.1 hc.2.2.1 hI, gb1_some, if_neg (by decide), c_usesTrue hc.2.1 hc.2.2.1 hI, gb1_some, if_neg (by decide), c_fundIsTrue hc.1 hc.2.2.1 hc.2.2.2.1 hI, gb1_some]
  have e : b.2.2.1 = Int32.ofNat (sm (hel A) A.1.1) := by rw [hc.2.2.2.2.2.2.2, hf]
  rw [e, if_pos rfl, if_neg (by decide)]
