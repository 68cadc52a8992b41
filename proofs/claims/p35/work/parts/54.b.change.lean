/-! what the class does at changes that are allowed -/
def hOK (Hs : tHist) : Prop := ∃ h, h ≤ 10 ∧ Hs.1 = Int32.ofNat h
section CH
variable {A : aB} {b : tBk} {Hs : tHist}
theorem e_keep (hc : cBk A b) (hI : Inv A) (hH : hOK Hs) : ∃ Hs', fX3_keep Hs b.1 b.2.1 b.2.2.1 b.2.2.2.1 b.2.2.2.2.1 b.2.2.2.2.2.1 b.2.2.2.2.2.2.1 b.2.2.2.2.2.2.2 = some Hs' ∧ hOK Hs' := by
  obtain ⟨h, h1, h2⟩ := hH
  by_cases c : h = 10
  · subst c
    obtain ⟨r, e, _⟩ := c_copy hc hI (hRot Hs.2.2 9)
    have e9 : Hs.1 - 1 = Int32.ofNat 9 := by rw [h2]; decide
    have hix := setIx (show 9 < 10 by decide) (by decide)
    rw [fX3_keep, Lt_eq, if_pos (by rw [h2]; rfl), fX3_forgetOldest, gb1_some]
    dsimp only
    rw [e9, if_neg hix, J_nat 9 (by decide), e]
    exact ⟨_, rfl, 10, by decide, by rfl⟩
  · obtain ⟨r, e, _⟩ := c_copy hc hI (Hs.2.2 h)
    have hix := setIx (show h < 10 by omega) (by decide)
    rw [fX3_keep, Lt_eq, if_neg (by rw [h2, i_10, J_eq _ _ (by omega) (by omega)]; exact c)]
    dsimp only
    rw [h2, if_neg hix, J_nat h (by omega), e]
    refine ⟨_, rfl, h + 1, by omega, ?_⟩
    show Int32.ofNat h + 1 = _
    rw [i_1, J_add]
theorem e_remove (hc : cBk A b) (hI : Inv A) (hH : hOK Hs) {i : Nat} (hi : i < A.2.2.1.1) : ∃ fund' sums' U' P' W' Hs', fX9_remove (Int32.ofNat i) b.1 b.2.1 b.2.2.1 b.2.2.2.1 b.2.2.2.2.1 b.2.2.2.2.2.1 b.2.2.2.2.2.2.1 b.2.2.2.2.2.2.2 Hs = some (Int32.ofNat (A.1.2.2 (A.2.2.1.2.2.1 i) + A.2.2.2.1 2 * (A.2.2.1.2.2.2 i).length), fund', sums', U', P', W', Hs') ∧ cBk (aEnd A i) (b.1, b.2.1, fund', b.2.2.2.1, sums', U', P', W') ∧ hOK Hs' := by
  have h16 := hI.2.2.1.1
  obtain ⟨w1, w2, w3, w4, w5⟩ := hI.2.2.1.2 i hi
  have h4 := hI.1.1
  obtain ⟨Hs', k1, k2⟩ := e_keep hc hI hH
  obtain ⟨⟨fund', sums', U', P', W'⟩, c1, c2⟩ := c_endWord hc hI.1.1 hI.2.1.1 hI.2.2.1.1 (fun j hj => iW_len hI hj) hi w1 w2 (fun q => cnt_le' hI hi q) (fun q hq => by have := uses_bd hI hq; omega)
  simp only at c2
  obtain ⟨e0, e1, e2, _⟩ := hc.2.2.1.2 i hi
  refine ⟨fund', sums', U', P', W', Hs', ?_, c2, k2⟩
  rw [fX9_remove, reqW_in hc.2.2.1.1 hi (by omega), gb0_some, k1, gb1_some, if_neg (inck (n := 16) (by omega) (by omega) (by omega)), c1, gb5_some, J_nat _ (by omega), e1, c_coinsOf c2.1 hI.1.1 w1, gb1_some]
  show some (Int32.ofNat (up A.1.2.2 _ _ _), _) = _
  rw [up_eq]
theorem e_recut (hc : cBk A b) (hI : Inv A) (hH : hOK Hs) {i : Nat} (hi : i < A.2.2.1.1) (C : tCut) (S : tCutR) : ∃ fund' sums' U' P' W' C' S' Hs', fX9_recut (Int32.ofNat i) b.1 b.2.1 b.2.2.1 b.2.2.2.1 b.2.2.2.2.1 b.2.2.2.2.2.1 b.2.2.2.2.2.2.1 b.2.2.2.2.2.2.2 C S Hs = some (rC1 A i, fund', sums', U', P', W', C', S', Hs') ∧ cBk (aC1 A i) (b.1, b.2.1, fund', b.2.2.2.1, sums', U', P', W') ∧ hOK Hs' := by
  have h16 := hI.2.2.1.1
  obtain ⟨Hs', k1, k2⟩ := e_keep hc hI hH
  obtain ⟨⟨r, fund', sums', U', P', W', C', S'⟩, c1, c2, c3⟩ := c_cut hc hI hi C S
  simp only at c2 c3
  refine ⟨fund', sums', U', P', W', C', S', Hs', ?_, c3, k2⟩
  rw [fX9_recut, reqW_in hc.2.2.1.1 hi (by omega), gb0_some, k1, gb1_some, c1, gb8_some, c2]
  rfl
theorem e_recutAll (hc : cBk A b) (hI : Inv A) (hH : hOK Hs) (C : tCut) (S : tCutR) : ∃ fund' sums' U' P' W' C' S' Hs', fX9_recutAll b.1 b.2.1 b.2.2.1 b.2.2.2.1 b.2.2.2.2.1 b.2.2.2.2.2.1 b.2.2.2.2.2.2.1 b.2.2.2.2.2.2.2 C S Hs = some (rAll A.2.2.1.1 0 A 0, fund', sums', U', P', W', C', S', Hs') ∧ cBk (aAll A.2.2.1.1 0 A) (b.1, b.2.1, fund', b.2.2.2.1, sums', U', P', W') ∧ hOK Hs' := by
  have h16 := hI.2.2.1.1
  obtain ⟨Hs', k1, k2⟩ := e_keep hc hI hH
  have hC : Ok (fX9_recutAll b.1 b.2.1 b.2.2.1 b.2.2.2.1 b.2.2.2.2.1 b.2.2.2.2.2.1 b.2.2.2.2.2.2.1 b.2.2.2.2.2.2.2 C S Hs) (fun r => r.1 = rAll A.2.2.1.1 0 A 0 ∧ cBk (aAll A.2.2.1.1 0 A) (b.1, b.2.1, r.2.1, b.2.2.2.1, r.2.2.1, r.2.2.2.1, r.2.2.2.2.1, r.2.2.2.2.2.1) ∧ r.2.2.2.2.2.2.2.2 = Hs') := by
    rw [fX9_recutAll, k1, gb1_some]
    exact c_all_L A.2.2.1.1 0 FU A 0 _ _ _ _ _ _ _ (by omega) (by simp only [FU]; omega) hI hc (fun fund sums U P W C S h => ok_some ⟨rfl, h, rfl⟩)
  obtain ⟨⟨r, fund', sums', U', P', W', C', S', H2⟩, e, q1, q2, q3⟩ := hC
  simp only at q1 q2 q3
  subst q1 q3
  exact ⟨fund', sums', U', P', W', C', S', H2, e, q2, k2⟩
theorem e_tick (hc : cBk A b) (hI : Inv A) (hH : hOK Hs) {m : Nat} (hm : m ≤ 30) (h1 : 1 ≤ m) : ∃ time' chest' sums' U' P' W' Hs', fX9_tick (Int32.ofNat m) b.1 b.2.1 b.2.2.1 b.2.2.2.1 b.2.2.2.2.1 b.2.2.2.2.2.1 b.2.2.2.2.2.2.1 b.2.2.2.2.2.2.2 Hs = some (rTs m A 0, time', chest', sums', U', P', W', Hs') ∧ cBk (aTs m A) (time', chest', b.2.2.1, b.2.2.2.1, sums', U', P', W') ∧ hOK Hs' := by
  obtain ⟨Hs', k1, k2⟩ := e_keep hc hI hH
  have hC : Ok (fX9_tick (Int32.ofNat m) b.1 b.2.1 b.2.2.1 b.2.2.2.1 b.2.2.2.2.1 b.2.2.2.2.2.1 b.2.2.2.2.2.2.1 b.2.2.2.2.2.2.2 Hs) (fun r => r.1 = rTs m A 0 ∧ cBk (aTs m A) (r.2.1, r.2.2.1, b.2.2.1, b.2.2.2.1, r.2.2.2.1, r.2.2.2.2.1, r.2.2.2.2.2.1, r.2.2.2.2.2.2.1) ∧ r.2.2.2.2.2.2.2 = Hs') := by
    rw [fX9_tick, Lt_eq, if_neg (by rw [i_1, J_lt _ _ (by omega) (by omega)]; omega), if_pos (by rw [show (30 : Int32) = Int32.ofNat 30 from rfl, J_le _ _ (by omega) (by omega)]; omega), k1, gb1_some]
    exact c_tks_L hm m 0 FU A 0 _ _ _ _ _ _ (by omega) (by simp only [FU]; omega) hI hc (fun time chest sums U P W h => ok_some ⟨rfl, h, rfl⟩)
  obtain ⟨⟨r, time', chest', sums', U', P', W', H2⟩, e, q1, q2, q3⟩ := hC
  simp only at q1 q2 q3
  subst q1 q3
  exact ⟨time', chest', sums', U', P', W', H2, e, q2, k2⟩
theorem e_pay (hc : cBk A b) (hI : Inv A) (hH : hOK Hs) {u v x : Nat} (hu : u < A.1.1) (hv : v < A.1.1) (hx : x ≤ 9999) (hle : x ≤ A.1.2.2 u) : ∃ U' Hs', fX9_pay (Int32.ofNat u) (Int32.ofNat v) (Int32.ofNat x) b.1 b.2.1 b.2.2.1 b.2.2.2.1 b.2.2.2.2.1 b.2.2.2.2.2.1 b.2.2.2.2.2.2.1 b.2.2.2.2.2.2.2 Hs = some (Int32.ofNat (up A.1.2.2 u (A.1.2.2 u - x) v + x), U', Hs') ∧ cBk (aPay A u v x) (b.1, b.2.1, b.2.2.1, b.2.2.2.1, b.2.2.2.2.1, U', b.2.2.2.2.2.2.1, b.2.2.2.2.2.2.2) ∧ hOK Hs' := by
  have h4 := hI.1.1
  obtain ⟨Hs', k1, k2⟩ := e_keep hc hI hH
  have hco := co_bd hI hu
  have c1 := reqU_in hc.1.1 hu (show A.1.1 ≤ 1000 by omega)
  have c2 := reqU_in hc.1.1 hv (show A.1.1 ≤ 1000 by omega)
  have hU1 := cU_pay hc.1 (u := u) (A.1.2.2 u - x)
  have hU2 := cU_pay hU1 (u := v) (up A.1.2.2 u (A.1.2.2 u - x) v + x)
  refine ⟨_, Hs', ?_, ⟨hU2, hc.2.1, hc.2.2.1, hc.2.2.2.1, hc.2.2.2.2.1, hc.2.2.2.2.2.1, hc.2.2.2.2.2.2.1, hc.2.2.2.2.2.2.2⟩, k2⟩
  rw [fX9_pay, c1, gb0_some, c2, gb0_some, Lt_eq, if_neg (by rw [i_0, J_lt _ _ (by omega) (by omega)]; omega), if_pos (by rw [i_9999, J_le _ _ (by omega) (by omega)]; omega), c_coinsOf hc.1 hI.1.1 hu, gb1_some, if_pos (by rw [J_le _ _ (by omega) (by omega)]; exact hle), k1, gb1_some, c_give hc.1 hI.1.1 hu, gb1_some, J_subn _ _ hle, c_give hU1 hI.1.1 hv, gb1_some]
  simp only [J_add]
  rw [c_coinsOf hU2 hI.1.1 hv, gb1_some]
  simp only [up_eq]
/-- a word in the buffer, its cheapest cutting -/
theorem e_store (hc : cBk A b) (hI : Inv A) (hH : hOK Hs) {bd : Int32} {buf : Nat → Int32} {l : List Nat} (hw : wf l) (hl : l.length ≤ 12) (hne : l ≠ []) (et : fX9_takeWord bd buf = some (L64 l, 0)) {u : Nat} (hu : u < A.1.1) (hr : aRef A u (sS A l) = 0) (C : tCut) (S : tCutR) : ∃ chest' fund' sums' U' P' W' C' S' Hs', fX9_store (Int32.ofNat u) bd buf b.1 b.2.1 b.2.2.1 b.2.2.2.1 b.2.2.2.2.1 b.2.2.2.2.2.1 b.2.2.2.2.2.2.1 b.2.2.2.2.2.2.2 C S Hs = some (Int32.ofNat A.2.2.1.1, 0, chest', fund', sums', U', P', W', C', S', Hs') ∧ cBk (aStore A u l (sS A l)) (b.1, chest', fund', b.2.2.2.1, sums', U', P', W') ∧ hOK Hs' := by
  have h4 := hI.1.1
  obtain ⟨Hs', k1, k2⟩ := e_keep hc hI hH
  obtain ⟨⟨C', S'⟩, m1, m2, m3, m4⟩ := c_cheap hc hI hw hl C S
  simp only at m2 m3 m4
  obtain ⟨s1', s2', s3'⟩ := sS_ok hI hw hl
  have hd : A.2.2.1.1 < 16 ∧ A.2.1.1 + (frs A.2.1.1 A.2.1.2.1 [] (sS A l)).length ≤ 24 ∧ prS A.2.2.2.1 (frs A.2.1.1 A.2.1.2.1 [] (sS A l)) + A.2.2.2.1 2 * (sS A l).length ≤ A.1.2.2 u := by
    unfold aRef at hr
    by_cases a1 : A.2.2.1.1 < 16
    · rw [if_neg (by omega)] at hr
      by_cases a2 : A.2.1.1 + (frs A.2.1.1 A.2.1.2.1 [] (sS A l)).length ≤ 24
      · rw [if_neg (by omega)] at hr
        by_cases a3 : prS A.2.2.2.1 (frs A.2.1.1 A.2.1.2.1 [] (sS A l)) + A.2.2.2.1 2 * (sS A l).length ≤ A.1.2.2 u
        · exact ⟨a1, a2, a3⟩
        · rw [if_neg a3] at hr
          omega
      · rw [if_pos a2] at hr
        omega
    · rw [if_pos a1] at hr
      omega
  obtain ⟨d1, d2, d3⟩ := hd
  obtain ⟨⟨r, chest', fund', sums', U', P', W'⟩, q1, q2, q3⟩ := c_storeCutting (row := l) hc hu hI.1.1 (okP_Inv hI) d1 (fun j hj => iW_len hI hj) m2 s2' (fun x hx => ⟨(s3' x hx).1, by have := (s3' x hx).2.2; omega⟩) d2 d3
  simp only at q2 q3
  refine ⟨chest', fund', sums', U', P', W', C', S', Hs', ?_, q3, k2⟩
  rw [fX9_store, et, gb2_some, reqU_in hc.1.1 hu (by omega), gb0_some, if_neg (L64_ne0 hw hl hne), m1, gb2_some, c_ref hc hI hw hl hu m2.1 m3 m4, gb1_some, hr, if_pos (by rfl), k1, gb1_some, q1, gb7_some, q2]
theorem e_bring (hc : cBk A b) (hI : Inv A) (hH : hOK Hs) {bd : Int32} {buf : Nat → Int32} {l : List Nat} (hw : wf l) (hl : l.length ≤ 6) (hne : l ≠ []) (et : fX9_takeWord bd buf = some (L64 l, 0)) {u : Nat} (hu : u < A.1.1) (hno : ¬ fnd A.2.1.1 A.2.1.2.1 l < A.2.1.1) (h24 : A.2.1.1 < 24) (hco : A.2.2.2.1 0 + A.2.2.2.1 1 * l.length ≤ A.1.2.2 u) : ∃ chest' sums' U' P' Hs', fX9_bring (Int32.ofNat u) bd buf b.1 b.2.1 b.2.2.1 b.2.2.2.1 b.2.2.2.2.1 b.2.2.2.2.2.1 b.2.2.2.2.2.2.1 b.2.2.2.2.2.2.2 Hs = some (Int32.ofNat A.2.1.1, 0, chest', sums', U', P', Hs') ∧ cBk (aBuy A u l) (b.1, chest', b.2.2.1, b.2.2.2.1, sums', U', P', b.2.2.2.2.2.2.2) ∧ hOK Hs' := by
  have h4 := hI.1.1
  have hbd := co_bd hI hu
  have hl0 : 0 < l.length := List.length_pos_iff.mpr hne
  obtain ⟨Hs', k1, k2⟩ := e_keep hc hI hH
  have hnn : nr A.2.1.1 A.2.1.2.1 l = -1 := by
    unfold nr
    rw [if_neg hno]
    rfl
  obtain ⟨⟨r, chest', sums', U', P'⟩, q1, q2, q3, q4, q5, q6⟩ := c_buyPiece hc.1 h4 hc.2.1 h24 hc.2.2.2.1 hu hw (by omega) hco b.1 b.2.1 b.2.2.2.2.1
  simp only at q2 q3 q4 q5 q6
  have hfull : fX6_isFull b.2.2.2.2.2.2.1 = some 0 := by
    rw [fX6_isFull, hc.2.1.1, i_24]
    first | rw [if_neg (by rw [J_eq _ _ (by omega) (by omega)]; omega)] | rw [if_pos (by rw [J_lt _ _ (by omega) (by omega)]; omega)]
  have hnp : fX1_newPrice (Int32.ofNat l.length) b.2.2.2.1 = some (Int32.ofNat (A.2.2.2.1 0 + A.2.2.2.1 1 * l.length)) := by
    rw [fX1_newPrice, hc.2.2.2.1 0 (by decide), hc.2.2.2.1 1 (by decide), J_mul, J_add]
  refine ⟨chest', sums', U', P', Hs', ?_, ?_, k2⟩
  · rw [fX9_bring, et, gb2_some, reqU_in hc.1.1 hu (by omega), gb0_some, c_lengthOf hw (by omega), gb1_some, Lt_eq, if_neg (by rw [i_0, J_eq _ _ (by omega) (by omega)]; omega), if_neg (by rw [i_6, J_lt _ _ (by omega) (by omega)]; omega), c_numP hc.2.1 (by omega) (okP_Inv hI) hw (by omega), gb1_some, if_pos hnn, hfull, gb1_some, Lt_eq, if_pos rfl, c_coinsOf hc.1 h4 hu, gb1_some, hnp, gb1_some, if_pos (by rw [J_le _ _ (by omega) (by omega)]; exact hco), k1, gb1_some, q1, gb5_some, q2]
  · refine ⟨q5, ?_, hc.2.2.1, hc.2.2.2.1, ?_, hc.2.2.2.2.2.1, ?_, hc.2.2.2.2.2.2.2⟩
    · show cP (pBuy A.2.2.2.1 (Int32.ofNat u) A.2.2.2.2.2.1 A.2.1 l) P'
      rw [← hc.2.2.2.2.2.1]
      exact q6
    · intro i hi
      show sums' i = sBuy A.2.2.2.2.1 _ 1 i
      rw [q4 i]
      unfold sBuy
      rw [hc.2.2.2.2.1 0 (by decide), hc.2.2.2.2.1 4 (by decide), hc.2.2.2.2.1 i hi]
    · show chest' = _
      rw [q3, hc.2.2.2.2.2.2.1]
      rfl
end CH
