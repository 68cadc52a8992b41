/-! quotes, refusals, ways, fewest, savings, best parts: the class -/
section E3
variable {A : aB} {b : tBk}
def qQ (A : aB) (l : List Nat) (i : Nat) : Nat := if i = 0 then prS A.2.2.2.1 (frs A.2.1.1 A.2.1.2.1 [] (sS A l)) + A.2.2.2.1 2 * (sS A l).length else if i = 1 then A.2.2.2.1 2 * (sS A l).length else if i = 2 then prS A.2.2.2.1 (frs A.2.1.1 A.2.1.2.1 [] (sS A l)) else if i = 3 then (sS A l).length else (frs A.2.1.1 A.2.1.2.1 [] (sS A l)).length
theorem e_quote (hc : cBk A b) (hI : Inv A) {bd : Int32} {buf : Nat → Int32} {l : List Nat} (hw : wf l) (hl : l.length ≤ 12) (hne : l ≠ []) (et : fX9_takeWord bd buf = some (L64 l, 0)) {i : Nat} (hi : i < 5) (C : tCut) (S : tCutR) : ∃ C' S', fX9_quote (Int32.ofNat i) bd buf b.2.2.2.1 b.2.2.2.2.2.2.1 C S = some (Int32.ofNat (qQ A l i), 0, C', S') := by
  obtain ⟨⟨C', S'⟩, k1, k2, k3, k4⟩ := c_cheap hc hI hw hl C S
  simp only at k2 k3 k4
  have eb : fX9_requireBelow (Int32.ofNat i) 5 = some () := by
    rw [fX9_requireBelow, i_5]
    exact req_in hi (by decide)
  refine ⟨C', S', ?_⟩
  rw [fX9_quote, et, gb2_some, eb, gb0_some, if_neg (L64_ne0 hw hl hne), k1, gb2_some]
  rcases (show i = 0 ∨ i = 1 ∨ i = 2 ∨ i = 3 ∨ i = 4 by omega) with rfl | rfl | rfl | rfl | rfl
  · rw [if_pos (by decide), fX1_costOf, k2.1, c_depositsFor hc.2.2.2.1, gb1_some, gb1_some, k4, J_add]
    rfl
  · rw [if_neg (by decide), if_pos (by decide), k2.1, c_depositsFor hc.2.2.2.1, gb1_some]
    rfl
  · rw [if_neg (by decide), if_neg (by decide), if_pos (by decide), k4]
    rfl
  · rw [if_neg (by decide), if_neg (by decide), if_neg (by decide), if_pos (by decide), k2.1]
    rfl
  · rw [if_neg (by decide), if_neg (by decide), if_neg (by decide), if_neg (by decide), k3]
    rfl
theorem e_why (hc : cBk A b) (hI : Inv A) {bd : Int32} {buf : Nat → Int32} {l : List Nat} (hw : wf l) (hl : l.length ≤ 12) (hne : l ≠ []) (et : fX9_takeWord bd buf = some (L64 l, 0)) {u : Nat} (hu : u < A.1.1) (C : tCut) (S : tCutR) : ∃ C' S', fX9_whyNotStore (Int32.ofNat u) bd buf b.2.2.2.1 b.2.2.2.2.2.1 b.2.2.2.2.2.2.1 b.2.2.2.2.2.2.2 C S = some (Int32.ofNat (aRef A u (sS A l)), 0, C', S') := by
  have h4 := hI.1.1
  obtain ⟨⟨C', S'⟩, k1, k2, k3, k4⟩ := c_cheap hc hI hw hl C S
  simp only at k2 k3 k4
  refine ⟨C', S', ?_⟩
  rw [fX9_whyNotStore, et, gb2_some, reqU_in hc.1.1 hu (by omega), gb0_some, if_neg (L64_ne0 hw hl hne), k1, gb2_some, c_ref hc hI hw hl hu k2.1 k3 k4, gb1_some]
theorem e_find (hc : cBk A b) (hI : Inv A) {bd : Int32} {buf : Nat → Int32} {l : List Nat} (hw : wf l) (hl : l.length ≤ 12) (hne : l ≠ []) (et : fX9_takeWord bd buf = some (L64 l, 0)) : fX9_find 1 bd buf b.2.2.2.2.2.1 b.2.2.2.2.2.2.1 b.2.2.2.2.2.2.2 = some (nr A.2.1.1 A.2.1.2.1 l, 0) ∧ fX9_find 2 bd buf b.2.2.2.2.2.1 b.2.2.2.2.2.2.1 b.2.2.2.2.2.2.2 = some (nr A.2.2.1.1 A.2.2.1.2.1 l, 0) := by
  have eb : ∀ i, i < 3 → fX9_requireBelow (Int32.ofNat i) 3 = some () := by
    intro i hi
    rw [fX9_requireBelow, i_3]
    exact req_in hi (by decide)
  constructor
  · rw [fX9_find, et, gb2_some, show (1 : Int32) = Int32.ofNat 1 from rfl, eb 1 (by decide), gb0_some, if_neg (L64_ne0 hw hl hne), if_neg (by decide), if_pos (by decide), c_numP hc.2.1 hI.2.1.1 (okP_Inv hI) hw hl, gb1_some]
  · rw [fX9_find, et, gb2_some, show (2 : Int32) = Int32.ofNat 2 from rfl, eb 2 (by decide), gb0_some, if_neg (L64_ne0 hw hl hne), if_neg (by decide), if_neg (by decide), c_numW hc.2.2.1 hI.2.2.1.1 (fun j hj => ⟨iW_wf hI hj, (hI.2.2.1.2 j hj).2.2.2.2⟩) hw hl, gb1_some]
theorem e_fewest (hc : cBk A b) (hI : Inv A) {i : Nat} (hi : i < A.2.2.1.1) (C : tCut) (S : tCutR) : ∃ C' S', fX9_fewest (Int32.ofNat i) b.2.2.2.1 b.2.2.2.2.2.2.1 b.2.2.2.2.2.2.2 C S = some (Int32.ofNat (kS A (A.2.2.1.2.1 i)).length, C', S') := by
  have h16 := hI.2.2.1.1
  obtain ⟨⟨r, C', S'⟩, e1, e2⟩ := c_fewest hc hI hi C S
  simp only at e2
  exact ⟨C', S', by rw [fX9_fewest, reqW_in hc.2.2.1.1 hi (by omega), gb0_some, e1, gb3_some, e2]⟩
theorem e_saving (hc : cBk A b) (hI : Inv A) {i : Nat} (hi : i < A.2.2.1.1) (C : tCut) (S : tCutR) : ∃ C' S', fX9_saving (Int32.ofNat i) b.2.2.2.1 b.2.2.2.2.2.2.1 b.2.2.2.2.2.2.2 C S = some (Int32.ofNat (A.2.2.2.1 2 * ((A.2.2.1.2.2.2 i).length - (kS A (A.2.2.1.2.1 i)).length)), C', S') := by
  have h16 := hI.2.2.1.1
  obtain ⟨⟨r, C', S'⟩, e1, e2⟩ := c_fewest hc hI hi C S
  simp only at e2
  obtain ⟨_, _, f2, _⟩ := hc.2.2.1.2 i hi
  have hle := (kS_ok hI hi).2.1
  exact ⟨C', S', by rw [fX9_saving, reqW_in hc.2.2.1.1 hi (by omega), gb0_some, if_neg (inck hi h16 (by omega)), e1, gb3_some, J_nat _ (by omega), f2, e2, J_sub _ _ hle, c_depositsFor hc.2.2.2.1, gb1_some]⟩
theorem e_ways (hc : cBk A b) (hI : Inv A) {i : Nat} (hi : i < A.2.2.1.1) (C : tCut) (S : tCutR) : ∃ C' S', fX9_ways (Int32.ofNat i) b.2.2.2.1 b.2.2.2.2.2.2.1 b.2.2.2.2.2.2.2 C S = some (Int32.ofNat (wt (sC A.2.1.1 A.2.1.2.1 A.2.2.2.1 false (A.2.2.1.2.1 i)) (A.2.2.1.2.1 i).length (A.2.2.1.2.1 i).length 0), C', S') := by
  have h16 := hI.2.2.1.1
  obtain ⟨f0, _⟩ := hc.2.2.1.2 i hi
  obtain ⟨⟨r, C', S'⟩, e1, e2⟩ := c_countWays hc.2.1 hI.2.1.1 (okP_Inv hI) hc.2.2.2.1 hI.2.2.2.2.1.1 hI.2.2.2.2.1.2.1 (iW_wf hI hi) ((hI.2.2.1.2 i hi).2.2.2.2) C S
  simp only at e2
  exact ⟨C', S', by rw [fX9_ways, reqW_in hc.2.2.1.1 hi (by omega), gb0_some, if_neg (inck hi h16 (by omega)), J_nat _ (by omega), f0, e1, gb3_some, e2]⟩
def bQ (A : aB) (u : Nat) : Int32 × Int32 × Int32 := scn (gv A A.2.2.1.1) (A.2.2.1.2.1 u) (allP A (A.2.2.1.2.1 u) 1 6) (-1, 0, 0)
theorem e_bestPart (hc : cBk A b) (hI : Inv A) {u : Nat} (hu : u < A.2.2.1.1) {i : Nat} (hi : i < 3) (V : tAdv) (C : tCut) (S : tCutR) : ∃ V' C' S', fX9_bestPart (Int32.ofNat u) (Int32.ofNat i) b.2.2.2.1 b.2.2.2.2.2.2.1 b.2.2.2.2.2.2.2 V C S = some (if (bQ A u).1 = -1 then -1 else if i = 0 then (bQ A u).1 else if i = 1 then (bQ A u).2.1 else (bQ A u).2.2, V', C', S') := by
  have h16 := hI.2.2.1.1
  have hl := (hI.2.2.1.2 u hu).2.2.2.2
  have hw := iW_wf hI hu
  obtain ⟨f0, _⟩ := hc.2.2.1.2 u hu
  have hreq := reqW_in hc.2.2.1.1 hu (show A.2.2.1.1 ≤ 1000 by omega)
  have eb : fX9_requireBelow (Int32.ofNat i) 3 = some () := by
    rw [fX9_requireBelow, i_3]
    exact req_in hi (by decide)
  obtain ⟨⟨V', C', S'⟩, k1, a0, b0, k2⟩ := c_weigh hc hI hw hl V C S
  simp only at k2
  have hR : rBs (scn (gv A A.2.2.1.1) (A.2.2.1.2.1 u) (allP A (A.2.2.1.2.1 u) 1 6) (a0, b0, 0)) (scn (gv A A.2.2.1.1) (A.2.2.1.2.1 u) (allP A (A.2.2.1.2.1 u) 1 6) (-1, 0, 0)) := scn_R _ _ _ (allP_lt A _ hl 6 1) ⟨rfl, by decide, Or.inl ⟨rfl, rfl⟩⟩
  rw [← k2] at hR
  have hR' : rBs (V'.1, V'.2.1, V'.2.2.1) (bQ A u) := hR
  generalize bQ A u = q at hR' ⊢
  obtain ⟨q1, q2, q3⟩ := hR'
  simp only at q1 q3
  have hpre : fX9_bestPart (Int32.ofNat u) (Int32.ofNat i) b.2.2.2.1 b.2.2.2.2.2.2.1 b.2.2.2.2.2.2.2 V C S = (if V'.2.2.1 = 0 then (some ((-1), V', C', S')) else (if Int32.ofNat i = 0 then (some (V'.1, V', C', S')) else (if Int32.ofNat i = 1 then (some (V'.2.1, V', C', S')) else (some (V'.2.2.1, V', C', S'))))) := by
    rw [fX9_bestPart, hreq, gb0_some, eb, gb0_some, if_neg (inck hu h16 (by omega)), J_nat _ (by omega), f0, k1, gb3_some]
  refine ⟨V', C', S', ?_⟩
  rw [hpre]
  rcases q3 with ⟨g0, gm⟩ | ⟨gn0, ge, gm⟩
  · rw [if_pos (by rw [q1, g0]), if_pos gm]
  · have hne : ¬ V'.2.2.1 = 0 := by rw [q1]; exact gn0
    rw [if_neg hne, if_neg gm, ← ge]
    rcases (show i = 0 ∨ i = 1 ∨ i = 2 by omega) with rfl | rfl | rfl
    · rw [if_pos (by decide), if_pos rfl]
    · rw [if_neg (by decide), if_pos (by decide), if_neg (by decide), if_pos rfl]
    · rw [if_neg (by decide), if_neg (by decide), if_neg (by decide), if_neg (by decide)]
theorem e_shared (hc : cBk A b) (hI : Inv A) {w v : Nat} (hw : w < A.2.2.1.1) (hv : v < A.2.2.1.1) : fX9_shared (Int32.ofNat w) (Int32.ofNat v) b.2.2.2.2.2.2.1 b.2.2.2.2.2.2.2 = some (Int32.ofNat (smF (fun q => if q ∈ A.2.2.1.2.2.2 w ∧ q ∈ A.2.2.1.2.2.2 v then 1 else 0) 0 A.2.1.1)) := by
  have h16 := hI.2.2.1.1
  have h24 := hI.2.1.1
  have e := c_shared_L hc.2.1 hc.2.2.1 hI hw hv (fun x => some x) A.2.1.1 0 FU 0 (by omega) (by simp only [FU]; omega)
  rw [fX9_shared, reqW_in hc.2.2.1.1 hw (by omega), gb0_some, reqW_in hc.2.2.1.1 hv (by omega), gb0_some]
  rw [Nat.zero_add] at e
  exact e
end E3
