/-! quote, whyNotStore -/
theorem m_cheap {A : aB} {now : Nat → Int32} (hm : mB A now) (hI : Inv A) {l : List Nat} (hw : wf l) (hl : l.length ≤ 12) {spl : Nat → Int32} (hs : sp l spl) (c f g : Nat → Int32) : Ok (fX10_cutsCheapest (Int32.ofNat l.length) now spl c f g) (fun r => r.2.1 0 = Int32.ofNat (sS A l).length ∧ ∀ x, x < l.length → r.2.2 x = Int32.ofNat (TB (sC A.2.1.1 A.2.1.2.1 A.2.2.2.1 true l) (A.2.2.2.1 2) l.length x).2.2) := by
  rw [fX10_cutsCheapest]
  apply ok_gb3
  refine ok_mono (m_cut0 hm hI hw hl hs true c f g) ?_
  rintro ⟨c1, f1, g1⟩ h
  refine ok_some ⟨?_, fun x hx => (h x (by omega) (by omega)).2.2 hx⟩
  have := (h 0 (by omega) (by omega)).2.1
  have hf := TB_sS hI hl
  simp only at this ⊢
  rw [this]
  show Int32.ofNat (mf (TB (sC A.2.1.1 A.2.1.2.1 A.2.2.2.1 true l) (A.2.2.2.1 2) l.length 0)) = _
  rw [mf, if_pos hf, sS, (CL_ok hl hf).2.1]
theorem fr_ok {A : aB} (hI : Inv A) {l : List Nat} (hw : wf l) (hl : l.length ≤ 12) : (frs A.2.1.1 A.2.1.2.1 [] (sS A l)).length ≤ 12 ∧ ∀ x ∈ frs A.2.1.1 A.2.1.2.1 [] (sS A l), wf x ∧ x.length ≤ 6 := by
  obtain ⟨s1, s2, s3⟩ := sS_ok hI hw hl
  have hfl := frs_len A.2.1.1 A.2.1.2.1 [] (sS A l)
  rw [List.length_nil] at hfl
  refine ⟨by omega, fun x hx => ?_⟩
  rcases frs_sub _ _ _ _ _ hx with h | h
  · cases h
  · have := s3 x h.1
    exact ⟨this.1, this.2.2⟩
theorem m_fresh {A : aB} {now : Nat → Int32} (hm : mB A now) (hI : Inv A) {l : List Nat} (hw : wf l) (hl : l.length ≤ 12) {spl : Nat → Int32} (hs : sp l spl) {g : Nat → Int32} (hg : ∀ x, x < l.length → g x = Int32.ofNat (TB (sC A.2.1.1 A.2.1.2.1 A.2.2.2.1 true l) (A.2.2.2.1 2) l.length x).2.2) (fm : Int32) (fa : Nat → Int32) : Ok (fX10_laysFresh (Int32.ofNat l.length) fm now spl g fa) (fun r => bR (frs A.2.1.1 A.2.1.2.1 [] (sS A l)) r.1 r.2) := m_laysFresh hm.2.1 hI.2.1.1 (ok6_Inv hI) hw hl hs hg (TB_sS hI hl) fm fa
theorem m_why {A : aB} {now : Nat → Int32} (hm : mB A now) (hI : Inv A) {l : List Nat} (hw : wf l) (hl : l.length ≤ 12) {spl : Nat → Int32} (hs : sp l spl) {f g : Nat → Int32} (hf0 : f 0 = Int32.ofNat (sS A l).length) (hg : ∀ x, x < l.length → g x = Int32.ofNat (TB (sC A.2.1.1 A.2.1.2.1 A.2.2.2.1 true l) (A.2.2.2.1 2) l.length x).2.2) {u : Nat} (hu : u < A.1.1) (fm : Int32) (fa : Nat → Int32) : Ok (fX10_why (Int32.ofNat u) (Int32.ofNat l.length) fm now spl f g fa) (fun r => r.1 = Int32.ofNat (aRef A u (sS A l))) := by
  have h4 := hI.1.1
  have h16 := hI.2.2.1.1
  have h24 := hI.2.1.1
  obtain ⟨q1, q2⟩ := fr_ok hI hw hl
  obtain ⟨s1, s2, s3⟩ := sS_ok hI hw hl
  have hco := co_bd hI hu
  have pb := prS_le hI.2.2.2.2.1.1 hI.2.2.2.2.1.2.1 (l := frs A.2.1.1 A.2.1.2.1 [] (sS A l)) (fun s hs => by have := (q2 s hs).2; omega)
  have db : A.2.2.2.1 2 * (sS A l).length ≤ 9 * 12 := Nat.mul_le_mul hI.2.2.2.2.1.2.2.2.1 s2
  rw [fX10_why]
  apply ok_gb2
  refine ok_mono (m_fresh hm hI hw hl hs hg fm fa) ?_
  rintro ⟨fm1, fa1⟩ hb
  dsimp only at hb ⊢
  have e10 := hm.2.2.1.1
  have e9 := hm.2.1.1
  unfold aRef
  by_cases c1 : A.2.2.1.1 < 16
  · rw [e10, if_neg (by rw [i_16, J_eq _ _ (by omega) (by omega)]; omega), if_neg (show ¬ ¬ A.2.2.1.1 < 16 from fun h => h c1), e9, hb.1, J_add]
    by_cases c2 : A.2.1.1 + (frs A.2.1.1 A.2.1.2.1 [] (sS A l)).length ≤ 24
    · rw [if_pos (by rw [i_24, J_le _ _ (by omega) (by omega)]; exact c2), if_neg (show ¬ ¬ A.2.1.1 + (frs A.2.1.1 A.2.1.2.1 [] (sS A l)).length ≤ 24 from fun h => h c2), i_17, J_add, if_neg (inck (i := 17 + u) (n := 300) (by omega) (by omega) (by omega)), ← hb.1, m_freshPrice hm.2.2.2.1 hb q1 q2, gb1_some, hm.2.2.2.1 2 (by omega), hf0, J_mul, J_add, J_nat _ (by omega), hm.1.2 u hu]
      by_cases c3 : prS A.2.2.2.1 (frs A.2.1.1 A.2.1.2.1 [] (sS A l)) + A.2.2.2.1 2 * (sS A l).length ≤ A.1.2.2 u
      · rw [if_pos (by rw [J_le _ _ (by omega) (by omega)]; exact c3), if_pos c3]
        exact ok_some rfl
      · rw [if_neg (by rw [J_le _ _ (by omega) (by omega)]; exact c3), if_neg c3]
        exact ok_some rfl
    · rw [if_neg (by rw [i_24, J_le _ _ (by omega) (by omega)]; exact c2), if_pos c2]
      exact ok_some rfl
  · rw [e10, if_pos (by rw [i_16, J_eq _ _ (by omega) (by omega)]; omega), if_pos c1]
    exact ok_some rfl
theorem c_ref {A : aB} {b : tBk} (hc : cBk A b) (hI : Inv A) {l : List Nat} (hw : wf l) (hl : l.length ≤ 12) {u : Nat} (hu : u < A.1.1) {C : tCut} (h1 : C.1 = Int32.ofNat (sS A l).length) (h2 : C.2.2.1 = Int32.ofNat (frs A.2.1.1 A.2.1.2.1 [] (sS A l)).length) (h3 : C.2.2.2.1 = Int32.ofNat (prS A.2.2.2.1 (frs A.2.1.1 A.2.1.2.1 [] (sS A l)))) : fX1_refusal (Int32.ofNat u) b.2.2.2.1 b.2.2.2.2.2.1 b.2.2.2.2.2.2.1 b.2.2.2.2.2.2.2 C = some (Int32.ofNat (aRef A u (sS A l))) := by
  obtain ⟨s1, s2, s3⟩ := sS_ok hI hw hl
  have := co_bd hI hu
  exact c_refusal hc hu hI.1.1 hI.2.1.1 hI.2.2.1.1 hI.2.2.2.2.1.1 hI.2.2.2.2.1.2.1 hI.2.2.2.2.1.2.2.2.1 (by omega) h1 h2 h3 s2 (fun s hs => by have := (s3 s hs).2.2; omega)
theorem c_cheap {A : aB} {b : tBk} (hc : cBk A b) (hI : Inv A) {l : List Nat} (hw : wf l) (hl : l.length ≤ 12) (C : tCut) (S : tCutR) : Ok (fX2_cutCheapest (L64 l) C S b.2.2.2.1 b.2.2.2.2.2.2.1) (fun r => aR (sS A l) r.1.1 r.1.2.1 ∧ r.1.2.2.1 = Int32.ofNat (frs A.2.1.1 A.2.1.2.1 [] (sS A l)).length ∧ r.1.2.2.2.1 = Int32.ofNat (prS A.2.2.2.1 (frs A.2.1.1 A.2.1.2.1 [] (sS A l)))) :=
  ok_mono (c_cutCheapest hc.2.1 hI.2.1.1 (okP_Inv hI) hc.2.2.2.1 hI.2.2.2.2.1.1 hI.2.2.2.2.1.2.1 hI.2.2.2.2.1.2.2.2.1 hw hl C S) (fun r h => ⟨h.1.1, h.2.1, h.2.2⟩)
/-- what both sides read -/
theorem rd {n : Nat} {bt : Nat → Nat} {bd ln : Int32} {buf text : Nat → Int32} (hX : tX n bt bd buf ln text) (ts s nx many : Int32) (spl : Nat → Int32) : (∃ l, wf l ∧ l.length ≤ 12 ∧ l ≠ [] ∧ fX9_takeWord bd buf = some (L64 l, 0) ∧ ∃ ts1 s1 nx1 spl1, fX10_reads ln ts s nx many text spl = some (1, 0, ts1, s1, nx1, Int32.ofNat l.length, spl1) ∧ sp l spl1) ∨ (fX9_takeWord bd buf = some (0, 0) ∧ ∃ ts1 s1 nx1 spl1, fX10_reads ln ts s nx many text spl = some (0, 0, ts1, s1, nx1, 0, spl1)) := by
  obtain ⟨x1, x2, x3, x4, x5⟩ := hX
  subst x3 x4
  have hb1 : ∀ j, j < n → bt j < 256 ∧ buf j = sxb (bt j) := fun j hj => ⟨(x5 j hj).1, (x5 j hj).2.1⟩
  have hb2 : ∀ j, j < n → bt j < 256 ∧ text j = sxb (bt j) := fun j hj => ⟨(x5 j hj).1, (x5 j hj).2.2⟩
  have hR := m_reads x1 hb2 ts s nx many spl
  rcases c_takeWord x1 hb1 with ⟨hw, et⟩ | ⟨hw, et⟩
  · obtain ⟨wl1, wl2, wl3⟩ := wL_ok hw
    obtain ⟨⟨is, ln1, ts1, s1, nx1, many1, spl1⟩, er, r1, r2, r3, r4⟩ := (hR.resolve_right (fun h => h.1 hw)).2
    simp only at r1 r2 r3 r4
    subst r1 r2 r3
    exact Or.inl ⟨wL bt n, wl1, by rw [wl2]; exact hw.2.1, wl3, et, ts1, s1, nx1, spl1, er, r4⟩
  · obtain ⟨⟨is, ln1, ts1, s1, nx1, many1, spl1⟩, er, r1, r2, r3⟩ := (hR.resolve_left (fun h => hw h.1)).2
    simp only at r1 r2 r3
    subst r1 r2 r3
    exact Or.inr ⟨et, ts1, s1, nx1, spl1, er⟩
theorem q_quote {A : aB} {b : tBk} {now : Nat → Int32} (hc : cBk A b) (hm : mB A now) (hI : Inv A) {n : Nat} {bt : Nat → Nat} {bd ln : Int32} {buf text : Nat → Int32} (hX : tX n bt bd buf ln text) (u1 t0 ts s nx many fm : Int32) (C : tCut) (S : tCutR) (spl c f g fa : Nat → Int32) : ∃ (x r bd' : Int32) (C' : tCut) (S' : tCutR) (r2 t ln' ts' s' nx' many' fm' : Int32) (spl' c' f' g' fa' : Nat → Int32), fX9_quote u1 bd buf b.2.2.2.1 b.2.2.2.2.2.2.1 C S = some (x, r, bd', C', S') ∧ fX10_quote u1 t0 ln ts s nx many fm now text spl c f g fa = some (r2, t, ln', ts', s', nx', many', fm', spl', c', f', g', fa') ∧ ((x = 0 ∧ t = 0 ∧ r = r2) ∨ (x = 2 ∧ t = 1)) ∧ bd' = 0 ∧ ln' = 0 := by
  have hR := rd hX ts s nx many spl
  rcases idx_cases u1 5 with ⟨i, hi, _, rfl⟩ | ho
  · have e : fX10_within (Int32.ofNat i) 0 4 = some 1 := within_in (n := 4) rfl (by omega) (by decide)
    have eb : fX9_requireBelow (Int32.ofNat i) 5 = some 0 := reqB_in (n := 5) hi (by omega)
    rcases hR with ⟨l, hw, hl, hne, et, ts1, s1, nx1, spl1, er, hs⟩ | ⟨et, ts1, s1, nx1, spl1, er⟩
    · obtain ⟨⟨C', S'⟩, k1, k2, k3, k4⟩ := c_cheap hc hI hw hl C S
      simp only at k2 k3 k4
      obtain ⟨⟨c', f', g'⟩, m1, m2, m3⟩ := m_cheap hm hI hw hl hs c f g
      simp only at m2 m3
      obtain ⟨⟨fm', fa'⟩, n1, n2⟩ := m_fresh hm hI hw hl hs m3 fm fa
      simp only at n2
      obtain ⟨q1, q2⟩ := fr_ok hI hw hl
      have ep := m_freshPrice hm.2.2.2.1 n2 q1 q2
      have hpre : ∀ v, (i = 0 → v = Int32.ofNat (A.2.2.2.1 2 * (sS A l).length + prS A.2.2.2.1 (frs A.2.1.1 A.2.1.2.1 [] (sS A l)))) → (i = 1 → v = Int32.ofNat (A.2.2.2.1 2 * (sS A l).length)) → (i = 2 → v = Int32.ofNat (prS A.2.2.2.1 (frs A.2.1.1 A.2.1.2.1 [] (sS A l)))) → (i = 3 → v = Int32.ofNat (sS A l).length) → (i = 4 → v = Int32.ofNat (frs A.2.1.1 A.2.1.2.1 [] (sS A l)).length) → fX9_quote (Int32.ofNat i) bd buf b.2.2.2.1 b.2.2.2.2.2.2.1 C S = some (0, v, 0, C', S') ∧ fX10_quote (Int32.ofNat i) t0 ln ts s nx many fm now text spl c f g fa = some (v, 0, 0, ts1, s1, nx1, Int32.ofNat l.length, fm', spl1, c', f', g', fa') := by
        intro v v0 v1 v2 v3 v4
        have hi3 : i = 0 ∨ i = 1 ∨ i = 2 ∨ i = 3 ∨ i = 4 := by omega
        constructor
        · rw [fX9_quote, et, gb2_some, eb, gb1_some, if_pos rfl, if_neg (L64_ne0 hw hl hne), k1, gb2_some]
          rcases hi3 with rfl | rfl | rfl | rfl | rfl
          · rw [if_pos (by decide), fX1_costOf, k2.1, c_depositsFor hc.2.2.2.1, gb1_some, gb1_some, k4, J_add, v0 rfl, Nat.add_comm]
          · rw [if_neg (by decide), if_pos (by decide), k2.1, c_depositsFor hc.2.2.2.1, gb1_some, v1 rfl]
          · rw [if_neg (by decide), if_neg (by decide), if_pos (by decide), k4, v2 rfl]
          · rw [if_neg (by decide), if_neg (by decide), if_neg (by decide), if_pos (by decide), k2.1, v3 rfl]
          · rw [if_neg (by decide), if_neg (by decide), if_neg (by decide), if_neg (by decide), k3, v4 rfl]
        · rw [fX10_quote, er, gb7_some, e, gb1_some, Lt_eq, if_neg (by decide)]
          dsimp only
          rw [throws_no, gb2_some, if_pos rfl, if_neg (by decide), m1, gb3_some, n1, gb2_some, ep, gb1_some, gb1_some, hm.2.2.2.1 2 (by omega), m2, J_mul, J_add]
          rcases hi3 with rfl | rfl | rfl | rfl | rfl
          · rw [if_pos (by decide), v0 rfl]
          · rw [if_neg (by decide), if_pos (by decide), v1 rfl]
          · rw [if_neg (by decide), if_neg (by decide), if_pos (by decide), v2 rfl]
          · rw [if_neg (by decide), if_neg (by decide), if_neg (by decide), if_pos (by decide), v3 rfl]
          · rw [if_neg (by decide), if_neg (by decide), if_neg (by decide), if_neg (by decide), n2.1, v4 rfl]
      have hi3 : i = 0 ∨ i = 1 ∨ i = 2 ∨ i = 3 ∨ i = 4 := by omega
      have hfin : ∃ v, fX9_quote (Int32.ofNat i) bd buf b.2.2.2.1 b.2.2.2.2.2.2.1 C S = some (0, v, 0, C', S') ∧ fX10_quote (Int32.ofNat i) t0 ln ts s nx many fm now text spl c f g fa = some (v, 0, 0, ts1, s1, nx1, Int32.ofNat l.length, fm', spl1, c', f', g', fa') := by
        rcases hi3 with rfl | rfl | rfl | rfl | rfl
        · exact ⟨_, hpre _ (fun _ => rfl) (by omega) (by omega) (by omega) (by omega)⟩
        · exact ⟨_, hpre _ (by omega) (fun _ => rfl) (by omega) (by omega) (by omega)⟩
        · exact ⟨_, hpre _ (by omega) (by omega) (fun _ => rfl) (by omega) (by omega)⟩
        · exact ⟨_, hpre _ (by omega) (by omega) (by omega) (fun _ => rfl) (by omega)⟩
        · exact ⟨_, hpre _ (by omega) (by omega) (by omega) (by omega) (fun _ => rfl)⟩
      obtain ⟨v, z1, z2⟩ := hfin
      exact ⟨0, v, 0, C', S', v, 0, 0, _, _, _, _, _, _, _, _, _, _, z1, z2, Or.inl ⟨rfl, rfl, rfl⟩, rfl, rfl⟩
    · refine ⟨0, -1, 0, C, S, -1, 0, 0, ts1, s1, nx1, 0, fm, spl1, c, f, g, fa, ?_, ?_, Or.inl ⟨rfl, rfl, rfl⟩, rfl, rfl⟩
      · rw [fX9_quote, et, gb2_some, eb, gb1_some, if_pos rfl, if_pos z_cmp]
      · rw [fX10_quote, er, gb7_some, e, gb1_some, Lt_eq, if_neg (by decide)]
        dsimp only
        rw [throws_no, gb2_some, if_pos rfl, if_pos rfl]
  · have e : fX10_within u1 0 4 = some 0 := within_out (n := 4) (by decide) ho
    have eb : fX9_requireBelow u1 5 = some 2 := reqB_out (n := 5) (by omega) ho
    have hC : ∃ row, fX9_takeWord bd buf = some (row, 0) := by
      rcases hR with ⟨l, _, _, _, et, _⟩ | ⟨et, _⟩
      · exact ⟨_, et⟩
      · exact ⟨_, et⟩
    have hM : ∃ is ts1 s1 nx1 many1 spl1, fX10_reads ln ts s nx many text spl = some (is, 0, ts1, s1, nx1, many1, spl1) := by
      rcases hR with ⟨l, _, _, _, _, ts1, s1, nx1, spl1, er, _⟩ | ⟨_, ts1, s1, nx1, spl1, er⟩
      · exact ⟨_, _, _, _, _, _, er⟩
      · exact ⟨_, _, _, _, _, _, er⟩
    obtain ⟨row, et⟩ := hC
    obtain ⟨is, ts1, s1, nx1, many1, spl1, er⟩ := hM
    refine ⟨2, 0, 0, C, S, 0, 1, 0, ts1, s1, nx1, many1, fm, spl1, c, f, g, fa, ?_, ?_, Or.inr ⟨rfl, rfl⟩, rfl, rfl⟩
    · rw [fX9_quote, et, gb2_some, eb, gb1_some, if_neg (by decide)]
    · rw [fX10_quote, er, gb7_some, e, gb1_some, Lt_eq, if_pos rfl]
      dsimp only
      rw [throws_1, gb2_some, if_neg (by decide)]
theorem q_whyNot {A : aB} {b : tBk} {now : Nat → Int32} (hc : cBk A b) (hm : mB A now) (hI : Inv A) {n : Nat} {bt : Nat → Nat} {bd ln : Int32} {buf text : Nat → Int32} (hX : tX n bt bd buf ln text) (u1 t0 ts s nx many fm : Int32) (C : tCut) (S : tCutR) (spl c f g fa : Nat → Int32) : ∃ (x r bd' : Int32) (C' : tCut) (S' : tCutR) (r2 t ln' ts' s' nx' many' fm' : Int32) (spl' c' f' g' fa' : Nat → Int32), fX9_whyNotStore u1 bd buf b.2.2.2.1 b.2.2.2.2.2.1 b.2.2.2.2.2.2.1 b.2.2.2.2.2.2.2 C S = some (x, r, bd', C', S') ∧ fX10_whyNotStore u1 t0 ln ts s nx many fm now text spl c f g fa = some (r2, t, ln', ts', s', nx', many', fm', spl', c', f', g', fa') ∧ ((x = 0 ∧ t = 0 ∧ r = r2) ∨ (x = 1 ∧ t = 1)) ∧ bd' = 0 ∧ ln' = 0 := by
  have h4 := hI.1.1
  have hR := rd hX ts s nx many spl
  rcases idx_cases u1 A.1.1 with ⟨u, hu, _, rfl⟩ | ho
  · have e := noU_in hm.1.1 hu (show A.1.1 ≤ 1000 by omega) t0
    have eb := reqU_in hc.1.1 hu (show A.1.1 ≤ 1000 by omega)
    rcases hR with ⟨l, hw, hl, hne, et, ts1, s1, nx1, spl1, er, hs⟩ | ⟨et, ts1, s1, nx1, spl1, er⟩
    · obtain ⟨⟨C', S'⟩, k1, k2, k3, k4⟩ := c_cheap hc hI hw hl C S
      simp only at k2 k3 k4
      obtain ⟨⟨c', f', g'⟩, m1, m2, m3⟩ := m_cheap hm hI hw hl hs c f g
      simp only at m2 m3
      obtain ⟨⟨r3, fm', fa'⟩, n1, n2⟩ := m_why hm hI hw hl hs m2 m3 hu fm fa
      simp only at n2
      refine ⟨0, _, 0, C', S', r3, 0, 0, ts1, s1, nx1, Int32.ofNat l.length, fm', spl1, c', f', g', fa', ?_, ?_, Or.inl ⟨rfl, rfl, n2.symm⟩, rfl, rfl⟩
      · rw [fX9_whyNotStore, et, gb2_some, eb, gb1_some, if_pos rfl, if_neg (L64_ne0 hw hl hne), k1, gb2_some, c_ref hc hI hw hl hu k2.1 k3 k4, gb1_some]
      · rw [fX10_whyNotStore, er, gb7_some, e, gb2_some, if_pos rfl, if_neg (by decide), m1, gb3_some, n1, gb3_some]
    · refine ⟨0, 1, 0, C, S, 1, 0, 0, ts1, s1, nx1, 0, fm, spl1, c, f, g, fa, ?_, ?_, Or.inl ⟨rfl, rfl, rfl⟩, rfl, rfl⟩
      · rw [fX9_whyNotStore, et, gb2_some, eb, gb1_some, if_pos rfl, if_pos z_cmp]
      · rw [fX10_whyNotStore, er, gb7_some, e, gb2_some, if_pos rfl, if_pos rfl]
  · have e := noU_out hm.1.1 (show A.1.1 ≤ 1000 by omega) ho t0
    have eb := reqU_out hc.1.1 (show A.1.1 ≤ 1000 by omega) ho
    rcases hR with ⟨l, hw, hl, hne, et, ts1, s1, nx1, spl1, er, hs⟩ | ⟨et, ts1, s1, nx1, spl1, er⟩
    · refine ⟨1, 0, 0, C, S, 0, 1, 0, ts1, s1, nx1, Int32.ofNat l.length, fm, spl1, c, f, g, fa, ?_, ?_, Or.inr ⟨rfl, rfl⟩, rfl, rfl⟩
      · rw [fX9_whyNotStore, et, gb2_some, eb, gb1_some, if_neg (by decide)]
      · rw [fX10_whyNotStore, er, gb7_some, e, gb2_some, if_neg (by decide)]
    · refine ⟨1, 0, 0, C, S, 0, 1, 0, ts1, s1, nx1, 0, fm, spl1, c, f, g, fa, ?_, ?_, Or.inr ⟨rfl, rfl⟩, rfl, rfl⟩
      · rw [fX9_whyNotStore, et, gb2_some, eb, gb1_some, if_neg (by decide)]
      · rw [fX10_whyNotStore, er, gb7_some, e, gb2_some, if_neg (by decide)]
