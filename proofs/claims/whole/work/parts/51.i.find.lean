/-! find, quote, whyNotStore -/
theorem m_userN_L {A : aB} {now : Nat → Int32} {names : Nat → Int64} (hm : mB A now) (hN : mN A.1 names) (hI : Inv A) {x : List Nat} (hx : wf x) (hl : x.length ≤ 12) {many : Int32} {spl : Nat → Int32} (k : Option Int32) : ∀ (d n j : Nat), j + d = A.1.1 → d < n → fX10_userNamed_L7 (B64 x) many now names spl k n (Int32.ofNat j) = if fndF A.1.2.1 x j d < A.1.1 then some (Int32.ofNat (fndF A.1.2.1 x j d)) else k
  | d, 0, j, _, h2 => by omega
  | 0, n + 1, j, h1, _ => by
    have h4 := hI.1.1
    rw [fX10_userNamed_L7, hm.1.1, if_pos (by rw [J_le _ _ (by omega) (by omega)]; omega), fndF, if_neg (by omega)]
  | d + 1, n + 1, j, h1, h2 => by
    have h4 := hI.1.1
    have hj : j < A.1.1 := by omega
    have e := hN j hj
    have ei := B64_inj (hI.1.2 j hj).1 hx (hI.1.2 j hj).2 hl
    rw [fX10_userNamed_L7, hm.1.1, if_neg (by rw [J_le _ _ (by omega) (by omega)]; omega), if_neg (inck hj h4 (by omega)), J_nat _ (by omega), e, i_1, J_add, m_userN_L hm hN hI hx hl k d n (j + 1) (by omega) (by omega), fndF]
    simp only [cmp0, ei]
    by_cases c : A.1.2.1 j = x
    · simp only [c, if_true, hj]
    · simp only [c, if_false]
theorem m_userNamed {A : aB} {now : Nat → Int32} {names : Nat → Int64} (hm : mB A now) (hN : mN A.1 names) (hI : Inv A) {x : List Nat} (hx : wf x) (hl : x.length ≤ 12) {spl : Nat → Int32} (hs : sp x spl) : fX10_userNamed (Int32.ofNat x.length) now names spl = some (nr A.1.1 A.1.2.1 x) := by
  have h4 := hI.1.1
  rw [fX10_userNamed, m_name hx hl hs, gb1_some]
  have := m_userN_L hm hN hI hx hl (many := Int32.ofNat x.length) (spl := spl) (some M1) A.1.1 FU 0 (by omega) (by simp only [FU]; omega)
  refine (show _ = _ from this).trans ?_
  unfold nr fnd
  split <;> rfl
theorem m_firstW_L {A : aB} {now : Nat → Int32} (hm : mB A now) (hI : Inv A) {x : List Nat} (hx : wf x) (hl : x.length ≤ 12) : ∀ (d n j : Nat) (many : Int32) (spl : Nat → Int32), j + d = A.2.2.1.1 → d < n → Ok (fX10_firstWord_L7 (B64 x) now (fun m s => some ((-1), m, s)) n (Int32.ofNat j) many spl) (fun r => r.1 = if fndF A.2.2.1.2.1 x j d < A.2.2.1.1 then Int32.ofNat (fndF A.2.2.1.2.1 x j d) else M1)
  | d, 0, j, many, spl, _, h2 => by omega
  | 0, n + 1, j, many, spl, h1, _ => by
    have h16 := hI.2.2.1.1
    rw [fX10_firstWord_L7, hm.2.2.1.1, if_pos (by rw [J_le _ _ (by omega) (by omega)]; omega), fndF, if_neg (by omega)]
    exact ok_some rfl
  | d + 1, n + 1, j, many, spl, h1, h2 => by
    have h16 := hI.2.2.1.1
    have hj : j < A.2.2.1.1 := by omega
    have hwj := iW_wf hI hj
    have hlj := (hI.2.2.1.2 j hj).2.2.2.2
    have ei := B64_inj hwj hx hlj hl
    rw [fX10_firstWord_L7, hm.2.2.1.1, if_neg (by rw [J_le _ _ (by omega) (by omega)]; omega)]
    apply ok_gb2
    refine ok_mono (m_spellsWord hm hI hj many spl) ?_
    rintro ⟨many1, spl1⟩ ⟨e1, e2⟩
    simp only at e1 e2 ⊢
    rw [e1, m_name hwj hlj e2, gb1_some, fndF]
    simp only [cmp0, ei]
    by_cases c : A.2.2.1.2.1 j = x
    · simp only [c, if_true, hj]
      exact ok_some rfl
    · simp only [c, if_false]
      rw [i_1, J_add]
      exact m_firstW_L hm hI hx hl d n (j + 1) _ _ (by omega) (by omega)
theorem m_firstWord {A : aB} {now : Nat → Int32} (hm : mB A now) (hI : Inv A) {x : List Nat} (hx : wf x) (hl : x.length ≤ 12) {spl : Nat → Int32} (hs : sp x spl) : Ok (fX10_firstWord (Int32.ofNat x.length) now spl) (fun r => r.1 = nr A.2.2.1.1 A.2.2.1.2.1 x) := by
  have h16 := hI.2.2.1.1
  rw [fX10_firstWord, m_name hx hl hs, gb1_some]
  exact m_firstW_L hm hI hx hl A.2.2.1.1 FU 0 _ _ (by omega) (by simp only [FU]; omega)
theorem okW_Inv {A : aB} (hI : Inv A) : okR A.2.2.1.1 A.2.2.1.2.1 12 := fun i hi => ⟨iW_wf hI hi, (hI.2.2.1.2 i hi).2.2.2.2⟩
theorem L64_ne0 {l : List Nat} (hw : wf l) (hl : l.length ≤ 12) (h : l ≠ []) : ¬ (lg_cmp (L64 l) 0 = 0) := by
  rw [cmp0, L64_zero hw hl]
  exact h
theorem z_cmp : lg_cmp 0 0 = 0 := by decide
theorem reqB_in {i n : Nat} (hi : i < n) (hn : n ≤ 1000) : fX9_requireBelow (Int32.ofNat i) (Int32.ofNat n) = some 0 := by
  rw [fX9_requireBelow, if_neg (by rw [i_0, J_lt _ _ (by omega) (by omega)]; omega), if_pos (by rw [J_lt _ _ (by omega) (by omega)]; omega)]
theorem reqB_out {x : Int32} {n : Nat} (hn : n ≤ 1000) (h : x < 0 ∨ ∃ j, n ≤ j ∧ j < 2147483648 ∧ x = Int32.ofNat j) : fX9_requireBelow x (Int32.ofNat n) = some 2 := by
  rcases h with h | ⟨j, h1, h2, rfl⟩
  · rw [fX9_requireBelow, if_pos h]
  · rw [fX9_requireBelow, if_neg (by rw [i_0, J_lt _ _ (by omega) (by omega)]; omega), if_neg (by rw [J_lt _ _ (by omega) (by omega)]; omega)]
theorem nr_long {A : aB} (hI : Inv A) {x : List Nat} (h : 6 < x.length) : nr A.2.1.1 A.2.1.2.1 x = M1 := by
  rw [nr, if_neg]
  intro h2
  have h3 := fnd_hit h2
  have := (hI.2.1.2 _ h2).2.2.1
  rw [h3] at this
  omega
theorem ok_gb7 {α0 α1 α2 α3 α4 α5 α6 β : Type} {x : Option (α0 × α1 × α2 × α3 × α4 × α5 × α6)} {k : α0 → α1 → α2 → α3 → α4 → α5 → α6 → Option β} {Q : β → Prop} (h : Ok x (fun a => Ok (k a.1 a.2.1 a.2.2.1 a.2.2.2.1 a.2.2.2.2.1 a.2.2.2.2.2.1 a.2.2.2.2.2.2) Q)) : Ok (gb7 x k) Q := by
  obtain ⟨a, e, q⟩ := h
  rw [e]
  exact q
theorem q_find {A : aB} {b : tBk} {now : Nat → Int32} {names : Nat → Int64} (hc : cBk A b) (hm : mB A now) (hN : mN A.1 names) (hI : Inv A) {n : Nat} {bt : Nat → Nat} {bd ln : Int32} {buf text : Nat → Int32} (hX : tX n bt bd buf ln text) (u1 t0 ts s nx many : Int32) (spl : Nat → Int32) : ∃ (x r bd' r2 t ln' ts' s' nx' many' : Int32) (spl' : Nat → Int32), fX9_find u1 bd buf b.2.2.2.2.2.1 b.2.2.2.2.2.2.1 b.2.2.2.2.2.2.2 = some (x, r, bd') ∧ fX10_find u1 t0 ln ts s nx many now names text spl = some (r2, t, ln', ts', s', nx', many', spl') ∧ ((x = 0 ∧ t = 0 ∧ r = r2) ∨ (x = 2 ∧ t = 1)) ∧ bd' = 0 ∧ ln' = 0 := by
  obtain ⟨x1, x2, x3, x4, x5⟩ := hX
  subst x3 x4
  have hb1 : ∀ j, j < n → bt j < 256 ∧ buf j = sxb (bt j) := fun j hj => ⟨(x5 j hj).1, (x5 j hj).2.1⟩
  have hb2 : ∀ j, j < n → bt j < 256 ∧ text j = sxb (bt j) := fun j hj => ⟨(x5 j hj).1, (x5 j hj).2.2⟩
  have hR := m_reads x1 hb2 ts s nx many spl
  rcases idx_cases u1 3 with ⟨i, hi, _, rfl⟩ | ho
  · have e : fX10_within (Int32.ofNat i) 0 2 = some 1 := within_in (n := 2) rfl (by omega) (by decide)
    have eb : fX9_requireBelow (Int32.ofNat i) 3 = some 0 := reqB_in (n := 3) hi (by omega)
    have hpre : ∀ {is ln1 ts1 s1 nx1 many1 : Int32} {spl1 : Nat → Int32}, fX10_reads (Int32.ofNat n) ts s nx many text spl = some (is, ln1, ts1, s1, nx1, many1, spl1) → fX10_find (Int32.ofNat i) t0 (Int32.ofNat n) ts s nx many now names text spl = (if is = 0 then (some ((-1), 0, ln1, ts1, s1, nx1, many1, spl1)) else (if Int32.ofNat i = 0 then (gb1 (fX10_userNamed many1 now names spl1) fun (r_4 : Int32) => some (r_4, 0, ln1, ts1, s1, nx1, many1, spl1)) else (if Int32.ofNat i = 2 then (gb3 (fX10_firstWord many1 now spl1) fun (r_5 : Int32) (M_many_2 : Int32) (spelled_2 : (Nat → Int32)) => some (r_5, 0, ln1, ts1, s1, nx1, M_many_2, spelled_2)) else (if many1 ≤ 6 then (gb1 (fX10_code 0 many1 spl1) fun (r_6 : Int32) => gb1 (fX10_pieceOf r_6 now) fun (r_7 : Int32) => some (r_7, 0, ln1, ts1, s1, nx1, many1, spl1)) else (some ((-1), 0, ln1, ts1, s1, nx1, many1, spl1)))))) := by
      intro is ln1 ts1 s1 nx1 many1 spl1 h
      rw [fX10_find, h, gb7_some, e, gb1_some, Lt_eq, if_neg (by decide)]
      dsimp only
      rw [throws_no, gb2_some, if_pos rfl]
    rcases c_takeWord x1 hb1 with ⟨hw, et⟩ | ⟨hw, et⟩
    · obtain ⟨wl1, wl2, wl3⟩ := wL_ok hw
      have hl12 : (wL bt n).length ≤ 12 := by rw [wl2]; exact hw.2.1
      obtain ⟨⟨is, ln1, ts1, s1, nx1, many1, spl1⟩, er, r1, r2, r3, r4⟩ := (hR.resolve_right (fun h => h.1 hw)).2
      simp only at r1 r2 r3 r4
      subst r1 r2 r3
      have hM := hpre er
      rw [if_neg (by decide)] at hM
      have hC : ∀ v, (i = 0 → v = nr A.1.1 A.1.2.1 (wL bt n)) → (i = 1 → v = nr A.2.1.1 A.2.1.2.1 (wL bt n)) → (i = 2 → v = nr A.2.2.1.1 A.2.2.1.2.1 (wL bt n)) → fX9_find (Int32.ofNat i) (Int32.ofNat n) buf b.2.2.2.2.2.1 b.2.2.2.2.2.2.1 b.2.2.2.2.2.2.2 = some (0, v, 0) := by
        intro v v0 v1 v2
        rw [fX9_find, et, gb2_some, eb, gb1_some, if_pos rfl, if_neg (L64_ne0 wl1 hl12 wl3)]
        have hi3 : i = 0 ∨ i = 1 ∨ i = 2 := by omega
        rcases hi3 with rfl | rfl | rfl
        · rw [if_pos (by decide), c_numU hc.1 hI.1.1 (fun j hj => hI.1.2 j hj) wl1 hl12, gb1_some, v0 rfl]
        · rw [if_neg (by decide), if_pos (by decide), c_numP hc.2.1 hI.2.1.1 (okP_Inv hI) wl1 hl12, gb1_some, v1 rfl]
        · rw [if_neg (by decide), if_neg (by decide), c_numW hc.2.2.1 hI.2.2.1.1 (okW_Inv hI) wl1 hl12, gb1_some, v2 rfl]
      have hi3 : i = 0 ∨ i = 1 ∨ i = 2 := by omega
      rcases hi3 with rfl | rfl | rfl
      · rw [if_pos (by decide), m_userNamed hm hN hI wl1 hl12 r4, gb1_some] at hM
        exact ⟨0, _, 0, _, 0, _, _, _, _, _, _, hC _ (fun _ => rfl) (by omega) (by omega), hM, Or.inl ⟨rfl, rfl, rfl⟩, rfl, rfl⟩
      · rw [if_neg (by decide), if_neg (by decide)] at hM
        by_cases c6 : (wL bt n).length ≤ 6
        · have ec := m_code wl1 hl12 r4 (i := 0) (n0 := (wL bt n).length) (by omega)
          rw [List.drop_zero, List.take_length] at ec
          rw [if_pos (by rw [i_6, J_le _ _ (by omega) (by omega)]; exact c6), show fX10_code 0 (Int32.ofNat (wL bt n).length) spl1 = some (B32 (wL bt n)) from ec, gb1_some, m_pieceOf hm.2.1 hI.2.1.1 (ok6_Inv hI) wl1 c6, gb1_some] at hM
          exact ⟨0, _, 0, _, 0, _, _, _, _, _, _, hC _ (by omega) (fun _ => rfl) (by omega), hM, Or.inl ⟨rfl, rfl, rfl⟩, rfl, rfl⟩
        · rw [if_neg (by rw [i_6, J_le _ _ (by omega) (by omega)]; exact c6)] at hM
          exact ⟨0, M1, 0, _, 0, _, _, _, _, _, _, hC _ (by omega) (fun _ => (nr_long hI (by omega)).symm) (by omega), hM, Or.inl ⟨rfl, rfl, rfl⟩, rfl, rfl⟩
      · rw [if_neg (by decide), if_pos (by decide)] at hM
        obtain ⟨⟨r5, m5, s5⟩, f1, f2⟩ := m_firstWord hm hI wl1 hl12 r4
        simp only at f2
        rw [f1, gb3_some] at hM
        exact ⟨0, _, 0, _, 0, _, _, _, _, _, _, hC _ (by omega) (by omega) (fun _ => rfl), hM, Or.inl ⟨rfl, rfl, f2.symm⟩, rfl, rfl⟩
    · obtain ⟨⟨is, ln1, ts1, s1, nx1, many1, spl1⟩, er, r1, r2, r3⟩ := (hR.resolve_left (fun h => hw h.1)).2
      simp only at r1 r2 r3
      subst r1 r2
      have hM := hpre er
      rw [if_pos rfl] at hM
      refine ⟨0, -1, 0, _, 0, _, _, _, _, _, _, ?_, hM, Or.inl ⟨rfl, rfl, rfl⟩, rfl, rfl⟩
      rw [fX9_find, et, gb2_some, eb, gb1_some, if_pos rfl, if_pos z_cmp]
  · have e : fX10_within u1 0 2 = some 0 := within_out (n := 2) (by decide) ho
    have eb : fX9_requireBelow u1 3 = some 2 := reqB_out (n := 3) (by omega) ho
    have hC : ∃ row, fX9_takeWord (Int32.ofNat n) buf = some (row, 0) := by
      rcases c_takeWord x1 hb1 with ⟨_, et⟩ | ⟨_, et⟩
      · exact ⟨_, et⟩
      · exact ⟨_, et⟩
    have hM : ∃ is ts1 s1 nx1 many1 spl1, fX10_reads (Int32.ofNat n) ts s nx many text spl = some (is, 0, ts1, s1, nx1, many1, spl1) := by
      rcases hR with ⟨_, ⟨⟨is, ln1, ts1, s1, nx1, many1, spl1⟩, er, r1, r2, _⟩⟩ | ⟨_, ⟨⟨is, ln1, ts1, s1, nx1, many1, spl1⟩, er, r1, r2, _⟩⟩
      · simp only at r2; subst r2; exact ⟨_, _, _, _, _, _, er⟩
      · simp only at r2; subst r2; exact ⟨_, _, _, _, _, _, er⟩
    obtain ⟨row, et⟩ := hC
    obtain ⟨is, ts1, s1, nx1, many1, spl1, er⟩ := hM
    refine ⟨2, 0, 0, 0, 1, 0, ts1, s1, nx1, many1, spl1, ?_, ?_, Or.inr ⟨rfl, rfl⟩, rfl, rfl⟩
    · rw [fX9_find, et, gb2_some, eb, gb1_some, if_neg (by decide)]
    · rw [fX10_find, er, gb7_some, e, gb1_some, Lt_eq, if_pos rfl]
      dsimp only
      rw [throws_1, gb2_some, if_neg (by decide)]
