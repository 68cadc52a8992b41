theorem m_stores68 {at0 : Nat} (hat : 141 ≤ at0) (hat2 : at0 + 14 ≤ 365) {idx : List Nat} (hi12 : idx.length ≤ 12) {p1 : aPs} (hn : p1.1 ≤ 24) (hlt : ∀ q ∈ idx, q < p1.1) (hb : ∀ q, q < p1.1 → p1.2.2.2.2.1 q < 900000) (now3 : Nat → Int32) (hidx : ∀ m (h : m < idx.length), now3 (at0 + 2 + m) = Int32.ofNat (idx[m])) {x1 x2 : Int32} {k : (Nat → Int32) → Option (Int32 × Int32 × (Nat → Int32) × (Nat → Int32))} {Q : Int32 × Int32 × (Nat → Int32) × (Nat → Int32) → Prop} (hk : ∀ now', mP (pUses p1 idx) now' → (∀ x, ¬ (21 ≤ x ∧ x < 141) → now' x = now3 x) → Ok (k now') Q) : ∀ (d j n : Nat) (now : Nat → Int32), j + d = idx.length → d < n → mP (pUses p1 (idx.take j)) now → (∀ x, ¬ (21 ≤ x ∧ x < 141) → now x = now3 x) → Ok (fX10_stores_L68 x1 x2 (Int32.ofNat at0) (Int32.ofNat idx.length) k n (Int32.ofNat j) now) Q
  | d, j, 0, now, _, h2, _, _ => by omega
  | 0, j, n + 1, now, h1, _, hP, hfr => by
    rw [List.take_of_length_le (by omega)] at hP
    rw [fX10_stores_L68, if_pos (by rw [J_le _ _ (by omega) (by omega)]; omega)]
    exact hk now hP hfr
  | d + 1, j, n + 1, now, h1, h2, hP, hfr => by
    have hj : j < idx.length := by omega
    have hq := hlt _ (List.getElem_mem hj)
    have hnU := pUses_n (idx.take j) p1
    have hbq := hb _ hq
    have hcl := List.count_le_length (a := idx[j]) (l := idx.take j)
    have hul : (idx.take j).length ≤ 12 := by rw [List.length_take]; omega
    rw [fX10_stores_L68, if_neg (by rw [J_le _ _ (by omega) (by omega)]; omega), i_2, J_add, J_add, if_neg (by rw [i_0, J_lt _ _ (by omega) (by omega), J_nat _ (by omega)]; omega), J_nat _ (by omega), hfr (at0 + 2 + j) (by omega), hidx j hj]
    apply ok_gb1
    refine ok_mono (m_usesUp hP (by rw [hnU.1]; exact hn) (q := idx[j]) (by rw [hnU.1]; exact hq) (by rw [pUses_u]; omega)) ?_
    rintro now1 ⟨e1, e2⟩
    rw [i_1, J_add]
    refine m_stores68 hat hat2 hi12 hn hlt hb now3 hidx hk d (j + 1) n now1 (by omega) (by omega) ?_ (fun x hx => by rw [e2 x hx]; exact hfr x hx)
    rw [List.take_succ_eq_append_getElem hj, pUses_snoc]
    exact e1
theorem TB_sS {A : aB} (hI : Inv A) {l : List Nat} (hl : l.length ≤ 12) : (TB (sC A.2.1.1 A.2.1.2.1 A.2.2.2.1 true l) (A.2.2.2.1 2) l.length 0).1 < 1000000 := by
  have := TB_bought (np := A.2.1.1) (pl := A.2.1.2.1) hI.2.2.2.2.1.1 hI.2.2.2.2.1.2.1 hI.2.2.2.2.1.2.2.2.1 hl l.length 0 (by omega)
  omega
def sS (A : aB) (l : List Nat) : List (List Nat) := CL (sC A.2.1.1 A.2.1.2.1 A.2.2.2.1 true l) (A.2.2.2.1 2) l
theorem sS_ok {A : aB} (hI : Inv A) {l : List Nat} (hw : wf l) (hl : l.length ≤ 12) : (sS A l).flatten = l ∧ (sS A l).length ≤ 12 ∧ ∀ s ∈ sS A l, wf s ∧ 1 ≤ s.length ∧ s.length ≤ 6 := by
  have hf := TB_sS hI hl
  obtain ⟨o1, o2, o3⟩ := CL_ok hl hf
  refine ⟨o1, CL_len hl hf, fun s hs => ?_⟩
  obtain ⟨s1, s2, j, m, s3, _⟩ := o3 s hs
  exact ⟨mem_wf hw s3, s1, s2⟩
theorem m_stores {A : aB} {now : Nat → Int32} (hB : mB A now) (hI : Inv A) {u : Nat} (hu : u < A.1.1) (hw16 : A.2.2.1.1 < 16) {l : List Nat} (hw : wf l) (hl : l.length ≤ 12) {spl : Nat → Int32} (hs : sp l spl) {g : Nat → Int32} (hg : ∀ x, x < l.length → g x = Int32.ofNat (TB (sC A.2.1.1 A.2.1.2.1 A.2.2.2.1 true l) (A.2.2.2.1 2) l.length x).2.2) (hroom : A.2.1.1 + (frs A.2.1.1 A.2.1.2.1 [] (sS A l)).length ≤ 24) (hcoin : prS A.2.2.2.1 (frs A.2.1.1 A.2.1.2.1 [] (sS A l)) + A.2.2.2.1 2 * (sS A l).length ≤ A.1.2.2 u) (fm : Int32) (fa : Nat → Int32) : Ok (fX10_stores (Int32.ofNat u) (Int32.ofNat l.length) fm now spl g fa) (fun r => r.1 = Int32.ofNat A.2.2.1.1 ∧ mB (aStore A u l (sS A l)) r.2.2.1) := by
  obtain ⟨s1, s2, s3⟩ := sS_ok hI hw hl
  have h4 := hI.1.1
  have h24 := hI.2.1.1
  have hf := TB_sS hI hl
  have hfl := frs_len A.2.1.1 A.2.1.2.1 [] (sS A l)
  rw [List.length_nil] at hfl
  have hfrw : ∀ x ∈ frs A.2.1.1 A.2.1.2.1 [] (sS A l), wf x ∧ x.length ≤ 6 := by
    intro x hx
    rcases frs_sub _ _ _ _ _ hx with h | h
    · cases h
    · have := s3 x h.1
      exact ⟨this.1, this.2.2⟩
  rw [fX10_stores]
  apply ok_gb2
  refine ok_mono (m_laysFresh hB.2.1 h24 (ok6_Inv hI) hw hl hs hg hf fm fa) ?_
  rintro ⟨fm1, fa1⟩ hb
  refine m_stores6 (A := A) (fr := frs A.2.1.1 A.2.1.2.1 [] (sS A l)) h4 hu hroom hfrw (by omega) hb (by omega) ?_ (frs A.2.1.1 A.2.1.2.1 [] (sS A l)).length 0 FU now (by omega) (by simp only [FU]; omega) (by rw [List.take_zero, aBys_0]; exact hB)
  intro now1 hB1
  obtain ⟨c1, c2, c3, c4, c5, c6, c7, c8⟩ := hB1
  have e10 : now1 10 = Int32.ofNat A.2.2.1.1 := c3.1
  have hn1 : (aBys A u (frs A.2.1.1 A.2.1.2.1 [] (sS A l))).2.1.1 = A.2.1.1 + (frs A.2.1.1 A.2.1.2.1 [] (sS A l)).length := pBuys_n _ _ _ _ _
  have hp1 : (aBys A u (frs A.2.1.1 A.2.1.2.1 [] (sS A l))).2.1 = stB A.2.2.2.1 (Int32.ofNat u) A.2.2.2.2.2.1 A.2.1 (sS A l) := rfl
  have eat : (141 : Int32) + 14 * now1 10 = Int32.ofNat (141 + 14 * A.2.2.1.1) := by
    rw [e10, J_lmul, i_141, J_add]
  have eat0 : (141 : Int32) + 14 * now1 10 + 0 = Int32.ofNat (141 + 14 * A.2.2.1.1) := by
    rw [eat]
    exact Int32.add_zero _
  have hck : ¬ (Int32.ofNat (141 + 14 * A.2.2.1.1) < 0 ∨ 365 ≤ (Int32.ofNat (141 + 14 * A.2.2.1.1)).toNatClampNeg) := by
    rw [i_0, J_lt _ _ (by omega) (by omega), J_nat _ (by omega)]
    omega
  rw [eat0, if_neg hck, Lt_eq, eat, J_nat _ (by omega)]
  apply ok_gb2
  have hknow : ∀ s ∈ sS A l, fnd (stB A.2.2.2.1 (Int32.ofNat u) A.2.2.2.2.2.1 A.2.1 (sS A l)).1 (stB A.2.2.2.1 (Int32.ofNat u) A.2.2.2.2.2.1 A.2.1 (sS A l)).2.1 s < (stB A.2.2.2.1 (Int32.ofNat u) A.2.2.2.2.2.1 A.2.1 (sS A l)).1 := by
    intro s hs
    refine (kn_buys _ _ _).mpr ?_
    by_cases c : fnd A.2.1.1 A.2.1.2.1 s < A.2.1.1
    · exact Or.inl c
    · exact Or.inr (frs_mem _ _ _ _ _ hs c)
  rw [hp1] at hn1 c2
  have hP2 : mP (stB A.2.2.2.1 (Int32.ofNat u) A.2.2.2.2.2.1 A.2.1 (sS A l)) (upd now1 (141 + 14 * A.2.2.1.1) (Int32.ofNat u)) := mP_fr c2 (by omega) (fun k hk => upd_ne _ _ _ _ (by omega))
  have hr6 : okR (stB A.2.2.2.1 (Int32.ofNat u) A.2.2.2.2.2.1 A.2.1 (sS A l)).1 (stB A.2.2.2.1 (Int32.ofNat u) A.2.2.2.2.2.1 A.2.1 (sS A l)).2.1 6 := by
    intro q hq
    by_cases c : q < A.2.1.1
    · have e1 : (stB A.2.2.2.1 (Int32.ofNat u) A.2.2.2.2.2.1 A.2.1 (sS A l)).2.1 q = A.2.1.2.1 q := pBuys_lo _ _ _ _ _ _ c
      rw [e1]
      exact ok6_Inv hI q c
    · rw [hn1] at hq
      exact hfrw _ (pBuys_new A.2.2.2.1 (Int32.ofNat u) A.2.2.2.2.2.1 (frs A.2.1.1 A.2.1.2.1 [] (sS A l)) A.2.1 q (by omega) hq).1
  refine ok_mono (m_laysParts hP2 (by omega) hr6 hw hl hs hg hf hknow (at0 := 141 + 14 * A.2.2.1.1) (by omega) (by omega)) ?_
  rintro ⟨r1, now3⟩ ⟨d1, d2, d3, d4⟩
  simp only at d1 d2 d3 d4 ⊢
  have hidx : (sS A l).map (fnd (stB A.2.2.2.1 (Int32.ofNat u) A.2.2.2.2.2.1 A.2.1 (sS A l)).1 (stB A.2.2.2.1 (Int32.ofNat u) A.2.2.2.2.2.1 A.2.1 (sS A l)).2.1) = stI A.2.2.2.1 (Int32.ofNat u) A.2.2.2.2.2.1 A.2.1 (sS A l) := rfl
  have hil : (stI A.2.2.2.1 (Int32.ofNat u) A.2.2.2.2.2.1 A.2.1 (sS A l)).length = (sS A l).length := by rw [stI, List.length_map]
  have d1' : r1 = Int32.ofNat (stI A.2.2.2.1 (Int32.ofNat u) A.2.2.2.2.2.1 A.2.1 (sS A l)).length := by rw [hil]; exact d1
  have d3' : ∀ m (h : m < (stI A.2.2.2.1 (Int32.ofNat u) A.2.2.2.2.2.1 A.2.1 (sS A l)).length), now3 (141 + 14 * A.2.2.1.1 + 2 + m) = Int32.ofNat ((stI A.2.2.2.1 (Int32.ofNat u) A.2.2.2.2.2.1 A.2.1 (sS A l))[m]) := d3
  have hP3 : mP (stB A.2.2.2.1 (Int32.ofNat u) A.2.2.2.2.2.1 A.2.1 (sS A l)) now3 := mP_fr hP2 (by omega) (fun k hk => d4 k (by omega))
  have hub : ∀ q, q < (stB A.2.2.2.1 (Int32.ofNat u) A.2.2.2.2.2.1 A.2.1 (sS A l)).1 → (stB A.2.2.2.1 (Int32.ofNat u) A.2.2.2.2.2.1 A.2.1 (sS A l)).2.2.2.2.1 q < 900000 := by
    intro q hq
    by_cases c : q < A.2.1.1
    · have e1 : (stB A.2.2.2.1 (Int32.ofNat u) A.2.2.2.2.2.1 A.2.1 (sS A l)).2.2.2.2.1 q = A.2.1.2.2.2.2.1 q := (pBuys_keep _ _ _ _ _ _ c).2.2.1
      have := uses_bd hI c
      rw [e1]; omega
    · rw [hn1] at hq
      have e1 : (stB A.2.2.2.1 (Int32.ofNat u) A.2.2.2.2.2.1 A.2.1 (sS A l)).2.2.2.2.1 q = 0 := (pBuys_new A.2.2.2.1 (Int32.ofNat u) A.2.2.2.2.2.1 (frs A.2.1.1 A.2.1.2.1 [] (sS A l)) A.2.1 q (by omega) hq).2.2.2
      rw [e1]; omega
  rw [d1']
  refine m_stores68 (at0 := 141 + 14 * A.2.2.1.1) (by omega) (by omega) (by omega) (by omega) (stI_lt _ _ _ _ _) hub now3 d3' ?_ (stI A.2.2.2.1 (Int32.ofNat u) A.2.2.2.2.2.1 A.2.1 (sS A l)).length 0 FU now3 (by omega) (by simp only [FU]; omega) (by rw [List.take_zero]; exact hP3) (fun _ _ => rfl)
  intro now4 hP4 f4
  have g1 : ∀ x, ¬ (21 ≤ x ∧ x < 141) → ¬ (141 + 14 * A.2.2.1.1 ≤ x ∧ x < 141 + 14 * A.2.2.1.1 + 14) → now4 x = now1 x := by
    intro x h1 h2
    rw [f4 x h1, d4 x (by omega), upd_ne _ _ _ _ (by omega)]
  rw [g1 2 (by omega) (by omega), c4 2 (by omega), J_mul, hil, i_8, i_2, m_pays now4 (by omega) _ (by omega) (by omega), gb1_some, Lt_eq, e10]
  refine ok_some ⟨rfl, ?_, ?_, ?_, ?_, ?_, ?_, ?_, ?_⟩
  · refine ⟨?_, fun i hi => ?_⟩
    · simp (disch := omega) only [upd_ne]
      rw [g1 5 (by omega) (by omega)]
      exact c1.1
    · have hi2 : i < A.1.1 := hi
      have := c1.2 i hi2
      simp only [aStore] at hi ⊢
      by_cases c : i = u
      · subst c
        rw [up_eq]
        simp (disch := omega) only [upd_ne, upd_eq]
        rw [g1 (17 + i) (by omega) (by omega), this]
        simp only [aBys, up_eq]
        rw [J_sub _ _ (by omega)]
      · rw [up_ne _ _ _ _ c]
        simp (disch := omega) only [upd_ne]
        rw [g1 (17 + i) (by omega) (by omega), this]
        simp only [aBys, up_ne _ _ _ _ c]
  · have hnU := pUses_n (stI A.2.2.2.1 (Int32.ofNat u) A.2.2.2.2.2.1 A.2.1 (sS A l)) (stB A.2.2.2.1 (Int32.ofNat u) A.2.2.2.2.2.1 A.2.1 (sS A l))
    exact mP_fr hP4 (show (pUses (stB A.2.2.2.1 (Int32.ofNat u) A.2.2.2.2.2.1 A.2.1 (sS A l)) (stI A.2.2.2.1 (Int32.ofNat u) A.2.2.2.2.2.1 A.2.1 (sS A l))).1 ≤ 24 by rw [hnU.1]; omega) (fun k hk => by simp (disch := omega) only [upd_ne])
  · refine ⟨?_, fun i hi => ?_⟩
    · simp (disch := omega) only [upd_ne, upd_eq]
      rw [g1 10 (by omega) (by omega), e10, i_1, J_add]
      rfl
    · have hi3 : i < A.2.2.1.1 + 1 := hi
      show mR (up A.2.2.1.2.2.1 A.2.2.1.1 u i) (up A.2.2.1.2.2.2 A.2.2.1.1 (stI A.2.2.2.1 (Int32.ofNat u) A.2.2.2.2.2.1 A.2.1 (sS A l)) i) i _
      by_cases c : i = A.2.2.1.1
      · subst c
        rw [up_eq, up_eq]
        refine mR_fr (now := now3) ⟨?_, ?_, d3'⟩ (by omega) ?_
        · rw [d4 _ (by omega), upd_eq]
        · rw [d2, hil]
          rfl
        · intro k hk1 hk2
          simp (disch := omega) only [upd_ne]
          exact f4 k (by omega)
      · rw [up_ne _ _ _ _ c, up_ne _ _ _ _ c]
        have hi2 : i < A.2.2.1.1 := by omega
        refine mR_fr (now := now1) (c3.2 i hi2) (iW_len hI hi2) ?_
        intro k hk1 hk2
        simp (disch := omega) only [upd_ne]
        exact g1 k (by omega) (by omega)
  · intro i hi
    simp (disch := omega) only [upd_ne]
    rw [g1 i (by omega) (by omega)]
    exact c4 i hi
  · intro i hi
    have := c5 i hi
    simp only [aStore, sSto]
    by_cases c : i = 2
    · subst c
      rw [if_pos rfl]
      simp (disch := omega) only [upd_ne, upd_eq]
      rw [g1 (11 + 2) (by omega) (by omega), this]
      simp only [aBys, sBuy]
      rw [if_neg (by decide), if_neg (by decide)]
    · rw [if_neg c]
      simp (disch := omega) only [upd_ne]
      rw [g1 (11 + i) (by omega) (by omega), this]
      rfl
  · simp (disch := omega) only [upd_ne]
    rw [g1 6 (by omega) (by omega)]
    exact c6
  · simp (disch := omega) only [upd_ne]
    rw [g1 7 (by omega) (by omega)]
    exact c7
  · simp (disch := omega) only [upd_ne, upd_eq]
    rw [g1 8 (by omega) (by omega), c8]
    rfl
