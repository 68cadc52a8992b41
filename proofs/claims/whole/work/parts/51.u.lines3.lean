/-! lines of a text: words -/
variable {bt : Nat → Nat} {N : Nat} {tc tm : Nat → Int32}
theorem tot_store {A : aB} {u : Nat} (hu : u < A.1.1) {row : List Nat} {ps : List (List Nat)} (hcoin : prS A.2.2.2.1 (frs A.2.1.1 A.2.1.2.1 [] ps) + A.2.2.2.1 2 * ps.length ≤ A.1.2.2 u) : tot (aStore A u row ps) = tot A := by
  have hpaid := pBuys_paid A.2.2.2.1 (Int32.ofNat u) A.2.2.2.2.2.1 (frs A.2.1.1 A.2.1.2.1 [] ps) A.2.1
  have hun := pUses_n (stI A.2.2.2.1 (Int32.ofNat u) A.2.2.2.2.2.1 A.2.1 ps) (stB A.2.2.2.1 (Int32.ofNat u) A.2.2.2.2.2.1 A.2.1 ps)
  have huo := pUses_o (stI A.2.2.2.1 (Int32.ofNat u) A.2.2.2.2.2.1 A.2.1 ps) (stB A.2.2.2.1 (Int32.ofNat u) A.2.2.2.2.2.1 A.2.1 ps)
  have hli : (stI A.2.2.2.1 (Int32.ofNat u) A.2.2.2.2.2.1 A.2.1 ps).length = ps.length := by rw [stI, List.length_map]
  unfold tot
  simp only [aStore, hun.1, huo.1]
  have s1 := sm_up A.1.2.2 u (A.1.2.2 u - prS A.2.2.2.1 (frs A.2.1.1 A.2.1.2.1 [] ps) - A.2.2.2.1 2 * ps.length) A.1.1 hu
  have s2 : sm (stB A.2.2.2.1 (Int32.ofNat u) A.2.2.2.2.2.1 A.2.1 ps).2.2.1 (stB A.2.2.2.1 (Int32.ofNat u) A.2.2.2.2.2.1 A.2.1 ps).1 = sm A.2.1.2.2.1 A.2.1.1 + prS A.2.2.2.1 (frs A.2.1.1 A.2.1.2.1 [] ps) := hpaid
  have s3 : sm (fun j => (up A.2.2.1.2.2.2 A.2.2.1.1 (stI A.2.2.2.1 (Int32.ofNat u) A.2.2.2.2.2.1 A.2.1 ps) j).length) (A.2.2.1.1 + 1) = sm (fun j => (A.2.2.1.2.2.2 j).length) A.2.2.1.1 + ps.length := by
    rw [sm_succ, up_eq, hli]
    congr 1
    exact sm_congr (fun j hj => by rw [up_ne _ _ _ _ (by omega)])
  rw [s2, s3, Nat.mul_add]
  omega
theorem l_word (hN : N ≤ 600) (hY : tY N bt tc tm) {A : aB} {b : tBk} {now : Nat → Int32} {names : Nat → Int64} (hc : cBk A b) (hm : mB A now) (hn : mN A.1 names) (hD : dI A) {s e : Nat} (he : e ≤ N) (k : Int32) (le : Int64) (nu : Int32) (C : tCut) (S : tCutR) (tk vl many fm : Int32) (spl c f g fa : Nat → Int32) : (∃ (q : Nat) (cd nx kd at' : Int32) (le' : Int64) (nu' : Int32) (b' : tBk) (C' : tCut) (S' : tCutR) (st' nx' tk' vl' many' fm' : Int32) (now' spl' c' f' g' fa' : Nat → Int32), cd ≠ 0 ∧ fX5_readStoredWord (-1) (Int32.ofNat N) (Int32.ofNat e) 0 k (Int32.ofNat s) le nu b.1 b.2.1 b.2.2.1 b.2.2.2.1 b.2.2.2.2.1 b.2.2.2.2.2.1 b.2.2.2.2.2.2.1 b.2.2.2.2.2.2.2 C S tc = some (0, Int32.ofNat q, nx, cd, kd, at', le', nu', b'.2.1, b'.2.2.1, b'.2.2.2.2.1, b'.2.2.2.2.2.1, b'.2.2.2.2.2.2.1, b'.2.2.2.2.2.2.2, C', S') ∧ fX10_wordLine (Int32.ofNat N) (Int32.ofNat s) (Int32.ofNat e) tk vl 0 (-1) many fm now names tm spl c f g fa = some (0, st', nx', tk', vl', cd, Int32.ofNat q, many', fm', now', spl', c', f', g', fa')) ∨ (∃ (p2 s2 e2 K2 v2 : Nat) (kd at' : Int32) (le' : Int64) (nu' : Int32) (b' : tBk) (C' : tCut) (S' : tCutR) (many' fm' : Int32) (now' spl' c' f' g' fa' : Nat → Int32) (A' : aB), e ≤ p2 ∧ Tok N bt tc tm p2 s2 e2 K2 v2 ∧ fX5_readStoredWord (-1) (Int32.ofNat N) (Int32.ofNat e) 0 k (Int32.ofNat s) le nu b.1 b.2.1 b.2.2.1 b.2.2.2.1 b.2.2.2.2.1 b.2.2.2.2.2.1 b.2.2.2.2.2.2.1 b.2.2.2.2.2.2.2 C S tc = (gb8 (fX5_readSemicolon (-1) (Int32.ofNat N) (Int32.ofNat p2) 0 kd at' le' nu' tc) fun r x1 x2 x3 x4 x5 x6 x7 => some (r, x1, x2, x3, x4, x5, x6, x7, b'.2.1, b'.2.2.1, b'.2.2.2.2.1, b'.2.2.2.2.2.1, b'.2.2.2.2.2.2.1, b'.2.2.2.2.2.2.2, C', S')) ∧ fX10_wordLine (Int32.ofNat N) (Int32.ofNat s) (Int32.ofNat e) tk vl 0 (-1) many fm now names tm spl c f g fa = some (1, Int32.ofNat s2, Int32.ofNat e2, Int32.ofNat K2, Int32.ofNat v2, 0, -1, many', fm', now', spl', c', f', g', fa') ∧ b'.1 = b.1 ∧ b'.2.2.2.1 = b.2.2.2.1 ∧ cBk A' b' ∧ mB A' now' ∧ mN A'.1 names ∧ dI A') := by
  have hI := hD.1
  have h4 := hI.1.1
  have h16 := hI.2.2.1.1
  by_cases cf : A.2.2.1.1 < 16
  · obtain ⟨s1, e1, K1, v1, T1⟩ := tok hN hY he
    have cl := c_letters T1 (-1) 0 k (Int32.ofNat s) le nu
    have rs := r_spells hN hY T1 0 (-1) many spl
    by_cases cK : K1 = 1
    · obtain ⟨u', cl1⟩ := cl.1 cK
      obtain ⟨hw, hl, hne, spl1, rs1, rs2⟩ := rs.1 cK
      have eU := m_userNamed hm hn hI hw hl rs2
      have eC := c_numU hc.1 h4 (fun j hj => hI.1.2 j hj) hw hl
      have enr := nr_eq1 A.1.1 A.1.2.1 (lets bt s1 e1) (by omega)
      by_cases ck : fnd A.1.1 A.1.2.1 (lets bt s1 e1) < A.1.1
      · have hnn : ¬ (nr A.1.1 A.1.2.1 (lets bt s1 e1) = -1) := by
          rw [enr]
          exact fun h => h ck
        have hnu : nr A.1.1 A.1.2.1 (lets bt s1 e1) = Int32.ofNat (fnd A.1.1 A.1.2.1 (lets bt s1 e1)) := by rw [nr, if_pos ck]
        generalize fnd A.1.1 A.1.2.1 (lets bt s1 e1) = u at ck hnu
        obtain ⟨s2, e2, K2, v2, T2⟩ := tok hN hY T1.2.2.1
        have cl' := c_letters T2 (-1) 0 (kc K1) (Int32.ofNat s1) (L64 (lets bt s1 e1)) u'
        have rs' := r_spells hN hY T2 0 (-1) (Int32.ofNat (lets bt s1 e1).length) spl1
        have hpreR1 : ∀ {x : Option (Int32 × Int32 × Int32 × Int32 × Int32 × Int32 × Int32 × Int32 × Int32 × (Nat → Int32) × (Nat → Int32) × (Nat → Int32) × (Nat → Int32) × (Nat → Int32) × (Nat → Int32))}, (gb5 (fX10_spells (Int32.ofNat s2) (Int32.ofNat e2) (Int32.ofNat K2) 0 (-1) (Int32.ofNat (lets bt s1 e1).length) tm spl1) fun (r_5 : Int32) (M_error_4 : Int32) (M_errorAt_4 : Int32) (M_many_2 : Int32) (spelled_2 : (Nat → Int32)) => if r_5 = 0 then (some (0, Int32.ofNat s2, Int32.ofNat e2, Int32.ofNat K2, Int32.ofNat v2, M_error_4, M_errorAt_4, M_many_2, fm, now, spelled_2, c, f, g, fa)) else (gb3 (fX10_cutsCheapest M_many_2 now spelled_2 c f g) fun (cost_1 : (Nat → Int32)) (fewestFrom_1 : (Nat → Int32)) (first_1 : (Nat → Int32)) => gb3 (fX10_why (Int32.ofNat u) M_many_2 fm now spelled_2 fewestFrom_1 first_1 fa) fun (r_6 : Int32) (M_freshMany_1 : Int32) (fresh_1 : (Nat → Int32)) => Lt (fun (t0_3 : Int32) => (gb7 (fX10_starts 6 t0_3 (Int32.ofNat N) (Int32.ofNat s2) (Int32.ofNat e2) (Int32.ofNat K2) (Int32.ofNat v2) M_error_4 M_errorAt_4 tm) fun (r_7 : Int32) (M_start_3 : Int32) (M_next_3 : Int32) (M_token_3 : Int32) (M_value_3 : Int32) (M_error_5 : Int32) (M_errorAt_5 : Int32) => if r_7 = 0 then (some (0, M_start_3, M_next_3, M_token_3, M_value_3, M_error_5, M_errorAt_5, M_many_2, M_freshMany_1, now, spelled_2, cost_1, fewestFrom_1, first_1, fresh_1)) else (gb4 (fX10_stores (Int32.ofNat u) M_many_2 M_freshMany_1 now spelled_2 first_1 fresh_1) fun (r_8 : Int32) (M_freshMany_2 : Int32) (now_1 : (Nat → Int32)) (fresh_2 : (Nat → Int32)) => some (1, M_start_3, M_next_3, M_token_3, M_value_3, M_error_5, M_errorAt_5, M_many_2, M_freshMany_2, now_1, spelled_2, cost_1, fewestFrom_1, first_1, fresh_2)))) fun (j_3 : Int32 → Option (Int32 × Int32 × Int32 × Int32 × Int32 × Int32 × Int32 × Int32 × Int32 × (Nat → Int32) × (Nat → Int32) × (Nat → Int32) × (Nat → Int32) × (Nat → Int32) × (Nat → Int32))) => if r_6 = 0 then (j_3 1) else (j_3 0))) = x → fX10_wordLine (Int32.ofNat N) (Int32.ofNat s) (Int32.ofNat e) tk vl 0 (-1) many fm now names tm spl c f g fa = x := by
          intro x hx
          rw [fX10_wordLine, hm.2.2.1.1, Lt_eq, if_neg (by rw [i_16, J_le _ _ (by omega) (by omega)]; omega)]
          dsimp only
          rw [r_go T1, gb7_some, if_neg (by decide), rs1, gb5_some, if_neg (by decide), eU, gb1_some, Lt_eq, if_neg hnn]
          dsimp only
          rw [r_go T2, gb7_some, if_neg (by decide), hnu]
          exact hx
        have hpreC : ∀ {x : Option (Int32 × Int32 × Int32 × Int32 × Int32 × Int32 × Int64 × Int32 × Int32 × Int32 × (Nat → Int32) × tUsers × tPieces × tWords × tCut × tCutR)}, (gb8 (fX5_readLetters (-1) (Int32.ofNat N) (Int32.ofNat e1) 0 (kc K1) (Int32.ofNat s1) (L64 (lets bt s1 e1)) u' tc) fun (r_5 : Int32) (Pr_errorAt_3 : Int32) (Pr_next_2 : Int32) (Pr_errorCode_3 : Int32) (Pr_kind_2 : Int32) (Pr_tokenAt_2 : Int32) (Pr_letters_2 : Int64) (Pr_number_2 : Int32) => if r_5 = 0 then (some (0, Pr_errorAt_3, Pr_next_2, Pr_errorCode_3, Pr_kind_2, Pr_tokenAt_2, Pr_letters_2, Pr_number_2, b.2.1, b.2.2.1, b.2.2.2.2.1, b.2.2.2.2.2.1, b.2.2.2.2.2.2.1, b.2.2.2.2.2.2.2, C, S)) else (gb2 (fX2_cutCheapest Pr_letters_2 C S b.2.2.2.1 b.2.2.2.2.2.2.1) fun (C_1 : tCut) (S_1 : tCutR) => gb1 (fX1_refusal (Int32.ofNat u) b.2.2.2.1 b.2.2.2.2.2.1 b.2.2.2.2.2.2.1 b.2.2.2.2.2.2.2 C_1) fun (r_6 : Int32) => if r_6 = 0 then (gb7 (fX1_storeCutting (Int32.ofNat u) Pr_letters_2 b.1 b.2.1 b.2.2.1 b.2.2.2.1 b.2.2.2.2.1 b.2.2.2.2.2.1 b.2.2.2.2.2.2.1 b.2.2.2.2.2.2.2 C_1) fun (r_7 : Int32) (B_chest_1 : Int32) (B_fund_1 : Int32) (sums_1 : (Nat → Int32)) (U_1 : tUsers) (P_1 : tPieces) (W_1 : tWords) => gb8 (fX5_readSemicolon Pr_errorAt_3 (Int32.ofNat N) Pr_next_2 Pr_errorCode_3 Pr_kind_2 Pr_tokenAt_2 Pr_letters_2 Pr_number_2 tc) fun (r_8 : Int32) (Pr_errorAt_4 : Int32) (Pr_next_3 : Int32) (Pr_errorCode_4 : Int32) (Pr_kind_3 : Int32) (Pr_tokenAt_3 : Int32) (Pr_letters_3 : Int64) (Pr_number_3 : Int32) => some (r_8, Pr_errorAt_4, Pr_next_3, Pr_errorCode_4, Pr_kind_3, Pr_tokenAt_3, Pr_letters_3, Pr_number_3, B_chest_1, B_fund_1, sums_1, U_1, P_1, W_1, C_1, S_1)) else (gb3 (fX5_fail 6 Pr_errorAt_3 Pr_errorCode_3 Pr_tokenAt_2) fun (r_9 : Int32) (Pr_errorAt_5 : Int32) (Pr_errorCode_5 : Int32) => some (r_9, Pr_errorAt_5, Pr_next_2, Pr_errorCode_5, Pr_kind_2, Pr_tokenAt_2, Pr_letters_2, Pr_number_2, b.2.1, b.2.2.1, b.2.2.2.2.1, b.2.2.2.2.2.1, b.2.2.2.2.2.2.1, b.2.2.2.2.2.2.2, C_1, S_1)))) = x → fX5_readStoredWord (-1) (Int32.ofNat N) (Int32.ofNat e) 0 k (Int32.ofNat s) le nu b.1 b.2.1 b.2.2.1 b.2.2.2.1 b.2.2.2.2.1 b.2.2.2.2.2.1 b.2.2.2.2.2.2.1 b.2.2.2.2.2.2.2 C S tc = x := by
          intro x hx
          rw [fX5_readStoredWord, c_isFullW hc.2.2.1 h16, gb1_some, if_pos cf, if_pos (by rfl), cl1, gb8_some, if_neg (by decide), eC, gb1_some, if_neg hnn, hnu]
          exact hx
        by_cases cK2 : K2 = 1
        · obtain ⟨u2, cl2⟩ := cl'.1 cK2
          obtain ⟨hw2, hl2, hne2, spl2, rs3, rs4⟩ := rs'.1 cK2
          obtain ⟨⟨C', S'⟩, k1, k2, k3, k4⟩ := c_cheap hc hI hw2 hl2 C S
          simp only at k2 k3 k4
          obtain ⟨⟨c', f', g'⟩, m1, m2, m3⟩ := m_cheap hm hI hw2 hl2 rs4 c f g
          simp only at m2 m3
          obtain ⟨⟨r3, fm', fa'⟩, n1, n2⟩ := m_why hm hI hw2 hl2 rs4 m2 m3 ck fm fa
          simp only at n2
          have er0 := c_ref hc hI hw2 hl2 ck k2.1 k3 k4
          have hle := aRef_le A u (sS A (lets bt s2 e2))
          by_cases c0 : aRef A u (sS A (lets bt s2 e2)) = 0
          · obtain ⟨d1, d2, d3⟩ := aRef_0 c0
            obtain ⟨s1', s2', s3'⟩ := sS_ok hI hw2 hl2
            obtain ⟨s3, e3, K3, v3, T3⟩ := tok hN hY T2.2.2.1
            obtain ⟨⟨r, chest', fund', sums', U', P', W'⟩, q1, q2, q3⟩ := c_storeCutting (row := lets bt s2 e2) hc ck hI.1.1 (okP_Inv hI) d1 (fun j hj => iW_len hI hj) k2 s2' (fun x hx => ⟨(s3' x hx).1, by have := (s3' x hx).2.2; omega⟩) d2 d3
            simp only at q2 q3
            obtain ⟨⟨r6, fm2, now', fa2⟩, t1, t2, t3⟩ := m_stores hm hI ck d1 hw2 hl2 rs4 m3 d2 d3 fm' fa'
            simp only at t2 t3
            refine Or.inr ⟨e2, s3, e3, K3, v3, kc K2, Int32.ofNat s2, L64 (lets bt s2 e2), u2, (b.1, chest', fund', b.2.2.2.1, sums', U', P', W'), C', S', Int32.ofNat (lets bt s2 e2).length, fm2, now', spl2, c', f', g', fa2, aStore A u (lets bt s2 e2) (sS A (lets bt s2 e2)), ?_, T3, ?_, ?_, rfl, rfl, q3, t3, hn, Inv_store hI ck d1 s2' s1' hne2 hl2 s3' d2 d3, ?_, hD.2.2⟩
            · have := T1.1
              have := T1.2.1
              have := T2.1
              have := T2.2.1
              omega
            · refine hpreC ?_
              rw [cl2, gb8_some, if_neg (by decide), k1, gb2_some, er0, gb1_some, c0, if_pos (by rfl), q1, gb7_some]
            · refine hpreR1 ?_
              rw [rs3, gb5_some, if_neg (by decide), m1, gb3_some, n1, gb3_some, n2, c0, Lt_eq, if_pos (by rfl)]
              dsimp only
              rw [r_go T3, gb7_some, if_neg (by decide), t1, gb4_some]
            · rw [tot_store ck d3]
              exact hD.2.1
          · refine Or.inl ⟨s2, 6, Int32.ofNat e2, kc K2, Int32.ofNat s2, L64 (lets bt s2 e2), u2, b, C', S', Int32.ofNat s2, Int32.ofNat e2, Int32.ofNat K2, Int32.ofNat v2, Int32.ofNat (lets bt s2 e2).length, fm', now, spl2, c', f', g', fa', by decide, ?_, ?_⟩
            · refine hpreC ?_
              rw [cl2, gb8_some, if_neg (by decide), k1, gb2_some, er0, gb1_some, if_neg (by rw [i_0, J_eq _ _ (by omega) (by omega)]; exact c0), fX5_fail, gb3_some]
            · refine hpreR1 ?_
              rw [rs3, gb5_some, if_neg (by decide), m1, gb3_some, n1, gb3_some, n2, Lt_eq, if_neg (by rw [i_0, J_eq _ _ (by omega) (by omega)]; exact c0)]
              dsimp only
              rw [r_no, gb7_some, if_pos rfl]
        · obtain ⟨l2, u2, cl2⟩ := cl'.2 cK2
          have rs3 := rs'.2 cK2
          refine Or.inl ⟨s2, 1, Int32.ofNat e2, kc K2, Int32.ofNat s2, l2, u2, b, C, S, Int32.ofNat s2, Int32.ofNat e2, Int32.ofNat K2, Int32.ofNat v2, Int32.ofNat (lets bt s1 e1).length, fm, now, spl1, c, f, g, fa, by decide, ?_, ?_⟩
          · refine hpreC ?_
            rw [cl2, gb8_some, if_pos rfl]
          · refine hpreR1 ?_
            rw [rs3, gb5_some, if_pos rfl]
      · have hnn : nr A.1.1 A.1.2.1 (lets bt s1 e1) = -1 := by
          rw [enr]
          exact ck
        refine Or.inl ⟨s1, 4, Int32.ofNat e1, kc K1, Int32.ofNat s1, L64 (lets bt s1 e1), u', b, C, S, Int32.ofNat s1, Int32.ofNat e1, Int32.ofNat K1, Int32.ofNat v1, Int32.ofNat (lets bt s1 e1).length, fm, now, spl1, c, f, g, fa, by decide, ?_, ?_⟩
        · rw [fX5_readStoredWord, c_isFullW hc.2.2.1 h16, gb1_some, if_pos cf, if_pos (by rfl), cl1, gb8_some, if_neg (by decide), eC, gb1_some, if_pos hnn, fX5_fail, gb3_some]
        · rw [fX10_wordLine, hm.2.2.1.1, Lt_eq, if_neg (by rw [i_16, J_le _ _ (by omega) (by omega)]; omega)]
          dsimp only
          rw [r_go T1, gb7_some, if_neg (by decide), rs1, gb5_some, if_neg (by decide), eU, gb1_some, Lt_eq, if_pos hnn]
          dsimp only
          rw [r_no, gb7_some, if_pos rfl]
    · obtain ⟨l', u', cl1⟩ := cl.2 cK
      have rs1 := rs.2 cK
      refine Or.inl ⟨s1, 1, Int32.ofNat e1, kc K1, Int32.ofNat s1, l', u', b, C, S, Int32.ofNat s1, Int32.ofNat e1, Int32.ofNat K1, Int32.ofNat v1, many, fm, now, spl, c, f, g, fa, by decide, ?_, ?_⟩
      · rw [fX5_readStoredWord, c_isFullW hc.2.2.1 h16, gb1_some, if_pos cf, if_pos (by rfl), cl1, gb8_some, if_pos rfl]
      · rw [fX10_wordLine, hm.2.2.1.1, Lt_eq, if_neg (by rw [i_16, J_le _ _ (by omega) (by omega)]; omega)]
        dsimp only
        rw [r_go T1, gb7_some, if_neg (by decide), rs1, gb5_some, if_pos rfl]
  · refine Or.inl ⟨s, 5, Int32.ofNat e, k, Int32.ofNat s, le, nu, b, C, S, Int32.ofNat s, Int32.ofNat e, tk, vl, many, fm, now, spl, c, f, g, fa, by decide, ?_, ?_⟩
    · rw [fX5_readStoredWord, c_isFullW hc.2.2.1 h16, gb1_some, if_neg cf, if_neg (by decide), fX5_fail, gb3_some]
    · rw [fX10_wordLine, hm.2.2.1.1, Lt_eq, if_pos (by rw [i_16, J_le _ _ (by omega) (by omega)]; omega)]
      dsimp only
      rw [r_no, gb7_some, if_pos rfl]
