/-! lines of a text: users, pieces -/
def tot (A : aB) : Nat := sm A.1.2.2 A.1.1 + sm A.2.1.2.2.1 A.2.1.1 + A.2.2.2.1 2 * sm (fun i => (A.2.2.1.2.2.2 i).length) A.2.2.1.1
def dI (A : aB) : Prop := Inv A ∧ tot A ≤ 9999 * A.1.1 ∧ A.2.2.2.2.2.1 = 0
def aUser (A : aB) (l : List Nat) (co : Nat) : aB := ((A.1.1 + 1, up A.1.2.1 A.1.1 l, up A.1.2.2 A.1.1 co), A.2)
theorem dI_user {A : aB} (h : dI A) {l : List Nat} {co : Nat} (h4 : A.1.1 < 4) (hw : wf l) (hl : l.length ≤ 12) (hco : co ≤ 9999) : dI (aUser A l co) := by
  obtain ⟨⟨h1, h2, h3, h4', h5, h6⟩, ht, h0⟩ := h
  have s1 : sm (up A.1.2.2 A.1.1 co) (A.1.1 + 1) = sm A.1.2.2 A.1.1 + co := by
    rw [sm_succ, up_eq, sm_up_ge _ _ _ _ (Nat.le_refl _)]
  have ht2 : tot (aUser A l co) = tot A + co := by
    show sm (up A.1.2.2 A.1.1 co) (A.1.1 + 1) + sm A.2.1.2.2.1 A.2.1.1 + A.2.2.2.1 2 * sm (fun i => (A.2.2.1.2.2.2 i).length) A.2.2.1.1 = _
    rw [s1]
    unfold tot
    omega
  have hn : (aUser A l co).1.1 = A.1.1 + 1 := rfl
  refine ⟨⟨⟨by rw [hn]; omega, fun i hi => ?_⟩, ⟨h2.1, fun q hq => ?_⟩, ⟨h3.1, fun i hi => ?_⟩, h4', h5, ?_⟩, by rw [ht2, hn]; omega, h0⟩
  · show wf (up A.1.2.1 A.1.1 l i) ∧ (up A.1.2.1 A.1.1 l i).length ≤ 12
    by_cases c : i = A.1.1
    · rw [c, up_eq]
      exact ⟨hw, hl⟩
    · rw [up_ne _ _ _ _ c]
      exact h1.2 i (by rw [hn] at hi; omega)
  · obtain ⟨a1, a2, a3, a4, a5⟩ := h2.2 q hq
    refine ⟨a1, a2, a3, a4, a5.imp id ?_⟩
    rintro ⟨u, hu, e⟩
    exact ⟨u, by rw [hn]; omega, e⟩
  · obtain ⟨a1, a2⟩ := h3.2 i hi
    exact ⟨Nat.lt_succ_of_lt a1, a2⟩
  · show tot (aUser A l co) ≤ 40000
    rw [ht2]
    omega
def aPiece (A : aB) (l : List Nat) : aB := (A.1, pAdd A.2.1 l 0 M1 0, A.2.2)
theorem dI_piece {A : aB} (h : dI A) {l : List Nat} (hn : A.2.1.1 < 24) (hw : wf l) (h1' : 1 ≤ l.length) (hl : l.length ≤ 6) : dI (aPiece A l) := by
  obtain ⟨⟨h1, h2, h3, h4, h5, h6⟩, ht, h0⟩ := h
  have s2 : sm (up A.2.1.2.2.1 A.2.1.1 0) (A.2.1.1 + 1) = sm A.2.1.2.2.1 A.2.1.1 := by
    rw [sm_succ, up_eq, sm_up_ge _ _ _ _ (Nat.le_refl _), Nat.add_zero]
  have ht2 : tot (aPiece A l) = tot A := by
    show sm A.1.2.2 A.1.1 + sm (up A.2.1.2.2.1 A.2.1.1 0) (A.2.1.1 + 1) + A.2.2.2.1 2 * sm (fun i => (A.2.2.1.2.2.2 i).length) A.2.2.1.1 = _
    rw [s2]
    rfl
  refine ⟨⟨h1, ⟨?_, ?_⟩, ⟨h3.1, ?_⟩, ?_, h5, ?_⟩, by rw [ht2]; exact ht, h0⟩
  · show A.2.1.1 + 1 ≤ 24
    omega
  · intro q hq
    have hq' : q < A.2.1.1 + 1 := hq
    show wf (up A.2.1.2.1 A.2.1.1 l q) ∧ 1 ≤ (up A.2.1.2.1 A.2.1.1 l q).length ∧ (up A.2.1.2.1 A.2.1.1 l q).length ≤ 6 ∧ up A.2.1.2.2.1 A.2.1.1 0 q ≤ 1000 ∧ (up A.2.1.2.2.2.1 A.2.1.1 M1 q = M1 ∨ ∃ v, v < A.1.1 ∧ up A.2.1.2.2.2.1 A.2.1.1 M1 q = Int32.ofNat v)
    by_cases c : q = A.2.1.1
    · rw [c, up_eq, up_eq, up_eq]
      exact ⟨hw, h1', hl, by omega, Or.inl rfl⟩
    · rw [up_ne _ _ _ _ c, up_ne _ _ _ _ c, up_ne _ _ _ _ c]
      exact h2.2 q (by omega)
  · intro j hj
    obtain ⟨a1, a2, a3, a4, a5⟩ := h3.2 j hj
    refine ⟨a1, fun q hq => Nat.lt_succ_of_lt (a2 q hq), ?_, a4, a5⟩
    rw [show (aPiece A l).2.2.1.2.1 j = A.2.2.1.2.1 j from rfl, a3]
    refine jn_congr (fun q hq => ?_)
    have := a2 q hq
    exact (up_ne A.2.1.2.1 A.2.1.1 l q (by omega)).symm
  · intro q hq
    have hq' : q < A.2.1.1 + 1 := hq
    show up A.2.1.2.2.2.2.1 A.2.1.1 0 q = sm (fun j => (A.2.2.1.2.2.2 j).count q) A.2.2.1.1
    by_cases c : q = A.2.1.1
    · rw [c, up_eq]
      have : sm (fun j => (A.2.2.1.2.2.2 j).count A.2.1.1) A.2.2.1.1 = sm (fun _ => 0) A.2.2.1.1 := sm_congr (fun j hj => List.count_eq_zero.mpr (fun hm => by have := (h3.2 j hj).2.1 _ hm; omega))
      rw [this]
      have z : ∀ n, sm (fun _ => 0) n = 0 := by
        intro n
        induction n with
        | zero => rfl
        | succ n ih => rw [sm_succ, ih]
      rw [z]
    · rw [up_ne _ _ _ _ c]
      exact h4 q (by omega)
  · show tot (aPiece A l) ≤ 40000
    rw [ht2]
    exact h6
variable {bt : Nat → Nat} {N : Nat} {tc tm : Nat → Int32}
theorem nr_eq1 (n : Nat) (f : Nat → List Nat) (x : List Nat) (hn : n < 1000000) : (nr n f x = -1) = ¬ (fnd n f x < n) := nr_eq n f x hn
theorem l_user (hN : N ≤ 600) (hY : tY N bt tc tm) {A : aB} {U : tUsers} {now : Nat → Int32} {names : Nat → Int64} (hc : cU A.1 U) (hm : mB A now) (hn : mN A.1 names) (hD : dI A) {s e : Nat} (he : e ≤ N) (k : Int32) (le : Int64) (nu tk vl nu2 many : Int32) (spl : Nat → Int32) : (∃ (q : Nat) (c nx kd at' : Int32) (le' : Int64) (nu' : Int32) (U' : tUsers) (st' nx' tk' vl' nu2' many' : Int32) (now' : Nat → Int32) (names' : Nat → Int64) (spl' : Nat → Int32), c ≠ 0 ∧ fX5_readUser (-1) (Int32.ofNat N) (Int32.ofNat e) 0 k (Int32.ofNat s) le nu U tc = some (0, Int32.ofNat q, nx, c, kd, at', le', nu', U') ∧ fX10_userLine (Int32.ofNat N) (Int32.ofNat s) (Int32.ofNat e) tk vl 0 (-1) nu2 many now names tm spl = some (0, st', nx', tk', vl', c, Int32.ofNat q, nu2', many', now', names', spl')) ∨ (∃ (p2 s2 e2 K2 v2 : Nat) (kd at' : Int32) (le' : Int64) (nu' : Int32) (U' : tUsers) (nu2' many' : Int32) (now' : Nat → Int32) (names' : Nat → Int64) (spl' : Nat → Int32) (A' : aB), e ≤ p2 ∧ Tok N bt tc tm p2 s2 e2 K2 v2 ∧ fX5_readUser (-1) (Int32.ofNat N) (Int32.ofNat e) 0 k (Int32.ofNat s) le nu U tc = (gb8 (fX5_readSemicolon (-1) (Int32.ofNat N) (Int32.ofNat p2) 0 kd at' le' nu' tc) fun r a b c d e f g => some (r, a, b, c, d, e, f, g, U')) ∧ fX10_userLine (Int32.ofNat N) (Int32.ofNat s) (Int32.ofNat e) tk vl 0 (-1) nu2 many now names tm spl = some (1, Int32.ofNat s2, Int32.ofNat e2, Int32.ofNat K2, Int32.ofNat v2, 0, -1, nu2', many', now', names', spl') ∧ A'.2 = A.2 ∧ cU A'.1 U' ∧ mB A' now' ∧ mN A'.1 names' ∧ dI A') := by
  have hI := hD.1
  have h4 := hI.1.1
  by_cases cf : A.1.1 < 4
  · obtain ⟨s1, e1, K1, v1, T1⟩ := tok hN hY he
    have cl := c_letters T1 (-1) 0 k (Int32.ofNat s) le nu
    have rs := r_spells hN hY T1 0 (-1) many spl
    have hpreC : fX5_readUser (-1) (Int32.ofNat N) (Int32.ofNat e) 0 k (Int32.ofNat s) le nu U tc = gb8 (fX5_readLetters (-1) (Int32.ofNat N) (Int32.ofNat e) 0 k (Int32.ofNat s) le nu tc) fun (r_2 : Int32) (Pr_errorAt_1 : Int32) (Pr_next_1 : Int32) (Pr_errorCode_1 : Int32) (Pr_kind_1 : Int32) (Pr_tokenAt_1 : Int32) (Pr_letters_1 : Int64) (Pr_number_1 : Int32) => if r_2 = 0 then (some (0, Pr_errorAt_1, Pr_next_1, Pr_errorCode_1, Pr_kind_1, Pr_tokenAt_1, Pr_letters_1, Pr_number_1, U)) else (gb1 (fX7_numberOf Pr_letters_1 U) fun (r_3 : Int32) => if r_3 = (-1) then (gb8 (fX5_readNumber 0 9999 Pr_errorAt_1 (Int32.ofNat N) Pr_next_1 Pr_errorCode_1 Pr_kind_1 Pr_tokenAt_1 Pr_letters_1 Pr_number_1 tc) fun (r_4 : Int32) (Pr_errorAt_2 : Int32) (Pr_next_2 : Int32) (Pr_errorCode_2 : Int32) (Pr_kind_2 : Int32) (Pr_tokenAt_2 : Int32) (Pr_letters_2 : Int64) (Pr_number_2 : Int32) => if r_4 = 0 then (some (0, Pr_errorAt_2, Pr_next_2, Pr_errorCode_2, Pr_kind_2, Pr_tokenAt_2, Pr_letters_2, Pr_number_2, U)) else (gb1 (fX7_add Pr_letters_1 Pr_number_2 U) fun (U_1 : tUsers) => gb8 (fX5_readSemicolon Pr_errorAt_2 (Int32.ofNat N) Pr_next_2 Pr_errorCode_2 Pr_kind_2 Pr_tokenAt_2 Pr_letters_2 Pr_number_2 tc) fun (r_5 : Int32) (Pr_errorAt_3 : Int32) (Pr_next_3 : Int32) (Pr_errorCode_3 : Int32) (Pr_kind_3 : Int32) (Pr_tokenAt_3 : Int32) (Pr_letters_3 : Int64) (Pr_number_3 : Int32) => some (r_5, Pr_errorAt_3, Pr_next_3, Pr_errorCode_3, Pr_kind_3, Pr_tokenAt_3, Pr_letters_3, Pr_number_3, U_1))) else (gb3 (fX5_fail 2 Pr_errorAt_1 Pr_errorCode_1 Pr_tokenAt_1) fun (r_6 : Int32) (Pr_errorAt_4 : Int32) (Pr_errorCode_4 : Int32) => some (r_6, Pr_errorAt_4, Pr_next_1, Pr_errorCode_4, Pr_kind_1, Pr_tokenAt_1, Pr_letters_1, Pr_number_1, U))) := by
      rw [fX5_readUser, c_isFullU hc h4, gb1_some, if_pos cf, if_pos (by rfl)]
    by_cases cK : K1 = 1
    · obtain ⟨u', cl1⟩ := cl.1 cK
      obtain ⟨hw, hl, hne, spl1, rs1, rs2⟩ := rs.1 cK
      have eN := m_name hw hl rs2
      have eU := m_userNamed hm hn hI hw hl rs2
      have eC := c_numU hc h4 (fun j hj => hI.1.2 j hj) hw hl
      have enr := nr_eq1 A.1.1 A.1.2.1 (lets bt s1 e1) (by omega)
      by_cases ck : fnd A.1.1 A.1.2.1 (lets bt s1 e1) < A.1.1
      · have hnn : ¬ (nr A.1.1 A.1.2.1 (lets bt s1 e1) = -1) := by
          rw [enr]
          exact fun h => h ck
        refine Or.inl ⟨s1, 2, Int32.ofNat e1, kc K1, Int32.ofNat s1, L64 (lets bt s1 e1), u', U, Int32.ofNat s1, Int32.ofNat e1, Int32.ofNat K1, Int32.ofNat v1, nu2, Int32.ofNat (lets bt s1 e1).length, now, names, spl1, by decide, ?_, ?_⟩
        · rw [hpreC, cl1, gb8_some, if_neg (by decide), eC, gb1_some, if_neg hnn, fX5_fail, gb3_some]
        · rw [fX10_userLine, hm.1.1, Lt_eq, if_neg (by rw [i_4, J_le _ _ (by omega) (by omega)]; omega)]
          dsimp only
          rw [r_go T1, gb7_some, if_neg (by decide), rs1, gb5_some, if_neg (by decide), eN, gb1_some, eU, gb1_some, Lt_eq, if_neg hnn]
          dsimp only
          rw [r_no, gb7_some, if_pos rfl]
      · have hnn : nr A.1.1 A.1.2.1 (lets bt s1 e1) = -1 := by
          rw [enr]
          exact ck
        obtain ⟨s2, e2, K2, v2, T2⟩ := tok hN hY T1.2.2.1
        obtain ⟨s3, e3, K3, v3, T3⟩ := tok hN hY T2.2.2.1
        have cn := c_number T2 (lo := 0) (hi := 9999) (by omega) (by omega) (-1) 0 (kc K1) (Int32.ofNat s1) (L64 (lets bt s1 e1)) u'
        have rl := r_lays T2 T3 (lo := 0) (hi := 9999) (by omega) (by omega) (w := 17 + A.1.1) (by omega) (-1) nu2 now
        have hpreR : fX10_userLine (Int32.ofNat N) (Int32.ofNat s) (Int32.ofNat e) tk vl 0 (-1) nu2 many now names tm spl = gb9 (fX10_lays (Int32.ofNat (17 + A.1.1)) 0 9999 (Int32.ofNat N) (Int32.ofNat s2) (Int32.ofNat e2) (Int32.ofNat K2) (Int32.ofNat v2) 0 (-1) nu2 now tm) fun (r_6 : Int32) (M_start_3 : Int32) (M_next_3 : Int32) (M_token_3 : Int32) (M_value_3 : Int32) (M_error_4 : Int32) (M_errorAt_4 : Int32) (M_number_1 : Int32) (now_1 : (Nat → Int32)) => if r_6 = 0 then (some (0, M_start_3, M_next_3, M_token_3, M_value_3, M_error_4, M_errorAt_4, M_number_1, Int32.ofNat (lets bt s1 e1).length, now_1, names, spl1)) else (if Int32.ofNat A.1.1 < 0 ∨ 4 ≤ (Int32.ofNat A.1.1).toNatClampNeg then none else Lt (vp_updL names ((Int32.ofNat A.1.1).toNatClampNeg) (B64 (lets bt s1 e1))) fun (names_1 : (Nat → Int64)) => Lt (upd now_1 5 ((now_1 5) + 1)) fun (now_2 : (Nat → Int32)) => some (1, M_start_3, M_next_3, M_token_3, M_value_3, M_error_4, M_errorAt_4, M_number_1, Int32.ofNat (lets bt s1 e1).length, now_2, names_1, spl1)) := by
          rw [fX10_userLine, hm.1.1, Lt_eq, if_neg (by rw [i_4, J_le _ _ (by omega) (by omega)]; omega)]
          dsimp only
          rw [r_go T1, gb7_some, if_neg (by decide), rs1, gb5_some, if_neg (by decide), eN, gb1_some, eU, gb1_some, Lt_eq, if_pos hnn]
          dsimp only
          rw [r_go T2, gb7_some, if_neg (by decide), i_17, J_add]
        by_cases cn2 : K2 = 2 ∧ 0 ≤ v2 ∧ v2 ≤ 9999
        · obtain ⟨l2, cn3⟩ := cn.1 cn2
          have rl2 := rl.1 cn2
          obtain ⟨U', ca, cb⟩ := c_addU hc cf (lets bt s1 e1) v2
          refine Or.inr ⟨e2, s3, e3, K3, v3, kc K2, Int32.ofNat s2, l2, Int32.ofNat v2, U', Int32.ofNat v2, Int32.ofNat (lets bt s1 e1).length, upd (upd now (17 + A.1.1) (Int32.ofNat v2)) 5 (Int32.ofNat (A.1.1 + 1)), vp_updL names A.1.1 (B64 (lets bt s1 e1)), spl1, aUser A (lets bt s1 e1) v2, ?_, T3, ?_, ?_, rfl, cb, ?_, ?_, dI_user hD cf hw hl cn2.2.2⟩
          · have := T1.1
            have := T1.2.1
            have := T2.1
            have := T2.2.1
            omega
          · rw [hpreC, cl1, gb8_some, if_neg (by decide), eC, gb1_some, if_pos hnn, show fX5_readNumber 0 9999 (-1) (Int32.ofNat N) (Int32.ofNat e1) 0 (kc K1) (Int32.ofNat s1) (L64 (lets bt s1 e1)) u' tc = _ from cn3, gb8_some, if_neg (by decide), ca, gb1_some]
          · rw [hpreR]
            refine (congrArg (fun x => gb9 x _) rl2).trans ?_
            rw [gb9_some, if_neg (by decide), if_neg (inck (n := 4) cf (by omega) (by omega)), Lt_eq, Lt_eq, J_nat _ (by omega), upd_ne _ _ _ _ (by omega), hm.1.1, i_1, J_add]
          · obtain ⟨b1, b2, b3, b4, b5, b6, b7, b8⟩ := hm
            have hf : ∀ x, x ≠ 5 → x ≠ 17 + A.1.1 → upd (upd now (17 + A.1.1) (Int32.ofNat v2)) 5 (Int32.ofNat (A.1.1 + 1)) x = now x := by
              intro x h1 h2
              rw [upd_ne _ _ _ _ h1, upd_ne _ _ _ _ h2]
            refine ⟨⟨upd_eq _ _ _, fun i hi => ?_⟩, mP_fr b2 hI.2.1.1 (fun x hx => hf x (by omega) (by omega)), mW_fr b3 (fun x hx => hf x (by omega) (by omega)), mS_fr b4 (fun x hx => hf x (by omega) (by omega)), mA_fr b5 (fun x h1 h2 => hf x (by omega) (by omega)), by rw [hf 6 (by omega) (by omega)]; exact b6, by rw [hf 7 (by omega) (by omega)]; exact b7, by rw [hf 8 (by omega) (by omega)]; exact b8⟩
            have hi2 : i < A.1.1 + 1 := hi
            show _ = Int32.ofNat (up A.1.2.2 A.1.1 v2 i)
            rw [upd_ne _ _ _ _ (by omega)]
            by_cases c : i = A.1.1
            · rw [c, upd_eq, up_eq]
            · rw [upd_ne _ _ _ _ (by omega), up_ne _ _ _ _ c]
              exact b1.2 i (by omega)
          · intro i hi
            have hi2 : i < A.1.1 + 1 := hi
            show _ = B64 (up A.1.2.1 A.1.1 (lets bt s1 e1) i)
            by_cases c : i = A.1.1
            · rw [c, updL_eq, up_eq]
            · rw [updL_ne _ _ _ _ c, up_ne _ _ _ _ c]
              exact hn i (by omega)
        · obtain ⟨l2, u2, cn3⟩ := cn.2 cn2
          have rl2 := rl.2 cn2
          refine Or.inl ⟨s2, nC K2, Int32.ofNat e2, kc K2, Int32.ofNat s2, l2, u2, U, Int32.ofNat s2, Int32.ofNat e2, Int32.ofNat K2, Int32.ofNat v2, nu2, Int32.ofNat (lets bt s1 e1).length, now, names, spl1, ?_, ?_, ?_⟩
          · unfold nC
            split <;> decide
          · rw [hpreC, cl1, gb8_some, if_neg (by decide), eC, gb1_some, if_pos hnn, show fX5_readNumber 0 9999 (-1) (Int32.ofNat N) (Int32.ofNat e1) 0 (kc K1) (Int32.ofNat s1) (L64 (lets bt s1 e1)) u' tc = _ from cn3, gb8_some, if_pos rfl]
          · rw [hpreR]
            refine (congrArg (fun x => gb9 x _) rl2).trans ?_
            rw [gb9_some, if_pos rfl]
    · obtain ⟨l', u', cl1⟩ := cl.2 cK
      have rs1 := rs.2 cK
      refine Or.inl ⟨s1, 1, Int32.ofNat e1, kc K1, Int32.ofNat s1, l', u', U, Int32.ofNat s1, Int32.ofNat e1, Int32.ofNat K1, Int32.ofNat v1, nu2, many, now, names, spl, by decide, ?_, ?_⟩
      · rw [hpreC, cl1, gb8_some, if_pos rfl]
      · rw [fX10_userLine, hm.1.1, Lt_eq, if_neg (by rw [i_4, J_le _ _ (by omega) (by omega)]; omega)]
        dsimp only
        rw [r_go T1, gb7_some, if_neg (by decide), rs1, gb5_some, if_pos rfl]
  · refine Or.inl ⟨s, 5, Int32.ofNat e, k, Int32.ofNat s, le, nu, U, Int32.ofNat s, Int32.ofNat e, tk, vl, nu2, many, now, names, spl, by decide, ?_, ?_⟩
    · rw [fX5_readUser, c_isFullU hc h4, gb1_some, if_neg cf, if_neg (by decide), fX5_fail, gb3_some]
    · rw [fX10_userLine, hm.1.1, Lt_eq, if_pos (by rw [i_4, J_le _ _ (by omega) (by omega)]; omega)]
      dsimp only
      rw [r_no, gb7_some, if_pos rfl]
