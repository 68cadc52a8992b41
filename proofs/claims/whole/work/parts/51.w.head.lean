/-! the head of a text -/
theorem fu6 : ∃ m, FU = m + 6 := ⟨FU - 6, by simp only [FU]⟩
variable {bt : Nat → Nat} {N : Nat} {tc tm : Nat → Int32}
theorem h_step {p s e K v : Nat} (T : Tok N bt tc tm p s e K v) {j lo hi : Nat} (hj : j < 5) (hlo : gLS j = Int32.ofNat lo) (hhi : gMS j = Int32.ofNat hi) (h1 : lo ≤ 9999) (h2 : hi ≤ 9999) (k : Int32 → Int32 → Int32 → Int32 → Int32 → Int64 → Int32 → (Nat → Int32) → Option (Int32 × Int32 × Int32 × Int32 × Int32 × Int32 × Int64 × Int32 × (Nat → Int32))) (n : Nat) (kd a : Int32) (l : Int64) (u : Int32) (st : Nat → Int32) : (K = 2 ∧ lo ≤ v ∧ v ≤ hi → ∃ l', fX5_readHeader_L32 (Int32.ofNat N) tc k (n + 1) (Int32.ofNat j) (-1) (Int32.ofNat p) 0 kd a l u st = fX5_readHeader_L32 (Int32.ofNat N) tc k n (Int32.ofNat (j + 1)) (-1) (Int32.ofNat e) 0 (kc K) (Int32.ofNat s) l' (Int32.ofNat v) (upd st j (Int32.ofNat v))) ∧ (¬ (K = 2 ∧ lo ≤ v ∧ v ≤ hi) → ∃ l' u', fX5_readHeader_L32 (Int32.ofNat N) tc k (n + 1) (Int32.ofNat j) (-1) (Int32.ofNat p) 0 kd a l u st = some (0, Int32.ofNat s, Int32.ofNat e, nC K, kc K, Int32.ofNat s, l', u', st)) := by
  have cn := c_number T h1 h2 (-1) 0 kd a l u
  have hck : ¬ (Int32.ofNat j < 0 ∨ 5 ≤ (Int32.ofNat j).toNatClampNeg) := inck (n := 5) hj (by omega) (by omega)
  have h5 : ¬ (5 : Int32) ≤ Int32.ofNat j := by rw [i_5, J_le _ _ (by omega) (by omega)]; omega
  refine ⟨fun c => ?_, fun c => ?_⟩
  · obtain ⟨l', c1⟩ := cn.1 c
    refine ⟨l', ?_⟩
    rw [fX5_readHeader_L32, if_neg h5, if_neg hck, if_neg hck, J_nat _ (by omega), hlo, hhi, c1, gb8_some, if_neg (by decide), if_neg (inck' (n := 5) hj (by omega) (by omega)), Lt_eq, i_1, J_add]
  · obtain ⟨l', u', c1⟩ := cn.2 c
    refine ⟨l', u', ?_⟩
    rw [fX5_readHeader_L32, if_neg h5, if_neg hck, if_neg hck, J_nat _ (by omega), hlo, hhi, c1, gb8_some, if_pos rfl]
theorem lt5 {i : Nat} (h : i < 5) : i = 0 ∨ i = 1 ∨ i = 2 ∨ i = 3 ∨ i = 4 := by omega
def sF5 (a b c d e : Nat) : Nat → Nat := fun i => if i = 0 then a else if i = 1 then b else if i = 2 then c else if i = 3 then d else e
theorem l_head (hN : N ≤ 600) (hY : tY N bt tc tm) {s e K v : Nat} (T0 : Tok N bt tc tm 0 s e K v) (kd a : Int32) (l : Int64) (u : Int32) (st : Nat → Int32) (nu2 : Int32) (now : Nat → Int32) : (∃ (q : Nat) (cd nx kd' at' : Int32) (le' : Int64) (nu' : Int32) (st' : Nat → Int32) (s' nx' tk' vl' nu2' : Int32) (now' : Nat → Int32), cd ≠ 0 ∧ fX5_readHeader (-1) (Int32.ofNat N) 0 0 kd a l u st tc = some (0, Int32.ofNat q, nx, cd, kd', at', le', nu', st') ∧ fX10_head (Int32.ofNat N) (Int32.ofNat s) (Int32.ofNat e) (Int32.ofNat K) (Int32.ofNat v) 0 (-1) nu2 now tm = some (0, s', nx', tk', vl', cd, Int32.ofNat q, nu2', now')) ∨ (∃ (p2 s2 e2 K2 v2 : Nat) (kd' at' : Int32) (le' : Int64) (nu' : Int32) (st' : Nat → Int32) (nu2' : Int32) (now' : Nat → Int32) (w : Nat → Nat), Tok N bt tc tm p2 s2 e2 K2 v2 ∧ fX5_readHeader (-1) (Int32.ofNat N) 0 0 kd a l u st tc = some (1, -1, Int32.ofNat p2, 0, kd', at', le', nu', st') ∧ fX10_head (Int32.ofNat N) (Int32.ofNat s) (Int32.ofNat e) (Int32.ofNat K) (Int32.ofNat v) 0 (-1) nu2 now tm = some (1, Int32.ofNat s2, Int32.ofNat e2, Int32.ofNat K2, Int32.ofNat v2, 0, -1, nu2', now') ∧ iS w ∧ (∀ i, i < 5 → st' i = Int32.ofNat (w i) ∧ now' i = Int32.ofNat (w i)) ∧ ∀ i, 5 ≤ i → now' i = now i) := by
  have w0 := m_isW hN hY T0 (i := 0) (by omega)
  obtain ⟨lr, ur, rt, rl, _⟩ := T0.2.2.2.2.2.2.2.1 kd a l u
  have rt0 : fX5_readToken (Int32.ofNat N) 0 kd a l u tc = some (Int32.ofNat e, kc K, Int32.ofNat s, lr, ur) := rt
  by_cases cH : K = 1 ∧ lets bt s e = kw 0
  · have hlt := T0.2.2.2.2.2.1 cH.1
    have hw : wf (lets bt s e) := lets_wf hlt.2
    have hl : (lets bt s e).length ≤ 12 := by rw [lets_len]; exact hlt.1
    have esp := c_spell hw hl (i := 0) (by omega)
    rw [if_pos cH.2] at esp
    rw [if_pos cH] at w0
    obtain ⟨m, hm⟩ := fu6
    obtain ⟨s1, e1, K1, v1, T1⟩ := tok hN hY T0.2.2.1
    obtain ⟨s2, e2, K2, v2, T2⟩ := tok hN hY T1.2.2.1
    obtain ⟨s3, e3, K3, v3, T3⟩ := tok hN hY T2.2.2.1
    obtain ⟨s4, e4, K4, v4, T4⟩ := tok hN hY T3.2.2.1
    obtain ⟨s5, e5, K5, v5, T5⟩ := tok hN hY T4.2.2.1
    obtain ⟨s6, e6, K6, v6, T6⟩ := tok hN hY T5.2.2.1
    obtain ⟨s7, e7, K7, v7, T7⟩ := tok hN hY T6.2.2.1
    have hC : ∀ {x : Option (Int32 × Int32 × Int32 × Int32 × Int32 × Int32 × Int64 × Int32 × (Nat → Int32))}, fX5_readHeader_L32 (Int32.ofNat N) tc (fun (Pr_errorAt_2 : Int32) (Pr_next_2 : Int32) (Pr_errorCode_2 : Int32) (Pr_kind_2 : Int32) (Pr_tokenAt_2 : Int32) (Pr_letters_2 : Int64) (Pr_number_2 : Int32) (settings_1 : (Nat → Int32)) => (gb8 (fX5_readSemicolon Pr_errorAt_2 (Int32.ofNat N) Pr_next_2 Pr_errorCode_2 Pr_kind_2 Pr_tokenAt_2 Pr_letters_2 Pr_number_2 tc) fun (r_3 : Int32) (Pr_errorAt_3 : Int32) (Pr_next_3 : Int32) (Pr_errorCode_3 : Int32) (Pr_kind_3 : Int32) (Pr_tokenAt_3 : Int32) (Pr_letters_3 : Int64) (Pr_number_3 : Int32) => some (r_3, Pr_errorAt_3, Pr_next_3, Pr_errorCode_3, Pr_kind_3, Pr_tokenAt_3, Pr_letters_3, Pr_number_3, settings_1))) (m + 6) (Int32.ofNat 0) (-1) (Int32.ofNat e) 0 (kc K) (Int32.ofNat s) lr ur st = x → fX5_readHeader (-1) (Int32.ofNat N) 0 0 kd a l u st tc = x := by
      intro x hx
      rw [fX5_readHeader, rt0, gb5_some, Lt_eq, if_pos (by rw [kc3 T0.2.2.2.1]; exact cH.1), rl cH.1, esp, gb1_some, if_neg (by decide), hm, ← rl cH.1]
      exact hx
    generalize hk : (fun (Pr_errorAt_2 : Int32) (Pr_next_2 : Int32) (Pr_errorCode_2 : Int32) (Pr_kind_2 : Int32) (Pr_tokenAt_2 : Int32) (Pr_letters_2 : Int64) (Pr_number_2 : Int32) (settings_1 : (Nat → Int32)) => (gb8 (fX5_readSemicolon Pr_errorAt_2 (Int32.ofNat N) Pr_next_2 Pr_errorCode_2 Pr_kind_2 Pr_tokenAt_2 Pr_letters_2 Pr_number_2 tc) fun (r_3 : Int32) (Pr_errorAt_3 : Int32) (Pr_next_3 : Int32) (Pr_errorCode_3 : Int32) (Pr_kind_3 : Int32) (Pr_tokenAt_3 : Int32) (Pr_letters_3 : Int64) (Pr_number_3 : Int32) => some (r_3, Pr_errorAt_3, Pr_next_3, Pr_errorCode_3, Pr_kind_3, Pr_tokenAt_3, Pr_letters_3, Pr_number_3, settings_1))) = kC at hC
    have c1 := h_step T1 (j := 0) (lo := 0) (hi := 99) (by omega) (by rfl) (by rfl) (by omega) (by omega) kC (m + 5) (kc K) (Int32.ofNat s) lr ur (st)
    have r1 := r_lays T1 T2 (lo := 0) (hi := 99) (by omega) (by omega) (w := 0) (by omega) (-1) (nu2) (now)
    by_cases n1 : ¬ (K1 = 2 ∧ 0 ≤ v1 ∧ v1 ≤ 99)
    · obtain ⟨l', u', x⟩ := c1.2 n1
      have y := r1.2 n1
      refine Or.inl ⟨s1, nC K1, Int32.ofNat e1, kc K1, Int32.ofNat s1, l', u', st, Int32.ofNat s1, Int32.ofNat e1, Int32.ofNat K1, Int32.ofNat v1, nu2, now, ?_, hC (x), ?_⟩
      · unfold nC
        split <;> decide
      · rw [fX10_head, w0, gb1_some, r_go T1, gb7_some, if_neg (by decide)]
        refine (congrArg (fun x => gb9 x _) y).trans ?_
        rw [gb9_some, if_pos rfl]
    have n1 := Decidable.of_not_not n1
    obtain ⟨l1, x1⟩ := c1.1 n1
    have y1 := r1.1 n1
    have c2 := h_step T2 (j := 1) (lo := 0) (hi := 9) (by omega) (by rfl) (by rfl) (by omega) (by omega) kC (m + 4) (kc K1) (Int32.ofNat s1) l1 (Int32.ofNat v1) (upd (st) 0 (Int32.ofNat v1))
    have r2 := r_lays T2 T3 (lo := 0) (hi := 9) (by omega) (by omega) (w := 1) (by omega) (-1) (Int32.ofNat v1) (upd (now) 0 (Int32.ofNat v1))
    by_cases n2 : ¬ (K2 = 2 ∧ 0 ≤ v2 ∧ v2 ≤ 9)
    · obtain ⟨l', u', x⟩ := c2.2 n2
      have y := r2.2 n2
      refine Or.inl ⟨s2, nC K2, Int32.ofNat e2, kc K2, Int32.ofNat s2, l', u', upd (st) 0 (Int32.ofNat v1), Int32.ofNat s2, Int32.ofNat e2, Int32.ofNat K2, Int32.ofNat v2, Int32.ofNat v1, upd (now) 0 (Int32.ofNat v1), ?_, hC (x1.trans (x)), ?_⟩
      · unfold nC
        split <;> decide
      · rw [fX10_head, w0, gb1_some, r_go T1, gb7_some, if_neg (by decide)]
        refine (congrArg (fun x => gb9 x _) y1).trans ?_
        rw [gb9_some, if_neg (by decide)]
        refine (congrArg (fun x => gb9 x _) y).trans ?_
        rw [gb9_some, if_pos rfl]
    have n2 := Decidable.of_not_not n2
    obtain ⟨l2, x2⟩ := c2.1 n2
    have y2 := r2.1 n2
    have c3 := h_step T3 (j := 2) (lo := 1) (hi := 9) (by omega) (by rfl) (by rfl) (by omega) (by omega) kC (m + 3) (kc K2) (Int32.ofNat s2) l2 (Int32.ofNat v2) (upd (upd (st) 0 (Int32.ofNat v1)) 1 (Int32.ofNat v2))
    have r3 := r_lays T3 T4 (lo := 1) (hi := 9) (by omega) (by omega) (w := 2) (by omega) (-1) (Int32.ofNat v2) (upd (upd (now) 0 (Int32.ofNat v1)) 1 (Int32.ofNat v2))
    by_cases n3 : ¬ (K3 = 2 ∧ 1 ≤ v3 ∧ v3 ≤ 9)
    · obtain ⟨l', u', x⟩ := c3.2 n3
      have y := r3.2 n3
      refine Or.inl ⟨s3, nC K3, Int32.ofNat e3, kc K3, Int32.ofNat s3, l', u', upd (upd (st) 0 (Int32.ofNat v1)) 1 (Int32.ofNat v2), Int32.ofNat s3, Int32.ofNat e3, Int32.ofNat K3, Int32.ofNat v3, Int32.ofNat v2, upd (upd (now) 0 (Int32.ofNat v1)) 1 (Int32.ofNat v2), ?_, hC (x1.trans (x2.trans (x))), ?_⟩
      · unfold nC
        split <;> decide
      · rw [fX10_head, w0, gb1_some, r_go T1, gb7_some, if_neg (by decide)]
        refine (congrArg (fun x => gb9 x _) y1).trans ?_
        rw [gb9_some, if_neg (by decide)]
        refine (congrArg (fun x => gb9 x _) y2).trans ?_
        rw [gb9_some, if_neg (by decide)]
        refine (congrArg (fun x => gb9 x _) y).trans ?_
        rw [gb9_some, if_pos rfl]
    have n3 := Decidable.of_not_not n3
    obtain ⟨l3, x3⟩ := c3.1 n3
    have y3 := r3.1 n3
    have c4 := h_step T4 (j := 3) (lo := 0) (hi := 20) (by omega) (by rfl) (by rfl) (by omega) (by omega) kC (m + 2) (kc K3) (Int32.ofNat s3) l3 (Int32.ofNat v3) (upd (upd (upd (st) 0 (Int32.ofNat v1)) 1 (Int32.ofNat v2)) 2 (Int32.ofNat v3))
    have r4 := r_lays T4 T5 (lo := 0) (hi := 20) (by omega) (by omega) (w := 3) (by omega) (-1) (Int32.ofNat v3) (upd (upd (upd (now) 0 (Int32.ofNat v1)) 1 (Int32.ofNat v2)) 2 (Int32.ofNat v3))
    by_cases n4 : ¬ (K4 = 2 ∧ 0 ≤ v4 ∧ v4 ≤ 20)
    · obtain ⟨l', u', x⟩ := c4.2 n4
      have y := r4.2 n4
      refine Or.inl ⟨s4, nC K4, Int32.ofNat e4, kc K4, Int32.ofNat s4, l', u', upd (upd (upd (st) 0 (Int32.ofNat v1)) 1 (Int32.ofNat v2)) 2 (Int32.ofNat v3), Int32.ofNat s4, Int32.ofNat e4, Int32.ofNat K4, Int32.ofNat v4, Int32.ofNat v3, upd (upd (upd (now) 0 (Int32.ofNat v1)) 1 (Int32.ofNat v2)) 2 (Int32.ofNat v3), ?_, hC (x1.trans (x2.trans (x3.trans (x)))), ?_⟩
      · unfold nC
        split <;> decide
      · rw [fX10_head, w0, gb1_some, r_go T1, gb7_some, if_neg (by decide)]
        refine (congrArg (fun x => gb9 x _) y1).trans ?_
        rw [gb9_some, if_neg (by decide)]
        refine (congrArg (fun x => gb9 x _) y2).trans ?_
        rw [gb9_some, if_neg (by decide)]
        refine (congrArg (fun x => gb9 x _) y3).trans ?_
        rw [gb9_some, if_neg (by decide)]
        refine (congrArg (fun x => gb9 x _) y).trans ?_
        rw [gb9_some, if_pos rfl]
    have n4 := Decidable.of_not_not n4
    obtain ⟨l4, x4⟩ := c4.1 n4
    have y4 := r4.1 n4
    have c5 := h_step T5 (j := 4) (lo := 0) (hi := 100) (by omega) (by rfl) (by rfl) (by omega) (by omega) kC (m + 1) (kc K4) (Int32.ofNat s4) l4 (Int32.ofNat v4) (upd (upd (upd (upd (st) 0 (Int32.ofNat v1)) 1 (Int32.ofNat v2)) 2 (Int32.ofNat v3)) 3 (Int32.ofNat v4))
    have r5 := r_lays T5 T6 (lo := 0) (hi := 100) (by omega) (by omega) (w := 4) (by omega) (-1) (Int32.ofNat v4) (upd (upd (upd (upd (now) 0 (Int32.ofNat v1)) 1 (Int32.ofNat v2)) 2 (Int32.ofNat v3)) 3 (Int32.ofNat v4))
    by_cases n5 : ¬ (K5 = 2 ∧ 0 ≤ v5 ∧ v5 ≤ 100)
    · obtain ⟨l', u', x⟩ := c5.2 n5
      have y := r5.2 n5
      refine Or.inl ⟨s5, nC K5, Int32.ofNat e5, kc K5, Int32.ofNat s5, l', u', upd (upd (upd (upd (st) 0 (Int32.ofNat v1)) 1 (Int32.ofNat v2)) 2 (Int32.ofNat v3)) 3 (Int32.ofNat v4), Int32.ofNat s5, Int32.ofNat e5, Int32.ofNat K5, Int32.ofNat v5, Int32.ofNat v4, upd (upd (upd (upd (now) 0 (Int32.ofNat v1)) 1 (Int32.ofNat v2)) 2 (Int32.ofNat v3)) 3 (Int32.ofNat v4), ?_, hC (x1.trans (x2.trans (x3.trans (x4.trans (x))))), ?_⟩
      · unfold nC
        split <;> decide
      · rw [fX10_head, w0, gb1_some, r_go T1, gb7_some, if_neg (by decide)]
        refine (congrArg (fun x => gb9 x _) y1).trans ?_
        rw [gb9_some, if_neg (by decide)]
        refine (congrArg (fun x => gb9 x _) y2).trans ?_
        rw [gb9_some, if_neg (by decide)]
        refine (congrArg (fun x => gb9 x _) y3).trans ?_
        rw [gb9_some, if_neg (by decide)]
        refine (congrArg (fun x => gb9 x _) y4).trans ?_
        rw [gb9_some, if_neg (by decide)]
        refine (congrArg (fun x => gb9 x _) y).trans ?_
        rw [gb9_some, if_pos rfl]
    have n5 := Decidable.of_not_not n5
    obtain ⟨l5, x5⟩ := c5.1 n5
    have y5 := r5.1 n5
    have cs := c_semi T6 (-1) 0 (kc K5) (Int32.ofNat s5) l5 (Int32.ofNat v5)
    have rc := r_closes T6 T7 (-1)
    have xk : fX5_readHeader_L32 (Int32.ofNat N) tc kC (m + 1) (Int32.ofNat 5) (-1) (Int32.ofNat e5) 0 (kc K5) (Int32.ofNat s5) l5 (Int32.ofNat v5) (upd (upd (upd (upd (upd (st) 0 (Int32.ofNat v1)) 1 (Int32.ofNat v2)) 2 (Int32.ofNat v3)) 3 (Int32.ofNat v4)) 4 (Int32.ofNat v5)) = gb8 (fX5_readSemicolon (-1) (Int32.ofNat N) (Int32.ofNat e5) 0 (kc K5) (Int32.ofNat s5) l5 (Int32.ofNat v5) tc) fun r x1 x2 x3 x4 x5 x6 x7 => some (r, x1, x2, x3, x4, x5, x6, x7, upd (upd (upd (upd (upd (st) 0 (Int32.ofNat v1)) 1 (Int32.ofNat v2)) 2 (Int32.ofNat v3)) 3 (Int32.ofNat v4)) 4 (Int32.ofNat v5)) := by
      rw [fX5_readHeader_L32, if_pos (by decide), ← hk]
    by_cases n6 : K6 = 3
    · obtain ⟨l6, u6, x6⟩ := cs.1 n6
      have y6 := rc.1 n6
      refine Or.inr ⟨e6, s7, e7, K7, v7, kc K6, Int32.ofNat s6, l6, u6, upd (upd (upd (upd (upd (st) 0 (Int32.ofNat v1)) 1 (Int32.ofNat v2)) 2 (Int32.ofNat v3)) 3 (Int32.ofNat v4)) 4 (Int32.ofNat v5), Int32.ofNat v5, upd (upd (upd (upd (upd (now) 0 (Int32.ofNat v1)) 1 (Int32.ofNat v2)) 2 (Int32.ofNat v3)) 3 (Int32.ofNat v4)) 4 (Int32.ofNat v5), sF5 v1 v2 v3 v4 v5, T7, hC (x1.trans (x2.trans (x3.trans (x4.trans (x5.trans (xk.trans ?_)))))), ?_, ?_, fun i hi => ?_, fun i hi => ?_⟩
      · rw [x6, gb8_some]
      · rw [fX10_head, w0, gb1_some, r_go T1, gb7_some, if_neg (by decide)]
        refine (congrArg (fun x => gb9 x _) y1).trans ?_
        rw [gb9_some, if_neg (by decide)]
        refine (congrArg (fun x => gb9 x _) y2).trans ?_
        rw [gb9_some, if_neg (by decide)]
        refine (congrArg (fun x => gb9 x _) y3).trans ?_
        rw [gb9_some, if_neg (by decide)]
        refine (congrArg (fun x => gb9 x _) y4).trans ?_
        rw [gb9_some, if_neg (by decide)]
        refine (congrArg (fun x => gb9 x _) y5).trans ?_
        rw [gb9_some, if_neg (by decide)]
        rw [y6, gb7_some, if_neg (by decide)]
      · refine ⟨?_, ?_, ?_, ?_, ?_, ?_⟩ <;> simp [sF5] <;> omega
      · rcases lt5 hi with rfl | rfl | rfl | rfl | rfl <;> exact ⟨rfl, rfl⟩
      · rw [upd_ne _ _ _ _ (by omega), upd_ne _ _ _ _ (by omega), upd_ne _ _ _ _ (by omega), upd_ne _ _ _ _ (by omega), upd_ne _ _ _ _ (by omega)]
    · obtain ⟨l6, u6, x6⟩ := cs.2 n6
      have y6 := rc.2 n6
      refine Or.inl ⟨s6, 1, Int32.ofNat e6, kc K6, Int32.ofNat s6, l6, u6, upd (upd (upd (upd (upd (st) 0 (Int32.ofNat v1)) 1 (Int32.ofNat v2)) 2 (Int32.ofNat v3)) 3 (Int32.ofNat v4)) 4 (Int32.ofNat v5), Int32.ofNat s6, Int32.ofNat e6, Int32.ofNat K6, Int32.ofNat v6, Int32.ofNat v5, upd (upd (upd (upd (upd (now) 0 (Int32.ofNat v1)) 1 (Int32.ofNat v2)) 2 (Int32.ofNat v3)) 3 (Int32.ofNat v4)) 4 (Int32.ofNat v5), by decide, hC (x1.trans (x2.trans (x3.trans (x4.trans (x5.trans (xk.trans ?_)))))), ?_⟩
      · rw [x6, gb8_some]
      · rw [fX10_head, w0, gb1_some, r_go T1, gb7_some, if_neg (by decide)]
        refine (congrArg (fun x => gb9 x _) y1).trans ?_
        rw [gb9_some, if_neg (by decide)]
        refine (congrArg (fun x => gb9 x _) y2).trans ?_
        rw [gb9_some, if_neg (by decide)]
        refine (congrArg (fun x => gb9 x _) y3).trans ?_
        rw [gb9_some, if_neg (by decide)]
        refine (congrArg (fun x => gb9 x _) y4).trans ?_
        rw [gb9_some, if_neg (by decide)]
        refine (congrArg (fun x => gb9 x _) y5).trans ?_
        rw [gb9_some, if_neg (by decide)]
        rw [y6, gb7_some, if_pos rfl]
  · rw [if_neg cH] at w0
    refine Or.inl ⟨s, 1, Int32.ofNat e, kc K, Int32.ofNat s, lr, ur, st, Int32.ofNat s, Int32.ofNat e, Int32.ofNat K, Int32.ofNat v, nu2, now, by decide, ?_, ?_⟩
    · rw [fX5_readHeader, rt0, gb5_some, Lt_eq, fX5_fail, gb3_some]
      by_cases cK : K = 1
      · have hlt := T0.2.2.2.2.2.1 cK
        have hw : wf (lets bt s e) := lets_wf hlt.2
        have hl : (lets bt s e).length ≤ 12 := by rw [lets_len]; exact hlt.1
        have esp := c_spell hw hl (i := 0) (by omega)
        rw [if_neg (fun h => cH ⟨cK, h⟩)] at esp
        rw [if_pos (by rw [kc3 T0.2.2.2.1]; exact cK), rl cK, esp, gb1_some, if_pos rfl]
      · rw [if_neg (by rw [kc3 T0.2.2.2.1]; exact cK)]
    · rw [fX10_head, w0, gb1_some, r_no, gb7_some, if_pos rfl]
