/-! the statements of a text, one after another -/
variable {bt : Nat → Nat} {N : Nat} {tc tm : Nat → Int32}
theorem l_loop (hN : N ≤ 600) (hY : tY N bt tc tm) {time : Int32} {sett : Nat → Int32} {np : Nat} {p1 : Nat → Int32} : ∀ (d p j n n2 : Nat) (A : aB) (b : tBk) (now : Nat → Int32) (names : Nat → Int64) (s e K v : Nat) (kd at0 : Int32) (le : Int64) (nu : Int32) (C : tCut) (S : tCutR) (nu2 many fm : Int32) (spl c f g fa : Nat → Int32), N ≤ p + d → p ≤ N → j ≤ p → d + 1 < n → d + 1 < n2 → cBk A b → b.1 = time → b.2.2.2.1 = sett → mB A now → mN A.1 names → dI A → Tok N bt tc tm p s e K v →
  (∃ (q : Nat) (cd nx kd' at' : Int32) (le' : Int64) (nu' : Int32) (b' : tBk) (C' : tCut) (S' : tCutR) (st' nx' tk' vl' : Int32) (nu2' many' fm' : Int32) (now' : Nat → Int32) (names' : Nat → Int64) (spl' c' f' g' fa' : Nat → Int32), cd ≠ 0 ∧ (∀ kC : Int32 → Int32 → Int32 → Int32 → Int32 → Int64 → Int32 → Int32 → Int32 → (Nat → Int32) → tUsers → tPieces → tWords → tCut → tCutR → Option (Int32 × Int32 × Int32 × Int32 × Int32 × Int32 × Int32 × Int64 × Int32 × Int32 × Int32 × Int32 × (Nat → Int32) × (Nat → Int32) × tUsers × tPieces × tWords × tCut × tCutR × (Nat → Int32)), fX5_readText_L60 np (Int32.ofNat N) time sett tc p1 kC n 1 (Int32.ofNat j) (-1) (Int32.ofNat p) 0 kd at0 le nu b.2.1 b.2.2.1 b.2.2.2.2.1 b.2.2.2.2.2.1 b.2.2.2.2.2.2.1 b.2.2.2.2.2.2.2 C S = kC (Int32.ofNat q) nx cd kd' at' le' nu' b'.2.1 b'.2.2.1 b'.2.2.2.2.1 b'.2.2.2.2.2.1 b'.2.2.2.2.2.2.1 b'.2.2.2.2.2.2.2 C' S') ∧ ∀ kR : Int32 → Int32 → Int32 → Int32 → Int32 → Int32 → Int32 → Int32 → Int32 → Int32 → (Nat → Int32) → (Nat → Int64) → (Nat → Int32) → (Nat → Int32) → (Nat → Int32) → (Nat → Int32) → (Nat → Int32) → Option (Int32 × Int32 × Int32 × Int32 × Int32 × Int32 × Int32 × Int32 × Int32 × Int32 × Int32 × Int32 × Int32 × Int32 × (Nat → Int32) × (Nat → Int32) × (Nat → Int64) × (Nat → Int64) × (Nat → Int32) × (Nat → Int32) × (Nat → Int32) × (Nat → Int32) × (Nat → Int32) × (Nat → Int32)), fX10_parse_L124 (Int32.ofNat N) tm kR n2 1 (Int32.ofNat s) (Int32.ofNat e) (Int32.ofNat K) (Int32.ofNat v) 0 (-1) nu2 many fm now names spl c f g fa = kR 0 st' nx' tk' vl' cd (Int32.ofNat q) nu2' many' fm' now' names' spl' c' f' g' fa') ∨
  (∃ (nx kd' at' : Int32) (le' : Int64) (nu' : Int32) (b' : tBk) (C' : tCut) (S' : tCutR) (st' nx' tk' vl' : Int32) (nu2' many' fm' : Int32) (now' : Nat → Int32) (names' : Nat → Int64) (spl' c' f' g' fa' : Nat → Int32) (A' : aB), (∀ kC : Int32 → Int32 → Int32 → Int32 → Int32 → Int64 → Int32 → Int32 → Int32 → (Nat → Int32) → tUsers → tPieces → tWords → tCut → tCutR → Option (Int32 × Int32 × Int32 × Int32 × Int32 × Int32 × Int32 × Int64 × Int32 × Int32 × Int32 × Int32 × (Nat → Int32) × (Nat → Int32) × tUsers × tPieces × tWords × tCut × tCutR × (Nat → Int32)), fX5_readText_L60 np (Int32.ofNat N) time sett tc p1 kC n 1 (Int32.ofNat j) (-1) (Int32.ofNat p) 0 kd at0 le nu b.2.1 b.2.2.1 b.2.2.2.2.1 b.2.2.2.2.2.1 b.2.2.2.2.2.2.1 b.2.2.2.2.2.2.2 C S = some (0, -1, Int32.ofNat N, nx, 0, kd', at', le', nu', time, b'.2.1, b'.2.2.1, sett, b'.2.2.2.2.1, b'.2.2.2.2.2.1, b'.2.2.2.2.2.2.1, b'.2.2.2.2.2.2.2, C', S', tc)) ∧ (∀ kR : Int32 → Int32 → Int32 → Int32 → Int32 → Int32 → Int32 → Int32 → Int32 → Int32 → (Nat → Int32) → (Nat → Int64) → (Nat → Int32) → (Nat → Int32) → (Nat → Int32) → (Nat → Int32) → (Nat → Int32) → Option (Int32 × Int32 × Int32 × Int32 × Int32 × Int32 × Int32 × Int32 × Int32 × Int32 × Int32 × Int32 × Int32 × Int32 × (Nat → Int32) × (Nat → Int32) × (Nat → Int64) × (Nat → Int64) × (Nat → Int32) × (Nat → Int32) × (Nat → Int32) × (Nat → Int32) × (Nat → Int32) × (Nat → Int32)), fX10_parse_L124 (Int32.ofNat N) tm kR n2 1 (Int32.ofNat s) (Int32.ofNat e) (Int32.ofNat K) (Int32.ofNat v) 0 (-1) nu2 many fm now names spl c f g fa = kR 1 st' nx' tk' vl' 0 (-1) nu2' many' fm' now' names' spl' c' f' g' fa') ∧ b'.1 = time ∧ b'.2.2.2.1 = sett ∧ cBk A' b' ∧ mB A' now' ∧ mN A'.1 names' ∧ dI A') := by
  intro d
  induction d with
  | zero =>
    intro p j n n2 A b now names s e K v kd at0 le nu C S nu2 many fm spl c f g fa h1 h2 h3 h4 h5 hc hb1 hb2 hm hn hD T
    obtain ⟨n, rfl⟩ : ∃ m, n = m + 1 := ⟨n - 1, by omega⟩
    obtain ⟨n2, rfl⟩ : ∃ m, n2 = m + 1 := ⟨n2 - 1, by omega⟩
    have hK0 : K = 0 := by
      have := T.1
      have := T.2.1
      have := T.2.2.1
      have := T.2.2.2.2.1
      omega
    obtain ⟨l', u', rt, _, _⟩ := T.2.2.2.2.2.2.2.1 kd at0 le nu
    refine Or.inr ⟨Int32.ofNat e, kc K, Int32.ofNat s, l', u', b, C, S, Int32.ofNat s, Int32.ofNat e, Int32.ofNat K, Int32.ofNat v, nu2, many, fm, now, names, spl, c, f, g, fa, A, ?_, ?_, hb1, hb2, hc, hm, hn, hD⟩
    · intro kC
      rw [fX5_readText_L60, if_neg (by decide), if_neg (by rw [J_lt _ _ (by omega) (by omega)]; omega), rt, gb5_some, if_pos (by rw [kc0 T.2.2.2.1]; exact hK0)]
    · intro kR
      rw [fX10_parse_L124, if_neg (by decide), if_pos (by rw [hK0]; rfl)]
  | succ d ih =>
    intro p j n n2 A b now names s e K v kd at0 le nu C S nu2 many fm spl c f g fa h1 h2 h3 h4 h5 hc hb1 hb2 hm hn hD T
    obtain ⟨n, rfl⟩ : ∃ m, n = m + 1 := ⟨n - 1, by omega⟩
    obtain ⟨n2, rfl⟩ : ∃ m, n2 = m + 1 := ⟨n2 - 1, by omega⟩
    obtain ⟨l', u', rt, rl, _⟩ := T.2.2.2.2.2.2.2.1 kd at0 le nu
    by_cases hK0 : K = 0
    · refine Or.inr ⟨Int32.ofNat e, kc K, Int32.ofNat s, l', u', b, C, S, Int32.ofNat s, Int32.ofNat e, Int32.ofNat K, Int32.ofNat v, nu2, many, fm, now, names, spl, c, f, g, fa, A, ?_, ?_, hb1, hb2, hc, hm, hn, hD⟩
      · intro kC
        rw [fX5_readText_L60, if_neg (by decide), if_neg (by rw [J_lt _ _ (by omega) (by omega)]; omega), rt, gb5_some, if_pos (by rw [kc0 T.2.2.2.1]; exact hK0)]
      · intro kR
        rw [fX10_parse_L124, if_neg (by decide), if_pos (by rw [hK0]; rfl)]
    · have hst := l_stmt (R := (Int32 × Int32 × Int32 × Int32 × Int32 × Int32 × Int32 × Int32 × Int32 × Int32 × Int32 × Int32 × Int32 × Int32 × (Nat → Int32) × (Nat → Int32) × (Nat → Int64) × (Nat → Int64) × (Nat → Int32) × (Nat → Int32) × (Nat → Int32) × (Nat → Int32) × (Nat → Int32) × (Nat → Int32))) hN hY hc hm hn hD T rl u' C S nu2 many fm spl c f g fa
      have eR : ∀ kR : Int32 → Int32 → Int32 → Int32 → Int32 → Int32 → Int32 → Int32 → Int32 → Int32 → (Nat → Int32) → (Nat → Int64) → (Nat → Int32) → (Nat → Int32) → (Nat → Int32) → (Nat → Int32) → (Nat → Int32) → Option (Int32 × Int32 × Int32 × Int32 × Int32 × Int32 × Int32 × Int32 × Int32 × Int32 × Int32 × Int32 × Int32 × Int32 × (Nat → Int32) × (Nat → Int32) × (Nat → Int64) × (Nat → Int64) × (Nat → Int32) × (Nat → Int32) × (Nat → Int32) × (Nat → Int32) × (Nat → Int32) × (Nat → Int32)), fX10_parse_L124 (Int32.ofNat N) tm kR (n2 + 1) 1 (Int32.ofNat s) (Int32.ofNat e) (Int32.ofNat K) (Int32.ofNat v) 0 (-1) nu2 many fm now names spl c f g fa = rB N tm (fX10_parse_L124 (Int32.ofNat N) tm kR n2) (fX10_statement (Int32.ofNat N) (Int32.ofNat s) (Int32.ofNat e) (Int32.ofNat K) (Int32.ofNat v) 0 (-1) nu2 many fm now names tm spl c f g fa) := by
        intro kR
        rw [fX10_parse_L124, if_neg (by decide), if_neg (by rw [i_0, J_eq _ _ (by have := T.2.2.2.1; omega) (by omega)]; exact hK0)]
        rfl
      have eC : ∀ kC : Int32 → Int32 → Int32 → Int32 → Int32 → Int64 → Int32 → Int32 → Int32 → (Nat → Int32) → tUsers → tPieces → tWords → tCut → tCutR → Option (Int32 × Int32 × Int32 × Int32 × Int32 × Int32 × Int32 × Int64 × Int32 × Int32 × Int32 × Int32 × (Nat → Int32) × (Nat → Int32) × tUsers × tPieces × tWords × tCut × tCutR × (Nat → Int32)), fX5_readText_L60 np (Int32.ofNat N) time sett tc p1 kC (n + 1) 1 (Int32.ofNat j) (-1) (Int32.ofNat p) 0 kd at0 le nu b.2.1 b.2.2.1 b.2.2.2.2.1 b.2.2.2.2.2.1 b.2.2.2.2.2.2.1 b.2.2.2.2.2.2.2 C S = gb16 (fX5_readStatement (-1) (Int32.ofNat N) (Int32.ofNat e) 0 (kc K) (Int32.ofNat s) l' u' b.1 b.2.1 b.2.2.1 b.2.2.2.1 b.2.2.2.2.1 b.2.2.2.2.2.1 b.2.2.2.2.2.2.1 b.2.2.2.2.2.2.2 C S tc) fun r x1 x2 x3 x4 x5 x6 x7 y1 y2 y3 y4 y5 y6 y7 y8 => fX5_readText_L60 np (Int32.ofNat N) time sett tc p1 kC n r (Int32.ofNat (j + 1)) x1 x2 x3 x4 x5 x6 x7 y1 y2 y3 y4 y5 y6 y7 y8 := by
        intro kC
        rw [fX5_readText_L60, if_neg (by decide), if_neg (by rw [J_lt _ _ (by omega) (by omega)]; omega), rt, gb5_some, if_neg (by rw [kc0 T.2.2.2.1]; exact hK0), hb1, hb2, i_1, J_add]
      rcases hst with ⟨q, cd, nx, kd', at', le', nu', b', C', S', st', nx', tk', vl', nu2', many', fm', now', names', spl', c', f', g', fa', g1, g2, g3, g4, g5⟩ | ⟨p2, s2, e2, K2, v2, kd', at', le', nu', b', C', S', nu2', many', fm', now', names', spl', c', f', g', fa', A', g1, T2, g2, g3, g4, g5, a1, a2, a3, a4⟩
      · refine Or.inl ⟨q, cd, nx, kd', at', le', nu', b', C', S', st', nx', tk', vl', nu2', many', fm', now', names', spl', c', f', g', fa', g1, ?_, ?_⟩
        · intro kC
          rw [eC, g2, gb16_some]
          cases n with
          | zero => omega
          | succ n => rw [fX5_readText_L60, if_pos rfl]
        · intro kR
          rw [eR, g5]
          cases n2 with
          | zero => omega
          | succ n2 => rw [fX10_parse_L124, if_pos rfl]
      · have hT1 := T.1
        have hT2 := T.2.1
        have hp2 : p2 ≤ N := by
          have := T2.1
          have := T2.2.1
          have := T2.2.2.1
          omega
        have hi := ih p2 (j + 1) n n2 A' b' now' names' s2 e2 K2 v2 kd' at' le' nu' C' S' nu2' many' fm' spl' c' f' g' fa' (by omega) hp2 (by omega) (by omega) (by omega) a1 (g3.trans hb1) (g4.trans hb2) a2 a3 a4 T2
        rcases hi with ⟨q, cd, nx, kd2, at2, le2, nu2x, bx, Cx, Sx, st2, nx2, tk2, vl2, nu3, many3, fm3, now3, names3, spl3, c3, f3, g3x, fa3, y1, y2, y3⟩ | ⟨nx, kd2, at2, le2, nu2x, bx, Cx, Sx, st2, nx2, tk2, vl2, nu3, many3, fm3, now3, names3, spl3, c3, f3, g3x, fa3, A3, y2, y3, y4⟩
        · refine Or.inl ⟨q, cd, nx, kd2, at2, le2, nu2x, bx, Cx, Sx, st2, nx2, tk2, vl2, nu3, many3, fm3, now3, names3, spl3, c3, f3, g3x, fa3, y1, fun kC => ?_, fun kR => ?_⟩
          · rw [eC, g2, gb16_some]
            exact y2 kC
          · rw [eR, g5]
            exact y3 kR
        · refine Or.inr ⟨nx, kd2, at2, le2, nu2x, bx, Cx, Sx, st2, nx2, tk2, vl2, nu3, many3, fm3, now3, names3, spl3, c3, f3, g3x, fa3, A3, fun kC => ?_, fun kR => ?_, y4⟩
          · rw [eC, g2, gb16_some]
            exact y2 kC
          · rw [eR, g5]
            exact y3 kR
