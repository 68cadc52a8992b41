/-! statements of a text -/
theorem gb12_some {α0 : Type} {α1 : Type} {α2 : Type} {α3 : Type} {α4 : Type} {α5 : Type} {α6 : Type} {α7 : Type} {α8 : Type} {α9 : Type} {α10 : Type} {α11 : Type} {β : Type} (a0 : α0) (a1 : α1) (a2 : α2) (a3 : α3) (a4 : α4) (a5 : α5) (a6 : α6) (a7 : α7) (a8 : α8) (a9 : α9) (a10 : α10) (a11 : α11) (k : α0 → α1 → α2 → α3 → α4 → α5 → α6 → α7 → α8 → α9 → α10 → α11 → Option β) : gb12 (some (a0, a1, a2, a3, a4, a5, a6, a7, a8, a9, a10, a11)) k = k a0 a1 a2 a3 a4 a5 a6 a7 a8 a9 a10 a11 := rfl
theorem gb15_some {α0 : Type} {α1 : Type} {α2 : Type} {α3 : Type} {α4 : Type} {α5 : Type} {α6 : Type} {α7 : Type} {α8 : Type} {α9 : Type} {α10 : Type} {α11 : Type} {α12 : Type} {α13 : Type} {α14 : Type} {β : Type} (a0 : α0) (a1 : α1) (a2 : α2) (a3 : α3) (a4 : α4) (a5 : α5) (a6 : α6) (a7 : α7) (a8 : α8) (a9 : α9) (a10 : α10) (a11 : α11) (a12 : α12) (a13 : α13) (a14 : α14) (k : α0 → α1 → α2 → α3 → α4 → α5 → α6 → α7 → α8 → α9 → α10 → α11 → α12 → α13 → α14 → Option β) : gb15 (some (a0, a1, a2, a3, a4, a5, a6, a7, a8, a9, a10, a11, a12, a13, a14)) k = k a0 a1 a2 a3 a4 a5 a6 a7 a8 a9 a10 a11 a12 a13 a14 := rfl
theorem gb16_some {α0 : Type} {α1 : Type} {α2 : Type} {α3 : Type} {α4 : Type} {α5 : Type} {α6 : Type} {α7 : Type} {α8 : Type} {α9 : Type} {α10 : Type} {α11 : Type} {α12 : Type} {α13 : Type} {α14 : Type} {α15 : Type} {β : Type} (a0 : α0) (a1 : α1) (a2 : α2) (a3 : α3) (a4 : α4) (a5 : α5) (a6 : α6) (a7 : α7) (a8 : α8) (a9 : α9) (a10 : α10) (a11 : α11) (a12 : α12) (a13 : α13) (a14 : α14) (a15 : α15) (k : α0 → α1 → α2 → α3 → α4 → α5 → α6 → α7 → α8 → α9 → α10 → α11 → α12 → α13 → α14 → α15 → Option β) : gb16 (some (a0, a1, a2, a3, a4, a5, a6, a7, a8, a9, a10, a11, a12, a13, a14, a15)) k = k a0 a1 a2 a3 a4 a5 a6 a7 a8 a9 a10 a11 a12 a13 a14 a15 := rfl
theorem gb17_some {α0 : Type} {α1 : Type} {α2 : Type} {α3 : Type} {α4 : Type} {α5 : Type} {α6 : Type} {α7 : Type} {α8 : Type} {α9 : Type} {α10 : Type} {α11 : Type} {α12 : Type} {α13 : Type} {α14 : Type} {α15 : Type} {α16 : Type} {β : Type} (a0 : α0) (a1 : α1) (a2 : α2) (a3 : α3) (a4 : α4) (a5 : α5) (a6 : α6) (a7 : α7) (a8 : α8) (a9 : α9) (a10 : α10) (a11 : α11) (a12 : α12) (a13 : α13) (a14 : α14) (a15 : α15) (a16 : α16) (k : α0 → α1 → α2 → α3 → α4 → α5 → α6 → α7 → α8 → α9 → α10 → α11 → α12 → α13 → α14 → α15 → α16 → Option β) : gb17 (some (a0, a1, a2, a3, a4, a5, a6, a7, a8, a9, a10, a11, a12, a13, a14, a15, a16)) k = k a0 a1 a2 a3 a4 a5 a6 a7 a8 a9 a10 a11 a12 a13 a14 a15 a16 := rfl
def rB {R : Type} (N : Nat) (tm : Nat → Int32) (F : Int32 → Int32 → Int32 → Int32 → Int32 → Int32 → Int32 → Int32 → Int32 → Int32 → (Nat → Int32) → (Nat → Int64) → (Nat → Int32) → (Nat → Int32) → (Nat → Int32) → (Nat → Int32) → (Nat → Int32) → Option R) (z : Option (Int32 × Int32 × Int32 × Int32 × Int32 × Int32 × Int32 × Int32 × Int32 × Int32 × (Nat → Int32) × (Nat → Int64) × (Nat → Int32) × (Nat → Int32) × (Nat → Int32) × (Nat → Int32) × (Nat → Int32))) : Option R := gb17 z fun (r_1 : Int32) (M_start_1 : Int32) (M_next_1 : Int32) (M_token_1 : Int32) (M_value_1 : Int32) (M_error_1 : Int32) (M_errorAt_1 : Int32) (M_number_1 : Int32) (M_many_1 : Int32) (M_freshMany_1 : Int32) (now_1 : (Nat → Int32)) (names_1 : (Nat → Int64)) (spelled_1 : (Nat → Int32)) (cost_1 : (Nat → Int32)) (fewestFrom_1 : (Nat → Int32)) (first_1 : (Nat → Int32)) (fresh_1 : (Nat → Int32)) => if r_1 = 0 then F 0 M_start_1 M_next_1 M_token_1 M_value_1 M_error_1 M_errorAt_1 M_number_1 M_many_1 M_freshMany_1 now_1 names_1 spelled_1 cost_1 fewestFrom_1 first_1 fresh_1 else (gb7 (fX10_closes (Int32.ofNat N) M_start_1 M_next_1 M_token_1 M_value_1 M_error_1 M_errorAt_1 tm) fun (r_2 : Int32) (M_start_2 : Int32) (M_next_2 : Int32) (M_token_2 : Int32) (M_value_2 : Int32) (M_error_2 : Int32) (M_errorAt_2 : Int32) => if r_2 = 0 then F 0 M_start_2 M_next_2 M_token_2 M_value_2 M_error_2 M_errorAt_2 M_number_1 M_many_1 M_freshMany_1 now_1 names_1 spelled_1 cost_1 fewestFrom_1 first_1 fresh_1 else F 1 M_start_2 M_next_2 M_token_2 M_value_2 M_error_2 M_errorAt_2 M_number_1 M_many_1 M_freshMany_1 now_1 names_1 spelled_1 cost_1 fewestFrom_1 first_1 fresh_1)
def sOut (R : Type) (N : Nat) (bt : Nat → Nat) (tc tm : Nat → Int32) (e : Nat) (b : tBk) (X : Option (Int32 × Int32 × Int32 × Int32 × Int32 × Int32 × Int64 × Int32 × Int32 × Int32 × (Nat → Int32) × tUsers × tPieces × tWords × tCut × tCutR)) (Z : Option (Int32 × Int32 × Int32 × Int32 × Int32 × Int32 × Int32 × Int32 × Int32 × Int32 × (Nat → Int32) × (Nat → Int64) × (Nat → Int32) × (Nat → Int32) × (Nat → Int32) × (Nat → Int32) × (Nat → Int32))) : Prop :=
  (∃ (q : Nat) (cd nx kd at' : Int32) (le' : Int64) (nu' : Int32) (b' : tBk) (C' : tCut) (S' : tCutR) (st' nx' tk' vl' : Int32) (nu2' many' fm' : Int32) (now' : Nat → Int32) (names' : Nat → Int64) (spl' c' f' g' fa' : Nat → Int32), cd ≠ 0 ∧ X = some (0, Int32.ofNat q, nx, cd, kd, at', le', nu', b'.2.1, b'.2.2.1, b'.2.2.2.2.1, b'.2.2.2.2.2.1, b'.2.2.2.2.2.2.1, b'.2.2.2.2.2.2.2, C', S') ∧ b'.1 = b.1 ∧ b'.2.2.2.1 = b.2.2.2.1 ∧ ∀ F : Int32 → Int32 → Int32 → Int32 → Int32 → Int32 → Int32 → Int32 → Int32 → Int32 → (Nat → Int32) → (Nat → Int64) → (Nat → Int32) → (Nat → Int32) → (Nat → Int32) → (Nat → Int32) → (Nat → Int32) → Option R, rB N tm F Z = F 0 st' nx' tk' vl' cd (Int32.ofNat q) nu2' many' fm' now' names' spl' c' f' g' fa') ∨
  (∃ (p2 s2 e2 K2 v2 : Nat) (kd at' : Int32) (le' : Int64) (nu' : Int32) (b' : tBk) (C' : tCut) (S' : tCutR) (nu2' many' fm' : Int32) (now' : Nat → Int32) (names' : Nat → Int64) (spl' c' f' g' fa' : Nat → Int32) (A' : aB), e < p2 ∧ Tok N bt tc tm p2 s2 e2 K2 v2 ∧ X = some (1, -1, Int32.ofNat p2, 0, kd, at', le', nu', b'.2.1, b'.2.2.1, b'.2.2.2.2.1, b'.2.2.2.2.2.1, b'.2.2.2.2.2.2.1, b'.2.2.2.2.2.2.2, C', S') ∧ b'.1 = b.1 ∧ b'.2.2.2.1 = b.2.2.2.1 ∧ (∀ F : Int32 → Int32 → Int32 → Int32 → Int32 → Int32 → Int32 → Int32 → Int32 → Int32 → (Nat → Int32) → (Nat → Int64) → (Nat → Int32) → (Nat → Int32) → (Nat → Int32) → (Nat → Int32) → (Nat → Int32) → Option R, rB N tm F Z = F 1 (Int32.ofNat s2) (Int32.ofNat e2) (Int32.ofNat K2) (Int32.ofNat v2) 0 (-1) nu2' many' fm' now' names' spl' c' f' g' fa') ∧ cBk A' b' ∧ mB A' now' ∧ mN A'.1 names' ∧ dI A')
variable {bt : Nat → Nat} {N : Nat} {tc tm : Nat → Int32}
theorem out_fail {R : Type} {e : Nat} {b : tBk} {X : Option (Int32 × Int32 × Int32 × Int32 × Int32 × Int32 × Int64 × Int32 × Int32 × Int32 × (Nat → Int32) × tUsers × tPieces × tWords × tCut × tCutR)} {Z : Option (Int32 × Int32 × Int32 × Int32 × Int32 × Int32 × Int32 × Int32 × Int32 × Int32 × (Nat → Int32) × (Nat → Int64) × (Nat → Int32) × (Nat → Int32) × (Nat → Int32) × (Nat → Int32) × (Nat → Int32))} {q : Nat} {cd nx kd at' : Int32} {le' : Int64} {nu' : Int32} {b' : tBk} {C' : tCut} {S' : tCutR} {st' nx' tk' vl' nu2' many' fm' : Int32} {now' : Nat → Int32} {names' : Nat → Int64} {spl' c' f' g' fa' : Nat → Int32} (h0 : cd ≠ 0) (hX : X = some (0, Int32.ofNat q, nx, cd, kd, at', le', nu', b'.2.1, b'.2.2.1, b'.2.2.2.2.1, b'.2.2.2.2.2.1, b'.2.2.2.2.2.2.1, b'.2.2.2.2.2.2.2, C', S')) (h1 : b'.1 = b.1) (h2 : b'.2.2.2.1 = b.2.2.2.1) (hZ : Z = some (0, st', nx', tk', vl', cd, Int32.ofNat q, nu2', many', fm', now', names', spl', c', f', g', fa')) : sOut R N bt tc tm e b X Z := by
  refine Or.inl ⟨q, cd, nx, kd, at', le', nu', b', C', S', st', nx', tk', vl', nu2', many', fm', now', names', spl', c', f', g', fa', h0, hX, h1, h2, fun F => ?_⟩
  rw [hZ, rB, gb17_some, if_pos rfl]
theorem out_ok {R : Type} (hN : N ≤ 600) (hY : tY N bt tc tm) {e : Nat} {b : tBk} {X : Option (Int32 × Int32 × Int32 × Int32 × Int32 × Int32 × Int64 × Int32 × Int32 × Int32 × (Nat → Int32) × tUsers × tPieces × tWords × tCut × tCutR)} {Z : Option (Int32 × Int32 × Int32 × Int32 × Int32 × Int32 × Int32 × Int32 × Int32 × Int32 × (Nat → Int32) × (Nat → Int64) × (Nat → Int32) × (Nat → Int32) × (Nat → Int32) × (Nat → Int32) × (Nat → Int32))} {p2 s2 e2 K2 v2 : Nat} {kd at' : Int32} {le' : Int64} {nu' : Int32} {b' : tBk} {C' : tCut} {S' : tCutR} {nu2' many' fm' : Int32} {now' : Nat → Int32} {names' : Nat → Int64} {spl' c' f' g' fa' : Nat → Int32} {A' : aB} (he : e ≤ p2) (T2 : Tok N bt tc tm p2 s2 e2 K2 v2) (hX : X = (gb8 (fX5_readSemicolon (-1) (Int32.ofNat N) (Int32.ofNat p2) 0 kd at' le' nu' tc) fun r x1 x2 x3 x4 x5 x6 x7 => some (r, x1, x2, x3, x4, x5, x6, x7, b'.2.1, b'.2.2.1, b'.2.2.2.2.1, b'.2.2.2.2.2.1, b'.2.2.2.2.2.2.1, b'.2.2.2.2.2.2.2, C', S'))) (hZ : Z = some (1, Int32.ofNat s2, Int32.ofNat e2, Int32.ofNat K2, Int32.ofNat v2, 0, -1, nu2', many', fm', now', names', spl', c', f', g', fa')) (h1 : b'.1 = b.1) (h2 : b'.2.2.2.1 = b.2.2.2.1) (a1 : cBk A' b') (a2 : mB A' now') (a3 : mN A'.1 names') (a4 : dI A') : sOut R N bt tc tm e b X Z := by
  obtain ⟨s3, e3, K3, v3, T3⟩ := tok hN hY T2.2.2.1
  have cs := c_semi T2 (-1) 0 kd at' le' nu'
  have rc := r_closes T2 T3 (-1)
  by_cases cK : K2 = 3
  · obtain ⟨l, u, cs1⟩ := cs.1 cK
    have rc1 := rc.1 cK
    refine Or.inr ⟨e2, s3, e3, K3, v3, kc K2, Int32.ofNat s2, l, u, b', C', S', nu2', many', fm', now', names', spl', c', f', g', fa', A', ?_, T3, ?_, h1, h2, fun F => ?_, a1, a2, a3, a4⟩
    · have := T2.1
      have := T2.2.2.2.2.1
      omega
    · rw [hX, cs1, gb8_some]
    · rw [hZ, rB, gb17_some, if_neg (by decide), rc1, gb7_some, if_neg (by decide)]
  · obtain ⟨l, u, cs1⟩ := cs.2 cK
    have rc1 := rc.2 cK
    refine Or.inl ⟨s2, 1, Int32.ofNat e2, kc K2, Int32.ofNat s2, l, u, b', C', S', Int32.ofNat s2, Int32.ofNat e2, Int32.ofNat K2, Int32.ofNat v2, nu2', many', fm', now', names', spl', c', f', g', fa', by decide, ?_, h1, h2, fun F => ?_⟩
    · rw [hX, cs1, gb8_some]
    · rw [hZ, rB, gb17_some, if_neg (by decide), rc1, gb7_some, if_pos rfl]
theorem l_stmt {R : Type} (hN : N ≤ 600) (hY : tY N bt tc tm) {A : aB} {b : tBk} {now : Nat → Int32} {names : Nat → Int64} (hc : cBk A b) (hm : mB A now) (hn : mN A.1 names) (hD : dI A) {p s e K v : Nat} (T : Tok N bt tc tm p s e K v) {le : Int64} (hle : K = 1 → le = L64 (lets bt s e)) (nu : Int32) (C : tCut) (S : tCutR) (nu2 many fm : Int32) (spl c f g fa : Nat → Int32) : sOut R N bt tc tm e b (fX5_readStatement (-1) (Int32.ofNat N) (Int32.ofNat e) 0 (kc K) (Int32.ofNat s) le nu b.1 b.2.1 b.2.2.1 b.2.2.2.1 b.2.2.2.2.1 b.2.2.2.2.2.1 b.2.2.2.2.2.2.1 b.2.2.2.2.2.2.2 C S tc) (fX10_statement (Int32.ofNat N) (Int32.ofNat s) (Int32.ofNat e) (Int32.ofNat K) (Int32.ofNat v) 0 (-1) nu2 many fm now names tm spl c f g fa) := by
  have w1 := m_isW hN hY T (i := 1) (by omega)
  have w2 := m_isW hN hY T (i := 2) (by omega)
  have w3 := m_isW hN hY T (i := 3) (by omega)
  have he := T.2.2.1
  have k3 := kc3 T.2.2.2.1
  obtain ⟨A1, A2, A3, A4, A5, A6, A7, A8⟩ := hc
  have hc : cBk A b := ⟨A1, A2, A3, A4, A5, A6, A7, A8⟩
  by_cases cK : K = 1
  · obtain ⟨hl12, hlet⟩ := T.2.2.2.2.2.1 cK
    have hw : wf (lets bt s e) := lets_wf hlet
    have hl : (lets bt s e).length ≤ 12 := by rw [lets_len]; exact hl12
    have e1 := c_spell hw hl (i := 1) (by omega)
    have e2 := c_spell hw hl (i := 2) (by omega)
    have e3 := c_spell hw hl (i := 3) (by omega)
    have hk3 : kc K = 3 := by rw [k3]; exact cK
    have hle' := hle cK
    by_cases c1 : lets bt s e = kw 1
    · rw [if_pos ⟨cK, c1⟩] at w1
      rw [if_pos c1] at e1
      have hX : fX5_readStatement (-1) (Int32.ofNat N) (Int32.ofNat e) 0 (kc K) (Int32.ofNat s) le nu b.1 b.2.1 b.2.2.1 b.2.2.2.1 b.2.2.2.2.1 b.2.2.2.2.2.1 b.2.2.2.2.2.2.1 b.2.2.2.2.2.2.2 C S tc = (gb9 (fX5_readUser (-1) (Int32.ofNat N) (Int32.ofNat e) 0 (kc K) (Int32.ofNat s) le nu b.2.2.2.2.2.1 tc) fun r x1 x2 x3 x4 x5 x6 x7 U_2 => some (r, x1, x2, x3, x4, x5, x6, x7, b.2.1, b.2.2.1, b.2.2.2.2.1, U_2, b.2.2.2.2.2.2.1, b.2.2.2.2.2.2.2, C, S)) := by
        rw [fX5_readStatement, Lt_eq, if_pos hk3, hle', e1, gb1_some, if_neg (by decide)]
      rcases l_user hN hY A1 hm hn hD he (s := s) (kc K) le nu (Int32.ofNat K) (Int32.ofNat v) nu2 many spl with ⟨q, cd, nx, kd, at', le', nu', U', st', nx', tk', vl', nu2', many', now', names', spl', g1, g2, g3⟩ | ⟨p2, s2, e2', K2, v2, kd, at', le', nu', U', nu2', many', now', names', spl', A', g0, T2, g2, g3, g4, g5, g6, g7, g8⟩
      · refine out_fail (q := q) (cd := cd) (nx := nx) (kd := kd) (at' := at') (le' := le') (nu' := nu') (st' := st') (nx' := nx') (tk' := tk') (vl' := vl') (nu2' := nu2') (many' := many') (fm' := fm) (now' := now') (names' := names') (spl' := spl') (c' := c) (f' := f) (g' := g) (fa' := fa) (b' := (b.1, b.2.1, b.2.2.1, b.2.2.2.1, b.2.2.2.2.1, U', b.2.2.2.2.2.2.1, b.2.2.2.2.2.2.2)) (C' := C) (S' := S) g1 (hX.trans ?_) rfl rfl ?_
        · rw [g2, gb9_some]
        · rw [fX10_statement, w1, gb1_some, if_neg (by decide), g3, gb12_some]
      · refine out_ok hN hY (p2 := p2) (s2 := s2) (e2 := e2') (K2 := K2) (v2 := v2) (kd := kd) (at' := at') (le' := le') (nu' := nu') (nu2' := nu2') (many' := many') (fm' := fm) (now' := now') (names' := names') (spl' := spl') (c' := c) (f' := f) (g' := g) (fa' := fa) (b' := (b.1, b.2.1, b.2.2.1, b.2.2.2.1, b.2.2.2.2.1, U', b.2.2.2.2.2.2.1, b.2.2.2.2.2.2.2)) (C' := C) (S' := S) (A' := A') g0 T2 (hX.trans ?_) ?_ rfl rfl ?_ g6 g7 g8
        · rw [g2]
          cases fX5_readSemicolon (-1) (Int32.ofNat N) (Int32.ofNat p2) 0 kd at' le' nu' tc with
          | none => rfl
          | some x => rfl
        · rw [fX10_statement, w1, gb1_some, if_neg (by decide), g3, gb12_some]
        · obtain ⟨a1, a2⟩ := A'
          simp only at g4 g5
          subst g4
          exact ⟨g5, A2, A3, A4, A5, A6, A7, A8⟩
    · rw [if_neg (fun h => c1 h.2)] at w1
      rw [if_neg c1] at e1
      by_cases c2 : lets bt s e = kw 2
      · rw [if_pos ⟨cK, c2⟩] at w2
        rw [if_pos c2] at e2
        have hX : fX5_readStatement (-1) (Int32.ofNat N) (Int32.ofNat e) 0 (kc K) (Int32.ofNat s) le nu b.1 b.2.1 b.2.2.1 b.2.2.2.1 b.2.2.2.2.1 b.2.2.2.2.2.1 b.2.2.2.2.2.2.1 b.2.2.2.2.2.2.2 C S tc = (gb9 (fX5_readPiece (-1) (Int32.ofNat N) (Int32.ofNat e) 0 (kc K) (Int32.ofNat s) le nu b.2.2.2.2.2.2.1 tc) fun r x1 x2 x3 x4 x5 x6 x7 P_2 => some (r, x1, x2, x3, x4, x5, x6, x7, b.2.1, b.2.2.1, b.2.2.2.2.1, b.2.2.2.2.2.1, P_2, b.2.2.2.2.2.2.2, C, S)) := by
          rw [fX5_readStatement, Lt_eq, if_pos hk3, hle', e1, gb1_some, if_pos rfl, Lt_eq, if_pos hk3, e2, gb1_some, if_neg (by decide)]
        rcases l_piece hN hY A2 hm hD he (s := s) (kc K) le nu (Int32.ofNat K) (Int32.ofNat v) many spl with ⟨q, cd, nx, kd, at', le', nu', P', st', nx', tk', vl', many', now', spl', g1, g2, g3⟩ | ⟨p2, s2, e2', K2, v2, kd, at', le', nu', P', many', now', spl', A', g0, T2, g2, g3, g4, g4', g5, g6, g8⟩
        · refine out_fail (q := q) (cd := cd) (nx := nx) (kd := kd) (at' := at') (le' := le') (nu' := nu') (st' := st') (nx' := nx') (tk' := tk') (vl' := vl') (nu2' := nu2) (many' := many') (fm' := fm) (now' := now') (names' := names) (spl' := spl') (c' := c) (f' := f) (g' := g) (fa' := fa) (b' := (b.1, b.2.1, b.2.2.1, b.2.2.2.1, b.2.2.2.2.1, b.2.2.2.2.2.1, P', b.2.2.2.2.2.2.2)) (C' := C) (S' := S) g1 (hX.trans ?_) rfl rfl ?_
          · rw [g2, gb9_some]
          · rw [fX10_statement, w1, gb1_some, if_pos rfl, w2, gb1_some, if_neg (by decide), g3, gb10_some]
        · refine out_ok hN hY (p2 := p2) (s2 := s2) (e2 := e2') (K2 := K2) (v2 := v2) (kd := kd) (at' := at') (le' := le') (nu' := nu') (nu2' := nu2) (many' := many') (fm' := fm) (now' := now') (names' := names) (spl' := spl') (c' := c) (f' := f) (g' := g) (fa' := fa) (b' := (b.1, b.2.1, b.2.2.1, b.2.2.2.1, b.2.2.2.2.1, b.2.2.2.2.2.1, P', b.2.2.2.2.2.2.2)) (C' := C) (S' := S) (A' := A') g0 T2 (hX.trans ?_) ?_ rfl rfl ?_ g6 (by rw [g4]; exact hn) g8
          · rw [g2]
            cases fX5_readSemicolon (-1) (Int32.ofNat N) (Int32.ofNat p2) 0 kd at' le' nu' tc with
            | none => rfl
            | some x => rfl
          · rw [fX10_statement, w1, gb1_some, if_pos rfl, w2, gb1_some, if_neg (by decide), g3, gb10_some]
          · obtain ⟨a1, a2, a3⟩ := A'
            simp only at g4 g4' g5
            subst g4 g4'
            exact ⟨A1, g5, A3, A4, A5, A6, A7, A8⟩
      · rw [if_neg (fun h => c2 h.2)] at w2
        rw [if_neg c2] at e2
        by_cases c3 : lets bt s e = kw 3
        · rw [if_pos ⟨cK, c3⟩] at w3
          rw [if_pos c3] at e3
          have hX : fX5_readStatement (-1) (Int32.ofNat N) (Int32.ofNat e) 0 (kc K) (Int32.ofNat s) le nu b.1 b.2.1 b.2.2.1 b.2.2.2.1 b.2.2.2.2.1 b.2.2.2.2.2.1 b.2.2.2.2.2.2.1 b.2.2.2.2.2.2.2 C S tc = (gb16 (fX5_readStoredWord (-1) (Int32.ofNat N) (Int32.ofNat e) 0 (kc K) (Int32.ofNat s) le nu b.1 b.2.1 b.2.2.1 b.2.2.2.1 b.2.2.2.2.1 b.2.2.2.2.2.1 b.2.2.2.2.2.2.1 b.2.2.2.2.2.2.2 C S tc) fun r x1 x2 x3 x4 x5 x6 x7 y1 y2 y3 y4 y5 y6 y7 y8 => some (r, x1, x2, x3, x4, x5, x6, x7, y1, y2, y3, y4, y5, y6, y7, y8)) := by
            rw [fX5_readStatement, Lt_eq, if_pos hk3, hle', e1, gb1_some, if_pos rfl, Lt_eq, if_pos hk3, e2, gb1_some, if_pos rfl, Lt_eq, if_pos hk3, e3, gb1_some, if_neg (by decide)]
          rcases l_word hN hY hc hm hn hD he (s := s) (kc K) le nu C S (Int32.ofNat K) (Int32.ofNat v) many fm spl c f g fa with ⟨q, cd, nx, kd, at', le', nu', b', C', S', st', nx', tk', vl', many', fm', now', spl', c', f', g', fa', g1, g2, g3⟩ | ⟨p2, s2, e2', K2, v2, kd, at', le', nu', b', C', S', many', fm', now', spl', c', f', g', fa', A', g0, T2, g2, g3, g4, g4', g5, g6, g7, g8⟩
          · refine out_fail (q := q) (cd := cd) (nx := nx) (kd := kd) (at' := at') (le' := le') (nu' := nu') (st' := st') (nx' := nx') (tk' := tk') (vl' := vl') (nu2' := nu2) (many' := many') (fm' := fm') (now' := now') (names' := names) (spl' := spl') (c' := c') (f' := f') (g' := g') (fa' := fa') (b' := (b.1, b'.2.1, b'.2.2.1, b.2.2.2.1, b'.2.2.2.2.1, b'.2.2.2.2.2.1, b'.2.2.2.2.2.2.1, b'.2.2.2.2.2.2.2)) (C' := C') (S' := S') g1 (hX.trans ?_) rfl rfl ?_
            · rw [g2, gb16_some]
            · rw [fX10_statement, w1, gb1_some, if_pos rfl, w2, gb1_some, if_pos rfl, w3, gb1_some, if_neg (by decide), g3, gb15_some]
          · refine out_ok hN hY (p2 := p2) (s2 := s2) (e2 := e2') (K2 := K2) (v2 := v2) (kd := kd) (at' := at') (le' := le') (nu' := nu') (nu2' := nu2) (many' := many') (fm' := fm') (now' := now') (names' := names) (spl' := spl') (c' := c') (f' := f') (g' := g') (fa' := fa') (b' := b') (C' := C') (S' := S') (A' := A') g0 T2 (hX.trans ?_) ?_ g4 g4' g5 g6 g7 g8
            · rw [g2]
              cases fX5_readSemicolon (-1) (Int32.ofNat N) (Int32.ofNat p2) 0 kd at' le' nu' tc with
              | none => rfl
              | some x => rfl
            · rw [fX10_statement, w1, gb1_some, if_pos rfl, w2, gb1_some, if_pos rfl, w3, gb1_some, if_neg (by decide), g3, gb15_some]
        · rw [if_neg (fun h => c3 h.2)] at w3
          rw [if_neg c3] at e3
          refine out_fail (q := s) (cd := 1) (nx := Int32.ofNat e) (kd := kc K) (at' := Int32.ofNat s) (le' := le) (nu' := nu) (b' := b) (C' := C) (S' := S) (st' := Int32.ofNat s) (nx' := Int32.ofNat e) (tk' := Int32.ofNat K) (vl' := Int32.ofNat v) (nu2' := nu2) (many' := many) (fm' := fm) (now' := now) (names' := names) (spl' := spl) (c' := c) (f' := f) (g' := g) (fa' := fa) (by decide) ?_ rfl rfl ?_
          · rw [fX5_readStatement, Lt_eq, if_pos hk3, hle', e1, gb1_some, if_pos rfl, Lt_eq, if_pos hk3, e2, gb1_some, if_pos rfl, Lt_eq, if_pos hk3, e3, gb1_some, if_pos rfl, fX5_fail, gb3_some]
          · rw [fX10_statement, w1, gb1_some, if_pos rfl, w2, gb1_some, if_pos rfl, w3, gb1_some, if_pos rfl, r_fails, gb3_some]
  · have hk3 : ¬ kc K = 3 := by rw [k3]; exact cK
    rw [if_neg (fun h => cK h.1)] at w1 w2 w3
    refine out_fail (q := s) (cd := 1) (nx := Int32.ofNat e) (kd := kc K) (at' := Int32.ofNat s) (le' := le) (nu' := nu) (b' := b) (C' := C) (S' := S) (st' := Int32.ofNat s) (nx' := Int32.ofNat e) (tk' := Int32.ofNat K) (vl' := Int32.ofNat v) (nu2' := nu2) (many' := many) (fm' := fm) (now' := now) (names' := names) (spl' := spl) (c' := c) (f' := f) (g' := g) (fa' := fa) (by decide) ?_ rfl rfl ?_
    · rw [fX5_readStatement, Lt_eq, if_neg hk3, Lt_eq, if_neg hk3, Lt_eq, if_neg hk3, fX5_fail, gb3_some]
    · rw [fX10_statement, w1, gb1_some, if_pos rfl, w2, gb1_some, if_pos rfl, w3, gb1_some, if_pos rfl, r_fails, gb3_some]
