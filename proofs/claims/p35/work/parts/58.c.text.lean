/-! a certain text is parsed -/
def yH (a b c d e : Nat) : List Nat := gTx 4 ++ gDec a ++ [32] ++ gDec b ++ [32] ++ gDec c ++ [32] ++ gDec d ++ [32] ++ gDec e ++ [59]
theorem sp00 : fX4_spell 0 (L64 (kw 0)) = some 1 := sp_kw 0 0 (by decide) (by decide)
section PT
variable {X : List Nat} {tc : Nat → Int32}
theorem h_stp {p s e v : Nat} (T : tk X tc p s e 4 [] v) {j lo hi : Nat} (hj : j < 5) (hlo : gLS j = Int32.ofNat lo) (hhi : gMS j = Int32.ofNat hi) (h1 : lo ≤ v) (h2 : v ≤ hi) (h3 : hi ≤ 9999) (k : Int32 → Int32 → Int32 → Int32 → Int32 → Int64 → Int32 → (Nat → Int32) → Option (Int32 × Int32 × Int32 × Int32 × Int32 × Int32 × Int64 × Int32 × (Nat → Int32))) (n : Nat) (kd a : Int32) (l : Int64) (u : Int32) (st : Nat → Int32) : ∃ l', fX5_readHeader_L32 (Int32.ofNat X.length) tc k (n + 1) (Int32.ofNat j) (-1) (Int32.ofNat p) 0 kd a l u st = fX5_readHeader_L32 (Int32.ofNat X.length) tc k n (Int32.ofNat (j + 1)) (-1) (Int32.ofNat e) 0 4 (Int32.ofNat s) l' (Int32.ofNat v) (upd st j (Int32.ofNat v)) := by
  obtain ⟨l', c1⟩ := rd_number T h1 h2 h3 (-1) 0 kd a l u
  have hck : ¬ (Int32.ofNat j < 0 ∨ 5 ≤ (Int32.ofNat j).toNatClampNeg) := inck (n := 5) hj (by omega) (by omega)
  have h5 : ¬ (5 : Int32) ≤ Int32.ofNat j := by rw [i_5, J_le _ _ (by omega) (by omega)]; omega
  exact ⟨l', by rw [fX5_readHeader_L32, if_neg h5, if_neg hck, if_neg hck, J_nat _ (by omega), hlo, hhi, c1, gb8_some, if_neg (by decide), if_neg (inck' (n := 5) hj (by omega) (by omega)), Lt_eq, i_1, J_add]⟩
theorem z_head (h : tx X tc) {a b c d e : Nat} (ha : a ≤ 99) (hb : b ≤ 9) (hc1 : 1 ≤ c) (hc : c ≤ 9) (hd : d ≤ 20) (he : e ≤ 100) {Y : List Nat} (hX : X = yH a b c d e ++ Y) (kd at0 : Int32) (le : Int64) (nu : Int32) (st : Nat → Int32) : ∃ (at' : Int32) (le' : Int64) (nu' : Int32) (st' : Nat → Int32), fX5_readHeader (-1) (Int32.ofNat X.length) 0 0 kd at0 le nu st tc = some (1, -1, Int32.ofNat (yH a b c d e).length, 0, 5, at', le', nu', st') ∧ ∀ i, i < 5 → st' i = Int32.ofNat (sF5 a b c d e i) := by
  obtain ⟨k1, k2, k3⟩ := kw_wf 0 (by decide)
  have h500 := h.1
  have q0 : X.drop 0 = (kw 0).map (fun x => x + 96) ++ 32 :: (gDec a ++ 32 :: (gDec b ++ 32 :: (gDec c ++ 32 :: (gDec d ++ 32 :: (gDec e ++ 59 :: Y))))) := by
    rw [List.drop_zero, hX]
    unfold yH
    rw [tx_kw.1]
    simp
  have p1 : X.drop 4 = 32 :: (gDec a ++ 32 :: (gDec b ++ 32 :: (gDec c ++ 32 :: (gDec d ++ 32 :: (gDec e ++ 59 :: Y))))) := drop_add q0
  have q1 := d1 p1
  have p2 := drop_add q1
  have q2 := d1 p2
  have p3 := drop_add q2
  have q3 := d1 p3
  have p4 := drop_add q3
  have q4 := d1 p4
  have p5 := drop_add q4
  have q5 := d1 p5
  have p6 := drop_add q5
  have t0 := tk_word h (Nat.le_refl 0) (fun j a b => by omega) q0 k1 k2 k3 (by decide)
  have t1 := tk_num h (Nat.le_add_right _ 1) (sp1 p1) q1 (by omega) (by decide)
  have t2 := tk_num h (Nat.le_add_right _ 1) (sp1 p2) q2 (by omega) (by decide)
  have t3 := tk_num h (Nat.le_add_right _ 1) (sp1 p3) q3 (by omega) (by decide)
  have t4 := tk_num h (Nat.le_add_right _ 1) (sp1 p4) q4 (by omega) (by decide)
  have t5 := tk_num h (Nat.le_add_right _ 1) (sp1 p5) q5 (by omega) (by decide)
  have t6 := tk_semi h p6
  have hlen : (yH a b c d e).length = 4 + 1 + (gDec a).length + 1 + (gDec b).length + 1 + (gDec c).length + 1 + (gDec d).length + 1 + (gDec e).length + 1 := by
    unfold yH
    rw [tx_kw.1]
    simp [kw]
    omega
  obtain ⟨m, hm⟩ := fu6
  obtain ⟨l', u', r0, r0l, _⟩ := t0 kd at0 le nu
  rw [r0l rfl] at r0
  have r0' : fX5_readToken (Int32.ofNat X.length) 0 kd at0 le nu tc = some (Int32.ofNat 4, 3, Int32.ofNat 0, L64 (kw 0), u') := r0
  have hk : ∀ (x1 x2 : Int32) (x3 : Int64) (x4 : Int32) (s5 : Nat → Int32), ∃ l' u', (gb8 (fX5_readSemicolon (-1) (Int32.ofNat X.length) (Int32.ofNat (4 + 1 + (gDec a).length + 1 + (gDec b).length + 1 + (gDec c).length + 1 + (gDec d).length + 1 + (gDec e).length)) 0 x1 x2 x3 x4 tc) fun (r_3 : Int32) (Pr_errorAt_3 : Int32) (Pr_next_3 : Int32) (Pr_errorCode_3 : Int32) (Pr_kind_3 : Int32) (Pr_tokenAt_3 : Int32) (Pr_letters_3 : Int64) (Pr_number_3 : Int32) => some (r_3, Pr_errorAt_3, Pr_next_3, Pr_errorCode_3, Pr_kind_3, Pr_tokenAt_3, Pr_letters_3, Pr_number_3, s5)) = some (1, -1, Int32.ofNat (yH a b c d e).length, 0, 5, Int32.ofNat (4 + 1 + (gDec a).length + 1 + (gDec b).length + 1 + (gDec c).length + 1 + (gDec d).length + 1 + (gDec e).length), l', u', s5) := by
    intro x1 x2 x3 x4 s5
    obtain ⟨l', u', r⟩ := rd_semi t6 (-1) 0 x1 x2 x3 x4
    exact ⟨l', u', by rw [r, gb8_some, hlen]⟩
  generalize hkk : (fun (Pr_errorAt_2 : Int32) (Pr_next_2 : Int32) (Pr_errorCode_2 : Int32) (Pr_kind_2 : Int32) (Pr_tokenAt_2 : Int32) (Pr_letters_2 : Int64) (Pr_number_2 : Int32) (settings_1 : (Nat → Int32)) => (gb8 (fX5_readSemicolon Pr_errorAt_2 (Int32.ofNat X.length) Pr_next_2 Pr_errorCode_2 Pr_kind_2 Pr_tokenAt_2 Pr_letters_2 Pr_number_2 tc) fun (r_3 : Int32) (Pr_errorAt_3 : Int32) (Pr_next_3 : Int32) (Pr_errorCode_3 : Int32) (Pr_kind_3 : Int32) (Pr_tokenAt_3 : Int32) (Pr_letters_3 : Int64) (Pr_number_3 : Int32) => some (r_3, Pr_errorAt_3, Pr_next_3, Pr_errorCode_3, Pr_kind_3, Pr_tokenAt_3, Pr_letters_3, Pr_number_3, settings_1))) = kC
  obtain ⟨l1, e1⟩ := h_stp t1 (j := 0) (lo := 0) (hi := 99) (by omega) (by rfl) (by rfl) (by omega) ha (by omega) kC (m + 5) 3 (Int32.ofNat 0) (L64 (kw 0)) u' st
  obtain ⟨l2, e2⟩ := h_stp t2 (j := 1) (lo := 0) (hi := 9) (by omega) (by rfl) (by rfl) (by omega) hb (by omega) kC (m + 4) 4 (Int32.ofNat (4 + 1)) l1 (Int32.ofNat a) (upd st 0 (Int32.ofNat a))
  obtain ⟨l3, e3⟩ := h_stp t3 (j := 2) (lo := 1) (hi := 9) (by omega) (by rfl) (by rfl) hc1 hc (by omega) kC (m + 3) 4 (Int32.ofNat (4 + 1 + (gDec a).length + 1)) l2 (Int32.ofNat b) (upd (upd st 0 (Int32.ofNat a)) 1 (Int32.ofNat b))
  obtain ⟨l4, e4⟩ := h_stp t4 (j := 3) (lo := 0) (hi := 20) (by omega) (by rfl) (by rfl) (by omega) hd (by omega) kC (m + 2) 4 (Int32.ofNat (4 + 1 + (gDec a).length + 1 + (gDec b).length + 1)) l3 (Int32.ofNat c) (upd (upd (upd st 0 (Int32.ofNat a)) 1 (Int32.ofNat b)) 2 (Int32.ofNat c))
  obtain ⟨l5, e5⟩ := h_stp t5 (j := 4) (lo := 0) (hi := 100) (by omega) (by rfl) (by rfl) (by omega) he (by omega) kC (m + 1) 4 (Int32.ofNat (4 + 1 + (gDec a).length + 1 + (gDec b).length + 1 + (gDec c).length + 1)) l4 (Int32.ofNat d) (upd (upd (upd (upd st 0 (Int32.ofNat a)) 1 (Int32.ofNat b)) 2 (Int32.ofNat c)) 3 (Int32.ofNat d))
  obtain ⟨l6, u6, e6⟩ := hk 4 (Int32.ofNat (4 + 1 + (gDec a).length + 1 + (gDec b).length + 1 + (gDec c).length + 1 + (gDec d).length + 1)) l5 (Int32.ofNat e) (upd (upd (upd (upd (upd st 0 (Int32.ofNat a)) 1 (Int32.ofNat b)) 2 (Int32.ofNat c)) 3 (Int32.ofNat d)) 4 (Int32.ofNat e))
  have e1' : fX5_readHeader_L32 (Int32.ofNat X.length) tc kC (m + 6) 0 (-1) (Int32.ofNat 4) 0 3 (Int32.ofNat 0) (L64 (kw 0)) u' st = _ := e1
  refine ⟨Int32.ofNat (4 + 1 + (gDec a).length + 1 + (gDec b).length + 1 + (gDec c).length + 1 + (gDec d).length + 1 + (gDec e).length), l6, u6, upd (upd (upd (upd (upd st 0 (Int32.ofNat a)) 1 (Int32.ofNat b)) 2 (Int32.ofNat c)) 3 (Int32.ofNat d)) 4 (Int32.ofNat e), ?_, fun i hi => ?_⟩
  · rw [fX5_readHeader, r0', gb5_some, Lt_eq, if_pos rfl, sp00, gb1_some, if_neg (by decide), hkk, hm, e1', e2, e3, e4, e5, fX5_readHeader_L32, if_pos (by decide), ← hkk]
    exact e6
  · unfold sF5
    rcases lt5 hi with rfl | rfl | rfl | rfl | rfl <;> rfl
theorem z_text {buf : Nat → Int32} (hX : tx X buf) {a b c d e : Nat} (ha : a ≤ 99) (hb : b ≤ 9) (hc1 : 1 ≤ c) (hc : c ≤ 9) (hd : d ≤ 20) (he : e ≤ 100) {Y : List Nat} (hXY : X = yH a b c d e ++ Y) {m : Nat} {A' : aB} (hA : adv m Y (aE (sF5 a b c d e)) A') (ea0 ln0 nx0 ec0 kd0 at0 : Int32) (le0 : Int64) (nu0 : Int32) (q : tBk) (C : tCut) (S : tCutR) (text2 : Nat → Int32) : ∃ (nx kd' at' : Int32) (le' : Int64) (nu' : Int32) (q' : tBk) (C' : tCut) (S' : tCutR) (tc : Nat → Int32), fX5_readText 600 (Int32.ofNat X.length) ea0 ln0 nx0 ec0 kd0 at0 le0 nu0 q.1 q.2.1 q.2.2.1 q.2.2.2.1 q.2.2.2.2.1 q.2.2.2.2.2.1 q.2.2.2.2.2.2.1 q.2.2.2.2.2.2.2 C S text2 buf = some (0, -1, Int32.ofNat X.length, nx, 0, kd', at', le', nu', q'.1, q'.2.1, q'.2.2.1, q'.2.2.2.1, q'.2.2.2.2.1, q'.2.2.2.2.2.1, q'.2.2.2.2.2.2.1, q'.2.2.2.2.2.2.2, C', S', tc) ∧ cBk A' q' := by
  have h500 := hX.1
  have hY : tx X (va_cpy buf text2 0 0 X.length) := by
    refine ⟨hX.1, fun i hi => ?_⟩
    rw [cpy_in _ _ _ _ _ _ (Nat.zero_le _) (by omega), Nat.zero_add, Nat.sub_zero]
    exact hX.2 i hi
  obtain ⟨s6, h6, ecl⟩ := c_clear q.1 q.2.1 q.2.2.1 q.2.2.2.2.1 q.2.2.2.2.2.1 q.2.2.2.2.2.2.1 q.2.2.2.2.2.2.2
  have hbd : ¬ ((0 : Int32) < 0 ∨ (0 : Int32) < 0 ∨ Int32.ofNat X.length < 0 ∨ 600 < 0 + (Int32.ofNat X.length).toNatClampNeg ∨ 600 < 0 + (Int32.ofNat X.length).toNatClampNeg) := by
    rw [i_0, J_lt _ _ (by omega) (by omega), J_lt _ _ (by omega) (by omega), J_nat _ (by omega)]
    omega
  have hfit : ∀ i, i < (Int32.ofNat X.length).toNatClampNeg → fits .byte (.int (buf (0 + i))) = true := by
    intro i hi
    rw [J_nat _ (by omega)] at hi
    have := hX.2 i hi
    rw [Nat.zero_add, this.2]
    exact sx_fits _ (by omega)
  have ez1 : (if (600 : Int32) < Int32.ofNat 600 then 600 else Int32.ofNat 600) = Int32.ofNat 600 := by decide
  have ez2 : (if Int32.ofNat 600 < Int32.ofNat X.length then Int32.ofNat 600 else Int32.ofNat X.length) = Int32.ofNat X.length := if_neg (by rw [J_lt _ _ (by omega) (by omega)]; omega)
  obtain ⟨at', le', nu', st', eh, hst⟩ := z_head hY ha hb hc1 hc hd he hXY kd0 at0 le0 nu0 q.2.2.2.1
  have hcB : cBk (aE (sF5 a b c d e)) (0, 0, 0, st', s6, (0, q.2.2.2.2.2.1.2.1, q.2.2.2.2.2.1.2.2), (0, q.2.2.2.2.2.2.1.2.1, q.2.2.2.2.2.2.1.2.2.1, q.2.2.2.2.2.2.1.2.2.2.1, q.2.2.2.2.2.2.1.2.2.2.2.1, q.2.2.2.2.2.2.1.2.2.2.2.2), (0, q.2.2.2.2.2.2.2.2.1, q.2.2.2.2.2.2.2.2.2.1, q.2.2.2.2.2.2.2.2.2.2.1, q.2.2.2.2.2.2.2.2.2.2.2)) := cB_E hst h6 rfl rfl rfl
  have hdr : X.drop (yH a b c d e).length = Y ++ [] := by rw [hXY, List.drop_left, List.append_nil]
  have hle : (yH a b c d e).length ≤ X.length := by rw [hXY, List.length_append]; omega
  have hlX : X.length = (yH a b c d e).length + Y.length := by rw [hXY, List.length_append]
  have hmY := hA.1
  obtain ⟨n, hn⟩ : ∃ n, FU = n + 1 + m := ⟨FU - 1 - m, by simp only [FU]; omega⟩
  generalize hkk : (fun (Pr_errorAt_2 : Int32) (Pr_next_2 : Int32) (Pr_errorCode_2 : Int32) (Pr_kind_2 : Int32) (Pr_tokenAt_2 : Int32) (Pr_letters_2 : Int64) (Pr_number_2 : Int32) (B_chest_2 : Int32) (B_fund_2 : Int32) (sums_2 : (Nat → Int32)) (U_2 : tUsers) (P_2 : tPieces) (W_2 : tWords) (C_1 : tCut) (S_1 : tCutR) => (some (Pr_errorCode_2, Pr_errorAt_2, Int32.ofNat X.length, Pr_next_2, Pr_errorCode_2, Pr_kind_2, Pr_tokenAt_2, Pr_letters_2, Pr_number_2, (0 : Int32), B_chest_2, B_fund_2, st', sums_2, U_2, P_2, W_2, C_1, S_1, va_cpy buf text2 0 0 X.length) : Option (Int32 × Int32 × Int32 × Int32 × Int32 × Int32 × Int32 × Int64 × Int32 × Int32 × Int32 × Int32 × (Nat → Int32) × (Nat → Int32) × tUsers × tPieces × tWords × tCut × tCutR × (Nat → Int32)))) = kC
  obtain ⟨kd1, at1, le1, nu1, b1, C1, S1, x1, x2, x3, ea⟩ := hA.2 X [] _ _ hY hdr hle 600 buf kC (n + 1) 0 5 at' le' nu' _ C S (Nat.zero_le _) hcB
  obtain ⟨l9, u9, e9, _⟩ := tk_end hY (p := (yH a b c d e).length + Y.length) hlX.symm kd1 at1 le1 nu1
  obtain ⟨b1a, b1b, b1c, b1d, b1e, b1f, b1g, b1h⟩ := b1
  simp only at x2 x3
  subst x2 x3
  refine ⟨Int32.ofNat ((yH a b c d e).length + Y.length), 0, Int32.ofNat ((yH a b c d e).length + Y.length), l9, u9, (0, b1b, b1c, b1d, b1e, b1f, b1g, b1h), C1, S1, va_cpy buf text2 0 0 X.length, ?_, x1⟩
  have ez : fX5_readText_L60 600 (Int32.ofNat X.length) 0 b1d (va_cpy buf text2 0 0 X.length) buf kC (n + 1) 1 (Int32.ofNat (0 + m)) (-1) (Int32.ofNat ((yH a b c d e).length + Y.length)) 0 kd1 at1 le1 nu1 b1b b1c b1e b1f b1g b1h C1 S1 = some (0, -1, Int32.ofNat X.length, Int32.ofNat ((yH a b c d e).length + Y.length), 0, 0, Int32.ofNat ((yH a b c d e).length + Y.length), l9, u9, 0, b1b, b1c, b1d, b1e, b1f, b1g, b1h, C1, S1, va_cpy buf text2 0 0 X.length) := by
    rw [fX5_readText_L60, if_neg (by decide), if_neg (by rw [J_lt _ _ (by omega) (by omega)]; omega), e9, gb5_some, if_pos rfl]
  rw [fX5_readText, Lt_eq, Lt_eq, ez1, ez2, if_neg hbd, if_pos hfit, Lt_eq, ecl, gb7_some, J_nat _ (by omega), eh, gb9_some, hkk, hn]
  exact ea.trans ez
/-- the call itself -/
theorem z_parse {buf : Nat → Int32} (hX : tx X buf) {a b c d e : Nat} (ha : a ≤ 99) (hb : b ≤ 9) (hc1 : 1 ≤ c) (hc : c ≤ 9) (hd : d ≤ 20) (he : e ≤ 100) {Y : List Nat} (hXY : X = yH a b c d e ++ Y) {m : Nat} {A' : aB} (hA : adv m Y (aE (sF5 a b c d e)) A') (hI : Inv A') {bd : Nat} (hbd : X.length ≤ bd) (hb600 : bd ≤ 600) (dl : Int32) (b0 : tBk) (ea0 ln0 nx0 ec0 kd0 at0 : Int32) (le0 : Int64) (nu0 : Int32) (q : tBk) (C : tCut) (S : tCutR) (text2 : Nat → Int32) (Hs : tHist) (filled : Nat → Int32) : ∃ (b' : tBk) (ea1 ln1 nx1 ec1 kd1 at1 : Int32) (le1 : Int64) (nu1 : Int32) (q' : tBk) (C' : tCut) (S' : tCutR) (tc : Nat → Int32) (Hs' : tHist) (filled' : Nat → Int32), fX9_parse (Int32.ofNat X.length) (Int32.ofNat bd) dl buf b0.1 b0.2.1 b0.2.2.1 b0.2.2.2.1 b0.2.2.2.2.1 b0.2.2.2.2.2.1 b0.2.2.2.2.2.2.1 b0.2.2.2.2.2.2.2 ea0 ln0 nx0 ec0 kd0 at0 le0 nu0 q.1 q.2.1 q.2.2.1 q.2.2.2.1 q.2.2.2.2.1 q.2.2.2.2.2.1 q.2.2.2.2.2.2.1 q.2.2.2.2.2.2.2 C S text2 Hs filled = some (0, 0, -1, b'.1, b'.2.1, b'.2.2.1, b'.2.2.2.1, b'.2.2.2.2.1, b'.2.2.2.2.2.1, b'.2.2.2.2.2.2.1, b'.2.2.2.2.2.2.2, ea1, ln1, nx1, ec1, kd1, at1, le1, nu1, q'.1, q'.2.1, q'.2.2.1, q'.2.2.2.1, q'.2.2.2.2.1, q'.2.2.2.2.2.1, q'.2.2.2.2.2.2.1, q'.2.2.2.2.2.2.2, C', S', tc, Hs', filled') ∧ cBk A' b' ∧ hOK Hs' := by
  have h500 := hX.1
  obtain ⟨nx, kd', at', le', nu', q', C', S', tc, e1, e2⟩ := z_text hX ha hb hc1 hc hd he hXY hA ea0 ln0 nx0 ec0 kd0 at0 le0 nu0 q C S text2
  obtain ⟨⟨r1, r2, r3, r4, r5, r6, r7, r8⟩, er, hr⟩ := c_copy e2 hI b0
  refine ⟨(r1, r2, r3, r4, r5, r6, r7, r8), -1, Int32.ofNat X.length, nx, 0, kd', at', le', nu', q', C', S', tc, (0, Hs.2.1, Hs.2.2), upd (upd filled 0 0) 1 0, ?_, hr, 0, by omega, rfl⟩
  rw [fX9_parse, Lt_eq, if_neg (by rw [i_0, J_lt _ _ (by omega) (by omega)]; omega), if_pos (by rw [J_le _ _ (by omega) (by omega)]; exact hbd), e1, gb20_some, if_pos rfl, er, gb8_some, fX3_forget, gb1_some]
  exact c_L83 _ _
end PT
