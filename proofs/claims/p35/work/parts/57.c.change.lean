/-! one change: the class and the law's book stay together -/
abbrev chT : Type := Int32 × Int32 × (Nat → Int32) × Int32 × Int32 × Int32 × (Nat → Int32) × tUsers × tPieces × tWords × tCut × tCutR × tHist × Int32 × Int32 × Int32 × Int32 × Int32 × (Nat → Int32) × (Nat → Int32) × (Nat → Int32) × (Nat → Int32) × (Nat → Int32) × (Nat → Int32) × (Nat → Int32) × (Nat → Int32) × (Nat → Int32) × (Nat → Int32) × (Nat → Int32)
def chOK (settings : Nat → Int32) (price letter deposit keep refund users : Int32) (r : chT) : Prop := r.1 = 1 ∧ r.2.1 = 0 ∧ ∃ A, Iv A ∧ fE A ∧ cBk A (r.2.2.2.1, r.2.2.2.2.1, r.2.2.2.2.2.1, settings, r.2.2.2.2.2.2.1, r.2.2.2.2.2.2.2.1, r.2.2.2.2.2.2.2.2.1, r.2.2.2.2.2.2.2.2.2.1) ∧ lB A price letter deposit keep refund users (r.2.2.2.2.2.2.2.2.2.2.2.2.2.1) (r.2.2.2.2.2.2.2.2.2.2.2.2.2.2.1) (r.2.2.2.2.2.2.2.2.2.2.2.2.2.2.2.1) (r.2.2.2.2.2.2.2.2.2.2.2.2.2.2.2.2.1) (r.2.2.2.2.2.2.2.2.2.2.2.2.2.2.2.2.2.1) (r.2.2.2.2.2.2.2.2.2.2.2.2.2.2.2.2.2.2.1) (r.2.2.2.2.2.2.2.2.2.2.2.2.2.2.2.2.2.2.2.1) (r.2.2.2.2.2.2.2.2.2.2.2.2.2.2.2.2.2.2.2.2.1) (r.2.2.2.2.2.2.2.2.2.2.2.2.2.2.2.2.2.2.2.2.2.1) (r.2.2.2.2.2.2.2.2.2.2.2.2.2.2.2.2.2.2.2.2.2.2.1) (r.2.2.2.2.2.2.2.2.2.2.2.2.2.2.2.2.2.2.2.2.2.2.2.1) (r.2.2.2.2.2.2.2.2.2.2.2.2.2.2.2.2.2.2.2.2.2.2.2.2.1) (r.2.2.2.2.2.2.2.2.2.2.2.2.2.2.2.2.2.2.2.2.2.2.2.2.2.1) (r.2.2.2.2.2.2.2.2.2.2.2.2.2.2.2.2.2.2.2.2.2.2.2.2.2.2.1) (r.2.2.2.2.2.2.2.2.2.2.2.2.2.2.2.2.2.2.2.2.2.2.2.2.2.2.2.1) ∧ hOK (r.2.2.2.2.2.2.2.2.2.2.2.2.1)
theorem Iv_all : ∀ (d i : Nat) (A : aB), i + d = A.2.2.1.1 → Iv A → fE A → Iv (aAll d i A) ∧ fE (aAll d i A)
  | 0, _, _, _, h, hf => ⟨h, hf⟩
  | d + 1, i, A, e, h, hf => by
    have hi : i < A.2.2.1.1 := by omega
    obtain ⟨k1, k2, k3, k4, k5⟩ := kS_ok h.1 hi
    exact Iv_all d (i + 1) (aC1 A i) (show i + 1 + d = A.2.2.1.1 by omega) (Iv_cut h hi) (fE_cut hf hi (by unfold kI; rw [List.length_map]; exact k2))
section CG
variable {A : aB} {b : tBk} {Hs : tHist} {price letter deposit keep refund users pieces words time chest fund : Int32} {coins accounts code paid owner uses idle user word cut : Nat → Int32}
theorem z_changes (hc : cBk A b) (hI : Iv A) (hf : fE A) (hB : lB A price letter deposit keep refund users pieces words time chest fund coins accounts code paid owner uses idle user word cut) (hH : hOK Hs) (buffer : Nat → Int32) (C2 : tCut) (S2 : tCutR) (p2 : Nat → Int32) : Ok (fL_changes 0 buffer b.1 b.2.1 b.2.2.1 b.2.2.2.1 b.2.2.2.2.1 b.2.2.2.2.2.1 b.2.2.2.2.2.2.1 b.2.2.2.2.2.2.2 C2 S2 Hs price letter deposit keep refund users pieces words time chest fund coins accounts code paid owner uses idle user word cut p2) (chOK b.2.2.2.1 price letter deposit keep refund users) := by
  have hB0 := hB
  have o := Iv_oP hI
  have h4 := hI.1.1.1
  have h24 := hI.1.2.1.1
  have h16 := hI.1.2.2.1.1
  have hn1 := hI.2.2.2.2.1
  have hcI := hI.1
  obtain ⟨⟨b1, b2, b3, b4, b5⟩, b6, b7, b8, b9, b10, b11, b12, b13⟩ := hB
  obtain ⟨u, g1, hu, e1⟩ := z_draw (m := A.1.1) (by omega) (by omega) p2
  obtain ⟨c, g2, hc10, e2⟩ := z_draw (m := 10) (by decide) (by decide) g1
  have hux := setIx (show u < 4 by omega) (by decide)
  have hux' := setIx' (show u < 4 by omega) (by decide)
  have same : ∀ g : Nat → Int32, Ok (some (1, 0, buffer, b.1, b.2.1, b.2.2.1, b.2.2.2.2.1, b.2.2.2.2.2.1, b.2.2.2.2.2.2.1, b.2.2.2.2.2.2.2, C2, S2, Hs, pieces, words, time, chest, fund, coins, accounts, code, paid, owner, uses, idle, user, word, cut, g)) (chOK b.2.2.2.1 price letter deposit keep refund users) := fun g => ok_some ⟨rfl, rfl, A, hI, hf, hc, hB0, hH⟩
  rw [fL_changes, b6, e1, gb2_some, show (10 : Int32) = Int32.ofNat 10 from rfl, e2, gb2_some, ← b6]
  by_cases c0 : c = 0
  · subst c0
    rw [if_pos (by decide)]
    by_cases w0 : A.2.2.1.1 = 0
    · rw [if_pos (by rw [b9.1, w0]; rfl)]
      exact same _
    · obtain ⟨w, g3, hw, e3⟩ := z_draw (m := A.2.2.1.1) (by omega) (by omega) g2
      obtain ⟨fund', sums', U', P', W', Hs', q1, q2, q3⟩ := e_remove hc hcI hH hw
      obtain ⟨⟨r0, r1, r2, r3, r4, r5, r6, r7, r8, r9⟩, er, s1, s2⟩ := z_remove hB0 hI hw
      simp only at s1 s2
      rw [if_neg (by rw [b9.1, J_eq0 _ (by omega)]; exact w0), b9.1, e3, gb2_some, q1, gb7_some, ← b9.1, er, gb10_some, if_pos s1.symm]
      exact ok_some ⟨rfl, rfl, aEnd A w, Iv_end hI hw, fE_end hf hw, q2, s2, q3⟩
  rw [if_neg (by rw [J_eq0 _ (by omega)]; exact c0)]
  by_cases c1 : c = 1
  · subst c1
    rw [if_pos (by decide)]
    by_cases w0 : A.2.2.1.1 = 0
    · rw [if_pos (by rw [b9.1, w0]; rfl)]
      exact same _
    · obtain ⟨w, g3, hw, e3⟩ := z_draw (m := A.2.2.1.1) (by omega) (by omega) g2
      obtain ⟨fund', sums', U', P', W', C', S', Hs', q1, q2, q3⟩ := e_recut hc hcI hH hw C2 S2
      obtain ⟨⟨r0, r1, r2, r3, r4, r5, r6⟩, er, s1, s2⟩ := z_recut hB0 hI hw
      simp only at s1 s2
      obtain ⟨k1, k2, k3, k4, k5⟩ := kS_ok hcI hw
      have hIl : (kI A (A.2.2.1.2.1 w)).length = (kS A (A.2.2.1.2.1 w)).length := by
        unfold kI
        rw [List.length_map]
      have hr : rC1 A w = r0 := by
        rw [s1, hIl]
        rfl
      rw [if_neg (by rw [b9.1, J_eq0 _ (by omega)]; exact w0), b9.1, e3, gb2_some, q1, gb9_some, er, gb7_some, if_pos hr]
      exact ok_some ⟨rfl, rfl, aC1 A w, Iv_cut hI hw, fE_cut hf hw (by rw [hIl]; exact k2), q2, by rw [← b9.1]; exact s2, q3⟩
  rw [if_neg (by rw [i_1, J_eq _ _ (by omega) (by omega)]; exact c1)]
  by_cases c2 : c = 2
  · subst c2
    rw [if_pos (by decide)]
    obtain ⟨fund', sums', U', P', W', C', S', Hs', q1, q2, q3⟩ := e_recutAll hc hcI hH C2 S2
    refine z_rall A.2.2.1.1 0 FU A 0 _ _ _ _ _ _ (by omega) (by simp only [FU]; omega) hI hf hB0 (fun f' co' ac' us' id' cu' i1 i2 i3 => ?_)
    rw [q1, gb9_some, if_pos rfl]
    exact ok_some ⟨rfl, rfl, _, i1, i2, q2, i3, q3⟩
  rw [if_neg (by rw [i_2, J_eq _ _ (by omega) (by omega)]; exact c2)]
  -- a piece is brought
  have bring : ∀ (g : Nat → Int32) (g' : Nat → Int32) (l : List Nat), ab l → 1 ≤ l.length → l.length ≤ 6 → Ok (gb1 (fX10_find (Int32.ofNat (cd l)) pieces code) fun (r_11 : Int32) => if 0 ≤ r_11 then (some (1, 0, buffer, b.1, b.2.1, b.2.2.1, b.2.2.2.2.1, b.2.2.2.2.2.1, b.2.2.2.2.2.2.1, b.2.2.2.2.2.2.2, C2, S2, Hs, pieces, words, time, chest, fund, coins, accounts, code, paid, owner, uses, idle, user, word, cut, g')) else (if pieces = 24 then (some (1, 0, buffer, b.1, b.2.1, b.2.2.1, b.2.2.2.2.1, b.2.2.2.2.2.1, b.2.2.2.2.2.2.1, b.2.2.2.2.2.2.2, C2, S2, Hs, pieces, words, time, chest, fund, coins, accounts, code, paid, owner, uses, idle, user, word, cut, g')) else (if Int32.ofNat u < 0 ∨ 4 ≤ (Int32.ofNat u).toNatClampNeg then none else gb1 (fX10_priceOf (Int32.ofNat (cd l)) price letter) fun (r_12 : Int32) => if r_12 ≤ (coins (Int32.ofNat u).toNatClampNeg) then (gb9 (fX10_buys (Int32.ofNat (cd l)) (Int32.ofNat u) price letter pieces time chest coins accounts code paid owner uses idle) fun (L_pieces_1 : Int32) (L_chest_1 : Int32) (coins_4 : (Nat → Int32)) (accounts_4 : (Nat → Int32)) (code_1 : (Nat → Int32)) (paid_1 : (Nat → Int32)) (owner_1 : (Nat → Int32)) (uses_4 : (Nat → Int32)) (idle_4 : (Nat → Int32)) => gb3 (fL_feedsCode (Int32.ofNat (cd l)) 0 buffer) fun (r_13 : Int32) (D_buffered_1 : Int32) (buffer_1 : (Nat → Int32)) => if r_13 = 0 then (some (0, D_buffered_1, buffer_1, b.1, b.2.1, b.2.2.1, b.2.2.2.2.1, b.2.2.2.2.2.1, b.2.2.2.2.2.2.1, b.2.2.2.2.2.2.2, C2, S2, Hs, L_pieces_1, words, time, L_chest_1, fund, coins_4, accounts_4, code_1, paid_1, owner_1, uses_4, idle_4, user, word, cut, g')) else (gb7 (fX9_bring (Int32.ofNat u) D_buffered_1 buffer_1 b.1 b.2.1 b.2.2.1 b.2.2.2.1 b.2.2.2.2.1 b.2.2.2.2.2.1 b.2.2.2.2.2.2.1 b.2.2.2.2.2.2.2 Hs) fun (r_14 : Int32) (D_buffered_2 : Int32) (B_chest_1 : Int32) (sums_4 : (Nat → Int32)) (U_4 : tUsers) (P_4 : tPieces) (Hs_4 : tHist) => if r_14 = (L_pieces_1 - 1) then (some (1, D_buffered_2, buffer_1, b.1, B_chest_1, b.2.2.1, sums_4, U_4, P_4, b.2.2.2.2.2.2.2, C2, S2, Hs_4, L_pieces_1, words, time, L_chest_1, fund, coins_4, accounts_4, code_1, paid_1, owner_1, uses_4, idle_4, user, word, cut, g')) else (some (0, D_buffered_2, buffer_1, b.1, B_chest_1, b.2.2.1, sums_4, U_4, P_4, b.2.2.2.2.2.2.2, C2, S2, Hs_4, L_pieces_1, words, time, L_chest_1, fund, coins_4, accounts_4, code_1, paid_1, owner_1, uses_4, idle_4, user, word, cut, g')))) else (some (1, 0, buffer, b.1, b.2.1, b.2.2.1, b.2.2.2.2.1, b.2.2.2.2.2.1, b.2.2.2.2.2.2.1, b.2.2.2.2.2.2.2, C2, S2, Hs, pieces, words, time, chest, fund, coins, accounts, code, paid, owner, uses, idle, user, word, cut, g'))))) (chOK b.2.2.2.1 price letter deposit keep refund users) := by
    intro g g' l hl l1 l6
    have hC := lC_of b8 o
    have hco := co_bd hcI hu
    have hne : l ≠ [] := fun z => by rw [z] at l1; exact absurd l1 (by decide)
    have ef0 : fX10_find (Int32.ofNat (cd l)) pieces code = some (nr A.2.1.1 A.2.1.2.1 l) := by
      rw [b8.1]
      exact z_find hC hl (by omega)
    have ep0 : fX10_priceOf (Int32.ofNat (cd l)) price letter = some (Int32.ofNat (A.2.2.2.1 0 + A.2.2.2.1 1 * l.length)) := by
      rw [b1, b2]
      exact z_price hl (by omega) _ _
    have hpr : A.2.2.2.1 1 * l.length ≤ 9 * 6 := Nat.mul_le_mul hcI.2.2.2.2.1.2.1 l6
    have h99 : A.2.2.2.1 0 ≤ 99 := hcI.2.2.2.2.1.1
    rw [ef0, gb1_some]
    by_cases k1 : fnd A.2.1.1 A.2.1.2.1 l < A.2.1.1
    · unfold nr
      rw [if_pos k1, if_pos (by rw [J_0le _ (by omega)]; trivial)]
      exact same g'
    · have hnr : nr A.2.1.1 A.2.1.2.1 l = M1 := by
        unfold nr
        rw [if_neg k1]
      rw [hnr, if_neg (show ¬ (0 : Int32) ≤ M1 by decide)]
      by_cases k2 : A.2.1.1 = 24
      · rw [if_pos (by rw [b8.1, k2]; rfl)]
        exact same g'
      · rw [if_neg (by rw [b8.1, i_24, J_eq _ _ (by omega) (by omega)]; exact k2), if_neg hux, ep0, gb1_some, J_nat u (by omega), b7 u hu]
        by_cases k3 : A.2.2.2.1 0 + A.2.2.2.1 1 * l.length ≤ A.1.2.2 u
        · rw [if_pos (by rw [J_le _ _ (by omega) (by omega)]; exact k3)]
          obtain ⟨⟨q0, q1, q2, q3, q4, q5, q6, q7, q8⟩, eb, w1, w2, w3, w4⟩ := z_buys (st := A.2.2.2.1) (accounts := accounts) b8 h24 hl (by omega) (show u < 4 by omega) (b7 u hu) k3 time chest
          simp only at w1 w2 w3 w4
          rw [← b1, ← b2] at eb
          obtain ⟨bd, buf', ef, et⟩ := z_feedsCode hl (by omega) (by omega) buffer
          obtain ⟨chest', sums', U', P', Hs', x1, x2, x3⟩ := e_bring hc hcI hH (ab_wf hl) l6 hne et hu k1 (by omega) k3
          have hq0 : Int32.ofNat A.2.1.1 = q0 - 1 := by
            rw [w1.1]
            show _ = Int32.ofNat (A.2.1.1 + 1) - 1
            rw [i_1, J_sub _ _ (by omega), Nat.add_sub_cancel]
          rw [eb, gb9_some, ef, gb3_some, if_neg (by decide), x1, gb7_some, if_pos hq0]
          have hIb := Inv_buy hcI hu (show A.2.1.1 < 24 by omega) (ab_wf hl) l1 l6 k3
          refine ok_some ⟨rfl, rfl, aBuy A u l, Iv_buy hI ⟨hl, l6, hne⟩ hu k1 (by omega) k3 hIb, fE_buy hf u l, x2, ⟨⟨b1, b2, b3, b4, b5⟩, b6, ?_, ?_, ?_, ?_, b11, ?_, b13⟩, x3⟩
          · intro x hx
            show q2 x = Int32.ofNat (up A.1.2.2 u _ x)
            rw [w3]
            by_cases c : x = u
            · rw [c, upd_eq, up_eq]
            · rw [upd_ne _ _ _ _ c, up_ne _ _ _ _ c]
              exact b7 x hx
          · show lP (pBuy A.2.2.2.1 (Int32.ofNat u) A.2.2.2.2.2.1 A.2.1 l) q0 q4 q5 q6 q7 q8
            rw [← b11]
            exact w1
          · refine lW_pl b9 (fun x hx q hq => up_ne _ _ _ _ ?_)
            have := (hcI.2.2.1.2 x hx).2.1 q hq
            omega
          · intro x hx
            show q3 x = sBuy A.2.2.2.2.1 _ 1 x
            rw [w4 x]
            unfold sBuy
            rw [b10 0 (by decide), b10 4 (by decide), b10 x hx]
          · show q1 = _
            rw [w2, b12]
            rfl
        · rw [if_neg (by rw [J_le _ _ (by omega) (by omega)]; exact k3)]
          exact same g'
  by_cases c3 : c = 3
  · subst c3
    obtain ⟨l, g3, a1, a2, a3, e3⟩ := z_letters (m := 6) (by decide) (by decide) g2
    rw [if_pos (by decide), show (6 : Int32) = Int32.ofNat 6 from rfl, e3, gb2_some]
    exact bring g3 g3 l a1 a2 a3
  rw [if_neg (by rw [i_3, J_eq _ _ (by omega) (by omega)]; exact c3)]
  by_cases c4 : c = 4
  · subst c4
    obtain ⟨l, g3, a1, a2, a3, e3⟩ := z_letters (m := 6) (by decide) (by decide) g2
    rw [if_pos (by decide), show (6 : Int32) = Int32.ofNat 6 from rfl, e3, gb2_some]
    exact bring g3 g3 l a1 a2 a3
  rw [if_neg (by rw [i_4, J_eq _ _ (by omega) (by omega)]; exact c4)]
  by_cases c5 : c = 5
  · subst c5
    obtain ⟨r, g3, hr, e3⟩ := z_draw (m := 4) (by decide) (by decide) g2
    have e1r : (1 : Int32) + Int32.ofNat r = Int32.ofNat (1 + r) := by rw [i_1, J_add]
    obtain ⟨time', chest', sums', U', P', W', Hs', q1, q2, q3⟩ := e_tick hc hcI hH (m := 1 + r) (by omega) (by omega)
    rw [if_pos (by decide), show (4 : Int32) = Int32.ofNat 4 from rfl, e3, gb2_some, e1r]
    refine z_tks (mm := 1 + r) (by omega) (1 + r) 0 FU A 0 _ _ _ _ _ _ _ _ _ _ (by omega) (by simp only [FU]; omega) hI hf hB0 (fun x1 x2 x3 x4 x5 x6 x7 x8 x9 x10 i1 i2 i3 => ?_)
    rw [q1, gb8_some, if_pos rfl]
    exact ok_some ⟨rfl, rfl, _, i1, i2, q2, i3, q3⟩
  rw [if_neg (by rw [i_5, J_eq _ _ (by omega) (by omega)]; exact c5)]
  by_cases c6 : c = 6
  · subst c6
    obtain ⟨v, g3, hv, e3⟩ := z_draw (m := A.1.1) (by omega) (by omega) g2
    have hco := co_bd hcI hu
    have hvx := setIx (show v < 4 by omega) (by decide)
    obtain ⟨z, hz, hzc, hz9⟩ : ∃ z, (if Int32.ofNat (A.1.2.2 u) < 9999 then Int32.ofNat (A.1.2.2 u) else 9999) = Int32.ofNat z ∧ z ≤ A.1.2.2 u ∧ z ≤ 9999 := by
      by_cases k : A.1.2.2 u < 9999
      · exact ⟨A.1.2.2 u, by rw [if_pos (by rw [i_9999, J_lt _ _ (by omega) (by omega)]; exact k)], Nat.le_refl _, by omega⟩
      · exact ⟨9999, by rw [if_neg (by rw [i_9999, J_lt _ _ (by omega) (by omega)]; exact k)]; rfl, by omega, Nat.le_refl _⟩
    obtain ⟨x, g4, hx, e4⟩ := z_draw (m := z + 1) (by omega) (by omega) g3
    obtain ⟨U', Hs', q1, q2, q3⟩ := e_pay hc hcI hH hu hv (x := x) (by omega) (by omega)
    have hz1 : Int32.ofNat z + 1 = Int32.ofNat (z + 1) := by rw [i_1, J_add]
    have hc7 : ∀ y, y < A.1.1 → upd coins u (Int32.ofNat (A.1.2.2 u - x)) y = Int32.ofNat (up A.1.2.2 u (A.1.2.2 u - x) y) := by
      intro y hy
      by_cases k : y = u
      · rw [k, upd_eq, up_eq]
      · rw [upd_ne _ _ _ _ k, up_ne _ _ _ _ k]
        exact b7 y hy
    rw [if_pos (by decide), b6, e3, gb2_some, if_neg hux, J_nat u (by omega), b7 u hu, hz, Lt_eq, hz1, e4, gb2_some, if_neg hux', if_neg hux', Lt_eq, J_sub _ _ (by omega), if_neg hvx, if_neg hvx, Lt_eq, J_nat v (by omega), hc7 v hv, J_add, q1, gb3_some, if_neg (setIx' (show v < 4 by omega) (by decide)), if_pos (by rw [upd_eq]), ← b6]
    refine ok_some ⟨rfl, rfl, aPay A u v x, Iv_pay hI hu hv (by omega), fE_pay hf u v x, q2, ⟨⟨b1, b2, b3, b4, b5⟩, b6, ?_, b8, b9, b10, b11, b12, b13⟩, q3⟩
    intro y hy
    show upd (upd coins u _) v _ y = Int32.ofNat (up (up A.1.2.2 u _) v _ y)
    by_cases k : y = v
    · rw [k, upd_eq, up_eq]
    · rw [upd_ne _ _ _ _ k, up_ne _ _ _ _ k]
      exact hc7 y hy
  rw [if_neg (by rw [i_6, J_eq _ _ (by omega) (by omega)]; exact c6)]
  obtain ⟨l, g3, a1, a2, a3, e3⟩ := z_letters (m := 9) (by decide) (by decide) g2
  obtain ⟨s, s1, s2, s3⟩ := z_why hB0 hI a1 a3 (by omega) hu
  have hne : l ≠ [] := fun z => by rw [z] at a2; exact absurd a2 (by decide)
  have hbd : aRef A u (sS A l) < 10 := by
    unfold aRef
    split
    · decide
    · split
      · decide
      · split <;> decide
  rw [show (9 : Int32) = Int32.ofNat 9 from rfl, e3, gb2_some, s1, gb1_some, s3, gb1_some]
  by_cases w0 : aRef A u (sS A l) = 0
  · rw [if_pos (by rw [w0]; rfl)]
    have hd : A.2.2.1.1 < 16 ∧ A.2.1.1 + (frs A.2.1.1 A.2.1.2.1 [] (sS A l)).length ≤ 24 ∧ prS A.2.2.2.1 (frs A.2.1.1 A.2.1.2.1 [] (sS A l)) + A.2.2.2.1 2 * (sS A l).length ≤ A.1.2.2 u := by
      have hr := w0
      unfold aRef at hr
      by_cases a1 : A.2.2.1.1 < 16
      · rw [if_neg (by omega)] at hr
        by_cases a2 : A.2.1.1 + (frs A.2.1.1 A.2.1.2.1 [] (sS A l)).length ≤ 24
        · rw [if_neg (by omega)] at hr
          by_cases a3 : prS A.2.2.2.1 (frs A.2.1.1 A.2.1.2.1 [] (sS A l)) + A.2.2.2.1 2 * (sS A l).length ≤ A.1.2.2 u
          · exact ⟨a1, a2, a3⟩
          · rw [if_neg a3] at hr
            omega
        · rw [if_pos a2] at hr
          omega
      · rw [if_pos a1] at hr
        omega
    obtain ⟨d1, d2, d3⟩ := hd
    obtain ⟨⟨r0, r1, r2, r3, r4, r5, r6, r7, r8, r9, r10, r11, r12, r13⟩, er, v1⟩ := z_store hB0 hI (fun q hq => by have := Inv_ub hcI q hq; omega) a1 a3 (by omega) hu d1 d2 d3
    simp only at v1
    obtain ⟨bd, buf', ef, et⟩ := z_feedsCode a1 a3 (by omega) buffer
    obtain ⟨chest', fund', sums', U', P', W', C', S', Hs', x1, x2, x3⟩ := e_store hc hcI hH (ab_wf a1) (by omega) hne et hu w0 C2 S2
    have hw : Int32.ofNat A.2.2.1.1 = r1 - 1 := by
      rw [v1.2.2.2.2.1.1]
      show _ = Int32.ofNat (A.2.2.1.1 + 1) - 1
      rw [i_1, J_sub _ _ (by omega), Nat.add_sub_cancel]
    rw [er, gb14_some, ef, gb3_some, if_neg (by decide), x1, gb11_some, if_pos hw]
    exact ok_some ⟨rfl, rfl, aStore A u l (sS A l), Iv_store hI a1 a3 (by omega) hu d1 d2 d3, fE_store hf u l _, x2, v1, x3⟩
  · rw [if_neg (by rw [J_eq0 _ (by omega)]; exact w0)]
    exact same g3
end CG
