/-! one script: the book, the text, parse, eighteen changes -/
section PL
abbrev plT : Type := Int32 × Int32 × Int32 × (Nat → Int32) × Int32 × Int32 × Int32 × (Nat → Int32) × (Nat → Int32) × tUsers × tPieces × tWords × Int32 × Int32 × Int32 × Int32 × Int32 × Int32 × Int64 × Int32 × Int32 × Int32 × Int32 × (Nat → Int32) × (Nat → Int32) × tUsers × tPieces × tWords × tCut × tCutR × (Nat → Int32) × tCut × tCutR × tAdv × tCut × tCutR × tHist × (Nat → Int32) × (Nat → Int32)
def plOK (r : plT) : Prop := r.1 = 1 ∧ r.2.1 = 0
theorem z_L41 (D_lastErrorAt : Int32) (settings : (Nat → Int32)) (Pr_errorAt : Int32) (Pr_length : Int32) (Pr_next : Int32) (Pr_errorCode : Int32) (Pr_kind : Int32) (Pr_tokenAt : Int32) (Pr_letters : Int64) (Pr_number : Int32) (B2_time : Int32) (B2_chest : Int32) (B2_fund : Int32) (settings2 : (Nat → Int32)) (sums2 : (Nat → Int32)) (U2 : tUsers) (P2 : tPieces) (W2 : tWords) (C : tCut) (S : tCutR) (text : (Nat → Int32)) (filled : (Nat → Int32)) (L_price : Int32) (L_letter : Int32) (L_deposit : Int32) (L_keep : Int32) (L_refund : Int32) (L_users : Int32) 
    {k : Int32 → (Nat → Int32) → Int32 → Int32 → Int32 → (Nat → Int32) → tUsers → tPieces → tWords → tCut → tCutR → tAdv → tCut → tCutR → tHist → (Nat → Int32) → Int32 → Int32 → Int32 → Int32 → Int32 → (Nat → Int32) → (Nat → Int32) → (Nat → Int32) → (Nat → Int32) → (Nat → Int32) → (Nat → Int32) → (Nat → Int32) → (Nat → Int32) → (Nat → Int32) → (Nat → Int32) → Nat → Nat → Option (Int32 × Int32 × Int32 × (Nat → Int32) × Int32 × Int32 × Int32 × (Nat → Int32) × (Nat → Int32) × tUsers × tPieces × tWords × Int32 × Int32 × Int32 × Int32 × Int32 × Int32 × Int64 × Int32 × Int32 × Int32 × Int32 × (Nat → Int32) × (Nat → Int32) × tUsers × tPieces × tWords × tCut × tCutR × (Nat → Int32) × tCut × tCutR × tAdv × tCut × tCutR × tHist × (Nat → Int32) × (Nat → Int32))} {Q : plT → Prop}
    (hk : ∀ (buffer : Nat → Int32) (B_time B_chest B_fund : Int32) (sums : Nat → Int32) (U : tUsers) (P : tPieces) (W : tWords) (C2 : tCut) (S2 : tCutR) (V : tAdv) (C3 : tCut) (S3 : tCutR) (Hs : tHist) (p1 : Nat → Int32) (L_pieces L_words L_time L_chest L_fund : Int32) (coins accounts code paid owner uses idle user word cut : Nat → Int32), Ok (k 0 buffer B_time B_chest B_fund sums U P W C2 S2 V C3 S3 Hs p1 L_pieces L_words L_time L_chest L_fund coins accounts code paid owner uses idle user word cut 4058 1107884) Q) :
    ∀ (d m i : Nat) (A : aB) (buffer : Nat → Int32) (B_time B_chest B_fund : Int32) (sums : Nat → Int32) (U : tUsers) (P : tPieces) (W : tWords) (C2 : tCut) (S2 : tCutR) (V : tAdv) (C3 : tCut) (S3 : tCutR) (Hs : tHist) (p1 : Nat → Int32) (L_pieces L_words L_time L_chest L_fund : Int32) (coins accounts code paid owner uses idle user word cut : Nat → Int32), i + d = 18 → d < m → Iv A → fE A → cBk A (B_time, B_chest, B_fund, settings, sums, U, P, W) → lB A L_price L_letter L_deposit L_keep L_refund L_users L_pieces L_words L_time L_chest L_fund coins accounts code paid owner uses idle user word cut → hOK Hs → Ok (fL_plays_L41 D_lastErrorAt settings Pr_errorAt Pr_length Pr_next Pr_errorCode Pr_kind Pr_tokenAt Pr_letters Pr_number B2_time B2_chest B2_fund settings2 sums2 U2 P2 W2 C S text filled L_price L_letter L_deposit L_keep L_refund L_users k m (Int32.ofNat i) 0 buffer B_time B_chest B_fund sums U P W C2 S2 V C3 S3 Hs p1 L_pieces L_words L_time L_chest L_fund coins accounts code paid owner uses idle user word cut (170 + 216 * i) (140654 + 53735 * i)) Q := by
  intro d
  induction d with
  | zero =>
    intro m i A buffer B_time B_chest B_fund sums U P W C2 S2 V C3 S3 Hs p1 L_pieces L_words L_time L_chest L_fund coins accounts code paid owner uses idle user word cut hE hm hI hf hc hB hH
    obtain ⟨m, rfl⟩ : ∃ x, m = x + 1 := ⟨m - 1, by omega⟩
    have hi : i = 18 := by omega
    subst hi
    rw [fL_plays_L41, if_pos (by decide)]
    exact hk buffer B_time B_chest B_fund sums U P W C2 S2 V C3 S3 Hs p1 L_pieces L_words L_time L_chest L_fund coins accounts code paid owner uses idle user word cut
  | succ d ih =>
    intro m i A buffer B_time B_chest B_fund sums U P W C2 S2 V C3 S3 Hs p1 L_pieces L_words L_time L_chest L_fund coins accounts code paid owner uses idle user word cut hE hm hI hf hc hB hH
    obtain ⟨m, rfl⟩ : ∃ x, m = x + 1 := ⟨m - 1, by omega⟩
    obtain ⟨⟨r1, r2, r3, r4, r5, r6, r7, r8, r9, r10, r11, r12, r13, r14, r15, r16, r17, r18, r19, r20, r21, r22, r23, r24, r25, r26, r27, r28, r29⟩, er, h1, h2, A', hI', hf', hc', hB', hH'⟩ := z_changes hc hI hf hB hH buffer C2 S2 p1
    simp only at h1 h2 hc' hB' hH'
    subst h1 h2
    have es := z_state hc' hI' (fE_hel hf' hI'.1) hB' r13
    obtain ⟨⟨q1, q2, q3, q4, q5, q6, q7, q8, q9⟩, ea, g1, g2⟩ := z_asks hc' hI' hB' r3 r11 r12 V C3 S3 r29
    simp only at g1 g2
    subst g1 g2
    simp only at er es ea
    rw [fL_plays_L41, if_neg (by rw [show (18 : Int32) = Int32.ofNat 18 from rfl, J_le _ _ (by omega) (by omega)]; omega), er, gb29_some, if_neg (by omega), if_neg (by decide), es, gb1_some, if_neg (by omega), if_neg (by decide), ea, gb9_some, if_neg (by omega), if_neg (by decide), i_1, J_add]
    have h := ih m (i + 1) A' q3 r4 r5 r6 r7 r8 r9 r10 q4 q5 q6 q7 q8 r13 q9 r14 r15 r16 r17 r18 r19 r20 r21 r22 r23 r24 r25 r26 r27 r28 (by omega) (by omega) hI' hf' hc' hB' hH'
    rw [show 170 + 216 * (i + 1) = 170 + 216 * i + 40 + 6 + 170 by omega, show 140654 + 53735 * (i + 1) = 140654 + 53735 * i + 10700 + 35 + 43000 by omega] at h
    exact h
theorem z_plays (D_lastErrorAt : Int32) (buffer : (Nat → Int32)) (B_time : Int32) (B_chest : Int32) (B_fund : Int32) (settings : (Nat → Int32)) (sums : (Nat → Int32)) (U : tUsers) (P : tPieces) (W : tWords) (Pr_errorAt : Int32) (Pr_length : Int32) (Pr_next : Int32) (Pr_errorCode : Int32) (Pr_kind : Int32) (Pr_tokenAt : Int32) (Pr_letters : Int64) (Pr_number : Int32) (B2_time : Int32) (B2_chest : Int32) (B2_fund : Int32) (settings2 : (Nat → Int32)) (sums2 : (Nat → Int32)) (U2 : tUsers) (P2 : tPieces) (W2 : tWords) (C : tCut) (S : tCutR) (text : (Nat → Int32)) (C2 : tCut) (S2 : tCutR) (V : tAdv) (C3 : tCut) (S3 : tCutR) (Hs : tHist) (filled : (Nat → Int32)) (p1 : (Nat → Int32)) : Ok (fL_plays 0 D_lastErrorAt buffer B_time B_chest B_fund settings sums U P W Pr_errorAt Pr_length Pr_next Pr_errorCode Pr_kind Pr_tokenAt Pr_letters Pr_number B2_time B2_chest B2_fund settings2 sums2 U2 P2 W2 C S text C2 S2 V C3 S3 Hs filled p1) plOK := by
  obtain ⟨⟨T, g, y1, y2, y3, y4, y5, y6, y7, y8, y9, y10, y11, y12, y13, y14, y15, y16, y17, y18, y19, y20, y21⟩, eb, A, a, b, c, d, e, m, Y, ha, hb, hc1, hc, hd, he, hT, hL, h128, hA, hI, hf, hB⟩ := z_book p1
  simp only at hT hL h128 hB
  obtain ⟨buf, ef, hbuf⟩ := z_feeds h128 (show T.length ≤ 500 by omega) buffer
  have hr : T.length ≤ 20 * rws T.length ∧ 20 * rws T.length ≤ 600 := by
    unfold rws
    omega
  have hX : tx T buf := by
    refine ⟨by omega, fun i hi => ?_⟩
    have h1 := hbuf i (by omega)
    have h2 : pad T i = T.getD i 0 := by
      unfold pad
      rw [if_pos hi]
    rw [h2] at h1
    refine ⟨?_, h1⟩
    rw [List.getD_eq_getElem?_getD, List.getElem?_eq_getElem hi]
    exact h128 _ (List.getElem_mem hi)
  obtain ⟨⟨b1, b2, b3, b4, b5, b6, b7, b8⟩, x1, x2, x3, x4, x5, x6, x7, x8, ⟨q1, q2, q3, q4, q5, q6, q7, q8⟩, C', S', tc, Hs', fl', ep, hcb, hH⟩ := z_parse hX ha hb hc1 hc hd he hT hA hI.1 hr.1 hr.2 D_lastErrorAt (B_time, B_chest, B_fund, settings, sums, U, P, W) Pr_errorAt Pr_length Pr_next Pr_errorCode Pr_kind Pr_tokenAt Pr_letters Pr_number (B2_time, B2_chest, B2_fund, settings2, sums2, U2, P2, W2) C S text Hs filled
  simp only at ep
  have key := z_L41 (-1) b4 x1 x2 x3 x4 x5 x6 x7 x8 q1 q2 q3 q4 q5 q6 q7 q8 C' S' tc fl' y1 y2 y3 y4 y5 y6 (Q := plOK) (k := fun (D_buffered_3 : Int32) (buffer_2 : (Nat → Int32)) (B_time_2 : Int32) (B_chest_2 : Int32) (B_fund_2 : Int32) (sums_2 : (Nat → Int32)) (U_2 : tUsers) (P_2 : tPieces) (W_2 : tWords) (C2_1 : tCut) (S2_1 : tCutR) (V_1 : tAdv) (C3_1 : tCut) (S3_1 : tCutR) (Hs_2 : tHist) (p1_2 : (Nat → Int32)) (L_pieces_2 : Int32) (L_words_2 : Int32) (L_time_2 : Int32) (L_chest_2 : Int32) (L_fund_2 : Int32) (coins_2 : (Nat → Int32)) (accounts_2 : (Nat → Int32)) (code_2 : (Nat → Int32)) (paid_2 : (Nat → Int32)) (owner_2 : (Nat → Int32)) (uses_2 : (Nat → Int32)) (idle_2 : (Nat → Int32)) (user_2 : (Nat → Int32)) (word_2 : (Nat → Int32)) (cut_2 : (Nat → Int32)) (nc_1 : Nat) (ns_1 : Nat) => (if 4200 < nc_1 ∨ 1200000 < ns_1 then none else some (1, D_buffered_3, -1, buffer_2, B_time_2, B_chest_2, B_fund_2, b4, sums_2, U_2, P_2, W_2, x1, x2, x3, x4, x5, x6, x7, x8, q1, q2, q3, q4, q5, q6, q7, q8, C', S', tc, C2_1, S2_1, V_1, C3_1, S3_1, Hs_2, fl', p1_2))) (fun buffer B_time B_chest B_fund sums U P W C2 S2 V C3 S3 Hs p1 L_pieces L_words L_time L_chest L_fund coins accounts code paid owner uses idle user word cut => by
    rw [if_neg (by decide)]
    exact ok_some ⟨rfl, rfl⟩) 18 FU 0 A buf b1 b2 b3 b5 b6 b7 b8 C2 S2 V C3 S3 Hs' g y7 y8 y9 y10 y11 y12 y13 y14 y15 y16 y17 y18 y19 y20 y21 (by omega) (by simp only [FU]; omega) hI hf hcb hB hH
  rw [fL_plays, eb, gb23_some, ef, gb3_some, if_neg (by decide), ep, gb32_some, if_pos rfl]
  exact key
end PL
