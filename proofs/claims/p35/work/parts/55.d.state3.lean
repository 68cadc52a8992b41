/-! the class's state is the law's book: words, users, accounts, all -/
theorem hel_eq (A : aB) (u : Nat) : A.2.2.2.1 2 * sm (fun k => if A.2.2.1.2.2.1 k = u then (A.2.2.1.2.2.2 k).length else 0) A.2.2.1.1 = hel A u := rfl
section ST3
variable {A : aB} {b : tBk} {nc ns : Nat} {coins accounts code paid owner uses idle user word cut : Nat → Int32} {Q1 : Int32 → Prop}
theorem s_L511 (hn : ¬ (6 < nc ∨ 35 < ns)) (hc : cBk A b) (hI : Iv A) {pieces words : Int32} (hL : lP A.2.1 pieces code paid owner uses idle) (hW : lW A.2.2.1 A.2.1.2.1 words user word cut) {w : Nat} (hw : w < A.2.2.1.1) {x4 : Int32} (k : Option Int32) : ∀ (d m i : Nat), i + d = 13 → d < m → fL_state_L511 x4 (Int32.ofNat w) (Int32.ofNat (A.2.2.1.2.1 w).length) (Int32.ofNat (A.2.2.1.2.2.2 w).length) b.2.2.2.2.2.2.1 b.2.2.2.2.2.2.2 pieces code word cut nc ns k m (Int32.ofNat i) = k := by
  have h24 := hI.1.2.1.1
  have h16 := hI.1.2.2.1.1
  have o := Iv_oP hI
  obtain ⟨wa, w9, w0, wS, wk, wi⟩ := Iv_word hI hw
  obtain ⟨x1, x2, x3⟩ := hW.2 w hw
  have hC := lC_of hL o
  have hlen := iW_len hI.1 hw
  have h3 := hI.2.2.1
  have hwq := (hI.1.2.2.1.2 w hw).2.1
  intro d
  induction d with
  | zero =>
    intro m i e hm
    obtain ⟨m, rfl⟩ : ∃ x, m = x + 1 := ⟨m - 1, by omega⟩
    rw [fL_state_L511, if_pos (by rw [i_13, J_le _ _ (by omega) (by omega)]; omega)]
  | succ d ih =>
    intro m i e hm
    obtain ⟨m, rfl⟩ : ∃ x, m = x + 1 := ⟨m - 1, by omega⟩
    have ihn := ih m (i + 1) (by omega) (by omega)
    have hix := setIx (show w < 17 by omega) (by decide)
    have hix' := setIx' (show w < 17 by omega) (by decide)
    rw [fL_state_L511, if_neg (by rw [i_13, J_le _ _ (by omega) (by omega)]; omega), e_wordLetter hc hI.1 hw (show i < 1000 by omega), gb1_some, if_neg hn]
    simp only [Lt_eq]
    rw [e_part hc hI.1 hw (show i < 1000 by omega), gb1_some]
    have hpart : ∀ (J : Int32 → Option Int32), (∀ v, v = (if h : i < (A.2.2.1.2.2.2 w).length then Int32.ofNat ((A.2.2.1.2.2.2 w)[i]) else -1) → J v = k) → (if Int32.ofNat (A.2.2.1.2.2.2 w).length ≤ Int32.ofNat i then J (-1) else (if Int32.ofNat w < 0 ∨ 17 ≤ (Int32.ofNat w).toNatClampNeg then none else if Int32.ofNat w < 0 ∨ 17 ≤ (Int32.ofNat w).toNatClampNeg then none else gb1 (fX10_piece (word (Int32.ofNat w).toNatClampNeg) (cut (Int32.ofNat w).toNatClampNeg) (Int32.ofNat i)) fun r => gb1 (fX10_find r pieces code) fun r2 => J r2)) = k := by
      intro J hJ
      by_cases g : i < (A.2.2.1.2.2.2 w).length
      · have hpi : ((A.2.2.1.2.2.2 w).map A.2.1.2.1)[i]? = some (A.2.1.2.1 ((A.2.2.1.2.2.2 w)[i])) := by
          rw [List.getElem?_map, List.getElem?_eq_getElem g]
          rfl
        have hq := hwq _ (List.getElem_mem g)
        obtain ⟨p1, p2, p3⟩ := o.2 _ hq
        rw [if_neg (by rw [J_le _ _ (by omega) (by omega)]; omega), if_neg hix, if_neg hix, J_nat w (by omega), x2, x3, z_piece wa w9 wS (by omega), hpi, gb1_some]
        show gb1 (fX10_find (Int32.ofNat (cd (A.2.1.2.1 ((A.2.2.1.2.2.2 w)[i])))) pieces code) _ = _
        rw [hL.1, z_find hC p1 (by omega), gb1_some]
        refine hJ _ ?_
        rw [dif_pos g]
        unfold nr
        rw [fnd_self h3 hq, if_pos hq]
      · rw [if_pos (by rw [J_le _ _ (by omega) (by omega)]; omega)]
        exact hJ _ (by rw [dif_neg g])
    by_cases g : i < (A.2.2.1.2.1 w).length
    · rw [dif_pos g, if_neg (by rw [J_le _ _ (by omega) (by omega)]; omega), if_neg hix, J_nat w (by omega), x2, cd_bit wa w9 g, if_pos rfl]
      rw [J_nat w (by omega), x2] at hpart
      refine hpart (fun t => if (if h : i < (A.2.2.1.2.2.2 w).length then Int32.ofNat ((A.2.2.1.2.2.2 w)[i]) else -1) = t then fL_state_L511 x4 (Int32.ofNat w) (Int32.ofNat (A.2.2.1.2.1 w).length) (Int32.ofNat (A.2.2.1.2.2.2 w).length) b.2.2.2.2.2.2.1 b.2.2.2.2.2.2.2 pieces code word cut nc ns k m (Int32.ofNat i + 1) else some 0) (fun v hv => ?_)
      rw [if_pos hv.symm, i_1, J_add]
      exact ihn
    · rw [dif_neg g, if_pos (by rw [J_le _ _ (by omega) (by omega)]; omega), if_pos rfl]
      refine hpart (fun t => if (if h : i < (A.2.2.1.2.2.2 w).length then Int32.ofNat ((A.2.2.1.2.2.2 w)[i]) else -1) = t then fL_state_L511 x4 (Int32.ofNat w) (Int32.ofNat (A.2.2.1.2.1 w).length) (Int32.ofNat (A.2.2.1.2.2.2 w).length) b.2.2.2.2.2.2.1 b.2.2.2.2.2.2.2 pieces code word cut nc ns k m (Int32.ofNat i + 1) else some 0) (fun v hv => ?_)
      rw [if_pos hv.symm, i_1, J_add]
      exact ihn
theorem s_L413 (hn : ¬ (6 < nc ∨ 35 < ns)) (hc : cBk A b) (hI : Iv A) {pieces words deposit : Int32} (hdep : deposit = Int32.ofNat (A.2.2.2.1 2)) (hL : lP A.2.1 pieces code paid owner uses idle) (hW : lW A.2.2.1 A.2.1.2.1 words user word cut) {x4 : Int32} {k : tCutR → Option Int32} (hk : ∀ Q, qS A A.1.1 A.2.1.1 A.2.2.1.1 Q → Ok (k Q) Q1) : ∀ (d m w : Nat) (Q : tCutR), w + d = A.2.2.1.1 → d < m → qS A A.1.1 A.2.1.1 w Q → Ok (fL_state_L413 x4 b.2.2.2.1 b.2.2.2.2.2.2.1 b.2.2.2.2.2.2.2 deposit pieces words code user word cut nc ns k m (Int32.ofNat w) Q) Q1 := by
  have h16 := hI.1.2.2.1.1
  have h4 := hI.1.1.1
  intro d
  induction d with
  | zero =>
    intro m w Q e hm hq
    obtain ⟨m, rfl⟩ : ∃ x, m = x + 1 := ⟨m - 1, by omega⟩
    have e' : w = A.2.2.1.1 := by omega
    subst e'
    rw [fL_state_L413, hW.1, if_pos (by rw [J_le _ _ (by omega) (by omega)]; omega)]
    exact hk Q hq
  | succ d ih =>
    intro m w Q e hm hq
    obtain ⟨m, rfl⟩ : ∃ x, m = x + 1 := ⟨m - 1, by omega⟩
    have hw : w < A.2.2.1.1 := by omega
    obtain ⟨wa, w9, w0, wS, wk, wi⟩ := Iv_word hI hw
    obtain ⟨x1, x2, x3⟩ := hW.2 w hw
    obtain ⟨e0, e1, e2, e3⟩ := e_word hc hI.1 hw
    obtain ⟨hw1, hw2, hw3, hw4, hw5⟩ := hI.1.2.2.1.2 w hw
    have hix := setIx (show w < 17 by omega) (by decide)
    have hix' := setIx' (show w < 17 by omega) (by decide)
    have hwl := wS.2.2
    have hlen := iW_len hI.1 hw
    rw [List.length_map] at hwl
    have hux := setIx (show A.2.2.1.2.2.1 w < 4 by omega) (by decide)
    have hpl : Int32.ofNat ((A.2.2.1.2.2.2 w).length - 1) + 1 = Int32.ofNat (A.2.2.1.2.2.2 w).length := by
      rw [i_1, J_add, show (A.2.2.1.2.2.2 w).length - 1 + 1 = (A.2.2.1.2.2.2 w).length by omega]
    rw [fL_state_L413, hW.1, if_neg (by rw [J_le _ _ (by omega) (by omega)]; omega), if_neg hix, J_nat w (by omega), x2, z_size wa w9, gb1_some, if_neg hn, if_neg hix', x3, z_bc wS, gb1_some, e0, gb1_some, if_neg hix', x1, if_pos rfl, e1, gb1_some, if_pos rfl, e2, gb1_some, List.length_map, hpl, if_pos rfl, e3, gb1_some, hdep, J_mul, if_pos rfl, show (0 : Int32) = Int32.ofNat 0 from rfl, s_L511 hn hc hI hL hW hw _ 13 FU 0 (by omega) (by simp only [FU]; omega)]
    simp only [Lt_eq]
    rw [← i_0, if_neg hix', if_neg hux, if_neg hix', if_neg hux, J_nat _ (by omega), i_1, J_add, ← hdep, ← hW.1]
    refine ih m (w + 1) _ (by omega) (by omega) ?_
    obtain ⟨q1, q2, q3, q4, q5⟩ := hq
    refine ⟨fun a ha => ?_, fun a => ?_, fun a => ?_, fun a ha => ?_, fun a ha => ?_⟩
    · rw [upd2_at, if_neg (fun z => absurd z.2 (by decide)), upd2_at, if_neg (fun z => absurd z.2 (by decide))]
      exact q1 a ha
    · rw [upd2_at, if_neg (fun z => absurd z.2 (by decide)), upd2_at, sm_suc]
      by_cases c : a = A.2.2.1.2.2.1 w
      · subst c
        rw [if_pos ⟨rfl, rfl⟩, if_pos rfl, q2, J_add]
      · rw [if_neg (fun z => c z.1), if_neg (fun z => c z.symm), Nat.add_zero]
        exact q2 a
    · rw [upd2_at, upd2_at, sm_suc]
      by_cases c : a = A.2.2.1.2.2.1 w
      · subst c
        rw [if_pos ⟨rfl, rfl⟩, if_neg (fun z => absurd z.2 (by decide)), if_pos rfl, q3, J_add, Nat.mul_add]
      · rw [if_neg (fun z => c z.1), upd2_at, if_neg (fun z => c z.1), if_neg (fun z => c z.symm), Nat.add_zero]
        exact q3 a
    · rw [upd2_at, if_neg (fun z => absurd z.2 (by decide)), upd2_at, if_neg (fun z => absurd z.2 (by decide))]
      exact q4 a ha
    · rw [upd2_at, if_neg (fun z => absurd z.2 (by decide)), upd2_at, if_neg (fun z => absurd z.2 (by decide))]
      exact q5 a ha
theorem qS_uQ {Q : tCutR} (hQ : qS A A.1.1 A.2.1.1 A.2.2.1.1 Q) (h4 : A.1.1 ≤ 4) {u : Nat} (hu : u < A.1.1) : ∀ i, i < 5 → Q u i = Int32.ofNat (uQ A u i) := by
  obtain ⟨q1, q2, q3, q4, q5⟩ := hQ
  intro i hi
  rcases (show i = 0 ∨ i = 1 ∨ i = 2 ∨ i = 3 ∨ i = 4 by omega) with rfl | rfl | rfl | rfl | rfl
  · exact q1 u hu
  · exact q2 u
  · exact q3 u
  · exact q4 u (by omega)
  · exact q5 u (by omega)
theorem s_L671 (hn : ¬ (6 < nc ∨ 35 < ns)) (hc : cBk A b) (hI : Iv A) {Q : tCutR} (hQ : qS A A.1.1 A.2.1.1 A.2.2.1.1 Q) {x4 x5 : Int32} {u : Nat} (hu : u < A.1.1) (k : Option Int32) : ∀ (d m i : Nat), i + d = 5 → d < m → fL_state_L671 x4 x5 (Int32.ofNat u) b.2.2.2.1 b.2.2.2.2.2.1 b.2.2.2.2.2.2.1 b.2.2.2.2.2.2.2 Q nc ns k m (Int32.ofNat i) = k := by
  have h4 := hI.1.1.1
  intro d
  induction d with
  | zero =>
    intro m i e hm
    obtain ⟨m, rfl⟩ : ∃ x, m = x + 1 := ⟨m - 1, by omega⟩
    rw [fL_state_L671, if_pos (by rw [i_5, J_le _ _ (by omega) (by omega)]; omega)]
  | succ d ih =>
    intro m i e hm
    obtain ⟨m, rfl⟩ : ∃ x, m = x + 1 := ⟨m - 1, by omega⟩
    rw [fL_state_L671, if_neg (by rw [i_5, J_le _ _ (by omega) (by omega)]; omega), e_user hc hI.1 hu (show i < 5 by omega), gb1_some, if_neg hn, if_neg (setIx (show u < 4 by omega) (by decide)), if_neg (setIx (show i < 5 by omega) (by decide)), J_nat u (by omega), J_nat i (by omega), if_pos (qS_uQ hQ h4 hu i (by omega)).symm, i_1, J_add]
    exact ih m (i + 1) (by omega) (by omega)
theorem s_L659 (hn : ¬ (6 < nc ∨ 35 < ns)) (hc : cBk A b) (hI : Iv A) {users : Int32} (hus : users = Int32.ofNat A.1.1) {Q : tCutR} (hQ : qS A A.1.1 A.2.1.1 A.2.2.1.1 Q) {x4 : Int32} {k : Int32 → Option Int32} : ∀ (d m u : Nat), u + d = A.1.1 → d < m → fL_state_L659 x4 b.2.2.2.1 b.2.2.2.2.2.1 b.2.2.2.2.2.2.1 b.2.2.2.2.2.2.2 users Q nc ns k m (oI (bm (wea A) u)) (Int32.ofNat u) = k (oI (bm (wea A) A.1.1)) := by
  have h4 := hI.1.1.1
  have hw : ∀ u, u < A.1.1 → Q u 0 + Q u 2 = Int32.ofNat (wea A u) := by
    intro u hu
    rw [hQ.1 u hu, hQ.2.2.1 u, J_add]
    rfl
  intro d
  induction d with
  | zero =>
    intro m u e hm
    obtain ⟨m, rfl⟩ : ∃ x, m = x + 1 := ⟨m - 1, by omega⟩
    rw [fL_state_L659, hus, if_pos (by rw [J_le _ _ (by omega) (by omega)]; omega), show u = A.1.1 by omega]
  | succ d ih =>
    intro m u e hm
    obtain ⟨m, rfl⟩ : ∃ x, m = x + 1 := ⟨m - 1, by omega⟩
    have hu : u < A.1.1 := by omega
    have ihn := ih m (u + 1) (by omega) (by omega)
    have hix := setIx (show u < 4 by omega) (by decide)
    rw [fL_state_L659, hus, if_neg (by rw [J_le _ _ (by omega) (by omega)]; omega), ← hus, show FU = 999 + 1 from rfl, show (0 : Int32) = Int32.ofNat 0 from rfl, s_L671 hn hc hI hQ hu _ 5 (999 + 1) 0 (by omega) (by omega), ← i_0, i_1, J_add]
    have wu := wea_bd hI.1 hu
    cases hb : bm (wea A) u with
    | none =>
      rw [bm_none _ hb] at ihn
      rw [if_pos (show oI none < 0 by decide)]
      exact ihn
    | some x =>
      have hx := bm_lt _ _ _ hb
      have wx := wea_bd hI.1 (show x < A.1.1 by omega)
      rw [bm_some _ hb] at ihn
      have hxx := setIx (show x < 4 by omega) (by decide)
      show (if Int32.ofNat x < 0 then _ else if _ then none else if _ then none else if Int32.ofNat x < 0 ∨ 4 ≤ (Int32.ofNat x).toNatClampNeg then none else if Int32.ofNat x < 0 ∨ 4 ≤ (Int32.ofNat x).toNatClampNeg then none else if Q (Int32.ofNat u).toNatClampNeg 0 + Q (Int32.ofNat u).toNatClampNeg 2 ≤ Q (Int32.ofNat x).toNatClampNeg 0 + Q (Int32.ofNat x).toNatClampNeg 2 then _ else _) = _
      rw [if_neg (by rw [J_neg _ (by omega)]; exact id), if_neg hix, if_neg hix, if_neg hxx, if_neg hxx, J_nat u (by omega), J_nat x (by omega), hw u hu, hw x (by omega)]
      by_cases g : wea A x < wea A u
      · rw [if_neg (by rw [J_le _ _ (by omega) (by omega)]; omega)]
        rw [if_pos g] at ihn
        exact ihn
      · rw [if_pos (by rw [J_le _ _ (by omega) (by omega)]; omega)]
        rw [if_neg g] at ihn
        exact ihn
theorem s_L750 (hn : ¬ (6 < nc ∨ 35 < ns)) (hc : cBk A b) (ha : ∀ i, i < 6 → accounts i = A.2.2.2.2.1 i) {x4 x5 : Int32} (k : Option Int32) : ∀ (d m i : Nat), i + d = 6 → d < m → fL_state_L750 x4 x5 b.2.2.2.2.1 accounts nc ns k m (Int32.ofNat i) = k := by
  intro d
  induction d with
  | zero =>
    intro m i e hm
    obtain ⟨m, rfl⟩ : ∃ x, m = x + 1 := ⟨m - 1, by omega⟩
    rw [fL_state_L750, if_pos (by rw [i_6, J_le _ _ (by omega) (by omega)]; omega)]
  | succ d ih =>
    intro m i e hm
    obtain ⟨m, rfl⟩ : ∃ x, m = x + 1 := ⟨m - 1, by omega⟩
    rw [fL_state_L750, if_neg (by rw [i_6, J_le _ _ (by omega) (by omega)]; omega), e_account hc (show i < 6 by omega), gb1_some, if_neg hn, if_neg (setIx (show i < 6 by omega) (by decide)), J_nat i (by omega), if_pos (ha i (by omega)).symm, i_1, J_add]
    exact ih m (i + 1) (by omega) (by omega)
/-- the whole state agrees -/
theorem z_state {price letter deposit keep refund users pieces words time chest fund : Int32} (hc : cBk A b) (hI : Iv A) (hf : A.2.2.2.2.2.2.2 = Int32.ofNat (sm (hel A) A.1.1)) (hB : lB A price letter deposit keep refund users pieces words time chest fund coins accounts code paid owner uses idle user word cut) (Hs : tHist) : fL_state b.1 b.2.1 b.2.2.1 b.2.2.2.1 b.2.2.2.2.1 b.2.2.2.2.2.1 b.2.2.2.2.2.2.1 b.2.2.2.2.2.2.2 Hs price letter deposit keep refund users pieces words time chest fund coins accounts code paid owner uses idle user word cut = some 1 := by
  have h4 := hI.1.1.1
  obtain ⟨⟨b1, b2, b3, b4, b5⟩, b6, b7, b8, b9, b10, b11, b12, b13⟩ := hB
  obtain ⟨g0, g1, g2, g3, g4, g5, g6⟩ := e_size hc hI.1 Hs
  rw [fL_state]
  simp only [Lt_eq]
  have hsz : ∀ w, w < 11 → fX9_size (Int32.ofNat w) b.1 b.2.1 b.2.2.1 b.2.2.2.1 b.2.2.2.2.2.1 b.2.2.2.2.2.2.1 b.2.2.2.2.2.2.2 Hs = some (upd (upd (upd (upd (upd (upd (upd (upd (upd (upd (upd (fun _ => 0) 0 users) 1 pieces) 2 words) 3 time) 4 chest) 5 fund) 6 price) 7 letter) 8 deposit) 9 keep) 10 refund w) := by
    intro w hw
    rcases (show w = 0 ∨ w = 1 ∨ w = 2 ∨ w = 3 ∨ w = 4 ∨ w = 5 ∨ w = 6 ∨ w = 7 ∨ w = 8 ∨ w = 9 ∨ w = 10 by omega) with rfl | rfl | rfl | rfl | rfl | rfl | rfl | rfl | rfl | rfl | rfl
    · refine Eq.trans g0 ?_; simp [upd, b6]
    · refine Eq.trans g1 ?_; simp [upd, b8.1]
    · refine Eq.trans g2 ?_; simp [upd, b9.1]
    · refine Eq.trans g3 ?_; simp [upd, b11]
    · refine Eq.trans g4 ?_; simp [upd, b12]
    · refine Eq.trans g5 ?_; simp [upd, b13]
    · refine Eq.trans (g6 0 (by decide)) ?_; simp [upd, b1]
    · refine Eq.trans (g6 1 (by decide)) ?_; simp [upd, b2]
    · refine Eq.trans (g6 2 (by decide)) ?_; simp [upd, b3]
    · refine Eq.trans (g6 3 (by decide)) ?_; simp [upd, b4]
    · refine Eq.trans (g6 4 (by decide)) ?_; simp [upd, b5]
  apply ok_eq1
  refine (congrArg (fun z => Ok z (fun r : Int32 => r = 1)) (s_L89 (by decide) hsz _ 11 FU 0 (by omega) (by simp only [FU]; omega))).mpr ?_
  refine s_L124 h4 b6 b7 (fun Q hQ => ?_) A.1.1 FU 0 _ (by omega) (by simp only [FU]; omega) ⟨fun a ha => absurd ha (Nat.not_lt_zero a), fun _ => rfl, fun _ => by rw [show sm _ 0 = 0 from rfl, Nat.mul_zero]; rfl, fun _ _ => rfl, fun _ _ => rfl⟩
  refine s_L158 (by decide) hc hI b8 (fun Q hQ => ?_) A.2.1.1 FU 0 Q (by omega) (by have := hI.1.2.1.1; simp only [FU]; omega) hQ
  refine s_L413 (by decide) hc hI b3 b8 b9 (fun Q hQ => ?_) A.2.2.1.1 FU 0 Q (by omega) (by have := hI.1.2.2.1.1; simp only [FU]; omega) hQ
  refine (congrArg (fun z => Ok z (fun r : Int32 => r = 1)) (s_L659 (by decide) hc hI b6 hQ A.1.1 FU 0 (by omega) (by simp only [FU]; omega))).mpr ?_
  refine (congrArg (fun z => Ok z (fun r : Int32 => r = 1)) (s_L750 (by decide) hc b10 _ 6 FU 0 (by omega) (by simp only [FU]; omega))).mpr ?_
  rw [e_favourite hc hI.1, gb1_some, if_pos rfl, e_richest hc hI.1, gb1_some, if_pos rfl, e_isWhole hc hI.1 hf, gb1_some, if_neg (by decide)]
  exact ok_some rfl
end ST3
