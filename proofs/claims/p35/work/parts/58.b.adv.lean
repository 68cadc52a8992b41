/-! statements of a certain text: the class's parser goes on -/
def adv (m : Nat) (Y : List Nat) (A A' : aB) : Prop := m ≤ Y.length ∧ ∀ (X R : List Nat) (tc : Nat → Int32) (p : Nat), tx X tc → X.drop p = Y ++ R → p ≤ X.length → ∀ (np : Nat) (p1 : Nat → Int32) (kk : Int32 → Int32 → Int32 → Int32 → Int32 → Int64 → Int32 → Int32 → Int32 → (Nat → Int32) → tUsers → tPieces → tWords → tCut → tCutR → Option (Int32 × Int32 × Int32 × Int32 × Int32 × Int32 × Int32 × Int64 × Int32 × Int32 × Int32 × Int32 × (Nat → Int32) × (Nat → Int32) × tUsers × tPieces × tWords × tCut × tCutR × (Nat → Int32))) (n j : Nat) (kd at0 : Int32) (le : Int64) (nu : Int32) (b : tBk) (C : tCut) (S : tCutR), j ≤ p → cBk A b → ∃ (kd' at' : Int32) (le' : Int64) (nu' : Int32) (b' : tBk) (C' : tCut) (S' : tCutR), cBk A' b' ∧ b'.1 = b.1 ∧ b'.2.2.2.1 = b.2.2.2.1 ∧ fX5_readText_L60 np (Int32.ofNat X.length) b.1 b.2.2.2.1 tc p1 kk (n + m) 1 (Int32.ofNat j) (-1) (Int32.ofNat p) 0 kd at0 le nu b.2.1 b.2.2.1 b.2.2.2.2.1 b.2.2.2.2.2.1 b.2.2.2.2.2.2.1 b.2.2.2.2.2.2.2 C S = fX5_readText_L60 np (Int32.ofNat X.length) b.1 b.2.2.2.1 tc p1 kk n 1 (Int32.ofNat (j + m)) (-1) (Int32.ofNat (p + Y.length)) 0 kd' at' le' nu' b'.2.1 b'.2.2.1 b'.2.2.2.2.1 b'.2.2.2.2.2.1 b'.2.2.2.2.2.2.1 b'.2.2.2.2.2.2.2 C' S'
theorem adv_nil (A : aB) : adv 0 [] A A := ⟨Nat.le_refl _, fun X R tc p h hd hp np p1 kk n j kd at0 le nu b C S hj hc => ⟨kd, at0, le, nu, b, C, S, hc, rfl, rfl, rfl⟩⟩
theorem adv_app {m1 m2 : Nat} {Y1 Y2 : List Nat} {A A1 A2 : aB} (h1 : adv m1 Y1 A A1) (h2 : adv m2 Y2 A1 A2) : adv (m1 + m2) (Y1 ++ Y2) A A2 := by
  refine ⟨by rw [List.length_append]; have := h1.1; have := h2.1; omega, fun X R tc p h hd hp np p1 kk n j kd at0 le nu b C S hj hc => ?_⟩
  rw [List.append_assoc] at hd
  have hd2 := drop_add hd
  have hl := drop_len hd hp
  rw [List.length_append] at hl
  have hm := h1.1
  obtain ⟨kd1, at1, le1, nu1, b1, C1, S1, c1, x1, x2, e1⟩ := h1.2 X (Y2 ++ R) tc p h hd hp np p1 kk (n + m2) j kd at0 le nu b C S hj hc
  obtain ⟨kd2, at2, le2, nu2, b2, C2, S2, c2, y1, y2, e2⟩ := h2.2 X R tc (p + Y1.length) h hd2 (by omega) np p1 kk n (j + m1) kd1 at1 le1 nu1 b1 C1 S1 (by omega) c1
  rw [x1, x2] at e2
  refine ⟨kd2, at2, le2, nu2, b2, C2, S2, c2, y1.trans x1, y2.trans x2, ?_⟩
  rw [show n + (m1 + m2) = n + m2 + m1 by omega, e1, e2, List.length_append, Nat.add_assoc p, Nat.add_assoc j]
theorem kw_wf : ∀ i, i < 4 → wf (kw i) ∧ 1 ≤ (kw i).length ∧ (kw i).length ≤ 12 := by
  intro i hi
  rcases (show i = 0 ∨ i = 1 ∨ i = 2 ∨ i = 3 by omega) with rfl | rfl | rfl | rfl <;> exact ⟨by unfold wf; decide, by decide, by decide⟩
theorem sp_kw (i j : Nat) (hi : i < 4) (hj : j < 4) : fX4_spell i (L64 (kw j)) = some (if j = i then 1 else 0) := by
  obtain ⟨k1, k2, k3⟩ := kw_wf j hj
  rw [c_spell k1 k3 hi]
  have : (kw j = kw i) = (j = i) := by
    rcases (show i = 0 ∨ i = 1 ∨ i = 2 ∨ i = 3 by omega) with rfl | rfl | rfl | rfl <;> rcases (show j = 0 ∨ j = 1 ∨ j = 2 ∨ j = 3 by omega) with rfl | rfl | rfl | rfl <;> simp [kw]
  simp only [this]
theorem sp11 : fX4_spell 1 (L64 (kw 1)) = some 1 := sp_kw 1 1 (by decide) (by decide)
theorem sp12 : fX4_spell 1 (L64 (kw 2)) = some 0 := sp_kw 1 2 (by decide) (by decide)
theorem sp13 : fX4_spell 1 (L64 (kw 3)) = some 0 := sp_kw 1 3 (by decide) (by decide)
theorem sp22 : fX4_spell 2 (L64 (kw 2)) = some 1 := sp_kw 2 2 (by decide) (by decide)
theorem sp23 : fX4_spell 2 (L64 (kw 3)) = some 0 := sp_kw 2 3 (by decide) (by decide)
theorem sp33 : fX4_spell 3 (L64 (kw 3)) = some 1 := sp_kw 3 3 (by decide) (by decide)
theorem tx_kw : gTx 4 = (kw 0).map (fun x => x + 96) ++ [32] ∧ gTx 5 = (kw 1).map (fun x => x + 96) ++ [32] ∧ gTx 6 = (kw 2).map (fun x => x + 96) ++ [32] ∧ gTx 7 = (kw 3).map (fun x => x + 96) ++ [32] := by decide +kernel
def yU (u c : Nat) : List Nat := gTx 5 ++ [97 + u] ++ [32] ++ gDec c ++ [59]
def yP (l : List Nat) : List Nat := gTx 6 ++ l.map (fun x => x + 96) ++ [59]
def yW (u : Nat) (l : List Nat) : List Nat := gTx 7 ++ [97 + u] ++ [32] ++ l.map (fun x => x + 96) ++ [59]
theorem sp1 {X : List Nat} {p : Nat} {R : List Nat} (h : X.drop p = 32 :: R) : ∀ j, p ≤ j → j < p + 1 → bX X j = 32 := fun j a b => by
  rw [show j = p + 0 by omega, gd h 0]
  rfl
theorem d1 {X : List Nat} {p c : Nat} {R : List Nat} (h : X.drop p = c :: R) : X.drop (p + 1) = R := drop_add (Y := [c]) h
section AV
variable {A : aB}
theorem adv_user (hI : Inv A) (h4 : A.1.1 < 4) {u c : Nat} (hu : u < 26) (hc1000 : c < 1000) (hno : ¬ fnd A.1.1 A.1.2.1 [u + 1] < A.1.1) : adv 1 (yU u c) A (aUser A [u + 1] c) := by
  have hlen : (yU u c).length = 8 + (gDec c).length := by
    unfold yU
    rw [tx_kw.2.1]
    simp [kw]
    omega
  refine ⟨by omega, fun X R tc p h hd hp np p1 kk n j kd at0 le nu b C S hj hc => ?_⟩
  obtain ⟨k1, k2, k3⟩ := kw_wf 1 (by decide)
  have h500 := h.1
  have hw1 : wf [u + 1] := by
    intro x hx
    rw [List.mem_singleton.mp hx]
    omega
  have q0 : X.drop p = (kw 1).map (fun x => x + 96) ++ 32 :: ([u + 1].map (fun x => x + 96) ++ 32 :: (gDec c ++ 59 :: R)) := by
    rw [hd]
    unfold yU
    rw [tx_kw.2.1]
    simp [Nat.add_comm, Nat.add_left_comm]
  have q1 : X.drop (p + 4) = 32 :: ([u + 1].map (fun x => x + 96) ++ 32 :: (gDec c ++ 59 :: R)) := drop_add q0
  have q2 := d1 q1
  have q3 : X.drop (p + 4 + 1 + 1) = 32 :: (gDec c ++ 59 :: R) := drop_add q2
  have q4 := d1 q3
  have q5 : X.drop (p + 4 + 1 + 1 + 1 + (gDec c).length) = 59 :: R := drop_add q4
  have hl5 := drop_le q5
  have t0 := tk_word h (Nat.le_refl p) (fun j a b => by omega) q0 k1 k2 k3 (by decide)
  have t1 := tk_word h (show p + 4 ≤ p + 4 + 1 by omega) (sp1 q1) q2 hw1 (Nat.le_refl 1) (show (1 : Nat) ≤ 12 by decide) (by decide)
  have t2 := tk_num h (show p + 4 + 1 + 1 ≤ p + 4 + 1 + 1 + 1 by omega) (sp1 q3) q4 hc1000 (by decide)
  have t3 := tk_semi h q5
  obtain ⟨l', u', r0, r0l, _⟩ := t0 kd at0 le nu
  rw [r0l rfl] at r0
  obtain ⟨v1, r1⟩ := rd_letters t1 (-1) 0 3 (Int32.ofNat p) (L64 (kw 1)) u'
  obtain ⟨v2, r2⟩ := rd_number t2 (lo := 0) (hi := 9999) (by omega) (by omega) (by omega) (-1) 0 3 (Int32.ofNat (p + 4 + 1)) (L64 [u + 1]) v1
  obtain ⟨v3, v4, r3⟩ := rd_semi t3 (-1) 0 4 (Int32.ofNat (p + 4 + 1 + 1 + 1)) v2 (Int32.ofNat c)
  have eC := c_numU hc.1 (by omega) (fun j hj => hI.1.2 j hj) hw1 (show (1 : Nat) ≤ 12 by decide)
  have hnn : nr A.1.1 A.1.2.1 [u + 1] = -1 := by
    rw [nr_eq1 A.1.1 A.1.2.1 [u + 1] (by omega)]
    exact hno
  obtain ⟨U', ca, cb⟩ := c_addU hc.1 h4 [u + 1] c
  obtain ⟨c1, c2, c3, c4, c5, c6, c7, c8⟩ := hc
  refine ⟨5, Int32.ofNat (p + 4 + 1 + 1 + 1 + (gDec c).length), v3, v4, (b.1, b.2.1, b.2.2.1, b.2.2.2.1, b.2.2.2.2.1, U', b.2.2.2.2.2.2.1, b.2.2.2.2.2.2.2), C, S, ⟨cb, c2, c3, c4, c5, c6, c7, c8⟩, rfl, rfl, ?_⟩
  have r1' : fX5_readLetters (-1) (Int32.ofNat X.length) (Int32.ofNat (p + (kw 1).length)) 0 3 (Int32.ofNat p) (L64 (kw 1)) u' tc = some (1, -1, Int32.ofNat (p + 4 + 1 + 1), 0, 3, Int32.ofNat (p + 4 + 1), L64 [u + 1], v1) := r1
  have r2' : fX5_readNumber 0 9999 (-1) (Int32.ofNat X.length) (Int32.ofNat (p + 4 + 1 + 1)) 0 3 (Int32.ofNat (p + 4 + 1)) (L64 [u + 1]) v1 tc = some (1, -1, Int32.ofNat (p + 4 + 1 + 1 + 1 + (gDec c).length), 0, 4, Int32.ofNat (p + 4 + 1 + 1 + 1), v2, Int32.ofNat c) := r2
  rw [fX5_readText_L60, if_neg (by decide), if_neg (by rw [J_lt _ _ (by omega) (by omega)]; omega), r0, gb5_some, if_neg (by decide), fX5_readStatement, Lt_eq, if_pos rfl, sp11, gb1_some, if_neg (by decide), fX5_readUser, c_isFullU c1 (by omega), gb1_some, if_pos h4, if_pos (by rfl), r1', gb8_some, if_neg (by decide), eC, gb1_some, if_pos hnn, r2', gb8_some, if_neg (by decide), ca, gb1_some, r3, gb8_some, gb9_some, gb16_some, i_1, J_add]
  rw [show p + (yU u c).length = p + 4 + 1 + 1 + 1 + (gDec c).length + 1 by omega]
theorem adv_piece (hI : Inv A) (h24 : A.2.1.1 < 24) {l : List Nat} (hl : ab l) (l1 : 1 ≤ l.length) (l6 : l.length ≤ 6) (hno : ¬ fnd A.2.1.1 A.2.1.2.1 l < A.2.1.1) : adv 1 (yP l) A (aPiece A l) := by
  have hlen : (yP l).length = 7 + l.length := by
    unfold yP
    rw [tx_kw.2.2.1]
    simp [kw]
    omega
  refine ⟨by omega, fun X R tc p h hd hp np p1 kk n j kd at0 le nu b C S hj hc => ?_⟩
  obtain ⟨k1, k2, k3⟩ := kw_wf 2 (by decide)
  have h500 := h.1
  have hw1 := ab_wf hl
  have q0 : X.drop p = (kw 2).map (fun x => x + 96) ++ 32 :: (l.map (fun x => x + 96) ++ 59 :: R) := by
    rw [hd]
    unfold yP
    rw [tx_kw.2.2.1]
    simp
  have q1 : X.drop (p + 5) = 32 :: (l.map (fun x => x + 96) ++ 59 :: R) := drop_add q0
  have q2 := d1 q1
  have q5 : X.drop (p + 5 + 1 + l.length) = 59 :: R := by
    have := drop_add q2
    rw [List.length_map] at this
    exact this
  have hl5 := drop_le q5
  have t0 := tk_word h (Nat.le_refl p) (fun j a b => by omega) q0 k1 k2 k3 (by decide)
  have t1 := tk_word h (show p + 5 ≤ p + 5 + 1 by omega) (sp1 q1) q2 hw1 l1 (by omega) (by decide)
  have t3 := tk_semi h q5
  obtain ⟨l', u', r0, r0l, _⟩ := t0 kd at0 le nu
  rw [r0l rfl] at r0
  obtain ⟨v1, r1⟩ := rd_letters t1 (-1) 0 3 (Int32.ofNat p) (L64 (kw 2)) u'
  obtain ⟨v3, v4, r3⟩ := rd_semi t3 (-1) 0 3 (Int32.ofNat (p + 5 + 1)) (L64 l) v1
  have eC := c_numP hc.2.1 (by omega) (okP_Inv hI) hw1 (show l.length ≤ 12 by omega)
  have eL := c_lengthOf hw1 (show l.length ≤ 12 by omega)
  have hnn : nr A.2.1.1 A.2.1.2.1 l = -1 := by
    rw [nr_eq1 A.2.1.1 A.2.1.2.1 l (by omega)]
    exact hno
  obtain ⟨⟨r5, P'⟩, ca, cb, cc⟩ := c_addP hc.2.1 h24 l 0 M1 0
  simp only at cc
  obtain ⟨c1, c2, c3, c4, c5, c6, c7, c8⟩ := hc
  refine ⟨5, Int32.ofNat (p + 5 + 1 + l.length), v3, v4, (b.1, b.2.1, b.2.2.1, b.2.2.2.1, b.2.2.2.2.1, b.2.2.2.2.2.1, P', b.2.2.2.2.2.2.2), C, S, ⟨c1, cc, c3, c4, c5, c6, c7, c8⟩, rfl, rfl, ?_⟩
  have r1' : fX5_readLetters (-1) (Int32.ofNat X.length) (Int32.ofNat (p + (kw 2).length)) 0 3 (Int32.ofNat p) (L64 (kw 2)) u' tc = some (1, -1, Int32.ofNat (p + 5 + 1 + l.length), 0, 3, Int32.ofNat (p + 5 + 1), L64 l, v1) := r1
  have ca' : fX6_add (L64 l) 0 (-1) 0 b.2.2.2.2.2.2.1 = some (r5, P') := ca
  rw [fX5_readText_L60, if_neg (by decide), if_neg (by rw [J_lt _ _ (by omega) (by omega)]; omega), r0, gb5_some, if_neg (by decide), fX5_readStatement, Lt_eq, if_pos rfl, sp12, gb1_some, if_pos rfl, Lt_eq, if_pos rfl, sp22, gb1_some, if_neg (by decide), fX5_readPiece, c_isFullP c2 (by omega), gb1_some, if_pos h24, if_pos (by rfl), r1', gb8_some, if_neg (by decide), eC, gb1_some, if_pos hnn, eL, gb1_some, if_pos (by rw [i_6, J_le _ _ (by omega) (by omega)]; exact l6), ca', gb2_some, r3, gb8_some, gb9_some, gb16_some, i_1, J_add]
  rw [show p + (yP l).length = p + 5 + 1 + l.length + 1 by omega]
theorem adv_word (hI : Inv A) {u : Nat} (hu : u < A.1.1) (hn : fnd A.1.1 A.1.2.1 [u + 1] = u) {l : List Nat} (hl : ab l) (l1 : 1 ≤ l.length) (l9 : l.length ≤ 9) (h0 : aRef A u (sS A l) = 0) : adv 1 (yW u l) A (aStore A u l (sS A l)) := by
  have h4 := hI.1.1
  have h16 := hI.2.2.1.1
  have hlen : (yW u l).length = 8 + l.length := by
    unfold yW
    rw [tx_kw.2.2.2]
    simp [kw]
    omega
  refine ⟨by omega, fun X R tc p h hd hp np p1 kk n j kd at0 le nu b C S hj hc => ?_⟩
  obtain ⟨k1, k2, k3⟩ := kw_wf 3 (by decide)
  have h500 := h.1
  have hw1 : wf [u + 1] := by
    intro x hx
    rw [List.mem_singleton.mp hx]
    omega
  have hw2 := ab_wf hl
  have q0 : X.drop p = (kw 3).map (fun x => x + 96) ++ 32 :: ([u + 1].map (fun x => x + 96) ++ 32 :: (l.map (fun x => x + 96) ++ 59 :: R)) := by
    rw [hd]
    unfold yW
    rw [tx_kw.2.2.2]
    simp [Nat.add_comm, Nat.add_left_comm]
  have q1 : X.drop (p + 4) = 32 :: ([u + 1].map (fun x => x + 96) ++ 32 :: (l.map (fun x => x + 96) ++ 59 :: R)) := drop_add q0
  have q2 := d1 q1
  have q3 : X.drop (p + 4 + 1 + 1) = 32 :: (l.map (fun x => x + 96) ++ 59 :: R) := drop_add q2
  have q4 := d1 q3
  have q5 : X.drop (p + 4 + 1 + 1 + 1 + l.length) = 59 :: R := by
    have := drop_add q4
    rw [List.length_map] at this
    exact this
  have hl5 := drop_le q5
  have t0 := tk_word h (Nat.le_refl p) (fun j a b => by omega) q0 k1 k2 k3 (by decide)
  have t1 := tk_word h (show p + 4 ≤ p + 4 + 1 by omega) (sp1 q1) q2 hw1 (Nat.le_refl 1) (show (1 : Nat) ≤ 12 by decide) (by decide)
  have t2 := tk_word h (show p + 4 + 1 + 1 ≤ p + 4 + 1 + 1 + 1 by omega) (sp1 q3) q4 hw2 l1 (by omega) (by decide)
  have t3 := tk_semi h q5
  obtain ⟨l', u', r0, r0l, _⟩ := t0 kd at0 le nu
  rw [r0l rfl] at r0
  obtain ⟨v1, r1⟩ := rd_letters t1 (-1) 0 3 (Int32.ofNat p) (L64 (kw 3)) u'
  obtain ⟨v2, r2⟩ := rd_letters t2 (-1) 0 3 (Int32.ofNat (p + 4 + 1)) (L64 [u + 1]) v1
  obtain ⟨v3, v4, r3⟩ := rd_semi t3 (-1) 0 3 (Int32.ofNat (p + 4 + 1 + 1 + 1)) (L64 l) v2
  have eC := c_numU hc.1 h4 (fun j hj => hI.1.2 j hj) hw1 (show (1 : Nat) ≤ 12 by decide)
  have hnu : nr A.1.1 A.1.2.1 [u + 1] = Int32.ofNat u := by rw [nr, if_pos (by rw [hn]; exact hu), hn]
  have hnn : ¬ Int32.ofNat u = -1 := by
    rw [M1_def, J_ne1 _ (by omega)]
    exact fun z => z
  obtain ⟨⟨C', S'⟩, x1, x2, x3, x4⟩ := c_cheap hc hI hw2 (show l.length ≤ 12 by omega) C S
  simp only at x2 x3 x4
  have er0 := c_ref hc hI hw2 (show l.length ≤ 12 by omega) hu x2.1 x3 x4
  obtain ⟨d1', d2, d3⟩ := aRef_0 h0
  obtain ⟨s1', s2', s3'⟩ := sS_ok hI hw2 (show l.length ≤ 12 by omega)
  obtain ⟨⟨r, chest', fund', sums', U', P', W'⟩, y1, y2, y3⟩ := c_storeCutting (row := l) hc hu hI.1.1 (okP_Inv hI) d1' (fun j hj => iW_len hI hj) x2 s2' (fun x hx => ⟨(s3' x hx).1, by have := (s3' x hx).2.2; omega⟩) d2 d3
  simp only at y2 y3
  refine ⟨5, Int32.ofNat (p + 4 + 1 + 1 + 1 + l.length), v3, v4, (b.1, chest', fund', b.2.2.2.1, sums', U', P', W'), C', S', y3, rfl, rfl, ?_⟩
  have r1' : fX5_readLetters (-1) (Int32.ofNat X.length) (Int32.ofNat (p + (kw 3).length)) 0 3 (Int32.ofNat p) (L64 (kw 3)) u' tc = some (1, -1, Int32.ofNat (p + 4 + 1 + 1), 0, 3, Int32.ofNat (p + 4 + 1), L64 [u + 1], v1) := r1
  rw [fX5_readText_L60, if_neg (by decide), if_neg (by rw [J_lt _ _ (by omega) (by omega)]; omega), r0, gb5_some, if_neg (by decide), fX5_readStatement, Lt_eq, if_pos rfl, sp13, gb1_some, if_pos rfl, Lt_eq, if_pos rfl, sp23, gb1_some, if_pos rfl, Lt_eq, if_pos rfl, sp33, gb1_some, if_neg (by decide), fX5_readStoredWord, c_isFullW hc.2.2.1 h16, gb1_some, if_pos d1', if_pos (by rfl), r1', gb8_some, if_neg (by decide), eC, gb1_some, hnu, if_neg hnn, r2, gb8_some, if_neg (by decide), x1, gb2_some, er0, gb1_some, h0, if_pos (by rfl), y1, gb7_some, r3, gb8_some, gb16_some, gb16_some, i_1, J_add]
  rw [show p + (yW u l).length = p + 4 + 1 + 1 + 1 + l.length + 1 by omega]
end AV
