/-! the law's book as it is drawn, with its text -/
abbrev bkT : Type := (List Nat) × (Nat → Int32) × Int32 × Int32 × Int32 × Int32 × Int32 × Int32 × Int32 × Int32 × Int32 × Int32 × Int32 × (Nat → Int32) × (Nat → Int32) × (Nat → Int32) × (Nat → Int32) × (Nat → Int32) × (Nat → Int32) × (Nat → Int32) × (Nat → Int32) × (Nat → Int32) × (Nat → Int32)
theorem gt_l : (gTx 4).length = 5 ∧ (gTx 5).length = 5 ∧ (gTx 6).length = 6 ∧ (gTx 7).length = 5 := by decide +kernel
theorem gt_b : ∀ i, i < 8 → ∀ x ∈ gTx i, x < 128 := by decide +kernel
theorem ch_u : ∀ u, u < 4 → (((97 + Int32.ofNat u).toUInt32 % 65536).toInt32) = Int32.ofNat (97 + u) := by decide +kernel
theorem ch_ix {u : Nat} (h : u < 4) : ¬ (Int32.ofNat (97 + u) < 0 ∨ 128 ≤ (Int32.ofNat (97 + u)).toNatClampNeg) := by
  rw [i_0, J_lt _ _ (by omega) (by omega), J_nat _ (by omega)]
  omega
theorem n32 : (32 : Int32).toNatClampNeg = 32 := by decide
theorem n59 : (59 : Int32).toNatClampNeg = 59 := by decide
theorem dc_ix {n : Nat} (h : n < 1000) : ¬ (Int32.ofNat n < 0 ∨ 1000 ≤ (Int32.ofNat n).toNatClampNeg) := by
  rw [i_0, J_lt _ _ (by omega) (by omega), J_nat _ (by omega)]
  omega
/-- the text so far, and the book that it makes -/
def tB (a b c d e : Nat) (T : List Nat) (A : aB) (L : Nat) : Prop := T.length ≤ L ∧ (∀ x ∈ T, x < 128) ∧ ∃ m Y, T = yH a b c d e ++ Y ∧ adv m Y (aE (sF5 a b c d e)) A
theorem tB_app {a b c d e : Nat} {T : List Nat} {A A' : aB} {L : Nat} (h : tB a b c d e T A L) {Y : List Nat} (hY : adv 1 Y A A') {n : Nat} (hl : Y.length ≤ n) (hb : ∀ x ∈ Y, x < 128) : tB a b c d e (T ++ Y) A' (L + n) := by
  obtain ⟨h1, h2, m, Z, e1, e2⟩ := h
  refine ⟨by rw [List.length_append]; omega, fun x hx => ?_, m + 1, Z ++ Y, by rw [e1, List.append_assoc], adv_app e2 hY⟩
  rcases List.mem_append.mp hx with z | z
  · exact h2 x z
  · exact hb x z
theorem dg_b {n : Nat} (h : n < 1000) : ∀ x ∈ gDec n, x < 128 := fun x hx => by
  have := (dec_all n h).2.2.1 x hx
  omega
theorem ab_b {l : List Nat} (h : ab l) : ∀ x ∈ l.map (fun x => x + 96), x < 128 := fun x hx => by
  obtain ⟨y, hy, rfl⟩ := List.mem_map.mp hx
  rcases h y hy with c | c <;> omega
theorem sg_b {n : Nat} (h : n < 128) : ∀ x ∈ [n], x < 128 := fun x hx => by
  rw [List.mem_singleton.mp hx]
  exact h
theorem ap_b {P Q : List Nat} (h1 : ∀ x ∈ P, x < 128) (h2 : ∀ x ∈ Q, x < 128) : ∀ x ∈ P ++ Q, x < 128 := fun x hx => by
  rcases List.mem_append.mp hx with z | z
  · exact h1 x z
  · exact h2 x z
theorem yU_b {u c : Nat} (hu : u < 26) (hc : c < 1000) : ∀ x ∈ yU u c, x < 128 := ap_b (ap_b (ap_b (ap_b (gt_b 5 (by decide)) (sg_b (by omega))) (sg_b (by decide))) (dg_b hc)) (sg_b (by decide))
theorem yP_b {l : List Nat} (h : ab l) : ∀ x ∈ yP l, x < 128 := ap_b (ap_b (gt_b 6 (by decide)) (ab_b h)) (sg_b (by decide))
theorem yW_b {u : Nat} (hu : u < 26) {l : List Nat} (h : ab l) : ∀ x ∈ yW u l, x < 128 := ap_b (ap_b (ap_b (ap_b (gt_b 7 (by decide)) (sg_b (by omega))) (sg_b (by decide))) (ab_b h)) (sg_b (by decide))
theorem yH_b {a b c d e : Nat} (ha : a < 1000) (hb : b < 1000) (hc : c < 1000) (hd : d < 1000) (he : e < 1000) : ∀ x ∈ yH a b c d e, x < 128 := ap_b (ap_b (ap_b (ap_b (ap_b (ap_b (ap_b (ap_b (ap_b (ap_b (gt_b 4 (by decide)) (dg_b ha)) (sg_b (by decide))) (dg_b hb)) (sg_b (by decide))) (dg_b hc)) (sg_b (by decide))) (dg_b hd)) (sg_b (by decide))) (dg_b he)) (sg_b (by decide))
theorem yU_l (u : Nat) {c : Nat} (h : c < 1000) : (yU u c).length ≤ 11 := by
  have := (dec_all c h).2.1
  simp only [yU, List.length_append, gt_l.2.1, List.length_cons, List.length_nil]
  omega
theorem yP_l (l : List Nat) : (yP l).length = 7 + l.length := by
  simp only [yP, List.length_append, gt_l.2.2.1, List.length_cons, List.length_nil, List.length_map]
  omega
theorem yW_l (u : Nat) (l : List Nat) : (yW u l).length = 8 + l.length := by
  simp only [yW, List.length_append, gt_l.2.2.2, List.length_cons, List.length_nil, List.length_map]
  omega
/-- after some users -/
def uI (a b c d e u : Nat) (A : aB) (T : List Nat) (coins : Nat → Int32) : Prop := dI A ∧ A.1.1 = u ∧ A.2 = (aE (sF5 a b c d e)).2 ∧ (∀ i, i < u → A.1.2.1 i = [i + 1]) ∧ (∀ i, i < u → coins i = Int32.ofNat (A.1.2.2 i)) ∧ tB a b c d e T A (25 + 11 * u)
section BU
variable {a b c d e : Nat}
theorem bk_users {nu : Nat} (h3 : nu ≤ 3) {k : (List Nat) → (Nat → Int32) → (Nat → Int32) → Nat → Nat → Option bkT} {Q : bkT → Prop} (hk : ∀ A T p1 coins, uI a b c d e nu A T coins → Ok (k T p1 coins (22 + 5 * nu) (11229 + 5010 * nu)) Q) : ∀ (f m u : Nat) (A : aB) (T : List Nat) (p1 coins : Nat → Int32), u + f = nu → f < m → uI a b c d e u A T coins → Ok (fL_book_L139 (Int32.ofNat nu) k m (Int32.ofNat u) T p1 coins (22 + 5 * u) (11229 + 5010 * u)) Q := by
  intro f
  induction f with
  | zero =>
    intro m u A T p1 coins hE hm h
    obtain ⟨m, rfl⟩ : ∃ x, m = x + 1 := ⟨m - 1, by omega⟩
    have : u = nu := by omega
    subst this
    rw [fL_book_L139, if_pos (by rw [J_le _ _ (by omega) (by omega)]; omega)]
    exact hk A T p1 coins h
  | succ f ih =>
    intro m u A T p1 coins hE hm h
    obtain ⟨m, rfl⟩ : ∃ x, m = x + 1 := ⟨m - 1, by omega⟩
    obtain ⟨i1, i2, i3, i4, i5, i6⟩ := h
    obtain ⟨r, g1, hr, er⟩ := z_draw (m := 500) (by decide) (by decide) p1
    have hco : (50 : Int32) + Int32.ofNat r = Int32.ofNat (50 + r) := by rw [show (50 : Int32) = Int32.ofNat 50 from rfl, J_add]
    have h1000 : 50 + r < 1000 := by omega
    have hdl := (dec_all (50 + r) h1000).2.1
    have hT := i6.1
    have hc1 := ch_u u (by omega)
    have hno : ¬ fnd A.1.1 A.1.2.1 [u + 1] < A.1.1 := fun z => by
      have h1 := fnd_hit z
      rw [i4 _ (by omega)] at h1
      have := List.cons.inj h1
      omega
    have hadv := adv_user i1.1 (show A.1.1 < 4 by omega) (show u < 26 by omega) h1000 hno
    have hw1 : wf [u + 1] := by
      intro x hx
      rw [List.mem_singleton.mp hx]
      omega
    have hdI := dI_user i1 (show A.1.1 < 4 by omega) hw1 (show (1 : Nat) ≤ 12 by decide) (show 50 + r ≤ 9999 by omega)
    have hnx : uI a b c d e (u + 1) (aUser A [u + 1] (50 + r)) (T ++ yU u (50 + r)) (upd coins u (Int32.ofNat (50 + r))) := by
      refine ⟨hdI, by show A.1.1 + 1 = _; omega, i3, fun i hi => ?_, fun i hi => ?_, ?_⟩
      · show up A.1.2.1 A.1.1 [u + 1] i = _
        by_cases q : i = u
        · rw [q, i2, up_eq]
        · rw [up_ne _ _ _ _ (by omega)]
          exact i4 i (by omega)
      · show _ = Int32.ofNat (up A.1.2.2 A.1.1 (50 + r) i)
        by_cases q : i = u
        · rw [q, i2, up_eq, upd_eq]
        · rw [up_ne _ _ _ _ (by omega), upd_ne _ _ _ _ q]
          exact i5 i (by omega)
      · exact tB_app i6 hadv (yU_l u h1000) (yU_b (by omega) h1000)
    have hT5 : T ++ gTx 5 ++ [97 + u] ++ [32] ++ gDec (50 + r) ++ [59] = T ++ yU u (50 + r) := by
      unfold yU
      simp only [List.append_assoc]
    rw [fL_book_L139, if_neg (by rw [J_le _ _ (by omega) (by omega)]; omega), show (500 : Int32) = Int32.ofNat 500 from rfl, er, gb2_some, if_neg (by omega), if_neg (setIx (show u < 4 by omega) (by decide)), hco, Lt_eq, J_nat u (by omega), upd_eq]
    rw [if_neg (by rw [List.length_append, gt_l.2.1]; omega), if_neg (by omega), Lt_eq, hc1, if_neg (ch_ix (by omega)), J_nat (97 + u) (by omega)]
    rw [if_neg (by simp only [List.length_append, gt_l.2.1, List.length_cons, List.length_nil]; omega), if_neg (by omega), Lt_eq, n32]
    rw [if_neg (by simp only [List.length_append, gt_l.2.1, List.length_cons, List.length_nil]; omega), if_neg (by omega), Lt_eq, if_neg (setIx' (show u < 4 by omega) (by decide)), if_neg (dc_ix h1000), J_nat (50 + r) (by omega)]
    rw [if_neg (by simp only [List.length_append, gt_l.2.1, List.length_cons, List.length_nil]; omega), if_neg (by omega), Lt_eq, n59]
    rw [if_neg (by simp only [List.length_append, gt_l.2.1, List.length_cons, List.length_nil]; omega), if_neg (by omega), Lt_eq, hT5, i_1, J_add]
    have h := ih m (u + 1) _ _ g1 _ (by omega) (by omega) hnx
    rw [show 22 + 5 * (u + 1) = 22 + 5 * u + 1 + 1 + 1 + 1 + 1 by omega, show 11229 + 5010 * (u + 1) = 11229 + 5010 * u + 1002 + 1002 + 1002 + 1002 + 1002 by omega] at h
    exact h
/-- after some pieces -/
def pI (a b c d e nu np L : Nat) (A : aB) (T : List Nat) (coins : Nat → Int32) (pieces : Int32) (code paid owner uses idle : Nat → Int32) : Prop := dI A ∧ Iv A ∧ fE A ∧ A.1.1 = nu ∧ A.2.1.1 ≤ np ∧ A.2.2 = (aE (sF5 a b c d e)).2.2 ∧ (∀ i, i < nu → A.1.2.1 i = [i + 1]) ∧ (∀ i, i < nu → coins i = Int32.ofNat (A.1.2.2 i)) ∧ lP A.2.1 pieces code paid owner uses idle ∧ tB a b c d e T A L
theorem Iv_piece {A : aB} (h : Iv A) {s : List Nat} (hs : ab s) (hno : ¬ fnd A.2.1.1 A.2.1.2.1 s < A.2.1.1) (hI : Inv (aPiece A s)) : Iv (aPiece A s) := by
  obtain ⟨v, h1, h2, h3, h4, h5⟩ := h
  refine ⟨hI, fun m hm => ?_, Dp_add h2 hno _ _ _, h3, h4, h5⟩
  have hm' : m < A.2.1.1 + 1 := hm
  show ab (up A.2.1.2.1 A.2.1.1 s m)
  by_cases c : m = A.2.1.1
  · rw [c, up_eq]
    exact hs
  · rw [up_ne _ _ _ _ c]
    exact h1 m (by omega)
theorem bk_pieces {nu : Nat} {coins : Nat → Int32} {k : (List Nat) → (Nat → Int32) → Int32 → (Nat → Int32) → (Nat → Int32) → (Nat → Int32) → (Nat → Int32) → (Nat → Int32) → Nat → Nat → Option bkT} {Q : bkT → Prop} (hk : ∀ A T p1 pieces code paid owner uses idle nc ns, nc ≤ 22 + 15 + 60 → ns ≤ 11229 + 15030 + 60120 → pI a b c d e nu 5 113 A T coins pieces code paid owner uses idle → Ok (k T p1 pieces code paid owner uses idle nc ns) Q) : ∀ (f m : Nat) (A : aB) (T : List Nat) (p1 : Nat → Int32) (pieces : Int32) (code paid owner uses idle : Nat → Int32) (nc ns np L : Nat), f < m → np + f ≤ 5 → L + 11 * f ≤ 113 → nc + 12 * f ≤ 22 + 15 + 60 → ns + 12024 * f ≤ 11229 + 15030 + 60120 → pI a b c d e nu np L A T coins pieces code paid owner uses idle → Ok (fL_book_L210 0 k m (Int32.ofNat f) T p1 pieces code paid owner uses idle nc ns) Q := by
  intro f
  induction f with
  | zero =>
    intro m A T p1 pieces code paid owner uses idle nc ns np L hm w1 w2 w3 w4 h
    obtain ⟨m, rfl⟩ : ∃ x, m = x + 1 := ⟨m - 1, by omega⟩
    rw [fL_book_L210, if_pos (by decide)]
    obtain ⟨i1, i2, i3, i4, i5, i6, i7, i8, i9, i10⟩ := h
    exact hk A T p1 pieces code paid owner uses idle nc ns (by omega) (by omega) ⟨i1, i2, i3, i4, by omega, i6, i7, i8, i9, by have := i10.1; omega, i10.2⟩
  | succ f ih =>
    intro m A T p1 pieces code paid owner uses idle nc ns np L hm w1 w2 w3 w4 h
    obtain ⟨m, rfl⟩ : ∃ x, m = x + 1 := ⟨m - 1, by omega⟩
    obtain ⟨i1, i2, i3, i4, i5, i6, i7, i8, i9, i10⟩ := h
    obtain ⟨l, g1, hl, l1, l4, el⟩ := z_letters (m := 4) (by decide) (by decide) p1
    have o := Iv_oP i2
    have hC := lC_of i9 o
    have hT := i10.1
    have ef : fX10_find (Int32.ofNat (cd l)) pieces code = some (nr A.2.1.1 A.2.1.2.1 l) := by
      rw [i9.1]
      exact z_find hC hl (by omega)
    have hdec : Int32.ofNat (f + 1) + -1 = Int32.ofNat f := by
      rw [M1_def, J_dec _ (by omega), Nat.add_sub_cancel]
    rw [fL_book_L210, if_neg (by rw [i_0, J_le _ _ (by omega) (by omega)]; omega), show (4 : Int32) = Int32.ofNat 4 from rfl, el, gb2_some, if_neg (by omega), ef, gb1_some, hdec]
    by_cases c0 : fnd A.2.1.1 A.2.1.2.1 l < A.2.1.1
    · have hnr : ¬ nr A.2.1.1 A.2.1.2.1 l < 0 := by
        have := hC.1
        unfold nr
        rw [if_pos c0, i_0, J_lt _ _ (by omega) (by omega)]
        omega
      rw [if_neg hnr]
      exact ih m A T g1 pieces code paid owner uses idle nc ns (np + 1) (L + 11) (by omega) (by omega) (by omega) (by omega) (by omega) ⟨i1, i2, i3, i4, by omega, i6, i7, i8, i9, by omega, i10.2⟩
    · have hnr : nr A.2.1.1 A.2.1.2.1 l < 0 := by
        unfold nr
        rw [if_neg c0]
        decide
      have hadv := adv_piece i1.1 (show A.2.1.1 < 24 by omega) hl l1 (by omega) c0
      have hdI := dI_piece i1 (show A.2.1.1 < 24 by omega) (ab_wf hl) l1 (show l.length ≤ 6 by omega)
      obtain ⟨⟨q0, q1, q2, q3, q4, q5⟩, ec, hp⟩ := z_comes i9 (show A.2.1.1 ≤ 24 by omega) l 0 M1 0
      simp only at hp
      have ec' : fX10_comes (Int32.ofNat (cd l)) 0 (-1) pieces 0 code paid owner uses idle = some (q0, q1, q2, q3, q4, q5) := ec
      have hT3 : T ++ gTx 6 ++ l.map (fun x => x + 96) ++ [59] = T ++ yP l := by
        unfold yP
        simp only [List.append_assoc]
      rw [if_pos hnr, ec', gb6_some]
      rw [if_neg (by rw [List.length_append, gt_l.2.2.1]; omega), if_neg (by omega), Lt_eq, z_add hl (by omega) _ (by rw [List.length_append, gt_l.2.2.1]; omega), gb1_some, if_neg (by omega), n59]
      rw [if_neg (by simp only [List.length_append, gt_l.2.2.1, List.length_cons, List.length_nil, List.length_map]; omega), if_neg (by omega), Lt_eq, hT3]
      have hB := tB_app i10 hadv (n := 11) (by rw [yP_l]; omega) (yP_b hl)
      exact ih m (aPiece A l) (T ++ yP l) g1 q0 q1 q2 q3 q4 q5 _ _ (np + 1) (L + 11) (by omega) (by omega) (by omega) (by omega) (by omega) ⟨hdI, Iv_piece i2 hl c0 hdI.1, i3, i4, by show A.2.1.1 + 1 ≤ np + 1; omega, i6, i7, i8, hp, hB⟩
/-- after some words -/
def wI (a b c d e nu L : Nat) (A : aB) (T : List Nat) (pieces words chest fund : Int32) (coins accounts code paid owner uses idle user word cut : Nat → Int32) : Prop := Iv A ∧ fE A ∧ A.1.1 = nu ∧ (∀ i, i < nu → A.1.2.1 i = [i + 1]) ∧ lB A (Int32.ofNat a) (Int32.ofNat b) (Int32.ofNat c) (Int32.ofNat d) (Int32.ofNat e) (Int32.ofNat nu) pieces words 0 chest fund coins accounts code paid owner uses idle user word cut ∧ tB a b c d e T A L
theorem bk_words {nu : Nat} {k : (List Nat) → (Nat → Int32) → Int32 → Int32 → Int32 → Int32 → (Nat → Int32) → (Nat → Int32) → (Nat → Int32) → (Nat → Int32) → (Nat → Int32) → (Nat → Int32) → (Nat → Int32) → (Nat → Int32) → (Nat → Int32) → (Nat → Int32) → Nat → Nat → Option bkT} {Q : bkT → Prop} (hk : ∀ A T p1 pieces words chest fund coins accounts code paid owner uses idle user word cut nc ns, nc ≤ 140 → ns ≤ 140000 → wI a b c d e nu 145 A T pieces words chest fund coins accounts code paid owner uses idle user word cut → Ok (k T p1 pieces words chest fund coins accounts code paid owner uses idle user word cut nc ns) Q) : ∀ (f m : Nat) (A : aB) (T : List Nat) (p1 : Nat → Int32) (pieces words chest fund : Int32) (coins accounts code paid owner uses idle user word cut : Nat → Int32) (nc ns L : Nat), f < m → L + 16 * f ≤ 145 → nc + 14 * f ≤ 140 → ns + 14028 * f ≤ 140000 → wI a b c d e nu L A T pieces words chest fund coins accounts code paid owner uses idle user word cut → Ok (fL_book_L273 (Int32.ofNat a) (Int32.ofNat b) (Int32.ofNat c) (Int32.ofNat nu) 0 k m (Int32.ofNat f) T p1 pieces words chest fund coins accounts code paid owner uses idle user word cut nc ns) Q := by
  intro f
  induction f with
  | zero =>
    intro m A T p1 pieces words chest fund coins accounts code paid owner uses idle user word cut nc ns L hm w1 w2 w3 h
    obtain ⟨m, rfl⟩ : ∃ x, m = x + 1 := ⟨m - 1, by omega⟩
    rw [fL_book_L273, if_pos (by decide)]
    obtain ⟨i1, i2, i3, i4, i5, i6⟩ := h
    exact hk A T p1 _ _ _ _ _ _ _ _ _ _ _ _ _ _ nc ns (by omega) (by omega) ⟨i1, i2, i3, i4, i5, by have := i6.1; omega, i6.2⟩
  | succ f ih =>
    intro m A T p1 pieces words chest fund coins accounts code paid owner uses idle user word cut nc ns L hm w1 w2 w3 h
    obtain ⟨m, rfl⟩ : ∃ x, m = x + 1 := ⟨m - 1, by omega⟩
    obtain ⟨i1, i2, i3, i4, i5, i6⟩ := h
    have hn1 := i1.2.2.2.2.1
    have hn3 := i1.2.2.2.2.2
    have hT := i6.1
    obtain ⟨u, g1, hu, eu⟩ := z_draw (m := nu) (by omega) (by omega) p1
    obtain ⟨l, g2, hl, l1, l8, el⟩ := z_letters (m := 8) (by decide) (by decide) g1
    obtain ⟨s, s1, s2, s3⟩ := z_why i5 i1 hl (show l.length ≤ 9 by omega) (by omega) (show u < A.1.1 by omega)
    have hbd : aRef A u (sS A l) < 10 := by
      unfold aRef
      split
      · decide
      · split
        · decide
        · split <;> decide
    have hdec : Int32.ofNat (f + 1) + -1 = Int32.ofNat f := by
      rw [M1_def, J_dec _ (by omega), Nat.add_sub_cancel]
    rw [fL_book_L273, if_neg (by rw [i_0, J_le _ _ (by omega) (by omega)]; omega), eu, gb2_some, if_neg (by omega), show (8 : Int32) = Int32.ofNat 8 from rfl, el, gb2_some, s1, gb1_some, s3, gb1_some, hdec]
    by_cases w0 : aRef A u (sS A l) = 0
    · obtain ⟨d1, d2, d3⟩ := aRef_0 w0
      have hcI := i1.1
      obtain ⟨⟨r0, r1, r2, r3, r4, r5, r6, r7, r8, r9, r10, r11, r12, r13⟩, er, v1⟩ := z_store i5 i1 (fun q hq => by have := Inv_ub hcI q hq; omega) hl (show l.length ≤ 9 by omega) (by omega) (show u < A.1.1 by omega) d1 d2 d3
      simp only at v1
      have hfn : fnd A.1.1 A.1.2.1 [u + 1] = u := by
        have := fnd_self (np := A.1.1) (pl := A.1.2.1) (fun q q' hq hq' z => by
          rw [i4 q (by omega), i4 q' (by omega)] at z
          have := List.cons.inj z
          omega) (show u < A.1.1 by omega)
        rw [i4 u (by omega)] at this
        exact this
      have hadv := adv_word hcI (show u < A.1.1 by omega) hfn hl l1 (show l.length ≤ 9 by omega) w0
      have hB := tB_app i6 hadv (n := 16) (by rw [yW_l]; omega) (yW_b (by omega) hl)
      have hT5 : T ++ gTx 7 ++ [97 + u] ++ [32] ++ l.map (fun x => x + 96) ++ [59] = T ++ yW u l := by
        unfold yW
        simp only [List.append_assoc]
      have hc1 := ch_u u (by omega)
      rw [if_pos (by rw [w0]; rfl), er, gb14_some]
      rw [if_neg (by rw [List.length_append, gt_l.2.2.2]; omega), if_neg (by omega), Lt_eq, hc1, if_neg (ch_ix (by omega)), J_nat (97 + u) (by omega)]
      rw [if_neg (by simp only [List.length_append, gt_l.2.2.2, List.length_cons, List.length_nil]; omega), if_neg (by omega), Lt_eq, n32]
      rw [if_neg (by simp only [List.length_append, gt_l.2.2.2, List.length_cons, List.length_nil]; omega), if_neg (by omega), Lt_eq, z_add hl (by omega) _ (by simp only [List.length_append, gt_l.2.2.2, List.length_cons, List.length_nil]; omega), gb1_some, if_neg (by omega), n59]
      rw [if_neg (by simp only [List.length_append, gt_l.2.2.2, List.length_cons, List.length_nil, List.length_map]; omega), if_neg (by omega), Lt_eq, hT5]
      exact ih m (aStore A u l (sS A l)) (T ++ yW u l) g2 r0 r1 r2 r3 r4 r5 r6 r7 r8 r9 r10 r11 r12 r13 _ _ (L + 16) (by omega) (by omega) (by omega) (by omega) ⟨Iv_store i1 hl (by omega) (by omega) (by omega) d1 d2 d3, fE_store i2 u l _, i3, i4, v1, hB⟩
    · rw [if_neg (by rw [J_eq0 _ (by omega)]; exact w0)]
      exact ih m A T g2 _ _ _ _ _ _ _ _ _ _ _ _ _ _ nc ns (L + 16) (by omega) (by omega) (by omega) (by omega) ⟨i1, i2, i3, i4, i5, by omega, i6.2⟩
def bkOK (r : bkT) : Prop := ∃ (A : aB) (a b c d e m : Nat) (Y : List Nat), a ≤ 99 ∧ b ≤ 9 ∧ 1 ≤ c ∧ c ≤ 9 ∧ d ≤ 20 ∧ e ≤ 100 ∧ r.1 = yH a b c d e ++ Y ∧ r.1.length ≤ 145 ∧ (∀ x ∈ r.1, x < 128) ∧ adv m Y (aE (sF5 a b c d e)) A ∧ Iv A ∧ fE A ∧ lB A r.2.2.1 r.2.2.2.1 r.2.2.2.2.1 r.2.2.2.2.2.1 r.2.2.2.2.2.2.1 r.2.2.2.2.2.2.2.1 r.2.2.2.2.2.2.2.2.1 r.2.2.2.2.2.2.2.2.2.1 r.2.2.2.2.2.2.2.2.2.2.1 r.2.2.2.2.2.2.2.2.2.2.2.1 r.2.2.2.2.2.2.2.2.2.2.2.2.1 r.2.2.2.2.2.2.2.2.2.2.2.2.2.1 r.2.2.2.2.2.2.2.2.2.2.2.2.2.2.1 r.2.2.2.2.2.2.2.2.2.2.2.2.2.2.2.1 r.2.2.2.2.2.2.2.2.2.2.2.2.2.2.2.2.1 r.2.2.2.2.2.2.2.2.2.2.2.2.2.2.2.2.2.1 r.2.2.2.2.2.2.2.2.2.2.2.2.2.2.2.2.2.2.1 r.2.2.2.2.2.2.2.2.2.2.2.2.2.2.2.2.2.2.2.1 r.2.2.2.2.2.2.2.2.2.2.2.2.2.2.2.2.2.2.2.2.1 r.2.2.2.2.2.2.2.2.2.2.2.2.2.2.2.2.2.2.2.2.2.1 r.2.2.2.2.2.2.2.2.2.2.2.2.2.2.2.2.2.2.2.2.2.2
theorem bk_u0 (ha : a ≤ 99) (hb : b ≤ 9) (hc1 : 1 ≤ c) (hc : c ≤ 9) (hd : d ≤ 20) (he : e ≤ 100) : uI a b c d e 0 (aE (sF5 a b c d e)) (yH a b c d e) (fun _ => 0) := by
  have l1 := (dec_all a (by omega)).2.1
  have l2 := (dec_all b (by omega)).2.1
  have l3 := (dec_all c (by omega)).2.1
  have l4 := (dec_all d (by omega)).2.1
  have l5 := (dec_all e (by omega)).2.1
  refine ⟨dI_E ⟨ha, hb, hc1, hc, hd, he⟩, rfl, rfl, fun i hi => absurd hi (Nat.not_lt_zero i), fun i hi => absurd hi (Nat.not_lt_zero i), ?_, yH_b (by omega) (by omega) (by omega) (by omega) (by omega), 0, [], by rw [List.append_nil], adv_nil _⟩
  simp only [yH, List.length_append, gt_l.1, List.length_cons, List.length_nil]
  omega
theorem bk_p0 {nu : Nat} (h1 : 1 ≤ nu) (h3 : nu ≤ 3) {A : aB} {T : List Nat} {coins : Nat → Int32} (h : uI a b c d e nu A T coins) : pI a b c d e nu 0 58 A T coins 0 (fun _ => 0) (fun _ => 0) (fun _ => 0) (fun _ => 0) (fun _ => 0) := by
  obtain ⟨i1, i2, i3, i4, i5, i6⟩ := h
  obtain ⟨A1, A2⟩ := A
  simp only at i2 i3
  subst i3
  refine ⟨i1, ⟨i1.1, fun q hq => absurd hq (Nat.not_lt_zero q), fun q q' hq _ _ => absurd hq (Nat.not_lt_zero q), fun i hi => absurd hi (Nat.not_lt_zero i), by show 1 ≤ A1.1; omega, by show A1.1 ≤ 3; omega⟩, rfl, i2, Nat.le_refl 0, rfl, i4, i5, ⟨rfl, fun q hq => absurd hq (Nat.not_lt_zero q)⟩, by have := i6.1; omega, i6.2⟩
theorem bk_w0 {nu np L : Nat} (hL : L ≤ 113) {A : aB} {T : List Nat} {coins code paid owner uses idle : Nat → Int32} {pieces : Int32} (h : pI a b c d e nu np L A T coins pieces code paid owner uses idle) : wI a b c d e nu 113 A T pieces 0 0 0 coins (fun _ => 0) code paid owner uses idle (fun _ => 0) (fun _ => 0) (fun _ => 0) := by
  obtain ⟨i1, i2, i3, i4, i5, i6, i7, i8, i9, i10⟩ := h
  obtain ⟨A1, A2, A3⟩ := A
  simp only at i4 i5 i6
  subst i6
  refine ⟨i2, i3, i4, i7, ⟨⟨rfl, rfl, rfl, rfl, rfl⟩, by rw [← i4], fun u hu => i8 u (by rw [← i4]; exact hu), i9, ⟨rfl, fun q hq => absurd hq (Nat.not_lt_zero q)⟩, fun i hi => rfl, rfl, rfl, rfl⟩, by have := i10.1; omega, i10.2⟩
theorem z_book (p1 : Nat → Int32) : Ok (fL_book ([] : List Nat) p1) bkOK := by
  obtain ⟨a, g1, ha, ea⟩ := z_draw (m := 12) (by decide) (by decide) p1
  obtain ⟨b, g2, hb, eb⟩ := z_draw (m := 4) (by decide) (by decide) g1
  obtain ⟨c', g3, hc, ec⟩ := z_draw (m := 9) (by decide) (by decide) g2
  obtain ⟨d, g4, hd, ed⟩ := z_draw (m := 6) (by decide) (by decide) g3
  obtain ⟨e, g5, he, ee⟩ := z_draw (m := 101) (by decide) (by decide) g4
  obtain ⟨r6, g6, hr6, er6⟩ := z_draw (m := 3) (by decide) (by decide) g5
  have hc1 : (1 : Int32) + Int32.ofNat c' = Int32.ofNat (1 + c') := by rw [i_1, J_add]
  have hn1 : (1 : Int32) + Int32.ofNat r6 = Int32.ofNat (1 + r6) := by rw [i_1, J_add]
  have l1 := (dec_all a (by omega)).2.1
  have l2 := (dec_all b (by omega)).2.1
  have l3 := (dec_all (1 + c') (by omega)).2.1
  have l4 := (dec_all d (by omega)).2.1
  have l5 := (dec_all e (by omega)).2.1
  have hT : [] ++ gTx 4 ++ gDec a ++ [32] ++ gDec b ++ [32] ++ gDec (1 + c') ++ [32] ++ gDec d ++ [32] ++ gDec e ++ [59] = yH a b (1 + c') d e := by
    unfold yH
    rw [List.nil_append]
  have key := bk_users (a := a) (b := b) (c := 1 + c') (d := d) (e := e) (nu := 1 + r6) (by omega) (Q := bkOK) (k := fun (T_12 : List Nat) (p1_7 : (Nat → Int32)) (coins_1 : (Nat → Int32)) (nc_1 : Nat) (ns_1 : Nat) => (gb2 (fL_draw 6 p1_7) fun (r_7 : Int32) (p1_8 : (Nat → Int32)) => if 140 < nc_1 ∨ 140000 < ns_1 then none else fL_book_L210 0 (fun (T_13 : List Nat) (p1_9 : (Nat → Int32)) (L_pieces_1 : Int32) (code_1 : (Nat → Int32)) (paid_1 : (Nat → Int32)) (owner_1 : (Nat → Int32)) (uses_1 : (Nat → Int32)) (idle_1 : (Nat → Int32)) (nc_2 : Nat) (ns_2 : Nat) => (gb2 (fL_draw 3 p1_9) fun (r_8 : Int32) (p1_10 : (Nat → Int32)) => if 140 < nc_2 ∨ 140000 < ns_2 then none else fL_book_L273 (Int32.ofNat a) (Int32.ofNat b) (Int32.ofNat (1 + c')) (Int32.ofNat (1 + r6)) 0 (fun (T_14 : List Nat) (p1_11 : (Nat → Int32)) (L_pieces_2 : Int32) (L_words_1 : Int32) (L_chest_1 : Int32) (L_fund_1 : Int32) (coins_2 : (Nat → Int32)) (accounts_1 : (Nat → Int32)) (code_2 : (Nat → Int32)) (paid_2 : (Nat → Int32)) (owner_2 : (Nat → Int32)) (uses_2 : (Nat → Int32)) (idle_2 : (Nat → Int32)) (user_1 : (Nat → Int32)) (word_1 : (Nat → Int32)) (cut_1 : (Nat → Int32)) (nc_3 : Nat) (ns_3 : Nat) => (if 140 < nc_3 ∨ 140000 < ns_3 then none else some (T_14, p1_11, Int32.ofNat a, Int32.ofNat b, Int32.ofNat (1 + c'), Int32.ofNat d, Int32.ofNat e, Int32.ofNat (1 + r6), L_pieces_2, L_words_1, 0, L_chest_1, L_fund_1, coins_2, accounts_1, code_2, paid_2, owner_2, uses_2, idle_2, user_1, word_1, cut_1))) FU r_8 T_13 p1_10 L_pieces_1 0 0 0 coins_1 (fun _ => 0) code_1 paid_1 owner_1 uses_1 idle_1 (fun _ => 0) (fun _ => 0) (fun _ => 0) nc_2 ns_2)) FU r_7 T_12 p1_8 0 (fun _ => 0) (fun _ => 0) (fun _ => 0) (fun _ => 0) (fun _ => 0) nc_1 ns_1)) (fun A T p1' coins hU => by
    obtain ⟨r7, g7, hr7, er7⟩ := z_draw (m := 6) (by decide) (by decide) p1'
    rw [show (6 : Int32) = Int32.ofNat 6 from rfl, er7, gb2_some, if_neg (by omega)]
    refine bk_pieces (nu := 1 + r6) (a := a) (b := b) (c := 1 + c') (d := d) (e := e) (coins := coins) (fun A T p1'' pieces code paid owner uses idle nc ns hnc hns hP => ?_) r7 FU A T g7 0 _ _ _ _ _ _ _ 0 58 (by simp only [FU]; omega) (by omega) (by omega) (by omega) (by omega) (bk_p0 (by omega) (by omega) hU)
    obtain ⟨r8, g8, hr8, er8⟩ := z_draw (m := 3) (by decide) (by decide) p1''
    rw [show (3 : Int32) = Int32.ofNat 3 from rfl, er8, gb2_some, if_neg (by omega)]
    refine bk_words (nu := 1 + r6) (a := a) (b := b) (c := 1 + c') (d := d) (e := e) (fun A T p3 pieces words chest fund coins accounts code paid owner uses idle user word cut nc ns hnc hns hW => ?_) r8 FU A T g8 pieces 0 0 0 coins _ code paid owner uses idle _ _ _ _ _ 113 (by simp only [FU]; omega) (by omega) (by omega) (by omega) (bk_w0 (Nat.le_refl _) hP)
    rw [if_neg (by omega)]
    obtain ⟨i1, i2, i3, i4, i5, i6, i7, m, Y, e1, e2⟩ := hW
    exact ok_some ⟨A, a, b, 1 + c', d, e, m, Y, by omega, by omega, by omega, by omega, by omega, by omega, e1, i6, i7, e2, i1, i2, i5⟩) (1 + r6) FU 0 _ _ g6 _ (by omega) (by simp only [FU]; omega) (bk_u0 (a := a) (b := b) (c := 1 + c') (d := d) (e := e) (by omega) (by omega) (by omega) (by omega) (by omega) (by omega))
  rw [fL_book, show (12 : Int32) = Int32.ofNat 12 from rfl, ea, gb2_some, show (4 : Int32) = Int32.ofNat 4 from rfl, eb, gb2_some, show (9 : Int32) = Int32.ofNat 9 from rfl, ec, gb2_some, show (6 : Int32) = Int32.ofNat 6 from rfl, ed, gb2_some, show (101 : Int32) = Int32.ofNat 101 from rfl, ee, gb2_some, n32, n59, hc1]
  rw [if_neg (by simp only [List.length_append, gt_l.1, List.length_cons, List.length_nil]; omega), Lt_eq, if_neg (dc_ix (show a < 1000 by omega)), J_nat a (by omega)]
  rw [if_neg (by simp only [List.length_append, gt_l.1, List.length_cons, List.length_nil]; omega), Lt_eq]
  rw [if_neg (by simp only [List.length_append, gt_l.1, List.length_cons, List.length_nil]; omega), Lt_eq, if_neg (dc_ix (show b < 1000 by omega)), J_nat b (by omega)]
  rw [if_neg (by simp only [List.length_append, gt_l.1, List.length_cons, List.length_nil]; omega), Lt_eq]
  rw [if_neg (by simp only [List.length_append, gt_l.1, List.length_cons, List.length_nil]; omega), Lt_eq, if_neg (dc_ix (show 1 + c' < 1000 by omega)), J_nat (1 + c') (by omega)]
  rw [if_neg (by simp only [List.length_append, gt_l.1, List.length_cons, List.length_nil]; omega), Lt_eq]
  rw [if_neg (by simp only [List.length_append, gt_l.1, List.length_cons, List.length_nil]; omega), Lt_eq, if_neg (dc_ix (show d < 1000 by omega)), J_nat d (by omega)]
  rw [if_neg (by simp only [List.length_append, gt_l.1, List.length_cons, List.length_nil]; omega), Lt_eq]
  rw [if_neg (by simp only [List.length_append, gt_l.1, List.length_cons, List.length_nil]; omega), Lt_eq, if_neg (dc_ix (show e < 1000 by omega)), J_nat e (by omega)]
  rw [if_neg (by simp only [List.length_append, gt_l.1, List.length_cons, List.length_nil]; omega), Lt_eq]
  rw [if_neg (by simp only [List.length_append, gt_l.1, List.length_cons, List.length_nil]; omega), Lt_eq, hT, show (3 : Int32) = Int32.ofNat 3 from rfl, er6, gb2_some, hn1]
  exact key
end BU
