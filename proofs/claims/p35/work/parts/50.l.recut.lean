/-! the class's book: cutting anew, ticks, checks, copies -/
theorem pUses_u : ∀ (idx : List Nat) (p : aPs) (q : Nat), (pUses p idx).2.2.2.2.1 q = p.2.2.2.2.1 q + idx.count q
  | [], p, q => by simp [pUses]
  | x :: idx, p, q => by
    have e : pUses p (x :: idx) = pUses (pUse p x) idx := rfl
    rw [e, pUses_u idx, List.count_cons]
    simp only [pUse]
    by_cases c : q = x
    · subst c
      rw [up_eq, beq_self_eq_true, if_pos rfl]
      omega
    · rw [up_ne _ _ _ _ c]
      have : (x == q) = false := by simp; exact fun h => c h.symm
      rw [this, if_neg (by decide)]
      omega
theorem pUses_o : ∀ (idx : List Nat) (p : aPs), (pUses p idx).2.2.1 = p.2.2.1 ∧ (pUses p idx).2.2.2.1 = p.2.2.2.1 ∧ (pUses p idx).2.2.2.2.2 = p.2.2.2.2.2
  | [], p => ⟨rfl, rfl, rfl⟩
  | q :: idx, p => pUses_o idx (pUse p q)
theorem c_cut16 {ps : List (List Nat)} {C : tCut} (hC : aR ps C.1 C.2.1) (hps : ps.length ≤ 12) (hwf : ∀ s ∈ ps, wf s ∧ s.length ≤ 12) {p0 : aPs} (hr : okP p0) (hn : p0.1 ≤ 24) (hkn : ∀ s ∈ ps, fnd p0.1 p0.2.1 s < p0.1) {x1 : Int32} {k : tPieces → Option (Int32 × Int32 × (Nat → Int32) × tUsers × tPieces × tWords × tCut × tCutR)} {Q : Int32 × Int32 × (Nat → Int32) × tUsers × tPieces × tWords × tCut × tCutR → Prop} (hk : ∀ P, cP (pUses p0 (ps.map (fnd p0.1 p0.2.1))) P → Ok (k P) Q) : ∀ (d j n : Nat) (P : tPieces), j + d = ps.length → d < n → cP (pUses p0 ((ps.take j).map (fnd p0.1 p0.2.1))) P → Ok (fX1_cutAnew_L16 x1 C k n (Int32.ofNat j) P) Q
  | d, j, 0, P, _, h, _ => by omega
  | 0, j, n + 1, P, h1, _, hP => by
    rw [List.take_of_length_le (by omega)] at hP
    rw [fX1_cutAnew_L16, if_pos (by rw [hC.1, J_le _ _ (by omega) (by omega)]; omega)]
    exact hk P hP
  | d + 1, j, n + 1, P, h1, h2, hP => by
    have hj : j < ps.length := by omega
    obtain ⟨w1, w2⟩ := hwf ps[j] (List.getElem_mem _)
    have hnU := pUses_n ((ps.take j).map (fnd p0.1 p0.2.1)) p0
    have e2 := c_numP hP (by rw [hnU.1]; exact hn) (okP_uses hr _) w1 w2
    rw [hnU.1, hnU.2] at e2
    have hk1 := hkn ps[j] (List.getElem_mem _)
    rw [fX1_cutAnew_L16, if_neg (by rw [hC.1, J_le _ _ (by omega) (by omega)]; omega), if_neg (by rw [i_0, J_lt _ _ (by omega) (by omega), J_nat _ (by omega)]; omega), J_nat _ (by omega), hC.2 j hj, e2, gb1_some, nr, if_pos hk1, i_1, J_add]
    apply ok_gb1
    refine ok_mono (c_beginUse hP (by rw [hnU.1]; exact hn) (q := fnd p0.1 p0.2.1 ps[j]) (by rw [hnU.1]; exact hk1)) ?_
    intro P1 hP1
    refine c_cut16 hC hps hwf hr hn hkn hk d (j + 1) n P1 (by omega) (by omega) ?_
    rw [List.take_succ_eq_append_getElem hj, List.map_append, List.map_singleton, pUses_snoc]
    exact hP1
theorem c_cut107 {ps : List (List Nat)} {C : tCut} (hC : aR ps C.1 C.2.1) (hps : ps.length ≤ 12) (hwf : ∀ s ∈ ps, wf s ∧ s.length ≤ 12) {p : aPs} {P : tPieces} (hP : cP p P) (hr : okP p) (hn : p.1 ≤ 24) (hkn : ∀ s ∈ ps, fnd p.1 p.2.1 s < p.1) {w : aWs} (hw16 : w.1 ≤ 16) (hwl : ∀ j, j < w.1 → (w.2.2.2 j).length ≤ 12) {i : Nat} (hi : i < w.1) {x3 : Int32} {k : tWords → Option (Int32 × Int32 × (Nat → Int32) × tUsers × tPieces × tWords × tCut × tCutR)} {Q : Int32 × Int32 × (Nat → Int32) × tUsers × tPieces × tWords × tCut × tCutR → Prop} (hk : ∀ W, cW (w.1, w.2.1, w.2.2.1, up w.2.2.2 i (ps.map (fnd p.1 p.2.1))) W → Ok (k W) Q) : ∀ (d j n : Nat) (W : tWords), j + d = ps.length → d < n → cW (w.1, w.2.1, w.2.2.1, up w.2.2.2 i ((ps.take j).map (fnd p.1 p.2.1))) W → Ok (fX1_cutAnew_L107 (Int32.ofNat i) x3 P C k n (Int32.ofNat j) W) Q
  | d, j, 0, W, _, h, _ => by omega
  | 0, j, n + 1, W, h1, _, hW => by
    rw [List.take_of_length_le (by omega)] at hW
    rw [fX1_cutAnew_L107, if_pos (by rw [hC.1, J_le _ _ (by omega) (by omega)]; omega)]
    exact hk W hW
  | d + 1, j, n + 1, W, h1, h2, hW => by
    have hj : j < ps.length := by omega
    obtain ⟨w1, w2⟩ := hwf ps[j] (List.getElem_mem _)
    have e2 := c_numP hP hn hr w1 w2
    have hk1 := hkn ps[j] (List.getElem_mem _)
    have hpl : ((ps.take j).map (fnd p.1 p.2.1)).length = j := by
      rw [List.length_map, List.length_take]; omega
    have hwl2 : ∀ q, q < w.1 → ((up w.2.2.2 i ((ps.take j).map (fnd p.1 p.2.1))) q).length ≤ 12 := by
      intro q hq
      by_cases cq : q = i
      · rw [cq, up_eq, hpl]; omega
      · rw [up_ne _ _ _ _ cq]; exact hwl q hq
    rw [fX1_cutAnew_L107, if_neg (by rw [hC.1, J_le _ _ (by omega) (by omega)]; omega), if_neg (by rw [i_0, J_lt _ _ (by omega) (by omega), J_nat _ (by omega)]; omega), J_nat _ (by omega), hC.2 j hj, e2, gb1_some, nr, if_pos hk1, i_1, J_add]
    apply ok_gb1
    refine ok_mono (c_addPart hW hw16 hi hwl2 (by simp only [up_eq]; rw [hpl]; omega) _) ?_
    intro W1 hW1
    refine c_cut107 hC hps hwf hP hr hn hkn hw16 hwl hi hk d (j + 1) n W1 (by omega) (by omega) ?_
    rw [List.take_succ_eq_append_getElem hj, List.map_append, List.map_singleton]
    have e : up (up w.2.2.2 i ((ps.take j).map (fnd p.1 p.2.1))) i ((ps.take j).map (fnd p.1 p.2.1) ++ [fnd p.1 p.2.1 ps[j]]) = up w.2.2.2 i ((ps.take j).map (fnd p.1 p.2.1) ++ [fnd p.1 p.2.1 ps[j]]) := by
      funext x
      simp only [up]
      split <;> rfl
    simp only [wPart, up_eq, e] at hW1
    exact hW1
theorem c_cut63 {w : aWs} {W : tWords} (hW : cW w W) (hn : w.1 ≤ 16) {i : Nat} (hi : i < w.1) (hl : (w.2.2.2 i).length ≤ 12) {time : Int32} {k : tPieces → Option (Int32 × Int32 × (Nat → Int32) × tUsers × tPieces × tWords × tCut × tCutR)} {Q : Int32 × Int32 × (Nat → Int32) × tUsers × tPieces × tWords × tCut × tCutR → Prop} : ∀ (d j n : Nat) (p : aPs) (P : tPieces), j + d = (w.2.2.2 i).length → d < n → cP p P → p.1 ≤ 24 → (∀ q ∈ w.2.2.2 i, q < p.1) → (∀ q, ((w.2.2.2 i).drop j).count q ≤ p.2.2.2.2.1 q) → (∀ q, q < p.1 → p.2.2.2.2.1 q < 1000000) → (∀ P', cP (pEnds time p ((w.2.2.2 i).drop j)) P' → Ok (k P') Q) → Ok (fX1_cutAnew_L63 (Int32.ofNat i) (Int32.ofNat (w.2.2.2 i).length) time W k n (Int32.ofNat j) P) Q :=
  c_endWord_L (F := fun n x P => fX1_cutAnew_L63 (Int32.ofNat i) (Int32.ofNat (w.2.2.2 i).length) time W k n x P) (K := k) hW hn hi hl (fun n x P h => by
    show fX1_cutAnew_L63 _ _ _ _ _ (n + 1) x P = _
    rw [fX1_cutAnew_L63, if_pos h]) (fun n x P h => by
    show fX1_cutAnew_L63 _ _ _ _ _ (n + 1) x P = _
    rw [fX1_cutAnew_L63, if_neg h])
def aCut (A : aB) (i : Nat) (idx : List Nat) : aB :=
  ((A.1.1, A.1.2.1, up A.1.2.2 (A.2.2.1.2.2.1 i) (A.1.2.2 (A.2.2.1.2.2.1 i) + A.2.2.2.1 2 * ((A.2.2.1.2.2.2 i).length - idx.length))), pEnds A.2.2.2.2.2.1 (pUses A.2.1 idx) (A.2.2.1.2.2.2 i), (A.2.2.1.1, A.2.2.1.2.1, A.2.2.1.2.2.1, up A.2.2.1.2.2.2 i idx), A.2.2.2.1, sAdd A.2.2.2.2.1 3 (A.2.2.2.1 2 * ((A.2.2.1.2.2.2 i).length - idx.length)), A.2.2.2.2.2.1, A.2.2.2.2.2.2.1, A.2.2.2.2.2.2.2 - Int32.ofNat (A.2.2.2.1 2 * ((A.2.2.1.2.2.2 i).length - idx.length)))
def kS (A : aB) (l : List Nat) : List (List Nat) := CL (sC A.2.1.1 A.2.1.2.1 A.2.2.2.1 false l) (A.2.2.2.1 2) l
def kI (A : aB) (l : List Nat) : List Nat := (kS A l).map (fnd A.2.1.1 A.2.1.2.1)
theorem c_cutAnew {A : aB} {time chest fund : Int32} {settings sums : Nat → Int32} {U : tUsers} {P : tPieces} {W : tWords} (hB : cB A time chest fund settings sums U P W) (hu4 : A.1.1 ≤ 4) (hn : A.2.1.1 ≤ 24) (hr : okP A.2.1) (hw16 : A.2.2.1.1 ≤ 16) (hwl : ∀ j, j < A.2.2.1.1 → (A.2.2.1.2.2.2 j).length ≤ 12) (h0 : A.2.2.2.1 0 ≤ 99) (h1 : A.2.2.2.1 1 ≤ 9) (h2 : A.2.2.2.1 2 ≤ 9) {i : Nat} (hi : i < A.2.2.1.1) (hlw : wf (A.2.2.1.2.1 i)) (hll : (A.2.2.1.2.1 i).length ≤ 12) (ho : A.2.2.1.2.2.1 i < A.1.1) (hq : ∀ q ∈ A.2.2.1.2.2.2 i, q < A.2.1.1) (hc : ∀ q, (A.2.2.1.2.2.2 i).count q ≤ A.2.1.2.2.2.2.1 q) (hb : ∀ q, q < A.2.1.1 → A.2.1.2.2.2.2.1 q < 900000) (hps : (kS A (A.2.2.1.2.1 i)).length ≤ (A.2.2.1.2.2.2 i).length) (hwf : ∀ s ∈ kS A (A.2.2.1.2.1 i), wf s ∧ s.length ≤ 12) (hkn : ∀ s ∈ kS A (A.2.2.1.2.1 i), fnd A.2.1.1 A.2.1.2.1 s < A.2.1.1) (C : tCut) (S : tCutR) : Ok (fX1_cutAnew (Int32.ofNat i) time fund settings sums U P W C S) (fun r => r.1 = Int32.ofNat (A.2.2.2.1 2 * ((A.2.2.1.2.2.2 i).length - (kS A (A.2.2.1.2.1 i)).length)) ∧ cB (aCut A i (kI A (A.2.2.1.2.1 i))) time chest r.2.1 settings r.2.2.1 r.2.2.2.1 r.2.2.2.2.1 r.2.2.2.2.2.1) := by
  obtain ⟨b1, b2, b3, b4, b5, b6, b7, b8⟩ := hB
  obtain ⟨e0, e1, e2, _⟩ := b3.2 i hi
  have hck : ¬ (Int32.ofNat i < 0 ∨ 16 ≤ (Int32.ofNat i).toNatClampNeg) := by
    rw [i_0, J_lt _ _ (by omega) (by omega), J_nat _ (by omega)]
    omega
  have hck' : ¬ (Int32.ofNat i < 0 ∨ 16 ≤ i) := by
    rw [i_0, J_lt _ _ (by omega) (by omega)]
    omega
  have h12 := hwl i hi
  rw [fX1_cutAnew, if_neg hck, J_nat _ (by omega), e0]
  apply ok_gb2
  refine ok_mono (c_cutKnown b2 hn hr b4 h0 h1 h2 hlw hll C S) ?_
  rintro ⟨C1, S1⟩ ⟨hC, _⟩
  simp only at hC ⊢
  have hcR : aR (kS A (A.2.2.1.2.1 i)) C1.1 C1.2.1 := hC.1
  refine c_cut16 hcR (by omega) hwf hr hn hkn ?_ (kS A (A.2.2.1.2.1 i)).length 0 FU P (by omega) (by simp only [FU]; omega) (by rw [List.take_zero]; exact b2)
  intro P1 hP1
  rw [if_neg hck', e2]
  have hnU := pUses_n (kI A (A.2.2.1.2.1 i)) A.2.1
  have hkl : (kI A (A.2.2.1.2.1 i)).length = (kS A (A.2.2.1.2.1 i)).length := by rw [kI, List.length_map]
  refine c_cut63 b3 hw16 hi h12 (time := time) (A.2.2.1.2.2.2 i).length 0 FU (pUses A.2.1 (kI A (A.2.2.1.2.1 i))) P1 (by omega) (by simp only [FU]; omega) hP1 (by rw [hnU.1]; exact hn) (by rw [hnU.1]; exact hq) (fun q => by rw [List.drop_zero, pUses_u]; have := hc q; omega) (fun q hq2 => by
    rw [hnU.1] at hq2
    have := hb q hq2
    have c2 := List.count_le_length (a := q) (l := kI A (A.2.2.1.2.1 i))
    rw [pUses_u]
    omega) ?_
  · intro P2 hP2
    rw [List.drop_zero] at hP2
    apply ok_gb1
    refine ok_mono (c_clearParts b3 hw16 hi) ?_
    intro W1 hW1
    obtain ⟨n1, n2, _⟩ := pEnds_n time (A.2.2.1.2.2.2 i) (pUses A.2.1 (kI A (A.2.2.1.2.1 i)))
    rw [hnU.1] at n1
    rw [hnU.2] at n2
    have hrP : okP (pEnds time (pUses A.2.1 (kI A (A.2.2.1.2.1 i))) (A.2.2.1.2.2.2 i)) := by
      unfold okP
      rw [n1, n2]
      exact hr
    refine c_cut107 hcR (by omega) hwf hP2 hrP (by rw [n1]; exact hn) (by rw [n1, n2]; exact hkn) hw16 hwl hi ?_ (kS A (A.2.2.1.2.1 i)).length 0 FU W1 (by omega) (by simp only [FU]; omega) (by rw [List.take_zero]; exact hW1)
    intro W2 hW2
    rw [n1, n2] at hW2
    obtain ⟨_, f1, _, _⟩ := hW2.2 i hi
    simp only at f1
    rw [hcR.1, J_sub _ _ hps, c_depositsFor b4, gb1_some, if_neg hck', f1, c_giveBack b1 hu4 ho, gb3_some]
    subst b6
    refine ok_some ⟨rfl, ?_, hP2, hW2, b4, ?_, rfl, b7, ?_⟩
    · have := cU_pay (u := A.2.2.1.2.2.1 i) b1 (A.1.2.2 (A.2.2.1.2.2.1 i) + A.2.2.2.1 2 * ((A.2.2.1.2.2.2 i).length - (kS A (A.2.2.1.2.1 i)).length))
      simp only [aCut, hkl]
      exact this
    · simp only [aCut, hkl]
      exact sAdd_of b5 (by omega) _
    · simp only [aCut, hkl]
      rw [b8]
/-! ticks -/
theorem J_div (a b : Nat) (ha : a < 2147483648) (hb : b < 2147483648) : Int32.ofNat a / Int32.ofNat b = Int32.ofNat (a / b) := by
  have hle : a / b ≤ a := Nat.div_le_self _ _
  apply Int32.toInt_inj.mp
  rw [Int32.toInt_div, J_int a ha, J_int b hb, J_int (a / b) (by omega), ← Int.ofNat_tdiv]
  generalize a / b = c at hle ⊢
  exact Int.bmod_eq_of_le (by omega) (by omega)
def aGo (A : aB) (q : Nat) : Prop := A.2.1.2.2.2.1 q ≠ M1 ∧ A.2.1.2.2.2.2.1 q = 0 ∧ ¬ (A.2.2.2.2.2.1 - A.2.1.2.2.2.2.2 q ≤ Int32.ofNat (A.2.2.2.1 3))
def aSend (A : aB) (q : Nat) : aB :=
  ((A.1.1, A.1.2.1, up A.1.2.2 (A.2.1.2.2.2.1 q).toNatClampNeg (A.1.2.2 (A.2.1.2.2.2.1 q).toNatClampNeg + A.2.1.2.2.1 q * A.2.2.2.1 4 / 100)), pDrop A.2.1 q, wGap A.2.2.1 q, A.2.2.2.1, sAdd (sAdd A.2.2.2.2.1 1 (A.2.1.2.2.1 q * A.2.2.2.1 4 / 100)) 5 1, A.2.2.2.2.2.1, A.2.2.2.2.2.2.1 - Int32.ofNat (A.2.1.2.2.1 q * A.2.2.2.1 4 / 100), A.2.2.2.2.2.2.2)
theorem c_sendBack {A : aB} {time chest fund : Int32} {settings sums : Nat → Int32} {U : tUsers} {P : tPieces} {W : tWords} (hB : cB A time chest fund settings sums U P W) (hu4 : A.1.1 ≤ 4) (hn : A.2.1.1 ≤ 24) (hw16 : A.2.2.1.1 ≤ 16) (hwl : ∀ j, j < A.2.2.1.1 → (A.2.2.1.2.2.2 j).length ≤ 12) (hwp : ∀ j, j < A.2.2.1.1 → ∀ x ∈ A.2.2.1.2.2.2 j, x < 24) (h4 : A.2.2.2.1 4 ≤ 100) {q : Nat} (hq : q < A.2.1.1) (hpd : A.2.1.2.2.1 q ≤ 1000) {u : Nat} (hu : u < A.1.1) (ho : A.2.1.2.2.2.1 q = Int32.ofNat u) : Ok (fX1_sendBack (Int32.ofNat q) chest settings sums U P W) (fun r => cB (aSend A q) time r.1 fund settings r.2.1 r.2.2.1 r.2.2.2.1 r.2.2.2.2) := by
  obtain ⟨b1, b2, b3, b4, b5, b6, b7, b8⟩ := hB
  obtain ⟨_, e1, e2, _⟩ := b2.2 q hq
  have hm : A.2.1.2.2.1 q * A.2.2.2.1 4 ≤ 1000 * 100 := Nat.mul_le_mul hpd h4
  have hck : ¬ (Int32.ofNat q < 0 ∨ 24 ≤ (Int32.ofNat q).toNatClampNeg) := by
    rw [i_0, J_lt _ _ (by omega) (by omega), J_nat _ (by omega)]
    omega
  have hck2 : ¬ (Int32.ofNat u < 0 ∨ 4 ≤ (Int32.ofNat u).toNatClampNeg) := by
    rw [i_0, J_lt _ _ (by omega) (by omega), J_nat _ (by omega)]
    omega
  have er : Int32.ofNat (A.2.1.2.2.1 q) * Int32.ofNat (A.2.2.2.1 4) / 100 = Int32.ofNat (A.2.1.2.2.1 q * A.2.2.2.1 4 / 100) := by
    rw [J_mul, i_100, J_div _ _ (by omega) (by omega)]
  rw [fX1_sendBack, if_neg hck, if_neg hck, J_nat q (by omega), e2, ho, e1, b4 4 (by omega), er, c_give b1 hu4 hu, gb1_some, Lt_eq, Lt_eq, Lt_eq, J_add]
  apply ok_gb1
  refine ok_mono (c_dropP b2 hn hq) ?_
  intro P1 hP1
  apply ok_gb1
  refine ok_mono (c_closeGap b3 hw16 hwl (by omega) hwp) ?_
  intro W1 hW1
  refine ok_some ⟨?_, hP1, hW1, b4, ?_, b6, ?_, b8⟩
  · simp only [aSend]
    rw [ho, J_nat u (by omega)]
    exact cU_pay b1 _
  · have s1 := sAdd_of b5 (k := 1) (by omega) (A.2.1.2.2.1 q * A.2.2.2.1 4 / 100)
    exact sAdd_of s1 (by omega) 1
  · simp only [aSend]
    rw [b7]
