/-! the class's book: the rest of its changes -/
def sSto (f : Nat → Int32) (a b c : Nat) : Nat → Int32 := fun i => if i = 2 then f 2 + Int32.ofNat c else sBuy f a b i
def aStore (A : aB) (u : Nat) (row : List Nat) (ps : List (List Nat)) : aB :=
  ((A.1.1, A.1.2.1, up A.1.2.2 u (A.1.2.2 u - prS A.2.2.2.1 (frs A.2.1.1 A.2.1.2.1 [] ps) - A.2.2.2.1 2 * ps.length)),
   pUses (stB A.2.2.2.1 (Int32.ofNat u) A.2.2.2.2.2.1 A.2.1 ps) (stI A.2.2.2.1 (Int32.ofNat u) A.2.2.2.2.2.1 A.2.1 ps),
   (A.2.2.1.1 + 1, up A.2.2.1.2.1 A.2.2.1.1 row, up A.2.2.1.2.2.1 A.2.2.1.1 u, up A.2.2.1.2.2.2 A.2.2.1.1 (stI A.2.2.2.1 (Int32.ofNat u) A.2.2.2.2.2.1 A.2.1 ps)),
   A.2.2.2.1, sSto A.2.2.2.2.1 (prS A.2.2.2.1 (frs A.2.1.1 A.2.1.2.1 [] ps)) (frs A.2.1.1 A.2.1.2.1 [] ps).length (A.2.2.2.1 2 * ps.length), A.2.2.2.2.2.1,
   A.2.2.2.2.2.2.1 + Int32.ofNat (prS A.2.2.2.1 (frs A.2.1.1 A.2.1.2.1 [] ps)), A.2.2.2.2.2.2.2 + Int32.ofNat (A.2.2.2.1 2 * ps.length))
theorem c_storeCutting {A : aB} {time chest fund : Int32} {settings sums : Nat → Int32} {U : tUsers} {P : tPieces} {W : tWords} (hB : cB A time chest fund settings sums U P W) {C : tCut} {ps : List (List Nat)} {u : Nat} {row : List Nat} (hu : u < A.1.1) (hu4 : A.1.1 ≤ 4) (hr : okP A.2.1) (hw16 : A.2.2.1.1 < 16) (hwl : ∀ j, j < A.2.2.1.1 → (A.2.2.1.2.2.2 j).length ≤ 12) (hC : aR ps C.1 C.2.1) (hps : ps.length ≤ 12) (hwf : ∀ s ∈ ps, wf s ∧ s.length ≤ 12) (hroom : A.2.1.1 + (frs A.2.1.1 A.2.1.2.1 [] ps).length ≤ 24) (hcoin : prS A.2.2.2.1 (frs A.2.1.1 A.2.1.2.1 [] ps) + A.2.2.2.1 2 * ps.length ≤ A.1.2.2 u) : Ok (fX1_storeCutting (Int32.ofNat u) (L64 row) time chest fund settings sums U P W C) (fun r => r.1 = Int32.ofNat A.2.2.1.1 ∧ cB (aStore A u row ps) time r.2.1 r.2.2.1 settings r.2.2.2.1 r.2.2.2.2.1 r.2.2.2.2.2.1 r.2.2.2.2.2.2) := by
  obtain ⟨h1, h2, h3, h4, h5, h6, h7, h8⟩ := hB
  rw [fX1_storeCutting]
  apply ok_gb2
  refine ok_mono (c_addW h3 hw16 row u) ?_
  rintro ⟨r1, W1⟩ ⟨e1, e2⟩
  simp only at e1 e2 ⊢
  subst e1 h6
  refine c_store_L (f := sums) (time := A.2.2.2.2.2.1) (chest := chest) (row := row) hu hu4 hr hw16 hwl h4 hC hps hwf hroom (by omega) ?_ ps.length 0 FU chest sums U P W1 (by omega) (by simp only [FU]; omega) ⟨?_, ?_, ?_, ?_, ?_⟩
  · intro c s U' P' W' hj
    obtain ⟨j1, j2, j3, j4, j5⟩ := hj
    have eg := c_give j3 hu4 hu (-Int32.ofNat (A.2.2.2.1 2 * ps.length))
    simp only [up_eq] at eg
    rw [hC.1, c_depositsFor h4, gb1_some, eg, gb1_some, Lt_eq, J_subn _ _ (by omega)]
    refine ok_some ⟨rfl, ?_, j4, j5, h4, ?_, rfl, ?_, ?_⟩
    · have := cU_pay (u := u) j3 (A.1.2.2 u - prS A.2.2.2.1 (frs A.2.1.1 A.2.1.2.1 [] ps) - A.2.2.2.1 2 * ps.length)
      have eu : up (up A.1.2.2 u (A.1.2.2 u - prS A.2.2.2.1 (frs A.2.1.1 A.2.1.2.1 [] ps))) u (A.1.2.2 u - prS A.2.2.2.1 (frs A.2.1.1 A.2.1.2.1 [] ps) - A.2.2.2.1 2 * ps.length) = up A.1.2.2 u (A.1.2.2 u - prS A.2.2.2.1 (frs A.2.1.1 A.2.1.2.1 [] ps) - A.2.2.2.1 2 * ps.length) := by
        funext x
        simp only [up]
        split <;> rfl
      simp only [eu] at this
      exact this
    · intro i hi
      simp only [aStore, sSto]
      by_cases c2 : i = 2
      · rw [c2, upd_eq, if_pos rfl, j2 2 (by omega)]
        unfold sBuy
        rw [if_neg (by decide), if_neg (by decide), h5 2 (by omega)]
      · rw [upd_ne _ _ _ _ c2, if_neg c2, j2 i hi]
        unfold sBuy
        by_cases c0 : i = 0
        · rw [if_pos c0, if_pos c0, h5 0 (by omega)]
        · rw [if_neg c0, if_neg c0]
          by_cases c4 : i = 4
          · rw [if_pos c4, if_pos c4, h5 4 (by omega)]
          · rw [if_neg c4, if_neg c4, h5 i hi]
    · simp only [aStore]
      rw [j1, h7]
    · simp only [aStore]
      rw [h8]
  · rw [List.take_zero]; simp [frs, prS]
  · intro i hi
    rw [List.take_zero]
    simp only [frs, prS, sBuy, List.length_nil]
    have z : ∀ x : Int32, x + Int32.ofNat 0 = x := fun x => Int32.add_zero x
    rw [z, z]
    split
    · rename_i h; rw [h]
    · split
      · rename_i h; rw [h]
      · rfl
  · rw [List.take_zero]
    simp only [frs, prS, Nat.sub_zero]
    have : up A.1.2.2 u (A.1.2.2 u) = A.1.2.2 := by
      funext x
      simp only [up]
      split
      · rename_i h; rw [h]
      · rfl
    rw [this]
    exact h1
  · rw [List.take_zero]; exact h2
  · rw [List.take_zero]; exact e2
def aRef (A : aB) (u : Nat) (ps : List (List Nat)) : Nat := if ¬ A.2.2.1.1 < 16 then 2 else if ¬ A.2.1.1 + (frs A.2.1.1 A.2.1.2.1 [] ps).length ≤ 24 then 3 else if prS A.2.2.2.1 (frs A.2.1.1 A.2.1.2.1 [] ps) + A.2.2.2.1 2 * ps.length ≤ A.1.2.2 u then 0 else 4
theorem frs_len (np : Nat) (pl : Nat → List Nat) : ∀ (acc ps : List (List Nat)), (frs np pl acc ps).length ≤ acc.length + ps.length
  | acc, [] => by simp [frs]
  | acc, q :: ps => by
    rw [frs]
    have := frs_len np pl (if fnd np pl q < np ∨ q ∈ acc then acc else acc ++ [q]) ps
    rw [List.length_cons]
    split at this
    · rename_i h; rw [if_pos h]; omega
    · rename_i h; rw [if_neg h]; rw [List.length_append, List.length_singleton] at this; omega
theorem prS_le {st : Nat → Nat} (h0 : st 0 ≤ 99) (h1 : st 1 ≤ 9) : ∀ {l : List (List Nat)}, (∀ s ∈ l, s.length ≤ 12) → prS st l ≤ 207 * l.length
  | [], _ => by simp [prS]
  | s :: l, h => by
    have := prS_le h0 h1 (l := l) (fun x hx => h x (by simp [hx]))
    have h2 : st 1 * s.length ≤ 9 * 12 := Nat.mul_le_mul h1 (h s (by simp))
    rw [prS, List.length_cons]
    omega
theorem c_refusal {A : aB} {time chest fund : Int32} {settings sums : Nat → Int32} {U : tUsers} {P : tPieces} {W : tWords} (hB : cB A time chest fund settings sums U P W) {C : tCut} {ps : List (List Nat)} {u : Nat} (hu : u < A.1.1) (hu4 : A.1.1 ≤ 4) (hn : A.2.1.1 ≤ 24) (hw16 : A.2.2.1.1 ≤ 16) (h0 : A.2.2.2.1 0 ≤ 99) (h1 : A.2.2.2.1 1 ≤ 9) (h2 : A.2.2.2.1 2 ≤ 9) (hco : A.1.2.2 u < 100000) (hC : C.1 = Int32.ofNat ps.length) (hC2 : C.2.2.1 = Int32.ofNat (frs A.2.1.1 A.2.1.2.1 [] ps).length) (hC3 : C.2.2.2.1 = Int32.ofNat (prS A.2.2.2.1 (frs A.2.1.1 A.2.1.2.1 [] ps))) (hps : ps.length ≤ 12) (hpl : ∀ s ∈ ps, s.length ≤ 12) : fX1_refusal (Int32.ofNat u) settings U P W C = some (Int32.ofNat (aRef A u ps)) := by
  obtain ⟨b1, b2, b3, b4, b5, b6, b7, b8⟩ := hB
  have f1 := frs_len A.2.1.1 A.2.1.2.1 [] ps
  have f2 := prS_le h0 h1 (l := frs A.2.1.1 A.2.1.2.1 [] ps) (fun s hs => by
    rcases frs_sub _ _ _ _ _ hs with h | h
    · cases h
    · exact hpl s h.1)
  have f3 : A.2.2.2.1 2 * ps.length ≤ 9 * 12 := Nat.mul_le_mul h2 hps
  have e := c_depositsFor b4 ps.length
  rw [List.length_nil] at f1
  simp (disch := omega) only [fX1_refusal, fX1_costOf, c_isFullW b3 hw16, hC, hC2, hC3, b2.1, e, c_coinsOf b1 hu4 hu, J_lt, J_le, J_eq, J_nat, J_add, J_mul, J_sub, J_ne1, J_m1, J_le1, J_1le, J_1lt, J_lt1, J_dec, J_dec0, M1_def, M1_neg, n_leF, n_leT, n_ltF, n_ltT, false_or, or_false, true_or, or_true, and_true, true_and, false_and, and_false, not_true_eq_false, not_false_eq_true, if_true, if_false, ite_true, ite_false, Lt_eq, cmpJ, gb1_some, gb2_some, gb3_some, gb4_some, gb5_some, gb6_some, gb7_some, gb8_some, Nat.add_zero, Nat.zero_add, Nat.add_sub_cancel, i_0, i_1, i_2, i_3, i_4, i_5, i_6, i_7, i_8, i_9, i_10, i_11, i_12, i_13, i_14, i_15, i_16, i_17, i_18, i_19, i_20, i_21, i_22, i_23, i_24, i_25, i_26, i_27, i_28, i_29, i_31, i_32, i_48, i_57, i_59, i_61, i_63, i_72, i_96, i_97, i_99, i_100, i_122, i_128, i_141, i_160, i_192, i_255, i_256, i_365, i_600, i_730, i_3650, i_9999, i_1000000, -Int32.reduceOfNat]
  unfold aRef
  by_cases c1 : A.2.2.1.1 < 16
  · simp (disch := omega) only [c1, J_lt, J_le, J_eq, J_nat, J_add, J_mul, J_sub, J_ne1, J_m1, J_le1, J_1le, J_1lt, J_lt1, J_dec, J_dec0, M1_def, M1_neg, n_leF, n_leT, n_ltF, n_ltT, false_or, or_false, true_or, or_true, and_true, true_and, false_and, and_false, not_true_eq_false, not_false_eq_true, if_true, if_false, ite_true, ite_false, Lt_eq, cmpJ, gb1_some, gb2_some, gb3_some, gb4_some, gb5_some, gb6_some, gb7_some, gb8_some, Nat.add_zero, Nat.zero_add, Nat.add_sub_cancel, i_0, i_1, i_2, i_3, i_4, i_5, i_6, i_7, i_8, i_9, i_10, i_11, i_12, i_13, i_14, i_15, i_16, i_17, i_18, i_19, i_20, i_21, i_22, i_23, i_24, i_25, i_26, i_27, i_28, i_29, i_31, i_32, i_48, i_57, i_59, i_61, i_63, i_72, i_96, i_97, i_99, i_100, i_122, i_128, i_141, i_160, i_192, i_255, i_256, i_365, i_600, i_730, i_3650, i_9999, i_1000000, -Int32.reduceOfNat]
    by_cases c2 : A.2.1.1 + (frs A.2.1.1 A.2.1.2.1 [] ps).length ≤ 24
    · simp (disch := omega) only [c2, J_lt, J_le, J_eq, J_nat, J_add, J_mul, J_sub, J_ne1, J_m1, J_le1, J_1le, J_1lt, J_lt1, J_dec, J_dec0, M1_def, M1_neg, n_leF, n_leT, n_ltF, n_ltT, false_or, or_false, true_or, or_true, and_true, true_and, false_and, and_false, not_true_eq_false, not_false_eq_true, if_true, if_false, ite_true, ite_false, Lt_eq, cmpJ, gb1_some, gb2_some, gb3_some, gb4_some, gb5_some, gb6_some, gb7_some, gb8_some, Nat.add_zero, Nat.zero_add, Nat.add_sub_cancel, i_0, i_1, i_2, i_3, i_4, i_5, i_6, i_7, i_8, i_9, i_10, i_11, i_12, i_13, i_14, i_15, i_16, i_17, i_18, i_19, i_20, i_21, i_22, i_23, i_24, i_25, i_26, i_27, i_28, i_29, i_31, i_32, i_48, i_57, i_59, i_61, i_63, i_72, i_96, i_97, i_99, i_100, i_122, i_128, i_141, i_160, i_192, i_255, i_256, i_365, i_600, i_730, i_3650, i_9999, i_1000000, -Int32.reduceOfNat]
      split <;> rfl
    · simp only [c2, if_false, if_true, not_false_eq_true]
  · simp only [c1, if_false, if_true, not_false_eq_true]
    rw [if_neg (by decide)]
/-! words that end -/
def pEnds (t : Int32) (p : aPs) (idx : List Nat) : aPs := idx.foldl (fun p q => pEnd p q t) p
theorem pEnds_n (t : Int32) : ∀ (idx : List Nat) (p : aPs), (pEnds t p idx).1 = p.1 ∧ (pEnds t p idx).2.1 = p.2.1 ∧ (pEnds t p idx).2.2.1 = p.2.2.1 ∧ (pEnds t p idx).2.2.2.1 = p.2.2.2.1 ∧ ∀ q, (pEnds t p idx).2.2.2.2.1 q = p.2.2.2.2.1 q - idx.count q
  | [], p => ⟨rfl, rfl, rfl, rfl, fun q => by simp [pEnds]⟩
  | x :: idx, p => by
    obtain ⟨h1, h2, h3, h4, h5⟩ := pEnds_n t idx (pEnd p x t)
    refine ⟨h1, h2, h3, h4, fun q => ?_⟩
    have e : pEnds t p (x :: idx) = pEnds t (pEnd p x t) idx := rfl
    rw [e, h5, List.count_cons]
    simp only [pEnd]
    by_cases c : q = x
    · subst c
      rw [up_eq, beq_self_eq_true, if_pos rfl]
      omega
    · rw [up_ne _ _ _ _ c]
      have : (x == q) = false := by simp; exact fun h => c h.symm
      rw [this, if_neg (by decide)]
      omega
theorem pEnd_uses (p : aPs) (x : Nat) (t : Int32) (q : Nat) : (pEnd p x t).2.2.2.2.1 q = p.2.2.2.2.1 q - if q = x then 1 else 0 := by
  simp only [pEnd]
  by_cases c : q = x
  · subst c; rw [up_eq, if_pos rfl]
  · rw [up_ne _ _ _ _ c, if_neg c, Nat.sub_zero]
theorem c_endWord_L {w : aWs} {W : tWords} (hW : cW w W) (hn : w.1 ≤ 16) {i : Nat} (hi : i < w.1) (hl : (w.2.2.2 i).length ≤ 12) {time : Int32} {R : Type} {F : Nat → Int32 → tPieces → Option R} {K : tPieces → Option R} {Q : R → Prop} (hF1 : ∀ n x P, Int32.ofNat (w.2.2.2 i).length ≤ x → F (n + 1) x P = K P) (hF2 : ∀ n x P, ¬ Int32.ofNat (w.2.2.2 i).length ≤ x → F (n + 1) x P = gb1 (fX8_partAt (Int32.ofNat i) x W) fun r => gb1 (fX6_endUse r time P) fun P1 => F n (x + 1) P1) : ∀ (d j n : Nat) (p : aPs) (P : tPieces), j + d = (w.2.2.2 i).length → d < n → cP p P → p.1 ≤ 24 → (∀ q ∈ w.2.2.2 i, q < p.1) → (∀ q, ((w.2.2.2 i).drop j).count q ≤ p.2.2.2.2.1 q) → (∀ q, q < p.1 → p.2.2.2.2.1 q < 1000000) → (∀ P', cP (pEnds time p ((w.2.2.2 i).drop j)) P' → Ok (K P') Q) → Ok (F n (Int32.ofNat j) P) Q
  | d, j, 0, p, P, _, h, _, _, _, _, _, _ => by omega
  | 0, j, n + 1, p, P, h1, _, hP, _, _, _, _, hk => by
    rw [hF1 _ _ _ (by rw [J_le _ _ (by omega) (by omega)]; omega)]
    rw [List.drop_eq_nil_of_le (by omega)] at hk
    exact hk P hP
  | d + 1, j, n + 1, p, P, h1, h2, hP, hp, hq, hc, hb, hk => by
    have hj : j < (w.2.2.2 i).length := by omega
    rw [hF2 _ _ _ (by rw [J_le _ _ (by omega) (by omega)]; omega), c_partAt hW hn hi hj hl, gb1_some]
    have hm := hq _ (List.getElem_mem hj)
    have hc1 := hc ((w.2.2.2 i)[j])
    rw [List.drop_eq_getElem_cons hj] at hc hk hc1
    rw [List.count_cons_self] at hc1
    apply ok_gb1
    refine ok_mono (c_endUse hP hp hm (by omega) (hb _ hm) time) ?_
    intro P1 hP1
    rw [i_1, J_add]
    refine c_endWord_L hW hn hi hl hF1 hF2 d (j + 1) n _ P1 (by omega) (by omega) hP1 hp hq (fun q => ?_) (fun q hq2 => ?_) hk
    · have := hc q
      rw [pEnd_uses]
      rw [List.count_cons] at this
      by_cases c : q = (w.2.2.2 i)[j]
      · rw [if_pos c]
        rw [if_pos (by simp [c])] at this
        omega
      · rw [if_neg c]
        omega
    · rw [pEnd_uses]
      have := hb q hq2
      omega
theorem c_giveBack {us : aUs} {U : tUsers} (hU : cU us U) (hu4 : us.1 ≤ 4) {u : Nat} (hu : u < us.1) (v : Nat) (fund : Int32) (sums : Nat → Int32) : fX1_giveBack (Int32.ofNat u) (Int32.ofNat v) fund sums U = some (fund - Int32.ofNat v, upd sums 3 (sums 3 + Int32.ofNat v), (U.1, U.2.1, upd U.2.2 u (Int32.ofNat (us.2.2 u + v)))) := by
  rw [fX1_giveBack, c_give hU hu4 hu, gb1_some, Lt_eq, J_add]
def sAdd (f : Nat → Int32) (k v : Nat) : Nat → Int32 := fun i => if i = k then f k + Int32.ofNat v else f i
theorem sAdd_of {f sums : Nat → Int32} (h : ∀ i, i < 6 → sums i = f i) {k : Nat} (hk : k < 6) (v : Nat) : ∀ i, i < 6 → upd sums k (sums k + Int32.ofNat v) i = sAdd f k v i := by
  intro i hi
  unfold sAdd
  by_cases c : i = k
  · rw [c, upd_eq, if_pos rfl, h k hk]
  · rw [upd_ne _ _ _ _ c, if_neg c, h i hi]
def aEnd (A : aB) (i : Nat) : aB :=
  ((A.1.1, A.1.2.1, up A.1.2.2 (A.2.2.1.2.2.1 i) (A.1.2.2 (A.2.2.1.2.2.1 i) + A.2.2.2.1 2 * (A.2.2.1.2.2.2 i).length)), pEnds A.2.2.2.2.2.1 A.2.1 (A.2.2.1.2.2.2 i), wDrop A.2.2.1 i, A.2.2.2.1, sAdd A.2.2.2.2.1 3 (A.2.2.2.1 2 * (A.2.2.1.2.2.2 i).length), A.2.2.2.2.2.1, A.2.2.2.2.2.2.1, A.2.2.2.2.2.2.2 - Int32.ofNat (A.2.2.2.1 2 * (A.2.2.1.2.2.2 i).length))
theorem c_endWord {A : aB} {time chest fund : Int32} {settings sums : Nat → Int32} {U : tUsers} {P : tPieces} {W : tWords} (hB : cB A time chest fund settings sums U P W) (hu4 : A.1.1 ≤ 4) (hn : A.2.1.1 ≤ 24) (hw16 : A.2.2.1.1 ≤ 16) (hwl : ∀ j, j < A.2.2.1.1 → (A.2.2.1.2.2.2 j).length ≤ 12) {i : Nat} (hi : i < A.2.2.1.1) (ho : A.2.2.1.2.2.1 i < A.1.1) (hq : ∀ q ∈ A.2.2.1.2.2.2 i, q < A.2.1.1) (hc : ∀ q, (A.2.2.1.2.2.2 i).count q ≤ A.2.1.2.2.2.2.1 q) (hb : ∀ q, q < A.2.1.1 → A.2.1.2.2.2.2.1 q < 1000000) : Ok (fX1_endWord (Int32.ofNat i) time fund settings sums U P W) (fun r => cB (aEnd A i) time chest r.1 settings r.2.1 r.2.2.1 r.2.2.2.1 r.2.2.2.2) := by
  obtain ⟨b1, b2, b3, b4, b5, b6, b7, b8⟩ := hB
  obtain ⟨_, e1, e2, _⟩ := b3.2 i hi
  have hck : ¬ (Int32.ofNat i < 0 ∨ 16 ≤ (Int32.ofNat i).toNatClampNeg) := by
    rw [i_0, J_lt _ _ (by omega) (by omega), J_nat _ (by omega)]
    omega
  rw [fX1_endWord]
  refine c_endWord_L (F := fun n x P => fX1_endWord_L2 (Int32.ofNat i) time W _ n x P) b3 hw16 hi (hwl i hi) (time := time) (K := fun P_1 => (if Int32.ofNat i < 0 ∨ 16 ≤ (Int32.ofNat i).toNatClampNeg then none else if Int32.ofNat i < 0 ∨ 16 ≤ (Int32.ofNat i).toNatClampNeg then none else gb1 (fX1_depositsFor (W.2.2.2.1 ((Int32.ofNat i).toNatClampNeg)) settings) fun (r_1 : Int32) => gb3 (fX1_giveBack (W.2.2.1 ((Int32.ofNat i).toNatClampNeg)) r_1 fund sums U) fun (B_fund_1 : Int32) (sums_1 : (Nat → Int32)) (U_1 : tUsers) => gb1 (fX8_drop (Int32.ofNat i) W) fun (W_1 : tWords) => some (B_fund_1, sums_1, U_1, P_1, W_1))) ?_ ?_ (A.2.2.1.2.2.2 i).length 0 FU A.2.1 P (by omega) (by have := hwl i hi; simp only [FU]; omega) b2 hn hq (by rw [List.drop_zero]; exact hc) hb ?_
  · intro n x P h
    rw [fX1_endWord_L2, if_neg hck, J_nat _ (by omega), e2, if_pos h]
  · intro n x P h
    rw [fX1_endWord_L2, if_neg hck, J_nat _ (by omega), e2, if_neg h]
  · intro P1 hP1
    rw [List.drop_zero] at hP1
    rw [if_neg hck, if_neg hck, J_nat _ (by omega), e2, c_depositsFor b4, gb1_some, e1, c_giveBack b1 hu4 ho, gb3_some]
    apply ok_gb1
    refine ok_mono (c_dropW b3 hw16 hi hwl) ?_
    intro W1 hW1
    subst b6
    refine ok_some ⟨cU_pay b1 _, hP1, hW1, b4, sAdd_of b5 (by omega) _, rfl, b7, ?_⟩
    simp only [aEnd]
    rw [b8]
