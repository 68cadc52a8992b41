/-! words spelled and cut by the reference -/
theorem sp_snoc {l : List Nat} {spelled : Nat → Int32} (h : sp l spelled) (a : Nat) : sp (l ++ [a]) (upd spelled l.length (Int32.ofNat a)) := by
  intro k hk
  rw [List.length_append, List.length_singleton] at hk
  by_cases c : k = l.length
  · subst c
    rw [upd_eq, List.getElem_append_right (Nat.le_refl _)]
    simp
  · rw [upd_ne _ _ _ _ c, List.getElem_append_left (by omega)]
    exact h k (by omega)
theorem leN_head : ∀ {r : List Nat}, wf r → (h : 0 < r.length) → leN r % 32 = r[0]
  | [], _, h => by simp at h
  | a :: r, hw, _ => by
    obtain ⟨h1, h2⟩ := wf_cons.mp hw
    simp only [leN, List.getElem_cons_zero]
    omega
theorem beN_digit {s : List Nat} (hw : wf s) {d : Nat} (hd : d < s.length) : beN s / 2 ^ (5 * d) % 32 = s[s.length - 1 - d] := by
  have hr := wf_rev hw
  have hlen : d < s.reverse.length := by simpa using hd
  rw [beN, ← p32, leN_div d hr, leN_head (wf_drop _ hr) (by simp; omega)]
  simp
theorem m_spell43 {s : List Nat} (hw : wf s) (hl6 : s.length ≤ 6) {x1 x2 : Int32} {k : Int32 → (Nat → Int32) → Option (Int32 × (Nat → Int32))} {Q : Int32 × (Nat → Int32) → Prop} {acc : List Nat} (hacc : acc.length + s.length ≤ 12) (hk : ∀ sp', sp (acc ++ s) sp' → Ok (k (Int32.ofNat (acc ++ s).length) sp') Q) : ∀ (d j n : Nat) (spl : Nat → Int32), j + d = s.length → d < n → sp (acc ++ s.take j) spl → Ok (fX10_spellsWord_L43 x1 x2 (B32 s) k n (if d = 0 then M1 else Int32.ofNat (d - 1)) (Int32.ofNat (acc ++ s.take j).length) spl) Q
  | d, j, 0, _, _, h, _ => by omega
  | 0, j, n + 1, spl, h1, _, h => by
    rw [List.take_of_length_le (by omega)] at h ⊢
    rw [if_pos rfl, fX10_spellsWord_L43, if_pos (by decide)]
    exact hk spl h
  | d + 1, j, n + 1, spl, h1, h2, h => by
    have hj : j < s.length := by omega
    have hlen : (acc ++ s.take j).length = acc.length + j := by
      rw [List.length_append, List.length_take]
      omega
    have hb := beN_31 hw hl6
    have e1 : (5 * Int32.ofNat d) &&& 31 = Int32.ofNat (5 * d) := by
      rw [J_lmul, J_and31, Nat.mod_eq_of_lt (by omega)]
    have e2 : (B32 s >>> ((5 * Int32.ofNat d) &&& 31)) &&& 31 = Int32.ofNat (s[j]) := by
      rw [e1, B32, J_shr _ _ (by omega) (by omega), J_and31, beN_digit hw (by omega)]
      congr 2
      omega
    rw [if_neg (by omega), Nat.add_sub_cancel, fX10_spellsWord_L43, if_neg (by rw [i_0, J_lt _ _ (by omega) (by omega)]; omega), if_neg (by rw [hlen, i_0, J_lt _ _ (by omega) (by omega), J_nat _ (by omega)]; omega), Lt_eq, e2, J_nat _ (by omega), i_1, J_add]
    have et : (acc ++ s.take j) ++ [s[j]] = acc ++ s.take (j + 1) := by
      rw [List.append_assoc, ← List.take_succ_eq_append_getElem hj]
    have hs := sp_snoc h (s[j])
    rw [et] at hs
    have el : (acc ++ s.take j).length + 1 = (acc ++ s.take (j + 1)).length := by
      rw [List.length_append, List.length_append, List.length_take, List.length_take]
      omega
    have ei : Int32.ofNat d + -Int32.ofNat 1 = (if d = 0 then M1 else Int32.ofNat (d - 1)) := by
      by_cases c : d = 0
      · rw [c]; rfl
      · rw [if_neg c, M1_neg, J_dec _ (by omega)]
    rw [el, ei]
    exact m_spell43 hw hl6 hacc hk d (j + 1) n _ (by omega) (by omega) hs
theorem jn_snoc (pl : Nat → List Nat) (idx : List Nat) {j : Nat} (hj : j < idx.length) : jn pl (idx.take (j + 1)) = jn pl (idx.take j) ++ pl (idx[j]) := by
  unfold jn
  rw [List.take_succ_eq_append_getElem hj, List.map_append, List.flatten_append, List.map_singleton, List.flatten_cons, List.flatten_nil, List.append_nil]
theorem m_spell7 {p : aPs} {w : aWs} {now : Nat → Int32} (hP : mP p now) (hn : p.1 ≤ 24) (hr : okR p.1 p.2.1 6) (hr1 : ∀ q, q < p.1 → 1 ≤ (p.2.1 q).length) (hW : mW w now) (hw16 : w.1 ≤ 16) {i : Nat} (hi : i < w.1) (hl : (w.2.2.2 i).length ≤ 12) (hq : ∀ q ∈ w.2.2.2 i, q < p.1) (hj12 : (jn p.2.1 (w.2.2.2 i)).length ≤ 12) {k : Int32 → (Nat → Int32) → Option (Int32 × (Nat → Int32))} {Q : Int32 × (Nat → Int32) → Prop} (hk : ∀ sp', sp (jn p.2.1 (w.2.2.2 i)) sp' → Ok (k (Int32.ofNat (jn p.2.1 (w.2.2.2 i)).length) sp') Q) : ∀ (d j n : Nat) (spl : Nat → Int32), j + d = (w.2.2.2 i).length → d < n → sp (jn p.2.1 ((w.2.2.2 i).take j)) spl → Ok (fX10_spellsWord_L7 (Int32.ofNat i) now k n (Int32.ofNat j) (Int32.ofNat (jn p.2.1 ((w.2.2.2 i).take j)).length) spl) Q
  | d, j, 0, _, _, h, _ => by omega
  | 0, j, n + 1, spl, h1, _, h => by
    obtain ⟨_, e1, _⟩ := hW.2 i hi
    rw [List.take_of_length_le (by omega)] at h ⊢
    rw [fX10_spellsWord_L7, i_1, m_ofWord now (by omega) (by omega), gb1_some, e1, if_pos (by rw [J_le _ _ (by omega) (by omega)]; omega)]
    exact hk spl h
  | d + 1, j, n + 1, spl, h1, h2, h => by
    obtain ⟨_, e1, e2⟩ := hW.2 i hi
    have hj : j < (w.2.2.2 i).length := by omega
    have hqj := hq _ (List.getElem_mem hj)
    obtain ⟨f0, _⟩ := hP.2 _ hqj
    obtain ⟨g1, g2⟩ := hr _ hqj
    have g3 := hr1 _ hqj
    have h12 := jn_take_len p.2.1 (w.2.2.2 i) (j + 1)
    rw [jn_snoc _ _ hj, List.length_append] at h12
    have eo := m_ofPiece (q := (w.2.2.2 i)[j]) (w := 0) now (by omega) (by omega)
    rw [Nat.add_zero, f0] at eo
    have ew : fX10_ofWord (Int32.ofNat i) (2 + Int32.ofNat j) now = some (Int32.ofNat ((w.2.2.2 i)[j])) := by
      rw [i_2, J_add, m_ofWord now (by omega) (by omega), ← e2 j hj]
      congr 2
      omega
    rw [fX10_spellsWord_L7, i_1, m_ofWord now (by omega) (by omega), gb1_some, e1, if_neg (by rw [J_le _ _ (by omega) (by omega)]; omega), ew, gb1_some, i_0, eo, gb1_some, m_letters g1 g2, gb1_some, J_sub _ _ g3, J_add]
    have ei : Int32.ofNat ((p.2.1 ((w.2.2.2 i)[j])).length - 1) = (if (p.2.1 ((w.2.2.2 i)[j])).length = 0 then M1 else Int32.ofNat ((p.2.1 ((w.2.2.2 i)[j])).length - 1)) := by rw [if_neg (by omega)]
    have el : Int32.ofNat (jn p.2.1 ((w.2.2.2 i).take j)).length = Int32.ofNat (jn p.2.1 ((w.2.2.2 i).take j) ++ (p.2.1 ((w.2.2.2 i)[j])).take 0).length := by
      rw [List.take_zero, List.append_nil]
    rw [ei, el]
    refine m_spell43 g1 g2 (by omega) ?_ (p.2.1 ((w.2.2.2 i)[j])).length 0 FU spl (by omega) (by simp only [FU]; omega) (by rw [List.take_zero, List.append_nil]; exact h)
    intro sp' hs
    rw [← jn_snoc _ _ hj] at hs ⊢
    exact m_spell7 hP hn hr hr1 hW hw16 hi hl hq hj12 hk d (j + 1) n sp' (by omega) (by omega) hs
theorem ok6_Inv {A : aB} (h : Inv A) : okR A.2.1.1 A.2.1.2.1 6 := fun q hq => ⟨(h.2.1.2 q hq).1, (h.2.1.2 q hq).2.2.1⟩
theorem m_spellsWord {A : aB} {now : Nat → Int32} (hB : mB A now) (hI : Inv A) {i : Nat} (hi : i < A.2.2.1.1) (many : Int32) (spl : Nat → Int32) : Ok (fX10_spellsWord (Int32.ofNat i) many now spl) (fun r => r.1 = Int32.ofNat (A.2.2.1.2.1 i).length ∧ sp (A.2.2.1.2.1 i) r.2) := by
  obtain ⟨_, a2, a3, _, a5⟩ := hI.2.2.1.2 i hi
  have hl := iW_len hI hi
  rw [a3] at a5 ⊢
  refine m_spell7 hB.2.1 hI.2.1.1 (ok6_Inv hI) (fun q hq => (hI.2.1.2 q hq).2.1) hB.2.2.1 hI.2.2.1.1 hi hl a2 a5 (fun sp' hs => ok_some ⟨rfl, hs⟩) (A.2.2.1.2.2.2 i).length 0 FU spl (by omega) (by simp only [FU]; omega) (fun k hk => by rw [List.take_zero] at hk; simp [jn] at hk)
def mf (c : Nat × Nat × Nat) : Nat := if c.1 < 1000000 then c.2.1 else 1000000
theorem m_try {p : aPs} {now : Nat → Int32} (hP : mP p now) (hn : p.1 ≤ 24) (hr : okR p.1 p.2.1 6) {st : Nat → Nat} (hS : mS st now) (hb0 : st 0 ≤ 99) (hb1 : st 1 ≤ 9) (hd9 : st 2 ≤ 9) {l : List Nat} (hw : wf l) (hl : l.length ≤ 12) {spl : Nat → Int32} (hs : sp l spl) (b : Bool) {al : List Nat} (hal : wf al) (hal6 : al.length ≤ 6) {T : Nat → Nat × Nat × Nat} {i m : Nat} {cur : Nat × Nat × Nat} {c f g : Nat → Int32} (hm : 1 ≤ m) (hm6 : m ≤ 6) (him : i + m ≤ l.length) (hc : c (i + m) = Int32.ofNat (T (i + m)).1) (hf : f (i + m) = Int32.ofNat (mf (T (i + m)))) (hT : (T (i + m)).1 = 1000000 ∨ (T (i + m)).1 ≤ 3000) (hT2 : (T (i + m)).2.1 ≤ 12) (hc1 : cur.1 ≤ 1000000) (hc2 : cur.2.1 ≤ 13) : fX10_triesFirst (Int32.ofNat i) (Int32.ofNat m) (if b = true then 1 else 0) (B32 al) now spl (upd c i (Int32.ofNat cur.1)) (upd f i (Int32.ofNat (mf cur))) (upd g i (Int32.ofNat cur.2.2)) = some (upd c i (Int32.ofNat (stp (sSet (sC p.1 p.2.1 st b l) l al 0) (st 2) T i m cur).1), upd f i (Int32.ofNat (mf (stp (sSet (sC p.1 p.2.1 st b l) l al 0) (st 2) T i m cur))), upd g i (Int32.ofNat (stp (sSet (sC p.1 p.2.1 st b l) l al 0) (st 2) T i m cur).2.2)) := by
  have n1 : i + m ≠ i := by omega
  have hsl := take_len him
  have hsw : wf ((l.drop i).take m) := wf_take _ (wf_drop _ hw)
  have e1 := m_code hw hl hs him
  have e2 := m_pieceOf hP hn hr hsw (by omega)
  have e3 := m_priceOf hS hsw (by omega)
  have ei := B32_inj hsw hal (by omega) hal6
  have hst : st 1 * m ≤ 9 * 6 := Nat.mul_le_mul hb1 hm6
  rw [hsl] at e3
  generalize hv : sSet (sC p.1 p.2.1 st b l) l al 0 = sc
  -- what a section costs beside its deposit
  have key : ∀ v : Nat, v ≤ 180 → sc i m = v → (if (T (i + m)).1 < 1000000 then (if (T (i + m)).1 + st 2 + v < cur.1 then some (upd c i (Int32.ofNat ((T (i + m)).1 + st 2 + v)), upd f i (Int32.ofNat (mf (T (i + m)) + 1)), upd g i (Int32.ofNat m)) else if (T (i + m)).1 + st 2 + v = cur.1 then (if mf cur ≤ mf (T (i + m)) + 1 then some (upd c i (Int32.ofNat cur.1), upd f i (Int32.ofNat (mf cur)), upd g i (Int32.ofNat cur.2.2)) else some (upd c i (Int32.ofNat ((T (i + m)).1 + st 2 + v)), upd f i (Int32.ofNat (mf (T (i + m)) + 1)), upd g i (Int32.ofNat m))) else some (upd c i (Int32.ofNat cur.1), upd f i (Int32.ofNat (mf cur)), upd g i (Int32.ofNat cur.2.2))) else some (upd c i (Int32.ofNat cur.1), upd f i (Int32.ofNat (mf cur)), upd g i (Int32.ofNat cur.2.2))) = some (upd c i (Int32.ofNat (stp sc (st 2) T i m cur).1), upd f i (Int32.ofNat (mf (stp sc (st 2) T i m cur))), upd g i (Int32.ofNat (stp sc (st 2) T i m cur).2.2)) := by
    intro v hv2 hsv
    by_cases t1 : (T (i + m)).1 < 1000000
    · have hmT : mf (T (i + m)) = (T (i + m)).2.1 := by rw [mf, if_pos t1]
      have hmN : mf (st 2 + v + (T (i + m)).1, 1 + (T (i + m)).2.1, m) = 1 + (T (i + m)).2.1 := by rw [mf, if_pos (by simp only; omega)]
      have ex : st 2 + v + (T (i + m)).1 = (T (i + m)).1 + st 2 + v := by omega
      rw [if_pos t1]
      by_cases t2 : (T (i + m)).1 + st 2 + v < cur.1
      · have e : stp sc (st 2) T i m cur = (st 2 + v + (T (i + m)).1, 1 + (T (i + m)).2.1, m) := by
          unfold stp
          rw [hsv, if_neg (by omega), if_pos (Or.inl (by omega))]
        rw [if_pos t2, e, hmN, hmT, Nat.add_comm 1, ex]
      · rw [if_neg t2]
        by_cases t3 : (T (i + m)).1 + st 2 + v = cur.1
        · have hmC : mf cur = cur.2.1 := by rw [mf, if_pos (by omega)]
          rw [if_pos t3, hmC, hmT]
          by_cases t4 : cur.2.1 ≤ (T (i + m)).2.1 + 1
          · have e : stp sc (st 2) T i m cur = cur := by
              unfold stp
              rw [hsv, if_neg (by omega), if_neg (by omega)]
            rw [if_pos t4, e, hmC]
          · have e : stp sc (st 2) T i m cur = (st 2 + v + (T (i + m)).1, 1 + (T (i + m)).2.1, m) := by
              unfold stp
              rw [hsv, if_neg (by omega), if_pos (Or.inr (by omega))]
            rw [if_neg t4, e, hmN, Nat.add_comm 1, ex]
        · have e : stp sc (st 2) T i m cur = cur := by
            unfold stp
            rw [hsv, if_neg (by omega), if_neg (by omega)]
          rw [if_neg t3, e]
    · have e : stp sc (st 2) T i m cur = cur := by
        unfold stp
        rw [hsv, if_pos (by omega)]
      rw [if_neg t1, e]
  have mfb : ∀ x : Nat × Nat × Nat, x.2.1 ≤ 13 → mf x ≤ 1000000 := by
    intro x hx
    unfold mf
    split <;> omega
  have mfc := mfb cur hc2
  have mft := mfb (T (i + m)) (by omega)
  have hTle : (T (i + m)).1 ≤ 1000000 := by omega
  rw [fX10_triesFirst, e1, gb1_some]
  simp only [Lt_eq]
  by_cases k1 : (l.drop i).take m = al
  · have hsc : sc i m = 0 := by rw [← hv, sSet, if_pos k1]
    simp only [ei, k1, if_true]
    simp (disch := omega) only [hS 2 (show 2 < 5 by omega), hc, hf, upd_eq, upd_ne _ _ _ _ n1, upd_upd, J_lt, J_le, J_eq, J_nat, J_add, J_mul, J_sub, J_ne1, J_m1, J_le1, J_1le, J_1lt, J_lt1, J_dec, J_dec0, M1_def, M1_neg, n_leF, n_leT, n_ltF, n_ltT, false_or, or_false, true_or, or_true, and_true, true_and, false_and, and_false, not_true_eq_false, not_false_eq_true, if_true, if_false, ite_true, ite_false, Lt_eq, cmpJ, gb1_some, gb2_some, gb3_some, gb4_some, gb5_some, gb6_some, gb7_some, gb8_some, Nat.add_zero, Nat.zero_add, Nat.add_sub_cancel, i_0, i_1, i_2, i_3, i_4, i_5, i_6, i_7, i_8, i_9, i_10, i_11, i_12, i_13, i_14, i_15, i_16, i_17, i_18, i_19, i_20, i_21, i_22, i_23, i_24, i_25, i_26, i_27, i_28, i_29, i_31, i_32, i_48, i_57, i_59, i_61, i_63, i_72, i_96, i_97, i_99, i_100, i_122, i_128, i_141, i_160, i_192, i_255, i_256, i_365, i_600, i_730, i_3650, i_9999, i_1000000, -Int32.reduceOfNat]
    have := key 0 (by omega) hsc
    rw [Nat.add_zero] at this
    exact this
  · simp only [ei, k1, if_false]
    rw [e2, gb1_some]
    simp only [M1_def, nr_eq p.1 p.2.1 _ (show p.1 < 1000000 by omega)]
    by_cases k2 : fnd p.1 p.2.1 ((l.drop i).take m) < p.1
    · have hsc : sc i m = 0 := by rw [← hv, sSet, if_neg k1, sC, if_pos k2]
      rw [if_neg (by simpa using k2)]
      simp (disch := omega) only [hS 2 (show 2 < 5 by omega), hc, hf, upd_eq, upd_ne _ _ _ _ n1, upd_upd, J_lt, J_le, J_eq, J_nat, J_add, J_mul, J_sub, J_ne1, J_m1, J_le1, J_1le, J_1lt, J_lt1, J_dec, J_dec0, M1_def, M1_neg, n_leF, n_leT, n_ltF, n_ltT, false_or, or_false, true_or, or_true, and_true, true_and, false_and, and_false, not_true_eq_false, not_false_eq_true, if_true, if_false, ite_true, ite_false, Lt_eq, cmpJ, gb1_some, gb2_some, gb3_some, gb4_some, gb5_some, gb6_some, gb7_some, gb8_some, Nat.add_zero, Nat.zero_add, Nat.add_sub_cancel, i_0, i_1, i_2, i_3, i_4, i_5, i_6, i_7, i_8, i_9, i_10, i_11, i_12, i_13, i_14, i_15, i_16, i_17, i_18, i_19, i_20, i_21, i_22, i_23, i_24, i_25, i_26, i_27, i_28, i_29, i_31, i_32, i_48, i_57, i_59, i_61, i_63, i_72, i_96, i_97, i_99, i_100, i_122, i_128, i_141, i_160, i_192, i_255, i_256, i_365, i_600, i_730, i_3650, i_9999, i_1000000, -Int32.reduceOfNat]
      have := key 0 (by omega) hsc
      rw [Nat.add_zero] at this
      exact this
    · rw [if_pos k2]
      cases b with
      | true =>
        have hsc : sc i m = st 0 + st 1 * m := by rw [← hv, sSet, if_neg k1, sC, if_neg k2, if_pos rfl]
        simp (disch := omega) only [hS 2 (show 2 < 5 by omega), hc, hf, e3, upd_eq, upd_ne _ _ _ _ n1, upd_upd, J_lt, J_le, J_eq, J_nat, J_add, J_mul, J_sub, J_ne1, J_m1, J_le1, J_1le, J_1lt, J_lt1, J_dec, J_dec0, M1_def, M1_neg, n_leF, n_leT, n_ltF, n_ltT, false_or, or_false, true_or, or_true, and_true, true_and, false_and, and_false, not_true_eq_false, not_false_eq_true, if_true, if_false, ite_true, ite_false, Lt_eq, cmpJ, gb1_some, gb2_some, gb3_some, gb4_some, gb5_some, gb6_some, gb7_some, gb8_some, Nat.add_zero, Nat.zero_add, Nat.add_sub_cancel, i_0, i_1, i_2, i_3, i_4, i_5, i_6, i_7, i_8, i_9, i_10, i_11, i_12, i_13, i_14, i_15, i_16, i_17, i_18, i_19, i_20, i_21, i_22, i_23, i_24, i_25, i_26, i_27, i_28, i_29, i_31, i_32, i_48, i_57, i_59, i_61, i_63, i_72, i_96, i_97, i_99, i_100, i_122, i_128, i_141, i_160, i_192, i_255, i_256, i_365, i_600, i_730, i_3650, i_9999, i_1000000, -Int32.reduceOfNat]
        exact key (st 0 + st 1 * m) (by omega) hsc
      | false =>
        have hsc : sc i m = 1000000 := by rw [← hv, sSet, if_neg k1, sC, if_neg k2, if_neg (by decide)]
        rw [if_pos trivial, if_pos (by decide)]
        have : stp sc (st 2) T i m cur = cur := by
          unfold stp
          rw [if_pos (by omega)]
        rw [this]
