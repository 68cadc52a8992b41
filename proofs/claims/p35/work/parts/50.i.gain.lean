/-! gains and ways: the class's cutter -/
def cG (dep cnt : Nat) (l : List Nat) (C : tCut) : Prop := C.1 = Int32.ofNat cnt ∧ C.2.2.2.2.1 = L64 l ∧ C.2.2.2.2.2.1 = Int32.ofNat l.length ∧ C.2.2.2.2.2.2.1 = Int32.ofNat dep
theorem take_len {l : List Nat} {i m : Nat} (h : i + m ≤ l.length) : ((l.drop i).take m).length = m := by simp; omega
theorem c_gain {l : List Nat} (hw : wf l) (hl : l.length ≤ 12) {s : List Nat} (hs : wf s) (hs1 : 1 ≤ s.length) (hs6 : s.length ≤ 6) {sc : Nat → Nat → Nat} {dep cnt : Nat} (hd : dep ≤ 9) (hsc : ∀ i m, 1 ≤ m → m ≤ 6 → i + m ≤ l.length → sc i m ≤ 1000000 ∧ ((l.drop i).take m = s → sc i m = 1000000)) (hcnt : cnt = (TB sc dep l.length 0).2.1) {C : tCut} (hC : cG dep cnt l C) {S : tCutR} (hS : cR sc l S) : Ok (fX2_gainOf (L64 s) (Int32.ofNat s.length) C S) (fun r => r.1 = Int32.ofNat cnt - Int32.ofNat (TB (sSet sc l s 0) dep l.length 0).2.1 ∧ cG dep cnt l r.2.1 ∧ cR sc l r.2.2) := by
  rw [fX2_gainOf]
  apply ok_gb2
  refine ok_mono (c_setSur hw hl hs hs1 hs6 0 hC.2.1 hC.2.2.1 hS) ?_
  rintro ⟨r1, S1⟩ ⟨h1, h2⟩
  simp only at h1 h2 ⊢
  have hx : ∀ i m, i + m ≤ l.length → (l.drop i).take m = s → m = s.length := by
    intro i m h e
    have := congrArg List.length e
    rw [take_len h] at this
    exact this
  have key : ∀ S', cR (sSet (sSet sc l s 0) l s 1000000) l S' → cR sc l S' := by
    intro S' h i m a b c
    rw [h i m a b c]
    simp only [sSet]
    split
    · rename_i e
      rw [(hsc i m a b c).2 e]
    · rfl
  rcases h1 with ⟨e, hno⟩ | e
  · subst e
    rw [if_pos (by decide)]
    have hn2 : ∀ i m, 1 ≤ m → m ≤ 6 → i + m ≤ l.length → sSet sc l s 0 i m = sc i m := by
      intro i m a b c
      rw [sSet, if_neg]
      intro e
      have := hx i m c e
      subst this
      exact hno i c e
    refine ok_some ⟨?_, hC, fun i m a b c => by
      show S1 i m = _
      rw [h2 i m a b c, hn2 i m a b c]⟩
    rw [TB_congr hn2, ← hcnt]
    simp only []
    rw [Int32.sub_self]
  · subst e
    rw [if_neg (by decide)]
    apply ok_gb1
    obtain ⟨c1, c2, c3, c4, row, len, dp, lc, pc, fl, wc⟩ := C
    obtain ⟨g1, g2, g3, g4⟩ := hC
    simp only at g1 g2 g3 g4
    refine ok_mono (c_solve (sc := sSet sc l s 0) (dep := dep) (L := l.length) g4 hd hl g3 (fun i m a b c => ⟨h2 i m a b c, by
      simp only [sSet]
      split
      · omega
      · exact (hsc i m a b c).1⟩)) ?_
    rintro C2 ⟨lc', pc', fl', e, ha⟩
    subst e
    apply ok_gb2
    refine ok_mono (c_setSur (C := (c1, c2, c3, c4, row, len, dp, lc', pc', fl', wc)) hw hl hs hs1 hs6 1000000 g2 g3 h2) ?_
    rintro ⟨r2, S2⟩ ⟨_, h3⟩
    refine ok_some ⟨?_, ⟨g1, g2, g3, g4⟩, key _ h3⟩
    have := (ha 0 (by omega) (by omega)).2.1
    simp only [] at this ⊢
    rw [this, g1]
    rfl
/-! ways -/
def wt (sc : Nat → Nat → Nat) (L : Nat) : Nat → Nat → Nat
  | 0 => up (fun _ => 0) L 1
  | j + 1 => up (wt sc L j) (L - (j + 1)) (smF (fun m => if sc (L - (j + 1)) m < 1000000 then wt sc L j (L - (j + 1) + m) else 0) 1 (lg L (L - (j + 1))))
section CUT
variable {c1 c3 c4 dp len : Int32} {c2 : Nat → Int64} {row : Int64} {lc pc fl : Nat → Int32}
theorem c_ways41 {sc : Nat → Nat → Nat} {T : Nat → Nat} {L i : Nat} {S : tCutR} {wc : Nat → Int32} {k : tCut → Option (Int32 × tCut × tCutR)} (hL : L ≤ 12) (hi : i < L) (hS : ∀ m, 1 ≤ m → m ≤ 6 → i + m ≤ L → S i m = Int32.ofNat (sc i m) ∧ sc i m ≤ 1000000 ∧ wc (i + m) = Int32.ofNat (T (i + m))) : ∀ (d m n acc : Nat), m + d = lg L i + 1 → 1 ≤ m → d < n → fX2_countWays_L41 (Int32.ofNat i) S k n (Int32.ofNat m) (c1, c2, c3, c4, row, Int32.ofNat L, dp, lc, pc, fl, upd wc i (Int32.ofNat acc)) = k (c1, c2, c3, c4, row, Int32.ofNat L, dp, lc, pc, fl, upd wc i (Int32.ofNat (acc + smF (fun m => if sc i m < 1000000 then T (i + m) else 0) m d)))
  | d, m, 0, acc, _, _, h => by omega
  | 0, m, n + 1, acc, h1, h2, _ => by
    have hlg := lg_le L i
    rw [fX2_countWays_L41, c_longest hL (by omega) rfl, gb1_some, if_pos (by rw [J_lt _ _ (by omega) (by omega)]; omega)]
    rfl
  | d + 1, m, n + 1, acc, h1, h2, h3 => by
    have hlg := lg_le L i
    obtain ⟨s1, s2, s3⟩ := hS m h2 (by omega) (by omega)
    have n1 : i + m ≠ i := by omega
    rw [fX2_countWays_L41, c_longest hL (by omega) rfl, gb1_some]
    simp (disch := omega) only [s1, s3, upd_eq, upd_ne _ _ _ _ n1, upd_upd, J_lt, J_le, J_eq, J_nat, J_add, J_mul, J_sub, J_ne1, J_m1, J_le1, J_1le, J_1lt, J_lt1, J_dec, J_dec0, M1_def, M1_neg, n_leF, n_leT, n_ltF, n_ltT, false_or, or_false, true_or, or_true, and_true, true_and, false_and, and_false, not_true_eq_false, not_false_eq_true, if_true, if_false, ite_true, ite_false, Lt_eq, cmpJ, gb1_some, gb2_some, gb3_some, gb4_some, gb5_some, gb6_some, gb7_some, gb8_some, Nat.add_zero, Nat.zero_add, Nat.add_sub_cancel, i_0, i_1, i_2, i_3, i_4, i_5, i_6, i_7, i_8, i_9, i_10, i_11, i_12, i_13, i_14, i_15, i_16, i_17, i_18, i_19, i_20, i_21, i_22, i_23, i_24, i_25, i_26, i_27, i_28, i_29, i_31, i_32, i_48, i_57, i_59, i_61, i_63, i_72, i_96, i_97, i_99, i_100, i_122, i_128, i_141, i_160, i_192, i_255, i_256, i_365, i_600, i_730, i_3650, i_9999, i_1000000, -Int32.reduceOfNat]
    have ih := fun a => c_ways41 (k := k) hL hi hS d (m + 1) n a (by omega) (by omega) (by omega)
    rw [smF]
    by_cases c : 1000000 ≤ sc i m
    · rw [if_pos c, ih, if_neg (by omega), Nat.zero_add]
    · rw [if_neg c, ih, if_pos (by omega), Nat.add_assoc]
theorem c_ways25 {sc : Nat → Nat → Nat} {L : Nat} {S : tCutR} {k : tCut → Option (Int32 × tCut × tCutR)} {Q : Int32 × tCut × tCutR → Prop} (hL : L ≤ 12) (hS : ∀ i m, 1 ≤ m → m ≤ 6 → i + m ≤ L → S i m = Int32.ofNat (sc i m) ∧ sc i m ≤ 1000000) (hk : ∀ wc, (∀ x, x ≤ L → wc x = Int32.ofNat (wt sc L L x)) → Ok (k (c1, c2, c3, c4, row, Int32.ofNat L, dp, lc, pc, fl, wc)) Q) : ∀ (d j f : Nat) (wc : Nat → Int32), j + d = L → d < f → (∀ x, L - j ≤ x → x ≤ L → wc x = Int32.ofNat (wt sc L j x)) → Ok (fX2_countWays_L25 S k f (if d = 0 then M1 else Int32.ofNat (d - 1)) (c1, c2, c3, c4, row, Int32.ofNat L, dp, lc, pc, fl, wc)) Q
  | d, j, 0, wc, _, h, _ => by omega
  | 0, j, f + 1, wc, h1, _, ha => by
    have e : M1 < 0 := by decide
    have hj : j = L := by omega
    subst hj
    rw [if_pos rfl, fX2_countWays_L25, if_pos e]
    exact hk wc (fun x hx => ha x (by omega) hx)
  | d + 1, j, f + 1, wc, h1, h2, ha => by
    have hjx : L - (j + 1) = d := by omega
    have hlg := lg_le L d
    rw [if_neg (by omega), Nat.add_sub_cancel, fX2_countWays_L25, if_neg (by rw [i_0, J_lt _ _ (by omega) (by omega)]; omega), if_neg (by rw [i_0, J_lt _ _ (by omega) (by omega), J_nat _ (by omega)]; omega), Lt_eq, J_nat _ (by omega)]
    have t := c_ways41 (c1 := c1) (c2 := c2) (c3 := c3) (c4 := c4) (row := row) (dp := dp) (lc := lc) (pc := pc) (fl := fl) (sc := sc) (T := wt sc L j) (S := S) (wc := wc) (k := fun C_2 => fX2_countWays_L25 S k f (Int32.ofNat d + -1) C_2) hL (show d < L by omega) (fun m a b c => ⟨(hS d m a b c).1, (hS d m a b c).2, ha (d + m) (by omega) c⟩) (lg L d) 1 FU 0 (by omega) (Nat.le_refl _) (by simp only [FU]; omega)
    have t' : fX2_countWays_L41 (Int32.ofNat d) S (fun C_2 => fX2_countWays_L25 S k f (Int32.ofNat d + -1) C_2) FU 1 (c1, c2, c3, c4, row, Int32.ofNat L, dp, lc, pc, fl, upd wc d 0) = _ := t
    simp only []
    rw [t']
    have ei : Int32.ofNat d + -1 = (if d = 0 then M1 else Int32.ofNat (d - 1)) := by
      by_cases c : d = 0
      · rw [c]; rfl
      · rw [if_neg c, M1_def, J_dec _ (by omega)]
    rw [ei]
    refine c_ways25 hL hS hk d (j + 1) f _ (by omega) (by omega) (fun x hx1 hx2 => ?_)
    rw [wt, hjx]
    by_cases c : x = d
    · subst c
      rw [upd_eq, up_eq, Nat.zero_add]
    · rw [upd_ne _ _ _ _ c, up_ne _ _ _ _ c]
      exact ha x (by omega) hx2
end CUT
theorem c_countWays {p : aPs} {P : tPieces} (hP : cP p P) (hn : p.1 ≤ 24) (hr : okR p.1 p.2.1 12) {st : Nat → Nat} {settings : Nat → Int32} (hs : cS st settings) (h0 : st 0 ≤ 99) (h1 : st 1 ≤ 9) {l : List Nat} (hw : wf l) (hl : l.length ≤ 12) (C : tCut) (S : tCutR) : Ok (fX2_countWays (L64 l) C S settings P) (fun r => r.1 = Int32.ofNat (wt (sC p.1 p.2.1 st false l) l.length l.length 0)) := by
  rw [fX2_countWays]
  apply ok_gb2
  refine ok_mono (c_lookUp hP hn hr hs hw hl false C S) ?_
  rintro ⟨C1, S1⟩ ⟨e1, e2⟩
  simp only at e1 e2 ⊢
  subst e1
  simp only []
  rw [if_neg (by rw [i_0, J_lt _ _ (by omega) (by omega), J_nat _ (by omega)]; omega), Lt_eq, J_nat _ (by omega)]
  have ei : Int32.ofNat l.length - 1 = (if l.length = 0 then M1 else Int32.ofNat (l.length - 1)) := by
    by_cases c : l.length = 0
    · rw [c]; rfl
    · rw [if_neg c, i_1, J_sub _ _ (by omega)]
  simp only []
  rw [ei]
  refine c_ways25 (sc := sC p.1 p.2.1 st false l) hl (fun i m a b c => ⟨e2 i m a b c, sC_le h0 h1 i m b⟩) (fun wc h => ⟨_, rfl, h 0 (by omega)⟩) l.length 0 FU _ (by omega) (by simp only [FU]; omega) (fun x hx1 hx2 => ?_)
  have : x = l.length := by omega
  rw [this, upd_eq, wt, up_eq]
  rfl
