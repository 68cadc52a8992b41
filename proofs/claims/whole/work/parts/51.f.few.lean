/-! fewest, saving, ways -/
theorem TB_finA {A : aB} (hI : Inv A) {i : Nat} (hi : i < A.2.2.1.1) (al : List Nat) : (TB (sSet (sC A.2.1.1 A.2.1.2.1 A.2.2.2.1 false (A.2.2.1.2.1 i)) (A.2.2.1.2.1 i) al 0) (A.2.2.2.1 2) (A.2.2.1.2.1 i).length 0).1 < 1000000 := by
  obtain ⟨h1, h2, h3, h4, h5, h6⟩ := id hI
  obtain ⟨a1, a2, a3, a4, a5⟩ := h3.2 i hi
  obtain ⟨t1, t2⟩ := TB_known (st := A.2.2.2.1) (l := A.2.2.1.2.1 i) (sc := sSet (sC A.2.1.1 A.2.1.2.1 A.2.2.2.1 false (A.2.2.1.2.1 i)) (A.2.2.1.2.1 i) al 0) h5.2.2.2.1 a5 (fun j m hh => by
    unfold sSet sC
    split
    · rfl
    · rw [if_pos hh]) ((A.2.2.1.2.2.2 i).map A.2.1.2.1) 0 (Nat.zero_le _) (by rw [List.drop_zero]; exact a3) (fun q hq => by
    obtain ⟨x, hx, e⟩ := List.mem_map.mp hq
    have hxn := a2 x hx
    obtain ⟨b1, b2, b3, _⟩ := h2.2 x hxn
    rw [← e]
    exact ⟨b2, b3, fnd_lt hxn rfl⟩)
  rw [List.length_map] at t1
  have hlen := iW_len hI hi
  have hb : A.2.2.2.1 2 * (A.2.2.1.2.2.2 i).length ≤ 9 * 12 := Nat.mul_le_mul h5.2.2.2.1 hlen
  omega
def gn (A : aB) (i : Nat) (al : List Nat) : Nat := (TB (sSet (sC A.2.1.1 A.2.1.2.1 A.2.2.2.1 false (A.2.2.1.2.1 i)) (A.2.2.1.2.1 i) al 0) (A.2.2.2.1 2) (A.2.2.1.2.1 i).length 0).2.1
theorem sSet_nil (sc : Nat → Nat → Nat) (l : List Nat) : ∀ i m, 1 ≤ m → m ≤ 6 → i + m ≤ l.length → sSet sc l [] 0 i m = sc i m := by
  intro i m a b c
  rw [sSet, if_neg]
  intro e
  have := congrArg List.length e
  rw [take_len c] at this
  simp at this
  omega
theorem gn_nil {A : aB} (hI : Inv A) {i : Nat} (hi : i < A.2.2.1.1) : gn A i [] = (kS A (A.2.2.1.2.1 i)).length := by
  have hf := (kS_ok hI hi).2.2.2.2
  rw [gn, TB_congr (sSet_nil _ _), kS, (CL_ok ((hI.2.2.1.2 i hi).2.2.2.2) hf).2.1]
theorem gn_le {A : aB} (hI : Inv A) {i : Nat} (hi : i < A.2.2.1.1) (al : List Nat) : gn A i al ≤ 12 := by
  have := (TB_bd (sSet (sC A.2.1.1 A.2.1.2.1 A.2.2.2.1 false (A.2.2.1.2.1 i)) (A.2.2.1.2.1 i) al 0) (A.2.2.2.1 2) (A.2.2.1.2.1 i).length 0).2
  have h5 := (hI.2.2.1.2 i hi).2.2.2.2
  unfold gn
  omega
theorem ok_gb6 {α0 α1 α2 α3 α4 α5 β : Type} {x : Option (α0 × α1 × α2 × α3 × α4 × α5)} {k : α0 → α1 → α2 → α3 → α4 → α5 → Option β} {Q : β → Prop} (h : Ok x (fun a => Ok (k a.1 a.2.1 a.2.2.1 a.2.2.2.1 a.2.2.2.2.1 a.2.2.2.2.2) Q)) : Ok (gb6 x k) Q := by
  obtain ⟨a, e, q⟩ := h
  rw [e]
  exact q
theorem m_fewestOf {A : aB} {now : Nat → Int32} (hm : mB A now) (hI : Inv A) {i : Nat} (hi : i < A.2.2.1.1) {al : List Nat} (hal : wf al) (hal6 : al.length ≤ 6) (many : Int32) (spl c f g : Nat → Int32) : Ok (fX10_fewestOf (Int32.ofNat i) (B32 al) many now spl c f g) (fun r => r.1 = Int32.ofNat (gn A i al)) := by
  have h5 := (hI.2.2.1.2 i hi).2.2.2.2
  rw [fX10_fewestOf]
  apply ok_gb2
  refine ok_mono (m_spellsWord hm hI hi many spl) ?_
  rintro ⟨many1, spl1⟩ ⟨e1, e2⟩
  simp only at e1 e2 ⊢
  subst e1
  apply ok_gb3
  refine ok_mono (m_cuts (b := false) hm.2.1 hI.2.1.1 (ok6_Inv hI) hm.2.2.2.1 hI.2.2.2.2.1.1 hI.2.2.2.2.1.2.1 hI.2.2.2.2.1.2.2.2.1 (iW_wf hI hi) h5 e2 hal hal6 c f g) ?_
  rintro ⟨c1, f1, g1⟩ hg
  refine ok_some ?_
  have := (hg 0 (by omega) (by omega)).2.1
  simp only at this ⊢
  rw [this]
  show Int32.ofNat (mf (TB (sSet (sC A.2.1.1 A.2.1.2.1 A.2.2.2.1 false (A.2.2.1.2.1 i)) (A.2.2.1.2.1 i) al 0) (A.2.2.2.1 2) (A.2.2.1.2.1 i).length 0)) = _
  rw [mf, if_pos (TB_finA hI hi al)]
  rfl
theorem c_fewest {A : aB} {b : tBk} (hc : cBk A b) (hI : Inv A) {i : Nat} (hi : i < A.2.2.1.1) (C : tCut) (S : tCutR) : Ok (fX9_fewestPieces (Int32.ofNat i) b.2.2.2.1 b.2.2.2.2.2.2.1 b.2.2.2.2.2.2.2 C S) (fun r => r.1 = Int32.ofNat (kS A (A.2.2.1.2.1 i)).length) := by
  have h16 := hI.2.2.1.1
  obtain ⟨f0, _⟩ := hc.2.2.1.2 i hi
  rw [fX9_fewestPieces, if_neg (inck hi h16 (by omega)), J_nat _ (by omega), f0]
  apply ok_gb2
  refine ok_mono (c_cutKnown hc.2.1 hI.2.1.1 (okP_Inv hI) hc.2.2.2.1 hI.2.2.2.2.1.1 hI.2.2.2.2.1.2.1 hI.2.2.2.2.1.2.2.2.1 (iW_wf hI hi) ((hI.2.2.1.2 i hi).2.2.2.2) C S) ?_
  rintro ⟨C1, S1⟩ ⟨h, _⟩
  exact ok_some h.1.1
theorem q_fewest {A : aB} {b : tBk} {now : Nat → Int32} (hc : cBk A b) (hm : mB A now) (hI : Inv A) (u1 t0 many : Int32) (C : tCut) (S : tCutR) (spl c f g : Nat → Int32) : ∃ (x r : Int32) (C' : tCut) (S' : tCutR) (r2 t many' : Int32) (spl' c' f' g' : Nat → Int32), fX9_fewest u1 b.2.2.2.1 b.2.2.2.2.2.2.1 b.2.2.2.2.2.2.2 C S = some (x, r, C', S') ∧ fX10_fewest u1 t0 many now spl c f g = some (r2, t, many', spl', c', f', g') ∧ ((x = 0 ∧ t = 0 ∧ r = r2) ∨ (x = 1 ∧ t = 1)) := by
  have h16 := hI.2.2.1.1
  rcases idx_cases u1 A.2.2.1.1 with ⟨i, hi, _, rfl⟩ | ho
  · obtain ⟨⟨r, C', S'⟩, e1, e2⟩ := c_fewest hc hI hi C S
    obtain ⟨⟨r2, many', spl', c', f', g'⟩, e3, e4⟩ := m_fewestOf hm hI hi wf_nil (by simp) many spl c f g
    simp only at e2 e4
    have e3' : fX10_fewestOf (Int32.ofNat i) 0 many now spl c f g = some (r2, many', spl', c', f', g') := e3
    refine ⟨0, r, C', S', r2, 0, many', spl', c', f', g', ?_, ?_, Or.inl ⟨rfl, rfl, ?_⟩⟩
    · rw [fX9_fewest, reqW_in hc.2.2.1.1 hi (by omega), gb1_some, if_pos rfl, e1, gb3_some]
    · rw [fX10_fewest, noW_in hm.2.2.1.1 hi (by omega), gb2_some, if_pos rfl, e3', gb6_some]
    · rw [e2, e4, gn_nil hI hi]
  · refine ⟨1, 0, C, S, 0, 1, many, spl, c, f, g, ?_, ?_, Or.inr ⟨rfl, rfl⟩⟩
    · rw [fX9_fewest, reqW_out hc.2.2.1.1 (by omega) ho, gb1_some, if_neg (by decide)]
    · rw [fX10_fewest, noW_out hm.2.2.1.1 (by omega) ho, gb2_some, if_neg (by decide)]
theorem q_saving {A : aB} {b : tBk} {now : Nat → Int32} (hc : cBk A b) (hm : mB A now) (hI : Inv A) (u1 t0 many : Int32) (C : tCut) (S : tCutR) (spl c f g : Nat → Int32) : ∃ (x r : Int32) (C' : tCut) (S' : tCutR) (r2 t many' : Int32) (spl' c' f' g' : Nat → Int32), fX9_saving u1 b.2.2.2.1 b.2.2.2.2.2.2.1 b.2.2.2.2.2.2.2 C S = some (x, r, C', S') ∧ fX10_saving u1 t0 many now spl c f g = some (r2, t, many', spl', c', f', g') ∧ ((x = 0 ∧ t = 0 ∧ r = r2) ∨ (x = 1 ∧ t = 1)) := by
  have h16 := hI.2.2.1.1
  rcases idx_cases u1 A.2.2.1.1 with ⟨i, hi, _, rfl⟩ | ho
  · obtain ⟨⟨r, C', S'⟩, e1, e2⟩ := c_fewest hc hI hi C S
    obtain ⟨⟨r2, many', spl', c', f', g'⟩, e3, e4⟩ := m_fewestOf hm hI hi wf_nil (by simp) many spl c f g
    simp only at e2 e4
    have e3' : fX10_fewestOf (Int32.ofNat i) 0 many now spl c f g = some (r2, many', spl', c', f', g') := e3
    obtain ⟨_, _, f2, _⟩ := hc.2.2.1.2 i hi
    obtain ⟨_, g1, _⟩ := hm.2.2.1.2 i hi
    have hle := (kS_ok hI hi).2.1
    refine ⟨0, Int32.ofNat (A.2.2.2.1 2 * ((A.2.2.1.2.2.2 i).length - (kS A (A.2.2.1.2.1 i)).length)), C', S', Int32.ofNat (A.2.2.2.1 2 * ((A.2.2.1.2.2.2 i).length - (kS A (A.2.2.1.2.1 i)).length)), 0, many', spl', c', f', g', ?_, ?_, Or.inl ⟨rfl, rfl, rfl⟩⟩
    · rw [fX9_saving, reqW_in hc.2.2.1.1 hi (by omega), gb1_some, if_pos rfl, if_neg (inck hi h16 (by omega)), e1, gb3_some, J_nat _ (by omega), f2, e2, J_sub _ _ hle, c_depositsFor hc.2.2.2.1, gb1_some]
    · rw [fX10_saving, noW_in hm.2.2.1.1 hi (by omega), gb2_some, if_pos rfl, i_1, m_ofWord now (by omega) (by omega), gb1_some, e3', gb6_some, g1, e4, gn_nil hI hi, hm.2.2.2.1 2 (by omega), J_sub _ _ hle, J_mul]
  · refine ⟨1, 0, C, S, 0, 1, many, spl, c, f, g, ?_, ?_, Or.inr ⟨rfl, rfl⟩⟩
    · rw [fX9_saving, reqW_out hc.2.2.1.1 (by omega) ho, gb1_some, if_neg (by decide)]
    · rw [fX10_saving, noW_out hm.2.2.1.1 (by omega) ho, gb2_some, if_neg (by decide)]
theorem m_ways45 {p : aPs} {now : Nat → Int32} (hP : mP p now) (hn : p.1 ≤ 24) (hr : okR p.1 p.2.1 6) {st : Nat → Nat} {l : List Nat} (hw : wf l) (hl : l.length ≤ 12) {spl : Nat → Int32} (hs : sp l spl) {T : Nat → Nat} {i : Nat} (hi : i < l.length) {wy : Nat → Int32} (hT : ∀ m, 1 ≤ m → i + m ≤ l.length → wy (i + m) = Int32.ofNat (T (i + m))) (k : (Nat → Int32) → Option (Int32 × Int32 × Int32 × (Nat → Int32) × (Nat → Int32))) : ∀ (d m n acc : Nat), m + d = lg l.length i + 1 → 1 ≤ m → d < n → fX10_ways_L45 (Int32.ofNat i) (Int32.ofNat l.length) now spl k n (Int32.ofNat m) (upd wy i (Int32.ofNat acc)) = k (upd wy i (Int32.ofNat (acc + smF (fun m => if sC p.1 p.2.1 st false l i m < 1000000 then T (i + m) else 0) m d)))
  | d, m, 0, acc, _, _, h => by omega
  | 0, m, n + 1, acc, h1, h2, _ => by
    have hlg := lg_le l.length i
    rw [fX10_ways_L45]
    by_cases c : 6 < m
    · rw [if_pos (by rw [i_6, J_lt _ _ (by omega) (by omega)]; exact c)]
      rfl
    · have := hlg.2.2 m (by omega)
      rw [if_neg (by rw [i_6, J_lt _ _ (by omega) (by omega)]; exact c), J_add, if_pos (by rw [J_lt _ _ (by omega) (by omega)]; omega)]
      rfl
  | d + 1, m, n + 1, acc, h1, h2, h3 => by
    have hlg := lg_le l.length i
    have him : i + m ≤ l.length := by omega
    have hsl := take_len him
    have hsw : wf ((l.drop i).take m) := wf_take _ (wf_drop _ hw)
    have hck : ¬ (Int32.ofNat i < 0 ∨ 13 ≤ (Int32.ofNat i).toNatClampNeg) := inck (n := 13) (by omega) (by omega) (by omega)
    have hck' : ¬ (Int32.ofNat i < 0 ∨ 13 ≤ i) := inck' (n := 13) (by omega) (by omega) (by omega)
    have n1 : i + m ≠ i := by omega
    have ih := fun a => m_ways45 (st := st) hP hn hr hw hl hs hi hT k d (m + 1) n a (by omega) (by omega) (by omega)
    rw [fX10_ways_L45, if_neg (by rw [i_6, J_lt _ _ (by omega) (by omega)]; omega), m_code hw hl hs him, gb1_some, m_pieceOf hP hn hr hsw (by omega), gb1_some]
    simp only [Lt_eq, M1_def, nr_eq p.1 p.2.1 _ (show p.1 < 1000000 by omega)]
    rw [J_add, if_neg (by rw [J_lt _ _ (by omega) (by omega)]; omega), if_neg hck, smF]
    by_cases ck : fnd p.1 p.2.1 ((l.drop i).take m) < p.1
    · have e1 : sC p.1 p.2.1 st false l i m < 1000000 := by rw [sC, if_pos ck]; decide
      rw [if_neg (by simpa using ck), if_neg (inck (i := i + m) (n := 13) (by omega) (by omega) (by omega)), if_neg hck, J_nat _ (by omega), J_nat _ (by omega), upd_eq, upd_ne _ _ _ _ n1, hT m h2 him, J_add, upd_upd, i_1, J_add, ih, if_pos e1, Nat.add_assoc]
    · have e1 : ¬ sC p.1 p.2.1 st false l i m < 1000000 := by rw [sC, if_neg ck, if_neg (by decide)]; decide
      rw [if_pos ck, if_neg hck, J_nat _ (by omega), upd_eq, upd_upd, i_0, J_add, i_1, J_add, ih, if_neg e1, Nat.add_zero, Nat.zero_add]
theorem m_ways32 {p : aPs} {now : Nat → Int32} (hP : mP p now) (hn : p.1 ≤ 24) (hr : okR p.1 p.2.1 6) {st : Nat → Nat} {l : List Nat} (hw : wf l) (hl : l.length ≤ 12) {spl : Nat → Int32} (hs : sp l spl) {k : (Nat → Int32) → Option (Int32 × Int32 × Int32 × (Nat → Int32) × (Nat → Int32))} {Q : Int32 × Int32 × Int32 × (Nat → Int32) × (Nat → Int32) → Prop} (hk : ∀ wy, (∀ x, x ≤ l.length → wy x = Int32.ofNat (wt (sC p.1 p.2.1 st false l) l.length l.length x)) → Ok (k wy) Q) : ∀ (d j f : Nat) (wy : Nat → Int32), j + d = l.length → d < f → (∀ x, l.length - j ≤ x → x ≤ l.length → wy x = Int32.ofNat (wt (sC p.1 p.2.1 st false l) l.length j x)) → Ok (fX10_ways_L32 (Int32.ofNat l.length) now spl k f (if d = 0 then M1 else Int32.ofNat (d - 1)) wy) Q
  | d, j, 0, wy, _, h, _ => by omega
  | 0, j, f + 1, wy, h1, _, ha => by
    have e : M1 < 0 := by decide
    have hj : j = l.length := by omega
    subst hj
    rw [if_pos rfl, fX10_ways_L32, if_pos e]
    exact hk wy (fun x hx => ha x (by omega) hx)
  | d + 1, j, f + 1, wy, h1, h2, ha => by
    have hjx : l.length - (j + 1) = d := by omega
    have hlg := lg_le l.length d
    rw [if_neg (by omega), Nat.add_sub_cancel, fX10_ways_L32, if_neg (by rw [i_0, J_lt _ _ (by omega) (by omega)]; omega), if_neg (inck (i := d) (n := 13) (by omega) (by omega) (by omega)), Lt_eq, J_nat _ (by omega)]
    have t := m_ways45 (st := st) hP hn hr hw hl hs (T := wt (sC p.1 p.2.1 st false l) l.length j) (show d < l.length by omega) (wy := wy) (fun m a b => ha (d + m) (by omega) b) (fun ways_2 => fX10_ways_L32 (Int32.ofNat l.length) now spl k f (Int32.ofNat d + -1) ways_2) (lg l.length d) 1 FU 0 (by omega) (Nat.le_refl _) (by simp only [FU]; omega)
    have t' : fX10_ways_L45 (Int32.ofNat d) (Int32.ofNat l.length) now spl (fun ways_2 => fX10_ways_L32 (Int32.ofNat l.length) now spl k f (Int32.ofNat d + -1) ways_2) FU 1 (upd wy d 0) = _ := t
    rw [t']
    have ei : Int32.ofNat d + -1 = (if d = 0 then M1 else Int32.ofNat (d - 1)) := by
      by_cases c : d = 0
      · rw [c]; rfl
      · rw [if_neg c, M1_def, J_dec _ (by omega)]
    rw [ei]
    refine m_ways32 hP hn hr hw hl hs hk d (j + 1) f _ (by omega) (by omega) (fun x hx1 hx2 => ?_)
    rw [wt, hjx]
    by_cases c : x = d
    · subst c
      rw [upd_eq, up_eq, Nat.zero_add]
    · rw [upd_ne _ _ _ _ c, up_ne _ _ _ _ c]
      exact ha x (by omega) hx2
theorem q_ways {A : aB} {b : tBk} {now : Nat → Int32} (hc : cBk A b) (hm : mB A now) (hI : Inv A) (u1 t0 many : Int32) (C : tCut) (S : tCutR) (spl wy : Nat → Int32) : ∃ (x r : Int32) (C' : tCut) (S' : tCutR) (r2 t many' : Int32) (spl' wy' : Nat → Int32), fX9_ways u1 b.2.2.2.1 b.2.2.2.2.2.2.1 b.2.2.2.2.2.2.2 C S = some (x, r, C', S') ∧ fX10_ways u1 t0 many now spl wy = some (r2, t, many', spl', wy') ∧ ((x = 0 ∧ t = 0 ∧ r = r2) ∨ (x = 1 ∧ t = 1)) := by
  have h16 := hI.2.2.1.1
  rcases idx_cases u1 A.2.2.1.1 with ⟨i, hi, _, rfl⟩ | ho
  · have h5 := (hI.2.2.1.2 i hi).2.2.2.2
    obtain ⟨f0, _⟩ := hc.2.2.1.2 i hi
    obtain ⟨⟨r, C', S'⟩, e1, e2⟩ := c_countWays hc.2.1 hI.2.1.1 (okP_Inv hI) hc.2.2.2.1 hI.2.2.2.2.1.1 hI.2.2.2.2.1.2.1 (iW_wf hI hi) h5 C S
    obtain ⟨⟨many', spl'⟩, e3, e4, e5⟩ := m_spellsWord hm hI hi many spl
    simp only at e2 e4 e5
    subst e4
    have key : Ok (fX10_ways (Int32.ofNat i) t0 many now spl wy) (fun r => r.1 = Int32.ofNat (wt (sC A.2.1.1 A.2.1.2.1 A.2.2.2.1 false (A.2.2.1.2.1 i)) (A.2.2.1.2.1 i).length (A.2.2.1.2.1 i).length 0) ∧ r.2.1 = 0) := by
      have ei : Int32.ofNat (A.2.2.1.2.1 i).length - 1 = (if (A.2.2.1.2.1 i).length = 0 then M1 else Int32.ofNat ((A.2.2.1.2.1 i).length - 1)) := by
        by_cases c : (A.2.2.1.2.1 i).length = 0
        · rw [c]; rfl
        · rw [if_neg c, i_1, J_sub _ _ (by omega)]
      rw [fX10_ways, noW_in hm.2.2.1.1 hi (by omega), gb2_some, if_pos rfl, e3, gb2_some, if_neg (inck (n := 13) (by omega) (by omega) (by omega)), Lt_eq, J_nat _ (by omega), ei]
      refine m_ways32 (st := A.2.2.2.1) hm.2.1 hI.2.1.1 (ok6_Inv hI) (iW_wf hI hi) h5 e5 (fun wy' h => ok_some ⟨h 0 (by omega), rfl⟩) (A.2.2.1.2.1 i).length 0 FU _ (by omega) (by simp only [FU]; omega) (fun x hx1 hx2 => ?_)
      have : x = (A.2.2.1.2.1 i).length := by omega
      rw [this, upd_eq, wt, up_eq]
      rfl
    obtain ⟨⟨r2, t, many2, spl2, wy2⟩, k1, k2, k3⟩ := key
    simp only at k2 k3
    refine ⟨0, r, C', S', r2, t, many2, spl2, wy2, ?_, k1, Or.inl ⟨rfl, k3, by rw [e2, k2]⟩⟩
    rw [fX9_ways, reqW_in hc.2.2.1.1 hi (by omega), gb1_some, if_pos rfl, if_neg (inck hi h16 (by omega)), J_nat _ (by omega), f0, e1, gb3_some]
  · refine ⟨1, 0, C, S, 0, 1, many, spl, wy, ?_, ?_, Or.inr ⟨rfl, rfl⟩⟩
    · rw [fX9_ways, reqW_out hc.2.2.1.1 (by omega) ho, gb1_some, if_neg (by decide)]
    · rw [fX10_ways, noW_out hm.2.2.1.1 (by omega) ho, gb2_some, if_neg (by decide)]
