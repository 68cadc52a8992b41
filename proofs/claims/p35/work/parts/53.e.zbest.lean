/-! the law's best cutting is the table's own -/
theorem J_dfi (a b : Nat) (ha : a < 1073741824) (hb : b < 1073741824) : (Int32.ofNat a - Int32.ofNat b).toInt = (a : Int) - b := by
  rw [Int32.toInt_sub, J_int a (by omega), J_int b (by omega)]
  exact Int.bmod_eq_of_le (by omega) (by omega)
theorem J_dfl (a b : Nat) (ha : a < 1073741824) (hb : b < 1073741824) : (Int32.ofNat a - Int32.ofNat b < 0) = (a < b) := by
  rw [Int32.lt_iff_toInt_lt, J_dfi a b ha hb]
  show ((a : Int) - b < 0) = _
  apply propext
  omega
theorem J_df0 (a b : Nat) (ha : a < 1073741824) (hb : b < 1073741824) : (Int32.ofNat a - Int32.ofNat b = 0) = (a = b) := by
  apply propext
  constructor
  · intro z
    have h1 := congrArg Int32.toInt z
    rw [J_dfi a b ha hb] at h1
    have h2 : ((a : Int) - b) = 0 := h1
    omega
  · rintro rfl
    exact Int32.sub_self _
theorem J_0le (a : Nat) (h : a < 2147483648) : ((0 : Int32) ≤ Int32.ofNat a) = True := by
  rw [i_0, J_le _ _ (by omega) h]
  simp
theorem cst_le {sc : Nat → Nat → Nat} {dep L : Nat} (hs : ∀ i n, n ≤ 6 → sc i n < 1000000 → sc i n ≤ 200) (hd : dep ≤ 9) : ∀ (ns : List Nat) (i : Nat), vld sc L i ns → cst sc dep i ns ≤ 209 * ns.length
  | [], i, _ => by simp [cst]
  | n :: r, i, h => by
    obtain ⟨h1, h2, h3, h4⟩ := h
    have := cst_le hs hd r (i + n) h4
    have := hs i n h2 h3
    rw [cst, List.length_cons]
    omega
theorem s35_le {np : Nat} {pl : Nat → List Nat} {st : Nat → Nat} {b : Bool} {al : Option (List Nat)} {l : List Nat} (h0 : st 0 ≤ 99) (h1 : st 1 ≤ 9) : ∀ i n, n ≤ 6 → s35 np pl st b al l i n < 1000000 → s35 np pl st b al l i n ≤ 200 := by
  intro i n hn h
  unfold s35 at h ⊢
  have : st 1 * n ≤ 9 * 6 := Nat.mul_le_mul h1 hn
  by_cases c : al = some ((l.drop i).take n) ∨ fnd np pl ((l.drop i).take n) < np
  · rw [if_pos c]
    omega
  · rw [if_neg c] at h ⊢
    by_cases c2 : b = true
    · rw [if_pos c2]
      omega
    · rw [if_neg c2] at h
      omega
theorem TB_len {sc : Nat → Nat → Nat} {L : Nat} (ns : List Nat) (h : vld sc L 0 ns) : ns.length ≤ L := by
  have := vld_le ns 0 h
  omega
/-- what the walk over the sets has found so far -/
def bst (v : Nat → Option Nat) (t : Nat) (x4 x5 : Int32) : Prop := (x4 = -1 ∧ ∀ u, u < t → v u = none) ∨ ∃ b c, b < t ∧ v b = some c ∧ x4 = Int32.ofNat (2 * b) ∧ x5 = Int32.ofNat c ∧ ∀ u c', u < t → v u = some c' → lx (c, pc (2 * b), rev (2 * b)) (c', pc (2 * u), rev (2 * u))
section ZB
variable {np : Nat} {pl : Nat → List Nat} {st : Nat → Nat} {code : Nat → Int32} {l : List Nat} {al : Option (List Nat)} {b : Bool}
abbrev vt (sc : Nat → Nat → Nat) (dep L : Nat) (t : Nat) : Option Nat := cO sc dep 0 (cuts (2 * t) L)
theorem vt_le {sc : Nat → Nat → Nat} {dep L : Nat} (hL : L < 10) (hL0 : 0 < L) (hs : ∀ i n, n ≤ 6 → sc i n < 1000000 → sc i n ≤ 200) (hd : dep ≤ 9) {t c : Nat} (h2 : 2 * t < 2 ^ L) (h : vt sc dep L t = some c) : vld sc L 0 (cuts (2 * t) L) ∧ cst sc dep 0 (cuts (2 * t) L) = c ∧ c ≤ 2000 := by
  have h9 := (pw9 (show L ≤ 9 by omega)).1
  obtain ⟨a1, a2, _⟩ := cuts_all L hL hL0 t (by omega) h2
  obtain ⟨b1, b2⟩ := cO_vld (L := L) _ 0 c a2 (by omega) h
  have := cst_le hs hd _ 0 b1
  have := TB_len _ b1
  exact ⟨b1, b2, by omega⟩
theorem z_best_L (hC : lC np pl code) (h0 : st 0 ≤ 99) (h1 : st 1 ≤ 9) (h2 : st 2 ≤ 9) (hl : ab l) (h9 : l.length ≤ 9) (hn0 : 0 < l.length) (ha : alO al) (k : Int32 → Option Int32) : ∀ (d n t : Nat) (x4 x5 : Int32), t + d = 2 ^ (l.length - 1) → d < n → bst (vt (s35 np pl st b al l) (st 2) l.length) t x4 x5 →
    ∃ x4' x5', bst (vt (s35 np pl st b al l) (st 2) l.length) (2 ^ (l.length - 1)) x4' x5' ∧ fX10_best_L9 (Int32.ofNat (cd l)) (bI b) (alC al) (Int32.ofNat (st 0)) (Int32.ofNat (st 1)) (Int32.ofNat (st 2)) (Int32.ofNat np) code k n x4 x5 (Int32.ofNat (2 * t)) = k x4' := by
  have eL : 2 ^ l.length = 2 * 2 ^ (l.length - 1) := by
    rw [← Nat.pow_succ']
    congr 1
    omega
  have p9 := (pw9 h9).1
  intro d
  induction d with
  | zero =>
    intro n t x4 x5 e hn hb
    obtain ⟨n, rfl⟩ : ∃ m, n = m + 1 := ⟨n - 1, by omega⟩
    have e' : t = 2 ^ (l.length - 1) := by omega
    subst e'
    refine ⟨x4, x5, hb, ?_⟩
    rw [fX10_best_L9, z_size hl h9, gb1_some, show (1 : Int32) = Int32.ofNat 1 from rfl, J_shl 1 _ (by omega), Nat.one_mul, if_pos (by rw [J_le _ _ (by omega) (by omega)]; omega)]
  | succ d ih =>
    intro n t x4 x5 e hn hb
    obtain ⟨n, rfl⟩ : ∃ m, n = m + 1 := ⟨n - 1, by omega⟩
    have ht : 2 * t < 2 ^ l.length := by omega
    have ht2 : 2 * t < 512 := by omega
    have hnext : ∀ y4 y5, bst (vt (s35 np pl st b al l) (st 2) l.length) (t + 1) y4 y5 → ∃ x4' x5', bst (vt (s35 np pl st b al l) (st 2) l.length) (2 ^ (l.length - 1)) x4' x5' ∧ fX10_best_L9 (Int32.ofNat (cd l)) (bI b) (alC al) (Int32.ofNat (st 0)) (Int32.ofNat (st 1)) (Int32.ofNat (st 2)) (Int32.ofNat np) code k n y4 y5 (Int32.ofNat (2 * t) + 2) = k x4' := by
      intro y4 y5 hy
      rw [i_2, J_add, show 2 * t + 2 = 2 * (t + 1) by omega]
      exact ih n (t + 1) y4 y5 (by omega) (by omega) hy
    rw [fX10_best_L9, z_size hl h9, gb1_some, show (1 : Int32) = Int32.ofNat 1 from rfl, J_shl 1 _ (by omega), Nat.one_mul, if_neg (by rw [J_le _ _ (by omega) (by omega)]; omega), z_cost hC h0 h1 hl h9 ha ht2, gb1_some]
    cases hv : cO (s35 np pl st b al l) (st 2) 0 (cuts (2 * t) l.length) with
    | none =>
      show ∃ x4' x5', _ ∧ (if (0 : Int32) ≤ -1 then _ else _) = _
      rw [if_neg (by decide)]
      refine hnext x4 x5 ?_
      rcases hb with ⟨e1, e2⟩ | ⟨bb, c, e1, e2, e3, e4, e5⟩
      · refine Or.inl ⟨e1, fun u hu => ?_⟩
        rcases Nat.lt_or_ge u t with g | g
        · exact e2 u g
        · rw [show u = t by omega]
          exact hv
      · refine Or.inr ⟨bb, c, by omega, e2, e3, e4, fun u c' hu hc' => ?_⟩
        rcases Nat.lt_or_ge u t with g | g
        · exact e5 u c' g hc'
        · rw [show u = t by omega] at hc'
          rw [show vt (s35 np pl st b al l) (st 2) l.length t = none from hv] at hc'
          cases hc'
    | some c =>
      obtain ⟨_, _, hc⟩ := vt_le (t := t) (c := c) (show l.length < 10 by omega) hn0 (s35_le h0 h1) h2 ht hv
      show ∃ x4' x5', _ ∧ (if (0 : Int32) ≤ Int32.ofNat c then _ else _) = _
      rw [if_pos (by rw [J_0le _ (by omega)]; trivial)]
      simp only [Lt_eq]
      have take : bst (vt (s35 np pl st b al l) (st 2) l.length) (t + 1) (Int32.ofNat (2 * t)) (Int32.ofNat c) ↔ ∀ u c', u < t → vt (s35 np pl st b al l) (st 2) l.length u = some c' → lx (c, pc (2 * t), rev (2 * t)) (c', pc (2 * u), rev (2 * u)) := by
        constructor
        · intro z u c' hu hc'
          rcases z with ⟨z, _⟩ | ⟨bb, c2, e1, e2, e3, e4, e5⟩
          · exact absurd z (by rw [show (-1 : Int32) = M1 from rfl, J_ne1 _ (by omega)]; exact id)
          · have := J_inj (by omega) (by omega) e3
            have hbt : bb = t := by omega
            subst hbt
            rw [show vt (s35 np pl st b al l) (st 2) l.length bb = some c from hv] at e2
            have := Option.some.inj e2
            subst this
            exact e5 u c' (by omega) hc'
        · intro z
          refine Or.inr ⟨t, c, by omega, hv, rfl, rfl, fun u c' hu hc' => ?_⟩
          rcases Nat.lt_or_ge u t with g | g
          · exact z u c' g hc'
          · have eu : u = t := by omega
            subst eu
            rw [show vt (s35 np pl st b al l) (st 2) l.length u = some c from hv] at hc'
            have := Option.some.inj hc'
            subst this
            exact Or.inr ⟨rfl, Or.inr ⟨rfl, Nat.le_refl _⟩⟩
      rcases hb with ⟨e1, e2⟩ | ⟨bb, c0, e1, e2, e3, e4, e5⟩
      · subst e1
        rw [if_neg (by decide), if_neg (by decide), if_neg (by decide), if_pos (by decide)]
        refine hnext _ _ (take.mpr fun u c' hu hc' => ?_)
        rw [e2 u hu] at hc'
        cases hc'
      · subst e3
        subst e4
        obtain ⟨_, _, hc0⟩ := vt_le (t := bb) (c := c0) (show l.length < 10 by omega) hn0 (s35_le h0 h1) h2 (by omega) e2
        have hbb : bb < 256 := by omega
        have htt : t < 256 := by omega
        have keep : lx (c0, pc (2 * bb), rev (2 * bb)) (c, pc (2 * t), rev (2 * t)) → bst (vt (s35 np pl st b al l) (st 2) l.length) (t + 1) (Int32.ofNat (2 * bb)) (Int32.ofNat c0) := by
          intro z
          refine Or.inr ⟨bb, c0, by omega, e2, rfl, rfl, fun u c' hu hc' => ?_⟩
          rcases Nat.lt_or_ge u t with g | g
          · exact e5 u c' g hc'
          · have eu : u = t := by omega
            subst eu
            rw [show vt (s35 np pl st b al l) (st 2) l.length u = some c from hv] at hc'
            have := Option.some.inj hc'
            subst this
            exact z
        have take2 : (∀ x : Nat × Nat × Nat, lx (c0, pc (2 * bb), rev (2 * bb)) x → lx (c, pc (2 * t), rev (2 * t)) x) → bst (vt (s35 np pl st b al l) (st 2) l.length) (t + 1) (Int32.ofNat (2 * t)) (Int32.ofNat c) := fun z => take.mpr fun u c' hu hc' => z _ (e5 u c' hu hc')
        have pb := pc_lt bb hbb
        have pt := pc_lt t htt
        rw [if_pos (by rw [J_0le _ (by omega)]; trivial)]
        have c1073 : c < 1073741824 := by omega
        have c01073 : c0 < 1073741824 := by omega
        have t1073 : pc (2 * t) < 1073741824 := by omega
        have b1073 : pc (2 * bb) < 1073741824 := by omega
        simp only [J_df0 _ _ c1073 c01073, J_dfl _ _ c1073 c01073]
        by_cases q0 : c = c0
        · rw [if_pos q0, bc_all _ ht2, gb1_some, bc_all _ (by omega), gb1_some]
          simp only [J_df0 _ _ t1073 b1073, J_dfl _ _ t1073 b1073]
          by_cases q1 : pc (2 * t) = pc (2 * bb)
          · have hne : t ≠ bb := by omega
            rw [if_pos q1, fJ6_lowestOneBit_0f7a4, gb1_some]
            simp only [low_rev t htt bb hbb hne]
            by_cases q2 : rev (2 * t) < rev (2 * bb)
            · rw [if_pos q2, if_pos (by decide)]
              refine hnext _ _ (take2 fun x hx => ?_)
              unfold lx at hx ⊢
              simp only at hx ⊢
              omega
            · rw [if_neg q2, if_neg (by decide)]
              refine hnext _ _ (keep ?_)
              unfold lx
              simp only
              omega
          · rw [if_neg q1]
            by_cases q2 : pc (2 * t) < pc (2 * bb)
            · rw [if_pos q2]
              refine hnext _ _ (take2 fun x hx => ?_)
              unfold lx at hx ⊢
              simp only at hx ⊢
              omega
            · rw [if_neg q2]
              refine hnext _ _ (keep ?_)
              unfold lx
              simp only
              omega
        · rw [if_neg q0]
          rw [if_neg q0]
          by_cases q2 : c < c0
          · rw [if_pos q2]
            refine hnext _ _ (take2 fun x hx => ?_)
            unfold lx at hx ⊢
            simp only at hx ⊢
            omega
          · rw [if_neg q2]
            refine hnext _ _ (keep ?_)
            unfold lx
            simp only
            omega
/-- the best set is the table's own cutting; -1 where there is none -/
theorem z_best (hC : lC np pl code) (h0 : st 0 ≤ 99) (h1 : st 1 ≤ 9) (h2 : st 2 ≤ 9) (hl : ab l) (h9 : l.length ≤ 9) (hn0 : 0 < l.length) (ha : alO al) : fX10_best (Int32.ofNat (cd l)) (bI b) (alC al) (Int32.ofNat (st 0)) (Int32.ofNat (st 1)) (Int32.ofNat (st 2)) (Int32.ofNat np) code = some (if (TB (s35 np pl st b al l) (st 2) l.length 0).1 < 1000000 then Int32.ofNat (setL l.length 0 (tlT (s35 np pl st b al l) (st 2) l.length 0)) else -1) := by
  have eL : 2 ^ l.length = 2 * 2 ^ (l.length - 1) := by
    rw [← Nat.pow_succ']
    congr 1
    omega
  have p9 := (pw9 h9).1
  have hs := s35_le (np := np) (pl := pl) (b := b) (al := al) (l := l) h0 h1
  obtain ⟨x4, x5, hb, he⟩ := z_best_L (b := b) hC h0 h1 h2 hl h9 hn0 ha (fun x => some x) (2 ^ (l.length - 1)) FU 0 (-1) 0 (by omega) (by simp only [FU]; omega) (Or.inl ⟨rfl, fun u hu => absurd hu (Nat.not_lt_zero u)⟩)
  rw [show fX10_best (Int32.ofNat (cd l)) (bI b) (alC al) (Int32.ofNat (st 0)) (Int32.ofNat (st 1)) (Int32.ofNat (st 2)) (Int32.ofNat np) code = some x4 from he]
  show some x4 = some _
  congr 1
  by_cases g : (TB (s35 np pl st b al l) (st 2) l.length 0).1 < 1000000
  · rw [if_pos g]
    obtain ⟨t1, t2, t3⟩ := tlT_ok (sc := s35 np pl st b al l) (dep := st 2) (L := l.length) l.length 0 (by omega) g
    obtain ⟨w1, w2⟩ := vld_sum _ 0 t1
    have hm : tlT (s35 np pl st b al l) (st 2) l.length 0 ∈ com l.length := com_mem l.length _ l.length (Nat.le_refl _) (by omega) w2
    obtain ⟨y1, y2, y3⟩ := com_all l.length (by omega) _ hm
    obtain ⟨y3, y4⟩ := y3 hn0
    generalize hS : setL l.length 0 (tlT (s35 np pl st b al l) (st 2) l.length 0) = S at *
    obtain ⟨T, rfl⟩ : ∃ T, S = 2 * T := ⟨S / 2, by omega⟩
    have hvT : vt (s35 np pl st b al l) (st 2) l.length T = some (cst (s35 np pl st b al l) (st 2) 0 (tlT (s35 np pl st b al l) (st 2) l.length 0)) := by
      show cO _ _ 0 (cuts (2 * T) l.length) = _
      rw [y4]
      exact vld_cO _ 0 t1
    obtain ⟨c1, c2, c3, c4, c5, c6, c7⟩ := cuts_all l.length (by omega) hn0 T (by omega) y3
    rcases hb with ⟨_, e2⟩ | ⟨bb, c, e1, e2, e3, e4, e5⟩
    · rw [e2 T (by omega)] at hvT
      cases hvT
    · rw [e3]
      have hlx := e5 T _ (by omega) hvT
      obtain ⟨v1, v2, v3⟩ := vt_le (t := bb) (c := c) (show l.length < 10 by omega) hn0 hs h2 (by omega) e2
      obtain ⟨d1, d2, d3, d4, d5, d6, d7⟩ := cuts_all l.length (by omega) hn0 bb (by omega) (by omega)
      obtain ⟨_, hfi⟩ := tlT_first (sc := s35 np pl st b al l) (dep := st 2) (L := l.length) _ 0 (Nat.zero_le _) v1 (by omega)
      rw [y4] at c4 c5
      rw [← t3, ← t2] at hfi
      have hp : 0 < 2 ^ (10 - l.length) := Nat.pow_pos (by decide)
      have hrev : rev (2 * bb) = rev (2 * T) := by
        unfold lx at hlx hfi
        simp only at hlx hfi
        have hle : cst (s35 np pl st b al l) (st 2) 0 (tlT (s35 np pl st b al l) (st 2) l.length 0) = c ∧ pc (2 * T) = pc (2 * bb) ∧ rbs l.length 0 (tlT (s35 np pl st b al l) (st 2) l.length 0) ≤ rbs l.length 0 (cuts (2 * bb) l.length) ∧ rev (2 * bb) ≤ rev (2 * T) := by omega
        have := Nat.mul_le_mul_right (2 ^ (10 - l.length)) hle.2.2.1
        omega
      rw [rev_inj bb (by omega) T (by omega) hrev]
  · rw [if_neg g]
    rcases hb with ⟨e1, _⟩ | ⟨bb, c, e1, e2, e3, e4, e5⟩
    · exact e1
    · obtain ⟨v1, v2, v3⟩ := vt_le (t := bb) (c := c) (show l.length < 10 by omega) hn0 hs h2 (by omega) e2
      exact absurd (tlT_first (sc := s35 np pl st b al l) (dep := st 2) (L := l.length) _ 0 (Nat.zero_le _) v1 (by omega)).1 g
end ZB
