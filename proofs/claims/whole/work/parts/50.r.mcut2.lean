/-! the reference's table -/
def mag (sc : Nat → Nat → Nat) (dep L j : Nat) (c f g : Nat → Int32) : Prop := ∀ x, L - j ≤ x → x ≤ L → c x = Int32.ofNat (tb sc dep L j x).1 ∧ f x = Int32.ofNat (mf (tb sc dep L j x)) ∧ (x < L → g x = Int32.ofNat (tb sc dep L j x).2.2)
theorem tb_small {sc : Nat → Nat → Nat} {dep L : Nat} (hsc : ∀ i m, m ≤ 6 → sc i m = 1000000 ∨ sc i m ≤ 180) (hd : dep ≤ 9) {j x : Nat} (hj : j ≤ L) (hx : L - j ≤ x) (hx2 : x ≤ L) (hL : L ≤ 12) : (tb sc dep L j x).1 = 1000000 ∨ (tb sc dep L j x).1 ≤ 3000 := by
  have e := tb_stable sc dep L (L - j) j x (by omega) hx
  rw [show j + (L - j) = L by omega] at e
  rw [← e]
  by_cases h : (TB sc dep L x).1 < 1000000
  · right
    have := TB_small (L := L) hsc hd (L - x) x (by omega) h
    have h2 : (TB sc dep L x).1 ≤ 3000 := by omega
    exact h2
  · left
    have h1 := (TB_bd sc dep L x).1
    have h2 : (TB sc dep L x).1 = 1000000 := by omega
    exact h2
section MC
variable {p : aPs} {now : Nat → Int32} {st : Nat → Nat} {l : List Nat} {spl : Nat → Int32} {b : Bool} {al : List Nat}
theorem sM_bd (h0 : st 0 ≤ 99) (h1 : st 1 ≤ 9) (i m : Nat) (hm : m ≤ 6) : sSet (sC p.1 p.2.1 st b l) l al 0 i m = 1000000 ∨ sSet (sC p.1 p.2.1 st b l) l al 0 i m ≤ 180 := by
  unfold sSet
  split
  · right; omega
  · exact sC_bd h0 h1 i m hm
theorem m_inner (hP : mP p now) (hn : p.1 ≤ 24) (hr : okR p.1 p.2.1 6) (hS : mS st now) (hb0 : st 0 ≤ 99) (hb1 : st 1 ≤ 9) (hd9 : st 2 ≤ 9) (hw : wf l) (hl : l.length ≤ 12) (hs : sp l spl) (hal : wf al) (hal6 : al.length ≤ 6) {T : Nat → Nat × Nat × Nat} {i : Nat} (hi : i < l.length) {c f g : Nat → Int32} {k : (Nat → Int32) → (Nat → Int32) → (Nat → Int32) → Option ((Nat → Int32) × (Nat → Int32) × (Nat → Int32))} (hT : ∀ x, i < x → x ≤ l.length → c x = Int32.ofNat (T x).1 ∧ f x = Int32.ofNat (mf (T x)) ∧ ((T x).1 = 1000000 ∨ (T x).1 ≤ 3000) ∧ (T x).2.1 ≤ 12) : ∀ (n u : Nat) (cur : Nat × Nat × Nat), n < u → n ≤ 6 → cur.1 ≤ 1000000 → cur.2.1 ≤ 13 → fX10_cuts_L58 (if b = true then 1 else 0) (B32 al) (Int32.ofNat i) (Int32.ofNat l.length) now spl k u (Int32.ofNat n) (upd c i (Int32.ofNat cur.1)) (upd f i (Int32.ofNat (mf cur))) (upd g i (Int32.ofNat cur.2.2)) = k (upd c i (Int32.ofNat (inn (sSet (sC p.1 p.2.1 st b l) l al 0) (st 2) T i (if n ≤ lg l.length i then n else lg l.length i) cur).1)) (upd f i (Int32.ofNat (mf (inn (sSet (sC p.1 p.2.1 st b l) l al 0) (st 2) T i (if n ≤ lg l.length i then n else lg l.length i) cur)))) (upd g i (Int32.ofNat (inn (sSet (sC p.1 p.2.1 st b l) l al 0) (st 2) T i (if n ≤ lg l.length i then n else lg l.length i) cur).2.2))
  | n, 0, cur, h, _, _, _ => by omega
  | 0, u + 1, cur, _, _, _, _ => by
    rw [fX10_cuts_L58, if_pos (by decide), if_pos (Nat.zero_le _)]
    rfl
  | n + 1, u + 1, cur, h1, h6, b1, b2 => by
    have hlg := lg_le l.length i
    have e0 : ¬ (Int32.ofNat (n + 1) ≤ 0) := by
      rw [i_0, J_le _ _ (by omega) (by omega)]
      omega
    have e1 : Int32.ofNat (n + 1) + -1 = Int32.ofNat n := by
      rw [M1_def, J_dec _ (by omega), Nat.add_sub_cancel]
    by_cases hx : i + (n + 1) ≤ l.length
    · obtain ⟨t1, t2, t3, t4⟩ := hT (i + (n + 1)) (by omega) hx
      have hlg2 := hlg.2.2 (n + 1) h6 (by omega)
      have t := m_try hP hn hr hS hb0 hb1 hd9 hw hl hs b hal hal6 (T := T) (cur := cur) (c := c) (f := f) (g := g) (show 1 ≤ n + 1 by omega) h6 hx t1 t2 t3 t4 b1 b2
      have bd := stp_bd (sc := sSet (sC p.1 p.2.1 st b l) l al 0) (dep := st 2) t4 b1 b2
      rw [fX10_cuts_L58, if_neg e0, J_add, if_neg (by rw [J_lt _ _ (by omega) (by omega)]; omega), t, gb3_some, e1, m_inner hP hn hr hS hb0 hb1 hd9 hw hl hs hal hal6 hi hT n u _ (by omega) (by omega) bd.1 bd.2, if_pos (show n ≤ lg l.length i by omega), if_pos hlg2]
      rfl
    · have hlg2 : ¬ (n + 1 ≤ lg l.length i) := by omega
      rw [fX10_cuts_L58, if_neg e0, J_add, if_pos (by rw [J_lt _ _ (by omega) (by omega)]; omega), e1, m_inner hP hn hr hS hb0 hb1 hd9 hw hl hs hal hal6 hi hT n u _ (by omega) (by omega) b1 b2, if_neg hlg2]
      by_cases c2 : n ≤ lg l.length i
      · have : n = lg l.length i := by
          have := hlg.2.2
          by_cases c3 : n = lg l.length i
          · exact c3
          · exfalso
            have := hlg.2.2 (n + 1) h6
            omega
        rw [if_pos c2, ← this]
      · rw [if_neg c2]
theorem m_outer (hP : mP p now) (hn : p.1 ≤ 24) (hr : okR p.1 p.2.1 6) (hS : mS st now) (hb0 : st 0 ≤ 99) (hb1 : st 1 ≤ 9) (hd9 : st 2 ≤ 9) (hw : wf l) (hl : l.length ≤ 12) (hs : sp l spl) (hal : wf al) (hal6 : al.length ≤ 6) {k : (Nat → Int32) → (Nat → Int32) → (Nat → Int32) → Option ((Nat → Int32) × (Nat → Int32) × (Nat → Int32))} {Q : (Nat → Int32) × (Nat → Int32) × (Nat → Int32) → Prop} (hk : ∀ c f g, mag (sSet (sC p.1 p.2.1 st b l) l al 0) (st 2) l.length l.length c f g → Ok (k c f g) Q) : ∀ (d j u : Nat) (c f g : Nat → Int32), j + d = l.length → d < u → mag (sSet (sC p.1 p.2.1 st b l) l al 0) (st 2) l.length j c f g → Ok (fX10_cuts_L27 (if b = true then 1 else 0) (B32 al) (Int32.ofNat l.length) now spl k u (if d = 0 then M1 else Int32.ofNat (d - 1)) c f g) Q
  | d, j, 0, c, f, g, _, h, _ => by omega
  | 0, j, u + 1, c, f, g, h1, _, ha => by
    have hj : j = l.length := by omega
    subst hj
    rw [if_pos rfl, fX10_cuts_L27, if_pos (by decide)]
    exact hk c f g ha
  | d + 1, j, u + 1, c, f, g, h1, h2, ha => by
    have hjx : l.length - (j + 1) = d := by omega
    have hck : ¬ (Int32.ofNat d < 0 ∨ 13 ≤ (Int32.ofNat d).toNatClampNeg) := by
      rw [i_0, J_lt _ _ (by omega) (by omega), J_nat _ (by omega)]
      omega
    have hck0 : ¬ (Int32.ofNat d < 0) := fun h => hck (Or.inl h)
    have hlg := lg_le l.length d
    have t := m_inner (b := b) hP hn hr hS hb0 hb1 hd9 hw hl hs hal hal6 (T := tb (sSet (sC p.1 p.2.1 st b l) l al 0) (st 2) l.length j) (i := d) (c := c) (f := f) (g := g) (k := fun cost_2 fewestFrom_2 first_2 => fX10_cuts_L27 (if b = true then 1 else 0) (B32 al) (Int32.ofNat l.length) now spl k u (Int32.ofNat d + -1) cost_2 fewestFrom_2 first_2) (by omega) (fun x hx1 hx2 => by
      obtain ⟨a1, a2, _⟩ := ha x (by omega) hx2
      refine ⟨a1, a2, tb_small (fun i m hm => sM_bd hb0 hb1 i m hm) hd9 (by omega) (by omega) hx2 hl, ?_⟩
      have := (tb_bd (sSet (sC p.1 p.2.1 st b l) l al 0) (st 2) l.length j x).2
      omega) 6 FU (1000000, 0, 0) (by decide) (Nat.le_refl _) (by decide) (by decide)
    have hcap : (if 6 ≤ lg l.length d then 6 else lg l.length d) = lg l.length d := by
      split <;> omega
    rw [hcap] at t
    have ei : Int32.ofNat d + -1 = (if d = 0 then M1 else Int32.ofNat (d - 1)) := by
      by_cases c : d = 0
      · rw [c]; rfl
      · rw [if_neg c, M1_def, J_dec _ (by omega)]
    rw [ei] at t
    rw [if_neg (show ¬ (d + 1 = 0) by omega), Nat.add_sub_cancel, fX10_cuts_L27, if_neg hck0, if_neg hck, Lt_eq, if_neg hck, Lt_eq, if_neg hck, Lt_eq, J_nat _ (by omega), ei]
    have t' : fX10_cuts_L58 (if b = true then 1 else 0) (B32 al) (Int32.ofNat d) (Int32.ofNat l.length) now spl (fun cost_2 fewestFrom_2 first_2 => fX10_cuts_L27 (if b = true then 1 else 0) (B32 al) (Int32.ofNat l.length) now spl k u (if d = 0 then M1 else Int32.ofNat (d - 1)) cost_2 fewestFrom_2 first_2) FU 6 (upd c d 1000000) (upd f d 1000000) (upd g d 0) = _ := t
    rw [t']
    refine m_outer hP hn hr hS hb0 hb1 hd9 hw hl hs hal hal6 hk d (j + 1) u _ _ _ (by omega) (by omega) (fun x hx1 hx2 => ?_)
    rw [tb, hjx]
    by_cases cx : x = d
    · subst cx
      simp only [upd_eq, up_eq]
      exact ⟨trivial, trivial, fun _ => trivial⟩
    · simp only [upd_ne _ _ _ _ cx, up_ne _ _ _ _ cx]
      exact ha x (by omega) hx2
theorem m_cuts (hP : mP p now) (hn : p.1 ≤ 24) (hr : okR p.1 p.2.1 6) (hS : mS st now) (hb0 : st 0 ≤ 99) (hb1 : st 1 ≤ 9) (hd9 : st 2 ≤ 9) (hw : wf l) (hl : l.length ≤ 12) (hs : sp l spl) (hal : wf al) (hal6 : al.length ≤ 6) (c f g : Nat → Int32) : Ok (fX10_cuts (if b = true then 1 else 0) (B32 al) (Int32.ofNat l.length) now spl c f g) (fun r => mag (sSet (sC p.1 p.2.1 st b l) l al 0) (st 2) l.length l.length r.1 r.2.1 r.2.2) := by
  have hck : ¬ (Int32.ofNat l.length < 0 ∨ 13 ≤ (Int32.ofNat l.length).toNatClampNeg) := by
    rw [i_0, J_lt _ _ (by omega) (by omega), J_nat _ (by omega)]
    omega
  have ei : Int32.ofNat l.length - 1 = (if l.length = 0 then M1 else Int32.ofNat (l.length - 1)) := by
    by_cases c : l.length = 0
    · rw [c]; rfl
    · rw [if_neg c, i_1, J_sub _ _ (by omega)]
  rw [fX10_cuts, if_neg hck, Lt_eq, if_neg hck, Lt_eq, J_nat _ (by omega), ei]
  refine m_outer hP hn hr hS hb0 hb1 hd9 hw hl hs hal hal6 (fun c f g h => ok_some h) l.length 0 FU _ _ _ (by omega) (by simp only [FU]; omega) (fun x hx1 hx2 => ?_)
  have : x = l.length := by omega
  subst this
  rw [upd_eq, upd_eq, tb]
  exact ⟨rfl, rfl, fun h => absurd h (Nat.lt_irrefl _)⟩
end MC
