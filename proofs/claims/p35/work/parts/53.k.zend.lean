/-! coins back, a word cut anew, a word removed: the law's book against the abstract one -/
theorem smF_bd {f : Nat → Nat} {m : Nat} : ∀ (d j : Nat), (∀ i, j ≤ i → i < j + d → f i ≤ m) → smF f j d ≤ m * d
  | 0, j, _ => Nat.zero_le _
  | d + 1, j, h => by
    have h1 := smF_bd (f := f) (m := m) d (j + 1) (fun i a b => h i (by omega) (by omega))
    have h2 := h j (Nat.le_refl _) (by omega)
    rw [smF, Nat.mul_succ]
    omega
theorem Inv_ub {A : aB} (h : Inv A) : ∀ q, q < A.2.1.1 → A.2.1.2.2.2.2.1 q ≤ 192 := by
  intro q hq
  rw [h.2.2.2.1 q hq]
  have h16 := h.2.2.1.1
  have := smF_bd (f := fun i => (A.2.2.1.2.2.2 i).count q) (m := 12) A.2.2.1.1 0 (fun i _ hi => by
    have := iW_len h (show i < A.2.2.1.1 by omega)
    have := List.count_le_length (a := q) (l := A.2.2.1.2.2.2 i)
    show (A.2.2.1.2.2.2 i).count q ≤ 12
    omega)
  unfold sm
  omega
theorem pUses_ge : ∀ (idx : List Nat) (p : aPs) (q : Nat), p.2.2.2.2.1 q ≤ (pUses p idx).2.2.2.2.1 q
  | [], p, q => Nat.le_refl _
  | x :: idx, p, q => by
    have h := pUses_ge idx (pUse p x) q
    have h2 : p.2.2.2.2.1 q ≤ (pUse p x).2.2.2.2.1 q := by
      show _ ≤ up p.2.2.2.2.1 x (p.2.2.2.2.1 x + 1) q
      by_cases c : q = x
      · rw [c, up_eq]
        omega
      · rw [up_ne _ _ _ _ c]
        exact Nat.le_refl _
    exact Nat.le_trans h2 h
theorem z_back {u v : Nat} {fund : Int32} {coins accounts : Nat → Int32} (hu : u < 4) : fX10_back (Int32.ofNat u) (Int32.ofNat v) fund coins accounts = some (fund - Int32.ofNat v, upd coins u (coins u + Int32.ofNat v), upd accounts 3 (accounts 3 + Int32.ofNat v)) := by
  have hix := setIx hu (by decide)
  rw [fX10_back, if_neg hix, if_neg hix, J_nat _ (by omega)]
  rfl
section ZR
variable {A : aB} {price letter deposit keep refund users pieces words time chest fund : Int32} {coins accounts code paid owner uses idle user word cut : Nat → Int32}
/-- a word is cut anew -/
theorem z_recut (hB : lB A price letter deposit keep refund users pieces words time chest fund coins accounts code paid owner uses idle user word cut) (hI : Iv A) {i : Nat} (hi : i < A.2.2.1.1) :
    Ok (fX10_recut (Int32.ofNat i) price letter deposit pieces time fund coins accounts code uses idle user word cut) (fun r => r.1 = Int32.ofNat (A.2.2.2.1 2 * ((A.2.2.1.2.2.2 i).length - (kI A (A.2.2.1.2.1 i)).length)) ∧ lB (aCut A i (kI A (A.2.2.1.2.1 i))) price letter deposit keep refund users pieces words time chest r.2.1 r.2.2.1 r.2.2.2.1 code paid owner r.2.2.2.2.1 r.2.2.2.2.2.1 user word r.2.2.2.2.2.2) := by
  have o := Iv_oP hI
  obtain ⟨wa, w9, w0, wS, wk, wi⟩ := Iv_word hI hi
  have hInv := hI.1
  have hub := Inv_ub hInv
  obtain ⟨k1, k2, k3, k4, k5⟩ := kS_ok hInv hi
  have hcl := cnt_le' hInv hi
  obtain ⟨⟨i1, i2, i3, i4, i5, i6⟩, j2, j3, j4, j5, j6⟩ := hI
  obtain ⟨s0, s1, s2', s2, s3, s4⟩ := i5
  obtain ⟨hw1, hw2, hw3, hw4, hw5⟩ := i3.2 i hi
  have hnw := i3.1
  obtain ⟨⟨b1, b2, b3, b4, b5⟩, b6, b7, b8, b9, b10, b11, b12, b13⟩ := hB
  subst b1 b2 b3 b11
  have hC := lC_of b8 o
  obtain ⟨s, e1, hS, es⟩ := z_best0 hC s0 s1 s2 wa w9 w0 false k5
  obtain ⟨x1, x2, x3⟩ := b9.2 i hi
  have hwx := setIx (show i < 17 by omega) (by decide)
  have hwx' := setIx' (show i < 17 by omega) (by decide)
  have hkI : kI A (A.2.2.1.2.1 i) = (kS A (A.2.2.1.2.1 i)).map (fnd A.2.1.1 A.2.1.2.1) := rfl
  have hkS : CL (sC A.2.1.1 A.2.1.2.1 A.2.2.2.1 false (A.2.2.1.2.1 i)) (A.2.2.2.1 2) (A.2.2.1.2.1 i) = kS A (A.2.2.1.2.1 i) := rfl
  rw [hkS] at hS es
  have hIl : (kI A (A.2.2.1.2.1 i)).length = (kS A (A.2.2.1.2.1 i)).length := by rw [hkI, List.length_map]
  have hkm : (kI A (A.2.2.1.2.1 i)).map A.2.1.2.1 = kS A (A.2.2.1.2.1 i) := by
    rw [hkI, List.map_map]
    have : (kS A (A.2.2.1.2.1 i)).map (A.2.1.2.1 ∘ fnd A.2.1.1 A.2.1.2.1) = (kS A (A.2.2.1.2.1 i)).map id := List.map_congr_left (fun x hx => fnd_at (k4 x hx))
    rw [this, List.map_id]
  obtain ⟨⟨v1, v2⟩, ev, hv⟩ := z_uses1 (t := A.2.2.2.2.2.1) b8 o (fun q hq => by have := hub q hq; omega) wa w9 hS k4
  have hpn := pUses_n (kI A (A.2.2.1.2.1 i)) A.2.1
  have hv' : lP (pUses A.2.1 (kI A (A.2.2.1.2.1 i))) pieces code paid owner v1 v2 := hv
  have o' : oP (pUses A.2.1 (kI A (A.2.2.1.2.1 i))) := by
    unfold oP
    rw [hpn.1, hpn.2]
    exact o
  have hsl := hS.2.2
  have hwl := wS.2.2
  have hpl := pc_lt' _ hS.1
  rw [List.length_map] at hwl
  have hwpc := pc_lt' _ wS.1
  obtain ⟨⟨y1, y2⟩, ey, hy⟩ := z_usesE (t := A.2.2.2.2.2.1) hv' o' (fun q hq => by
    rw [hpn.1] at hq
    have := hub q hq
    have := pUses_le (kI A (A.2.2.1.2.1 i)) A.2.1 q
    omega) wa w9 wS (by rw [hpn.1, hpn.2]; exact wk) (by
      rw [hpn.1, hpn.2, wi]
      intro q
      exact Nat.le_trans (hcl q) (pUses_ge _ _ q))
  rw [hpn.1, hpn.2, wi] at hy
  have hu : A.2.2.1.2.2.1 i < 4 := by omega
  rw [fX10_recut, if_neg hwx, J_nat _ (by omega), x2, show (0 : Int32) = bI false from rfl, b8.1]
  rw [show fX10_best (Int32.ofNat (cd (A.2.2.1.2.1 i))) (bI false) (bI false) (Int32.ofNat (A.2.2.2.1 0)) (Int32.ofNat (A.2.2.2.1 1)) (Int32.ofNat (A.2.2.2.1 2)) (Int32.ofNat A.2.1.1) code = some (Int32.ofNat s) from e1, gb1_some, show bI false = (0 : Int32) from rfl, if_neg hwx']
  rw [← b8.1, ev, gb2_some, if_neg hwx', if_neg hwx', x3]
  rw [show fX10_uses (Int32.ofNat (cd (A.2.2.1.2.1 i))) (Int32.ofNat (setL (A.2.2.1.2.1 i).length 0 (((A.2.2.1.2.2.2 i).map A.2.1.2.1).map List.length))) (-1) pieces A.2.2.2.2.2.1 code v1 v2 = some (y1, y2) from ey, gb2_some, if_neg hwx', z_bc wS, gb1_some, z_bc hS, gb1_some, if_neg hwx', Lt_eq, if_neg hwx', x1, List.length_map, J_sub _ _ (by omega), J_mul, z_back hu, gb3_some]
  have hnum : A.2.2.2.1 2 * ((A.2.2.1.2.2.2 i).length - 1 - ((kS A (A.2.2.1.2.1 i)).length - 1)) = A.2.2.2.1 2 * ((A.2.2.1.2.2.2 i).length - (kI A (A.2.2.1.2.1 i)).length) := by
    rw [hIl]
    congr 1
    omega
  rw [hnum]
  refine ok_some ⟨rfl, ⟨rfl, rfl, rfl, b4, b5⟩, b6, ?_, hy, ⟨b9.1, ?_⟩, sAdd_of b10 (by decide) _, rfl, b12, ?_⟩
  · intro x hx
    show upd coins _ _ x = Int32.ofNat (up A.1.2.2 _ _ x)
    by_cases c : x = A.2.2.1.2.2.1 i
    · rw [c, upd_eq, up_eq, b7 _ hw1, J_add]
    · rw [upd_ne _ _ _ _ c, up_ne _ _ _ _ c]
      exact b7 x hx
  · intro x hx
    obtain ⟨c1, c2, c3⟩ := b9.2 x hx
    refine ⟨c1, c2, ?_⟩
    show upd cut i _ x = Int32.ofNat (setL (A.2.2.1.2.1 x).length 0 (((up A.2.2.1.2.2.2 i (kI A (A.2.2.1.2.1 i)) x).map (pEnds A.2.2.2.2.2.1 (pUses A.2.1 (kI A (A.2.2.1.2.1 i))) (A.2.2.1.2.2.2 i)).2.1).map List.length))
    rw [(pEnds_n _ _ _).2.1, hpn.2]
    by_cases c : x = i
    · rw [c, upd_eq, up_eq, hkm, es]
    · rw [upd_ne _ _ _ _ c, up_ne _ _ _ _ c]
      exact c3
  · show fund - _ = _
    rw [b13]
    rfl
/-- the loop that closes the gap behind a removed word -/
def gapI (i j : Nat) (f f' : Nat → Int32) : Prop := (∀ m, i ≤ m → m < j → f' m = f (m + 1)) ∧ ∀ m, m < i ∨ j ≤ m → f' m = f m
theorem gapI_step {i j : Nat} {f f' : Nat → Int32} (hij : i ≤ j) (h : gapI i j f f') : gapI i (j + 1) f (upd f' j (f' (j + 1))) := by
  refine ⟨fun m a b => ?_, fun m a => ?_⟩
  · by_cases c : m = j
    · rw [c, upd_eq, h.2 (j + 1) (Or.inr (by omega))]
    · rw [upd_ne _ _ _ _ c]
      exact h.1 m a (by omega)
  · rw [upd_ne _ _ _ _ (by omega)]
    exact h.2 m (by omega)
theorem gapI_end {i n : Nat} {f f' : Nat → Int32} (h : gapI i n f f') : ∀ m, m < n → f' m = if m < i then f m else f (m + 1) := by
  intro m hm
  by_cases c : m < i
  · rw [if_pos c]
    exact h.2 m (Or.inl c)
  · rw [if_neg c]
    exact h.1 m (by omega) hm
theorem z_gap {x2 : Int32} {n i : Nat} (hn : n ≤ 15) {k : (Nat → Int32) → (Nat → Int32) → (Nat → Int32) → Option (Int32 × Int32 × Int32 × (Nat → Int32) × (Nat → Int32) × (Nat → Int32) × (Nat → Int32) × (Nat → Int32) × (Nat → Int32) × (Nat → Int32))} {Q : Int32 × Int32 × Int32 × (Nat → Int32) × (Nat → Int32) × (Nat → Int32) × (Nat → Int32) × (Nat → Int32) × (Nat → Int32) × (Nat → Int32) → Prop} (hk : ∀ a b c, gapI i n user a → gapI i n word b → gapI i n cut c → Ok (k a b c) Q) : ∀ (d m j : Nat) (a b c : Nat → Int32), j + d = n → d < m → i ≤ j → gapI i j user a → gapI i j word b → gapI i j cut c → Ok (fX10_remove_L57 x2 (Int32.ofNat n) k m (Int32.ofNat j) a b c) Q := by
  intro d
  induction d with
  | zero =>
    intro m j a b c e hm hij ha hb hc
    obtain ⟨m, rfl⟩ : ∃ x, m = x + 1 := ⟨m - 1, by omega⟩
    have ej : j = n := by omega
    subst ej
    rw [fX10_remove_L57, if_pos (by rw [J_le _ _ (by omega) (by omega)]; omega)]
    exact hk _ _ _ ha hb hc
  | succ d ih =>
    intro m j a b c e hm hij ha hb hc
    obtain ⟨m, rfl⟩ : ∃ x, m = x + 1 := ⟨m - 1, by omega⟩
    have h1 := setIx (show j < 17 by omega) (by decide)
    have h2 := setIx (show j + 1 < 17 by omega) (by decide)
    rw [fX10_remove_L57, if_neg (by rw [J_le _ _ (by omega) (by omega)]; omega)]
    simp only [Lt_eq]
    rw [i_1, J_add, if_neg h2, if_neg h1, if_neg h2, if_neg h1, if_neg h2, if_neg h1, J_nat _ (by omega), J_nat _ (by omega)]
    exact ih m (j + 1) _ _ _ (by omega) (by omega) (by omega) (gapI_step hij ha) (gapI_step hij hb) (gapI_step hij hc)
/-- a word is removed -/
theorem z_remove (hB : lB A price letter deposit keep refund users pieces words time chest fund coins accounts code paid owner uses idle user word cut) (hI : Iv A) {i : Nat} (hi : i < A.2.2.1.1) :
    Ok (fX10_remove (Int32.ofNat i) deposit pieces words time fund coins accounts code uses idle user word cut) (fun r => r.1 = Int32.ofNat (A.1.2.2 (A.2.2.1.2.2.1 i) + A.2.2.2.1 2 * (A.2.2.1.2.2.2 i).length) ∧ lB (aEnd A i) price letter deposit keep refund users pieces r.2.1 time chest r.2.2.1 r.2.2.2.1 r.2.2.2.2.1 code paid owner r.2.2.2.2.2.1 r.2.2.2.2.2.2.1 r.2.2.2.2.2.2.2.1 r.2.2.2.2.2.2.2.2.1 r.2.2.2.2.2.2.2.2.2) := by
  have o := Iv_oP hI
  obtain ⟨wa, w9, w0, wS, wk, wi⟩ := Iv_word hI hi
  have hInv := hI.1
  have hub := Inv_ub hInv
  have hcl := cnt_le' hInv hi
  obtain ⟨⟨i1, i2, i3, i4, i5, i6⟩, j2, j3, j4, j5, j6⟩ := hI
  obtain ⟨hw1, hw2, hw3, hw4, hw5⟩ := i3.2 i hi
  have hnw := i3.1
  obtain ⟨⟨b1, b2, b3, b4, b5⟩, b6, b7, b8, b9, b10, b11, b12, b13⟩ := hB
  subst b3 b11
  obtain ⟨x1, x2, x3⟩ := b9.2 i hi
  have hwx := setIx (show i < 17 by omega) (by decide)
  have hwx' := setIx' (show i < 17 by omega) (by decide)
  have hwl := wS.2.2
  rw [List.length_map] at hwl
  have hwpc := pc_lt' _ wS.1
  obtain ⟨⟨y1, y2⟩, ey, hy⟩ := z_usesE (t := A.2.2.2.2.2.1) b8 o (fun q hq => by
    have := hub q hq
    omega) wa w9 wS wk (by rw [wi]; exact hcl)
  rw [wi] at hy
  have hu : A.2.2.1.2.2.1 i < 4 := by omega
  have hux := setIx hu (by decide)
  rw [fX10_remove, if_neg hwx, if_neg hwx, J_nat i (by omega), x2, x3, ey, gb2_some, if_neg hwx', if_neg hwx', z_bc wS, gb1_some, x1, List.length_map, i_1, J_add, show (A.2.2.1.2.2.2 i).length - 1 + 1 = (A.2.2.1.2.2.2 i).length by omega, J_mul, z_back hu, gb3_some, b9.1, J_sub _ _ (by omega)]
  refine z_gap (user := user) (word := word) (cut := cut) (i := i) (by omega) (fun a b c ha hb hc => ?_) (A.2.2.1.1 - 1 - i) FU i _ _ _ (by omega) (by simp only [FU]; omega) (Nat.le_refl _) ⟨fun m p q => by omega, fun _ _ => rfl⟩ ⟨fun m p q => by omega, fun _ _ => rfl⟩ ⟨fun m p q => by omega, fun _ _ => rfl⟩
  rw [if_neg hux, J_nat _ (by omega), upd_eq, b7 _ hw1, J_add]
  have ga := gapI_end ha
  have gb := gapI_end hb
  have gc := gapI_end hc
  refine ok_some ⟨rfl, ⟨b1, b2, rfl, b4, b5⟩, b6, ?_, hy, ⟨rfl, ?_⟩, sAdd_of b10 (by decide) _, rfl, b12, ?_⟩
  · intro x hx
    show upd coins _ _ x = Int32.ofNat (up A.1.2.2 _ _ x)
    by_cases c : x = A.2.2.1.2.2.1 i
    · rw [c, upd_eq, up_eq]
    · rw [upd_ne _ _ _ _ c, up_ne _ _ _ _ c]
      exact b7 x hx
  · intro x hx
    have hx' : x < A.2.2.1.1 - 1 := hx
    show a x = Int32.ofNat (sh A.2.2.1.2.2.1 i x) ∧ b x = Int32.ofNat (cd (sh A.2.2.1.2.1 i x)) ∧ c x = Int32.ofNat (setL (sh A.2.2.1.2.1 i x).length 0 (((sh A.2.2.1.2.2.2 i x).map (pEnds A.2.2.2.2.2.1 A.2.1 (A.2.2.1.2.2.2 i)).2.1).map List.length))
    rw [(pEnds_n _ _ _).2.1, ga x hx', gb x hx', gc x hx']
    by_cases g : x < i
    · rw [if_pos g, if_pos g, if_pos g, sh_lo _ _ _ g, sh_lo _ _ _ g, sh_lo _ _ _ g]
      exact b9.2 x (by omega)
    · rw [if_neg g, if_neg g, if_neg g, sh_hi _ _ _ (by omega), sh_hi _ _ _ (by omega), sh_hi _ _ _ (by omega)]
      exact b9.2 (x + 1) (by omega)
  · show fund - _ = _
    rw [b13]
    rfl
end ZR
