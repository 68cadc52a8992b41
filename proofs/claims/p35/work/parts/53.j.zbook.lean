/-! storing, cutting anew, removing: the law's book against the abstract one -/
theorem vld_ones {sc : Nat → Nat → Nat} {L : Nat} (h : ∀ i, sc i 1 < 1000000) : ∀ (d i : Nat), i + d = L → vld sc L i (List.replicate d 1)
  | 0, i, e => by show i = L; omega
  | d + 1, i, e => ⟨Nat.le_refl _, by decide, h i, vld_ones h d (i + 1) (by omega)⟩
theorem sC_200 {np : Nat} {pl : Nat → List Nat} {st : Nat → Nat} {b : Bool} {l : List Nat} (h0 : st 0 ≤ 99) (h1 : st 1 ≤ 9) : ∀ i n, n ≤ 6 → sC np pl st b l i n < 1000000 → sC np pl st b l i n ≤ 200 := by
  rw [← s35_none]
  exact s35_le h0 h1
theorem TB_b {np : Nat} {pl : Nat → List Nat} {st : Nat → Nat} {l : List Nat} (h0 : st 0 ≤ 99) (h1 : st 1 ≤ 9) (h2 : st 2 ≤ 9) (h9 : l.length ≤ 9) : (TB (sC np pl st true l) (st 2) l.length 0).1 < 1000000 := by
  have hv := vld_ones (sc := sC np pl st true l) (L := l.length) (fun i => by
    unfold sC
    split
    · decide
    · rw [if_pos rfl]
      omega) l.length 0 (by omega)
  have hc := cst_le (sC_200 (np := np) (pl := pl) (b := true) (l := l) h0 h1) h2 _ 0 hv
  rw [List.length_replicate] at hc
  exact (tlT_first (dep := st 2) _ 0 (Nat.zero_le _) hv (by omega)).1
section ZK
variable {np : Nat} {pl : Nat → List Nat} {st : Nat → Nat} {code : Nat → Int32} {l : List Nat} {b : Bool}
theorem z_best0 (hC : lC np pl code) (h0 : st 0 ≤ 99) (h1 : st 1 ≤ 9) (h2 : st 2 ≤ 9) (hl : ab l) (h9 : l.length ≤ 9) (hn0 : 0 < l.length) (b : Bool) (hf : (TB (sC np pl st b l) (st 2) l.length 0).1 < 1000000) : ∃ s, fX10_best (Int32.ofNat (cd l)) (bI b) 0 (Int32.ofNat (st 0)) (Int32.ofNat (st 1)) (Int32.ofNat (st 2)) (Int32.ofNat np) code = some (Int32.ofNat s) ∧ isS l s (CL (sC np pl st b l) (st 2) l) ∧ s = setL l.length 0 ((CL (sC np pl st b l) (st 2) l).map List.length) := by
  have h := z_best (b := b) (al := none) hC h0 h1 h2 hl h9 hn0 (fun _ z => by cases z)
  rw [s35_none, if_pos hf] at h
  obtain ⟨c1, c2, c3⟩ := CL_ok (sc := sC np pl st b l) (dep := st 2) (l := l) (by omega) hf
  obtain ⟨t1, t2, t3⟩ := tlT_ok (sc := sC np pl st b l) (dep := st 2) (L := l.length) l.length 0 (by omega) hf
  obtain ⟨w1, w2⟩ := vld_sum _ 0 t1
  have e : (CL (sC np pl st b l) (st 2) l).map List.length = tlT (sC np pl st b l) (st 2) l.length 0 := by
    rw [CL_sl (by omega)]
    exact sl_lens l _ 0 (by omega)
  refine ⟨_, h, ?_, by rw [e]⟩
  rw [← e]
  exact isS_of h9 hn0 c1 (fun p hp z => by
    have := (c3 p hp).1
    rw [z] at this
    exact absurd this (by decide))
/-- with a further piece taken as there: how many pieces the best cutting has -/
theorem z_bestS (hC : lC np pl code) (h0 : st 0 ≤ 99) (h1 : st 1 ≤ 9) (h2 : st 2 ≤ 9) (hl : ab l) (h9 : l.length ≤ 9) (hn0 : 0 < l.length) {x : List Nat} (hx : ab x) (hx9 : x.length ≤ 9) (hf : (TB (sSet (sC np pl st false l) l x 0) (st 2) l.length 0).1 < 1000000) : ∃ s, fX10_best (Int32.ofNat (cd l)) 0 (Int32.ofNat (cd x)) (Int32.ofNat (st 0)) (Int32.ofNat (st 1)) (Int32.ofNat (st 2)) (Int32.ofNat np) code = some (Int32.ofNat s) ∧ fJ6_bitCount_0f7a4 (Int32.ofNat s) = some (Int32.ofNat ((TB (sSet (sC np pl st false l) l x 0) (st 2) l.length 0).2.1 - 1)) ∧ 1 ≤ (TB (sSet (sC np pl st false l) l x 0) (st 2) l.length 0).2.1 := by
  have h := z_best (b := false) (al := some x) hC h0 h1 h2 hl h9 hn0 (fun _ z => by cases z; exact ⟨hx, hx9⟩)
  rw [s35_some, if_pos hf] at h
  obtain ⟨c1, c2, c3⟩ := CL_ok (sc := sSet (sC np pl st false l) l x 0) (dep := st 2) (l := l) (by omega) hf
  obtain ⟨t1, t2, t3⟩ := tlT_ok (sc := sSet (sC np pl st false l) l x 0) (dep := st 2) (L := l.length) l.length 0 (by omega) hf
  obtain ⟨w1, w2⟩ := vld_sum _ 0 t1
  have e : (CL (sSet (sC np pl st false l) l x 0) (st 2) l).map List.length = tlT (sSet (sC np pl st false l) l x 0) (st 2) l.length 0 := by
    rw [CL_sl (by omega)]
    exact sl_lens l _ 0 (by omega)
  have hS : isS l (setL l.length 0 (tlT (sSet (sC np pl st false l) l x 0) (st 2) l.length 0)) (CL (sSet (sC np pl st false l) l x 0) (st 2) l) := by
    rw [← e]
    exact isS_of h9 hn0 c1 (fun p hp z => by
      have := (c3 p hp).1
      rw [z] at this
      exact absurd this (by decide))
  refine ⟨_, h, by rw [z_bc hS, c2], ?_⟩
  rw [← c2]
  have := hS.2.2
  omega
end ZK
theorem CL_oR {sc : Nat → Nat → Nat} {dep : Nat} {l : List Nat} (h9 : l.length ≤ 9) (hl : ab l) (hf : (TB sc dep l.length 0).1 < 1000000) : ∀ s ∈ CL sc dep l, oR s := by
  obtain ⟨c1, c2, c3⟩ := CL_ok (sc := sc) (dep := dep) (l := l) (by omega) hf
  intro s hs
  obtain ⟨d1, d2, j, m, e, _⟩ := c3 s hs
  refine ⟨by rw [e]; exact ab_sub hl j m, d2, fun z => ?_⟩
  rw [z] at d1
  exact absurd d1 (by decide)
theorem setIx {i n : Nat} (h : i < n) (hn : n ≤ 30) : ¬ (Int32.ofNat i < 0 ∨ n ≤ (Int32.ofNat i).toNatClampNeg) := by
  rw [J_nat _ (by omega), J_neg _ (by omega)]
  simp
  omega
theorem setIx' {i n : Nat} (h : i < n) (hn : n ≤ 30) : ¬ (Int32.ofNat i < 0 ∨ n ≤ i) := by
  rw [J_neg _ (by omega)]
  simp
  omega
theorem lW_pl {w : aWs} {pl pl' : Nat → List Nat} {n : Int32} {user word cut : Nat → Int32} (h : lW w pl n user word cut) (he : ∀ i, i < w.1 → ∀ q ∈ w.2.2.2 i, pl' q = pl q) : lW w pl' n user word cut := by
  refine ⟨h.1, fun i hi => ?_⟩
  obtain ⟨a, b, c⟩ := h.2 i hi
  refine ⟨a, b, ?_⟩
  rw [c, List.map_congr_left (he i hi)]
theorem pBuys_use (st : Nat → Nat) (u t : Int32) : ∀ (fr : List (List Nat)) (p : aPs) (m : Nat), (∀ q, q < p.1 → p.2.2.2.2.1 q < m) → 0 < m → ∀ q, q < (pBuys st u t p fr).1 → (pBuys st u t p fr).2.2.2.2.1 q < m
  | [], p, m, h, _ => h
  | s :: fr, p, m, h, hm => pBuys_use st u t fr (pBuy st u t p s) m (fun q hq => by
      show up p.2.2.2.2.1 p.1 0 q < m
      have hq' : q < p.1 + 1 := hq
      by_cases c : q = p.1
      · rw [c, up_eq]
        exact hm
      · rw [up_ne _ _ _ _ c]
        exact h q (by omega)) hm
theorem fnd_at {np : Nat} {pl : Nat → List Nat} {x : List Nat} (h : fnd np pl x < np) : pl (fnd np pl x) = x := by
  have key : ∀ (d j : Nat), j + d = np → fndF pl x j d < np → pl (fndF pl x j d) = x := by
    intro d
    induction d with
    | zero =>
      intro j h1 h2
      have : fndF pl x j 0 = j := rfl
      omega
    | succ d ih =>
      intro j h1 h2
      unfold fndF at h2 ⊢
      by_cases c : pl j = x
      · rw [if_pos c]
        exact c
      · rw [if_neg c] at h2 ⊢
        exact ih (j + 1) (by omega) h2
  exact key np 0 (by omega) h
section ZT
variable {A : aB} {price letter deposit keep refund users pieces words time chest fund : Int32} {coins accounts code paid owner uses idle user word cut : Nat → Int32}
/-- a word is stored -/
theorem z_store (hB : lB A price letter deposit keep refund users pieces words time chest fund coins accounts code paid owner uses idle user word cut) (hI : Iv A) (hub : ∀ q, q < A.2.1.1 → A.2.1.2.2.2.2.1 q < 800000) {l : List Nat} (hl : ab l) (h9 : l.length ≤ 9) (hn0 : 0 < l.length) {u : Nat} (hu : u < A.1.1) (hw16 : A.2.2.1.1 < 16)
    (hroom : A.2.1.1 + (frs A.2.1.1 A.2.1.2.1 [] (CL (sC A.2.1.1 A.2.1.2.1 A.2.2.2.1 true l) (A.2.2.2.1 2) l)).length ≤ 24) (hcoin : prS A.2.2.2.1 (frs A.2.1.1 A.2.1.2.1 [] (CL (sC A.2.1.1 A.2.1.2.1 A.2.2.2.1 true l) (A.2.2.2.1 2) l)) + A.2.2.2.1 2 * (CL (sC A.2.1.1 A.2.1.2.1 A.2.2.2.1 true l) (A.2.2.2.1 2) l).length ≤ A.1.2.2 u) :
    Ok (fX10_store (Int32.ofNat u) (Int32.ofNat (cd l)) price letter deposit pieces words time chest fund coins accounts code paid owner uses idle user word cut) (fun r => lB (aStore A u l (CL (sC A.2.1.1 A.2.1.2.1 A.2.2.2.1 true l) (A.2.2.2.1 2) l)) price letter deposit keep refund users r.1 r.2.1 time r.2.2.1 r.2.2.2.1 r.2.2.2.2.1 r.2.2.2.2.2.1 r.2.2.2.2.2.2.1 r.2.2.2.2.2.2.2.1 r.2.2.2.2.2.2.2.2.1 r.2.2.2.2.2.2.2.2.2.1 r.2.2.2.2.2.2.2.2.2.2.1 r.2.2.2.2.2.2.2.2.2.2.2.1 r.2.2.2.2.2.2.2.2.2.2.2.2.1 r.2.2.2.2.2.2.2.2.2.2.2.2.2) := by
  have o := Iv_oP hI
  obtain ⟨⟨i1, i2, i3, i4, i5, i6⟩, j2, j3, j4, j5, j6⟩ := hI
  obtain ⟨s0, s1, s2', s2, s3, s4⟩ := i5
  obtain ⟨⟨b1, b2, b3, b4, b5⟩, b6, b7, b8, b9, b10, b11, b12, b13⟩ := hB
  subst b1 b2 b3 b11
  have hC := lC_of b8 o
  have hf := TB_b (np := A.2.1.1) (pl := A.2.1.2.1) (l := l) s0 s1 s2 h9
  obtain ⟨s, e1, hS, es⟩ := z_best0 hC s0 s1 s2 hl h9 hn0 true hf
  have hR := CL_oR (sc := sC A.2.1.1 A.2.1.2.1 A.2.2.2.1 true l) (dep := A.2.2.2.1 2) h9 hl hf
  generalize hps : CL (sC A.2.1.1 A.2.1.2.1 A.2.2.2.1 true l) (A.2.2.2.1 2) l = ps at *
  have hlen : ps.length ≤ 10 ∧ 1 ≤ ps.length := by
    have := hS.2.2
    have := pc_lt' s hS.1
    omega
  have hu4 : u < 4 := by omega
  have hum : A.2.2.2.1 2 * ps.length ≤ 9 * 10 := Nat.mul_le_mul s2 hlen.1
  have hpl := pBuys_n A.2.2.2.1 (Int32.ofNat u) A.2.2.2.2.2.1 (frs A.2.1.1 A.2.1.2.1 [] ps) A.2.1
  have hfr : ∀ x ∈ frs A.2.1.1 A.2.1.2.1 [] ps, oR x := by
    intro x hx
    rcases (frs_iff A.2.1.1 A.2.1.2.1 x ps []).mp hx with z | ⟨z, _⟩
    · exact absurd z List.not_mem_nil
    · exact hR x z
  have ok1 := oP_buys (st := A.2.2.2.1) (u := Int32.ofNat u) (t := A.2.2.2.2.2.1) _ A.2.1 o hfr hroom
  rw [fX10_store, show (1 : Int32) = bI true from rfl, b8.1, e1, gb1_some]
  refine z_store_L (c := A.1.2.2 u) (chest := chest) (co := coins) (acc := accounts) o s0 s1 hl h9 hS hR hroom hu4 (by omega) (fun n' chest' coins' accounts' code' paid' owner' uses' idle' hj => ?_) ps.length FU 0 _ _ _ _ _ _ _ _ _ (by omega) (by simp only [FU]; omega) ?_
  · obtain ⟨q1, q2, q3, q4, q5⟩ := hj
    have hbu : ∀ q, q < (pBuys A.2.2.2.1 (Int32.ofNat u) A.2.2.2.2.2.1 A.2.1 (frs A.2.1.1 A.2.1.2.1 [] ps)).1 → (pBuys A.2.2.2.1 (Int32.ofNat u) A.2.2.2.2.2.1 A.2.1 (frs A.2.1.1 A.2.1.2.1 [] ps)).2.2.2.2.1 q < 900000 := by
      intro q hq
      have := pBuys_use A.2.2.2.1 (Int32.ofNat u) A.2.2.2.2.2.1 (frs A.2.1.1 A.2.1.2.1 [] ps) A.2.1 800000 hub (by decide) q hq
      omega
    have hkn : ∀ x ∈ ps, fnd (pBuys A.2.2.2.1 (Int32.ofNat u) A.2.2.2.2.2.1 A.2.1 (frs A.2.1.1 A.2.1.2.1 [] ps)).1 (pBuys A.2.2.2.1 (Int32.ofNat u) A.2.2.2.2.2.1 A.2.1 (frs A.2.1.1 A.2.1.2.1 [] ps)).2.1 x < (pBuys A.2.2.2.1 (Int32.ofNat u) A.2.2.2.2.2.1 A.2.1 (frs A.2.1.1 A.2.1.2.1 [] ps)).1 := by
      intro x hx
      rw [kn_buys]
      by_cases g : fnd A.2.1.1 A.2.1.2.1 x < A.2.1.1
      · exact Or.inl g
      · exact Or.inr ((frs_iff A.2.1.1 A.2.1.2.1 x ps []).mpr (Or.inr ⟨hx, g⟩))
    obtain ⟨⟨v1, v2⟩, ev, hv⟩ := z_uses1 (t := A.2.2.2.2.2.1) q1 ok1 hbu hl h9 hS hkn
    have hix := setIx hu4 (by decide)
    have hwx := setIx (show A.2.2.1.1 < 17 by omega) (by decide)
    rw [show bI true = (1 : Int32) from rfl, ev, gb2_some, z_bc hS, gb1_some, if_neg hix, if_neg hix]
    simp only [Lt_eq]
    rw [b9.1, if_neg hwx, if_neg hwx, if_neg hwx, J_nat _ (by omega), J_nat _ (by omega), i_1, J_add, J_add, J_mul, q3, show ps.length - 1 + 1 = ps.length by omega, J_sub _ _ (by omega)]
    refine ok_some ⟨⟨rfl, rfl, rfl, b4, b5⟩, b6, ?_, hv, ⟨rfl, ?_⟩, ?_, rfl, ?_, ?_⟩
    · intro x hx
      show upd coins' u _ x = Int32.ofNat (up A.1.2.2 u _ x)
      by_cases c : x = u
      · rw [c, upd_eq, up_eq]
      · rw [upd_ne _ _ _ _ c, up_ne _ _ _ _ c, q4 x c]
        exact b7 x hx
    · intro i hi
      show upd user A.2.2.1.1 _ i = Int32.ofNat (up A.2.2.1.2.2.1 A.2.2.1.1 u i) ∧ upd word A.2.2.1.1 _ i = Int32.ofNat (cd (up A.2.2.1.2.1 A.2.2.1.1 l i)) ∧ upd cut A.2.2.1.1 _ i = Int32.ofNat (setL (up A.2.2.1.2.1 A.2.2.1.1 l i).length 0 (((up A.2.2.1.2.2.2 A.2.2.1.1 (stI A.2.2.2.1 (Int32.ofNat u) A.2.2.2.2.2.1 A.2.1 ps) i).map (pUses (stB A.2.2.2.1 (Int32.ofNat u) A.2.2.2.2.2.1 A.2.1 ps) (stI A.2.2.2.1 (Int32.ofNat u) A.2.2.2.2.2.1 A.2.1 ps)).2.1).map List.length))
      rw [(pUses_n _ _).2]
      by_cases c : i = A.2.2.1.1
      · subst c
        rw [upd_eq, upd_eq, upd_eq, up_eq, up_eq, up_eq, es]
        refine ⟨rfl, rfl, ?_⟩
        congr 3
        unfold stI
        rw [List.map_map]
        have : ps.map ((stB A.2.2.2.1 (Int32.ofNat u) A.2.2.2.2.2.1 A.2.1 ps).2.1 ∘ fnd (stB A.2.2.2.1 (Int32.ofNat u) A.2.2.2.2.2.1 A.2.1 ps).1 (stB A.2.2.2.1 (Int32.ofNat u) A.2.2.2.2.2.1 A.2.1 ps).2.1) = ps.map id := by
          apply List.map_congr_left
          intro x hx
          exact fnd_at (hkn x hx)
        rw [this, List.map_id]
      · rw [upd_ne _ _ _ _ c, upd_ne _ _ _ _ c, upd_ne _ _ _ _ c, up_ne _ _ _ _ c, up_ne _ _ _ _ c, up_ne _ _ _ _ c]
        have hi2 : i < A.2.2.1.1 := by
          have : i < A.2.2.1.1 + 1 := hi
          omega
        obtain ⟨a1, a2, a3⟩ := b9.2 i hi2
        refine ⟨a1, a2, ?_⟩
        rw [a3]
        congr 2
        have : (A.2.2.1.2.2.2 i).map A.2.1.2.1 = (A.2.2.1.2.2.2 i).map (stB A.2.2.2.1 (Int32.ofNat u) A.2.2.2.2.2.1 A.2.1 ps).2.1 := by
          apply List.map_congr_left
          intro q hq
          exact (pBuys_lo A.2.2.2.1 (Int32.ofNat u) A.2.2.2.2.2.1 _ A.2.1 q ((i3.2 i hi2).2.1 q hq)).symm
        rw [this]
    · intro i hi
      have h2 := q5 2 (by decide)
      have hq := q5 i hi
      show upd accounts' 2 _ i = sSto A.2.2.2.2.1 _ _ _ i
      have hbb : ∀ k, k < 6 → sBuy accounts (prS A.2.2.2.1 (frs A.2.1.1 A.2.1.2.1 [] ps)) (frs A.2.1.1 A.2.1.2.1 [] ps).length k = sBuy A.2.2.2.2.1 (prS A.2.2.2.1 (frs A.2.1.1 A.2.1.2.1 [] ps)) (frs A.2.1.1 A.2.1.2.1 [] ps).length k := by
        intro k hk
        unfold sBuy
        rw [b10 0 (by decide), b10 4 (by decide), b10 k hk]
      unfold sSto
      by_cases c : i = 2
      · subst c
        rw [upd_eq, if_pos rfl, h2]
        unfold sBuy
        rw [if_neg (by decide), if_neg (by decide), b10 2 (by decide)]
      · rw [upd_ne _ _ _ _ c, if_neg c, hq, hbb i hi]
    · show chest' = _
      rw [q2, b12]
      rfl
    · show fund + _ = _
      rw [b13]
      rfl
  · refine ⟨by rw [← b8.1]; exact b8, ?_, ?_, fun _ _ => rfl, ?_⟩
    · rw [List.take_zero]
      show chest = chest + Int32.ofNat 0
      rw [show Int32.ofNat 0 = (0 : Int32) from rfl, Int32.add_zero]
    · rw [List.take_zero]
      exact b7 u hu
    · intro i hi
      rw [List.take_zero]
      show accounts i = sBuy accounts 0 0 i
      unfold sBuy
      rw [show Int32.ofNat 0 = (0 : Int32) from rfl, Int32.add_zero, Int32.add_zero]
      split
      · rename_i c; rw [c]
      · split
        · rename_i c; rw [c]
        · rfl
end ZT
