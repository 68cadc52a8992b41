/-! all questions of one change -/
section AS
variable {A : aB} {b : tBk} {price letter deposit keep refund users pieces words time chest fund : Int32} {coins accounts code paid owner uses idle user word cut : Nat → Int32}
abbrev asT : Type := Int32 × Int32 × (Nat → Int32) × tCut × tCutR × tAdv × tCut × tCutR × (Nat → Int32)
theorem z_first {wl : Nat → List Nat} {nw : Nat} (h16 : nw ≤ 16) (hw : ∀ i, i < nw → word i = Int32.ofNat (cd (wl i)) ∧ ab (wl i) ∧ (wl i).length ≤ 9) {l : List Nat} (hl : ab l) (h9 : l.length ≤ 9) {nc ns : Nat} (k : Int32 → Option asT) : ∀ (j m : Nat), j ≤ nw → j < m → fL_asks_L162 (Int32.ofNat (cd l)) word nc ns k m (if fndF wl l j (nw - j) < nw then Int32.ofNat (fndF wl l j (nw - j)) else M1) (Int32.ofNat j - 1) = k (nr nw wl l) := by
  intro j
  induction j with
  | zero =>
    intro m hj hm
    obtain ⟨m, rfl⟩ : ∃ x, m = x + 1 := ⟨m - 1, by omega⟩
    rw [fL_asks_L162, if_pos (by decide)]
    rfl
  | succ j ih =>
    intro m hj hm
    obtain ⟨m, rfl⟩ : ∃ x, m = x + 1 := ⟨m - 1, by omega⟩
    obtain ⟨e1, e2, e3⟩ := hw j (by omega)
    have hs := cd_sm hl h9
    have hj' := cd_sm e2 e3
    have he : Int32.ofNat j + -Int32.ofNat 1 = Int32.ofNat j - 1 := by
      rw [Int32.sub_eq_add_neg]
      rfl
    have hd : nw - j = (nw - (j + 1)) + 1 := by omega
    have hF : fndF wl l j (nw - j) = if wl j = l then j else fndF wl l (j + 1) (nw - (j + 1)) := by
      rw [hd, fndF]
    have := ih m (by omega) (by omega)
    rw [hF] at this
    rw [fL_asks_L162, i_1, J_sub _ _ (by omega), Nat.add_sub_cancel, if_neg (by rw [i_0, J_lt _ _ (by omega) (by omega)]; omega), if_neg (setIx (show j < 17 by omega) (by decide)), J_nat j (by omega), e1, he]
    by_cases c : wl j = l
    · rw [if_pos (by rw [c])]
      rw [if_pos c, if_pos (by omega)] at this
      exact this
    · rw [if_neg (by rw [J_eq _ _ (by omega) (by omega)]; exact fun z => c (cd_inj e2 hl z))]
      rw [if_neg c] at this
      exact this
theorem z_has_L {l : List Nat} (hl : ab l) (h9 : l.length ≤ 9) {s : Nat} {ps : List (List Nat)} (hS : isS l s ps) {u : Nat} (hu : u < 17) (hw : word u = Int32.ofNat (cd l)) (hcut : cut u = Int32.ofNat s) {x : List Nat} (hx : ab x) (hx9 : x.length ≤ 9) (k : Option Int32) : ∀ (d m q : Nat), q + d = ps.length → d < m → fL_has_L2 (Int32.ofNat u) (Int32.ofNat (cd x)) word cut k m (Int32.ofNat q) = if x ∈ ps.drop q then some 1 else k := by
  have hps := isS_ab hl hS
  have hlen : ps.length ≤ 10 ∧ 1 ≤ ps.length := by
    have := hS.2.2
    have := pc_lt' s hS.1
    omega
  intro d
  induction d with
  | zero =>
    intro m q e hm
    obtain ⟨m, rfl⟩ : ∃ x, m = x + 1 := ⟨m - 1, by omega⟩
    rw [fL_has_L2, if_neg (setIx hu (by decide)), J_nat u (by omega), hcut, z_bc hS, gb1_some, if_pos (by rw [J_lt _ _ (by omega) (by omega)]; omega), List.drop_eq_nil_of_le (by omega), if_neg List.not_mem_nil]
  | succ d ih =>
    intro m q e hm
    obtain ⟨m, rfl⟩ : ∃ x, m = x + 1 := ⟨m - 1, by omega⟩
    have hq : q < ps.length := by omega
    have hp := hps ps[q] (List.getElem_mem hq)
    have hz := z_piece hl h9 hS (show q < 1000 by omega)
    rw [List.getElem?_eq_getElem hq] at hz
    simp only at hz
    have hs := cd_sm hx hx9
    have hj' := cd_sm hp.1 (by omega)
    rw [fL_has_L2, if_neg (setIx hu (by decide)), J_nat u (by omega), hcut, z_bc hS, gb1_some, if_neg (by rw [J_lt _ _ (by omega) (by omega)]; omega), if_neg (setIx' hu (by decide)), if_neg (setIx' hu (by decide)), hw, hz, gb1_some, List.drop_eq_getElem_cons hq]
    by_cases c : ps[q] = x
    · rw [if_pos (by rw [c]), if_pos (by rw [c]; exact List.mem_cons_self)]
    · rw [if_neg (by rw [J_eq _ _ (by omega) (by omega)]; exact fun z => c (cd_inj hp.1 hx z)), i_1, J_add, ih m (q + 1) (by omega) (by omega)]
      by_cases g : x ∈ ps.drop (q + 1)
      · rw [if_pos g, if_pos (List.mem_cons_of_mem _ g)]
        rfl
      · rw [if_neg g, if_neg (fun z => by
          rcases List.mem_cons.mp z with z | z
          · exact c z.symm
          · exact g z)]
theorem z_has (hB : lB A price letter deposit keep refund users pieces words time chest fund coins accounts code paid owner uses idle user word cut) (hI : Iv A) {u : Nat} (hu : u < A.2.2.1.1) {q : Nat} (hq : q < A.2.1.1) : fL_has (Int32.ofNat u) (code q) word cut = some (if q ∈ A.2.2.1.2.2.2 u then 1 else 0) := by
  have h16 := hI.1.2.2.1.1
  obtain ⟨a1, a2, a3, a4, a5, a6⟩ := Iv_word hI hu
  have hb9 := hB.2.2.2.2.1.2 u hu
  have o := Iv_oP hI
  obtain ⟨o1, o2, o3⟩ := o.2 q hq
  have hcode := (hB.2.2.2.1.2 q hq).1
  have hlen : ((A.2.2.1.2.2.2 u).map A.2.1.2.1).length ≤ 10 := by
    have := a4.2.2
    have := pc_lt' _ a4.1
    omega
  have h := z_has_L a1 a2 a4 (show u < 17 by omega) hb9.2.1 hb9.2.2 o1 (show (A.2.1.2.1 q).length ≤ 9 by omega) (some 0) ((A.2.2.1.2.2.2 u).map A.2.1.2.1).length FU 0 (by omega) (by simp only [FU]; omega)
  rw [← i_0] at h
  rw [fL_has, hcode, h, List.drop_zero]
  have hiff : A.2.1.2.1 q ∈ (A.2.2.1.2.2.2 u).map A.2.1.2.1 ↔ q ∈ A.2.2.1.2.2.2 u := by
    constructor
    · intro z
      obtain ⟨q', h1, h2⟩ := List.mem_map.mp z
      have hq' := (hI.1.2.2.1.2 u hu).2.1 q' h1
      rw [← hI.2.2.1 q' q hq' hq h2]
      exact h1
    · exact fun z => List.mem_map.mpr ⟨q, z, rfl⟩
  by_cases c : q ∈ A.2.2.1.2.2.2 u
  · rw [if_pos (hiff.mpr c), if_pos c]
  · rw [if_neg (fun z => c (hiff.mp z)), if_neg c]
theorem z_shared_L (hB : lB A price letter deposit keep refund users pieces words time chest fund coins accounts code paid owner uses idle user word cut) (hI : Iv A) {w v : Nat} (hw : w < A.2.2.1.1) (hv : v < A.2.2.1.1) {nc ns : Nat} (hn : ¬ (170 < nc ∨ 43000 < ns)) (k : Int32 → Option asT) : ∀ (d m q : Nat), q + d = A.2.1.1 → d < m → fL_asks_L335 (Int32.ofNat w) (Int32.ofNat v) (Int32.ofNat A.2.1.1) code word cut nc ns k m (Int32.ofNat (sm (fun q => if q ∈ A.2.2.1.2.2.2 w ∧ q ∈ A.2.2.1.2.2.2 v then 1 else 0) q)) (Int32.ofNat q) = k (Int32.ofNat (sm (fun q => if q ∈ A.2.2.1.2.2.2 w ∧ q ∈ A.2.2.1.2.2.2 v then 1 else 0) A.2.1.1)) := by
  have h24 := hI.1.2.1.1
  intro d
  induction d with
  | zero =>
    intro m q e hm
    obtain ⟨m, rfl⟩ : ∃ x, m = x + 1 := ⟨m - 1, by omega⟩
    rw [fL_asks_L335, if_pos (by rw [J_le _ _ (by omega) (by omega)]; omega), show q = A.2.1.1 by omega]
  | succ d ih =>
    intro m q e hm
    obtain ⟨m, rfl⟩ : ∃ x, m = x + 1 := ⟨m - 1, by omega⟩
    have hq : q < A.2.1.1 := by omega
    have h := ih m (q + 1) (by omega) (by omega)
    rw [sm_succ] at h
    rw [fL_asks_L335, if_neg (by rw [J_le _ _ (by omega) (by omega)]; omega), if_neg (setIx (show q < 25 by omega) (by decide)), J_nat q (by omega), z_has hB hI hw hq, gb1_some, if_neg hn]
    by_cases c : q ∈ A.2.2.1.2.2.2 w
    · rw [if_pos c, if_neg (by decide), if_neg (setIx' (show q < 25 by omega) (by decide)), z_has hB hI hv hq, gb1_some]
      by_cases g : q ∈ A.2.2.1.2.2.2 v
      · rw [if_pos g, if_neg (by decide), i_1, J_add, J_add]
        rw [if_pos ⟨c, g⟩] at h
        exact h
      · rw [if_neg g, if_pos rfl, i_1, J_add]
        rw [if_neg (fun z => g z.2), Nat.add_zero] at h
        exact h
    · rw [if_neg c, if_pos rfl, i_1, J_add]
      rw [if_neg (fun z => c z.1), Nat.add_zero] at h
      exact h
theorem z_asks (hc : cBk A b) (hI : Iv A) (hB : lB A price letter deposit keep refund users pieces words time chest fund coins accounts code paid owner uses idle user word cut) (buffer : Nat → Int32) (C2 : tCut) (S2 : tCutR) (V : tAdv) (C3 : tCut) (S3 : tCutR) (p2 : Nat → Int32) : Ok (fL_asks 0 buffer b.2.2.2.1 b.2.2.2.2.2.1 b.2.2.2.2.2.2.1 b.2.2.2.2.2.2.2 C2 S2 V C3 S3 price letter deposit users pieces words coins code word cut p2) (fun r => r.1 = 1 ∧ r.2.1 = 0) := by
  have o := Iv_oP hI
  have h4 := hI.1.1.1
  have h16 := hI.1.2.2.1.1
  have h24 := hI.1.2.1.1
  have hn1 := hI.2.2.2.2.1
  have hcI := hI.1
  obtain ⟨s0, s1, s2', s2, s3, s4⟩ := hI.1.2.2.2.2.1
  have hB0 := hB
  obtain ⟨⟨b1, b2, b3, b4, b5⟩, b6, b7, b8, b9, b10, b11, b12, b13⟩ := hB
  have hC := lC_of b8 o
  obtain ⟨l, g1, hl, l1, l9, e1⟩ := z_letters (m := 9) (by decide) (by decide) p2
  have hne : l ≠ [] := fun z => by rw [z] at l1; exact absurd l1 (by decide)
  obtain ⟨u, g2, hu, e2⟩ := z_draw (m := A.1.1) (by omega) (by omega) g1
  obtain ⟨s, k1, hS, k3⟩ := z_why hB0 hI hl l9 (by omega) hu
  have f0 := z_fresh hC s0 s1 hl l9 hS false
  have f1 := z_fresh hC s0 s1 hl l9 hS true
  rw [← b1, ← b2, ← b8.1] at f0 f1
  have f0' : fX10_fresh (Int32.ofNat (cd l)) (Int32.ofNat s) 0 price letter pieces code = some (Int32.ofNat (frs A.2.1.1 A.2.1.2.1 [] (sS A l)).length) := f0
  have f1' : fX10_fresh (Int32.ofNat (cd l)) (Int32.ofNat s) 1 price letter pieces code = some (Int32.ofNat (prS A.2.2.2.1 (frs A.2.1.1 A.2.1.2.1 [] (sS A l)))) := f1
  have hlen : 1 ≤ (sS A l).length := by
    have := hS.2.2
    omega
  obtain ⟨i, g3, hi, e3⟩ := z_draw (m := 5) (by decide) (by decide) g2
  obtain ⟨bd1, buf1, ef1, et1⟩ := z_feedsCode hl l9 (by omega) buffer
  obtain ⟨Ca, Sa, q1⟩ := e_quote hc hcI (ab_wf hl) (by omega) hne et1 hi C2 S2
  obtain ⟨bd2, buf2, ef2, et2⟩ := z_feedsCode hl l9 (by omega) buf1
  obtain ⟨Cb, Sb, q2⟩ := e_why hc hcI (ab_wf hl) (by omega) hne et2 hu Ca Sa
  obtain ⟨bd3, buf3, ef3, et3⟩ := z_feedsCode hl l9 (by omega) buf2
  obtain ⟨q3, _⟩ := e_find hc hcI (ab_wf hl) (by omega) hne et3
  obtain ⟨bd4, buf4, ef4, et4⟩ := z_feedsCode hl l9 (by omega) buf3
  obtain ⟨_, q4⟩ := e_find hc hcI (ab_wf hl) (by omega) hne et4
  have hdue : upd (upd (upd (upd (upd (fun _ => (0 : Int32)) 0 (Int32.ofNat (prS A.2.2.2.1 (frs A.2.1.1 A.2.1.2.1 [] (sS A l)) + A.2.2.2.1 2 * (sS A l).length))) 1 (Int32.ofNat (A.2.2.2.1 2 * (sS A l).length))) 2 (Int32.ofNat (prS A.2.2.2.1 (frs A.2.1.1 A.2.1.2.1 [] (sS A l))))) 3 (Int32.ofNat (sS A l).length)) 4 (Int32.ofNat (frs A.2.1.1 A.2.1.2.1 [] (sS A l)).length) i = Int32.ofNat (qQ A l i) := by
    unfold qQ
    rcases (show i = 0 ∨ i = 1 ∨ i = 2 ∨ i = 3 ∨ i = 4 by omega) with rfl | rfl | rfl | rfl | rfl <;> rfl
  have hfirst := fun k => z_first (word := word) (nc := 81) (ns := 21405) h16 (fun j hj => ⟨(b9.2 j hj).2.1, (Iv_word hI hj).1, (Iv_word hI hj).2.1⟩) hl l9 k A.2.2.1.1 FU (Nat.le_refl _) (by simp only [FU]; omega)
  rw [Nat.sub_self, fndF, if_neg (Nat.lt_irrefl _)] at hfirst
  rw [fL_asks, show (9 : Int32) = Int32.ofNat 9 from rfl, e1, gb2_some, b6, e2, gb2_some, k1, gb1_some, z_bc hS, gb1_some, f1', gb1_some, Lt_eq, Lt_eq, Lt_eq, Lt_eq, f0', gb1_some, Lt_eq, show (5 : Int32) = Int32.ofNat 5 from rfl, e3, gb2_some, ef1, gb3_some, if_neg (by decide), q1, gb4_some, if_neg (setIx hi (by decide)), J_nat i (by omega), i_1, J_add, Nat.sub_add_cancel hlen, b3, J_mul, J_add, hdue, if_pos rfl, ef2, gb3_some, if_neg (by decide), q2, gb4_some, ← b3, k3, gb1_some, if_pos rfl, b9.1, M1_neg, ← i_1]
  have hfi : fX10_find (Int32.ofNat (cd l)) pieces code = some (nr A.2.1.1 A.2.1.2.1 l) := by
    rw [b8.1]
    exact z_find hC hl l9
  rw [hfirst, ef3, gb3_some, if_neg (by decide), q3, gb2_some, hfi, gb1_some, if_pos rfl, ef4, gb3_some, if_neg (by decide), q4, gb2_some, if_pos rfl]
  by_cases w0 : A.2.2.1.1 = 0
  · rw [if_pos (by rw [w0]; rfl)]
    exact ok_some ⟨rfl, rfl⟩
  · obtain ⟨w, g4, hw, e4⟩ := z_draw (m := A.2.2.1.1) (by omega) (by omega) g3
    obtain ⟨v, g5, hv, e5⟩ := z_draw (m := A.2.2.1.1) (by omega) (by omega) g4
    obtain ⟨y, g6, hy, e6⟩ := z_draw (m := 3) (by decide) (by decide) g5
    obtain ⟨a1, a2, a3, a4, a5, a6⟩ := Iv_word hI hw
    have hfew := z_few0 hB0 hI hw
    rw [gn_nil hcI hw] at hfew
    obtain ⟨Cc, Sc, r1⟩ := e_ways hc hcI hw Cb Sb
    obtain ⟨Cd, Sd, r2⟩ := e_fewest hc hcI hw Cc Sc
    obtain ⟨Ce, Se, r3⟩ := e_saving hc hcI hw Cd Sd
    have hways : fX10_ways (word w) price letter deposit pieces code = some (Int32.ofNat (wt (sC A.2.1.1 A.2.1.2.1 A.2.2.2.1 false (A.2.2.1.2.1 w)) (A.2.2.1.2.1 w).length (A.2.2.1.2.1 w).length 0)) := by
      rw [(b9.2 w hw).2.1, b1, b2, b3, b8.1]
      exact z_ways hC s0 s1 s2 a1 a2 a3
    have hpl : 1 ≤ (A.2.2.1.2.2.2 w).length := by
      have := a4.2.2
      rw [List.length_map] at this
      omega
    have hbc : fJ6_bitCount_0f7a4 (cut w) = some (Int32.ofNat ((A.2.2.1.2.2.2 w).length - 1)) := by
      have := z_bc a4
      rw [List.length_map] at this
      rw [(b9.2 w hw).2.2]
      exact this
    have hsv : deposit * ((Int32.ofNat ((A.2.2.1.2.2.2 w).length - 1) + 1) - Int32.ofNat (kS A (A.2.2.1.2.1 w)).length) = Int32.ofNat (A.2.2.2.1 2 * ((A.2.2.1.2.2.2 w).length - (kS A (A.2.2.1.2.1 w)).length)) := by
      rw [b3, i_1, J_add, Nat.sub_add_cancel hpl, J_sub _ _ (kS_ok hcI hw).2.1, J_mul]
    have hshr : fX9_shared (Int32.ofNat w) (Int32.ofNat v) b.2.2.2.2.2.2.1 b.2.2.2.2.2.2.2 = some (Int32.ofNat (sm (fun q => if q ∈ A.2.2.1.2.2.2 w ∧ q ∈ A.2.2.1.2.2.2 v then 1 else 0) A.2.1.1)) := e_shared hc hcI hw hv
    rw [if_neg (by rw [J_eq0 _ (by omega)]; exact w0), e4, gb2_some, e5, gb2_some, hfew, gb1_some, r1, gb3_some, if_neg (setIx (show w < 17 by omega) (by decide)), J_nat w (by omega), hways, gb1_some, if_pos rfl, r2, gb3_some, if_pos rfl, r3, gb3_some, if_neg (setIx' (show w < 17 by omega) (by decide)), hbc, gb1_some, if_pos hsv.symm, b8.1]
    refine (congrArg (fun z => Ok z _) (z_shared_L hB0 hI hw hv (by decide) _ A.2.1.1 FU 0 (by omega) (by simp only [FU]; omega))).mpr ?_
    rw [hshr, gb1_some, if_pos rfl, show (3 : Int32) = Int32.ofNat 3 from rfl, e6, gb2_some]
    by_cases y0 : 0 < y
    · rw [if_pos (by rw [i_0, J_lt _ _ (by omega) (by omega)]; exact y0)]
      exact ok_some ⟨rfl, rfl⟩
    · obtain ⟨⟨r, V', C', S'⟩, eb, hr⟩ := z_bestP hc hB0 hI hw V C3 S3
      simp only at hr
      subst hr
      rw [if_neg (by rw [i_0, J_lt _ _ (by omega) (by omega)]; exact y0), ← b8.1, ← b9.1, eb, gb4_some, if_neg (by decide)]
      exact ok_some ⟨rfl, rfl⟩
end AS
