/-! uses begun and ended, a word stored: the law's book against the abstract one -/
theorem J_eq0 (a : Nat) (h : a < 2147483648) : (Int32.ofNat a = 0) = (a = 0) := by rw [i_0, J_eq _ _ h (by omega)]
theorem lP_use {p : aPs} {n : Int32} {code paid owner uses idle : Nat → Int32} (h : lP p n code paid owner uses idle) {q : Nat} (hq : q < p.1) : lP (pUse p q) n code paid owner (upd uses q (Int32.ofNat (p.2.2.2.2.1 q + 1))) idle := by
  refine ⟨h.1, fun i hi => ?_⟩
  have := h.2 i hi
  by_cases c : i = q
  · subst c
    simp only [pUse, upd_eq, up_eq]
    exact ⟨this.1, this.2.1, this.2.2.1, trivial, fun z => by omega⟩
  · simp only [pUse, upd_ne _ _ _ _ c, up_ne _ _ _ _ c]
    exact this
theorem lP_end {p : aPs} {n : Int32} {code paid owner uses idle : Nat → Int32} (h : lP p n code paid owner uses idle) {q : Nat} (hq : q < p.1) (hu : 1 ≤ p.2.2.2.2.1 q) (t : Int32) : lP (pEnd p q t) n code paid owner (upd uses q (Int32.ofNat (p.2.2.2.2.1 q - 1))) (if p.2.2.2.2.1 q - 1 = 0 then upd idle q t else idle) := by
  refine ⟨h.1, fun i hi => ?_⟩
  have hi2 : i < p.1 := hi
  have := h.2 i hi2
  by_cases c : i = q
  · subst c
    simp only [pEnd, upd_eq, up_eq]
    refine ⟨this.1, this.2.1, this.2.2.1, trivial, fun z => ?_⟩
    rw [if_pos z, upd_eq, if_pos (by omega), up_eq]
  · simp only [pEnd, upd_ne _ _ _ _ c, up_ne _ _ _ _ c]
    refine ⟨this.1, this.2.1, this.2.2.1, this.2.2.2.1, fun z => ?_⟩
    have e1 : (if p.2.2.2.2.1 q - 1 = 0 then upd idle q t else idle) i = idle i := by
      split
      · exact upd_ne _ _ _ _ c
      · rfl
    have e2 : (if p.2.2.2.2.1 q = 1 then up p.2.2.2.2.2 q t else p.2.2.2.2.2) i = p.2.2.2.2.2 i := by
      split
      · exact up_ne _ _ _ _ c
      · rfl
    rw [e1, e2]
    exact this.2.2.2.2 z
theorem pUses_le : ∀ (idx : List Nat) (p : aPs) (q : Nat), (pUses p idx).2.2.2.2.1 q ≤ p.2.2.2.2.1 q + idx.length
  | [], p, q => Nat.le_refl _
  | x :: idx, p, q => by
    have h := pUses_le idx (pUse p x) q
    have h2 : (pUse p x).2.2.2.2.1 q ≤ p.2.2.2.2.1 q + 1 := by
      show up p.2.2.2.2.1 x (p.2.2.2.2.1 x + 1) q ≤ _
      by_cases c : q = x
      · rw [c, up_eq]
        exact Nat.le_refl _
      · rw [up_ne _ _ _ _ c]
        omega
    show (pUses (pUse p x) idx).2.2.2.2.1 q ≤ _
    rw [List.length_cons]
    omega
theorem take_snoc {α : Type} {l : List α} {i : Nat} {x : α} (h : l[i]? = some x) : l.take (i + 1) = l.take i ++ [x] := by
  rw [List.take_succ, h]
  rfl
theorem cnt_take {l : List Nat} {i x : Nat} (h : l[i]? = some x) : (l.take i).count x + 1 ≤ l.count x := by
  have e : l.take (i + 1) ++ l.drop (i + 1) = l := List.take_append_drop _ _
  rw [take_snoc h] at e
  have := congrArg (List.count x) e
  rw [List.count_append, List.count_append, List.count_singleton_self] at this
  omega
section ZU
variable {p : aPs} {n : Int32} {code paid owner uses idle : Nat → Int32} {l : List Nat} {s : Nat} {ps : List (List Nat)} {t : Int32}
theorem z_uses1 (h : lP p n code paid owner uses idle) (o : oP p) (hb : ∀ q, q < p.1 → p.2.2.2.2.1 q < 900000) (hl : ab l) (h9 : l.length ≤ 9) (hS : isS l s ps) (hk : ∀ x ∈ ps, fnd p.1 p.2.1 x < p.1) : Ok (fX10_uses (Int32.ofNat (cd l)) (Int32.ofNat s) 1 n t code uses idle) (fun r => lP (pUses p (ps.map (fnd p.1 p.2.1))) n code paid owner r.1 r.2) := by
  have hlen : ps.length ≤ 10 := by
    have := hS.2.2
    have := pc_lt' s hS.1
    omega
  have hlen0 := hS.2.2
  have hC := lC_of h o
  have h24 := o.1
  have key : ∀ (d m i : Nat) (uses' idle' : Nat → Int32), i + d = ps.length → d < m → lP (pUses p ((ps.map (fnd p.1 p.2.1)).take i)) n code paid owner uses' idle' → Ok (fX10_uses_L3 (Int32.ofNat (cd l)) (Int32.ofNat s) 1 n t code (fun a b => some (a, b)) m (Int32.ofNat i) uses' idle') (fun r => lP (pUses p (ps.map (fnd p.1 p.2.1))) n code paid owner r.1 r.2) := by
    intro d
    induction d with
    | zero =>
      intro m i uses' idle' e hm hj
      obtain ⟨m, rfl⟩ : ∃ x, m = x + 1 := ⟨m - 1, by omega⟩
      rw [fX10_uses_L3, z_bc hS, gb1_some, if_pos (by rw [J_lt _ _ (by omega) (by omega)]; omega)]
      rw [List.take_of_length_le (by rw [List.length_map]; omega)] at hj
      exact ok_some hj
    | succ d ih =>
      intro m i uses' idle' e hm hj
      obtain ⟨m, rfl⟩ : ∃ x, m = x + 1 := ⟨m - 1, by omega⟩
      have hi : i < ps.length := by omega
      have hpi : ps[i]? = some ps[i] := List.getElem?_eq_getElem hi
      have hab := isS_ab hl hS ps[i] (List.getElem_mem hi)
      have hfn := hk ps[i] (List.getElem_mem hi)
      have hix := nr_ix hfn h24
      have hti : (ps.map (fnd p.1 p.2.1))[i]? = some (fnd p.1 p.2.1 ps[i]) := by rw [List.getElem?_map, hpi]; rfl
      have hn := pUses_n ((ps.map (fnd p.1 p.2.1)).take i) p
      have hq : fnd p.1 p.2.1 ps[i] < (pUses p ((ps.map (fnd p.1 p.2.1)).take i)).1 := by rw [hn.1]; exact hfn
      have hle := pUses_le ((ps.map (fnd p.1 p.2.1)).take i) p (fnd p.1 p.2.1 ps[i])
      have hb1 := hb _ hfn
      rw [List.length_take, List.length_map] at hle
      have hu := (hj.2 _ hq).2.2.2.1
      have hnx := lP_use hj hq
      rw [fX10_uses_L3, z_bc hS, gb1_some, if_neg (by rw [J_lt _ _ (by omega) (by omega)]; omega), z_piece hl h9 hS (by omega), hpi, gb1_some]
      show Ok (gb1 (fX10_find (Int32.ofNat (cd ps[i])) n code) _) _
      rw [h.1, z_find hC hab.1 (by omega), gb1_some, if_neg hix.1, if_neg hix.1]
      simp only [Lt_eq]
      rw [if_neg hix.1, hix.2, upd_eq, hu, i_1, J_add, if_neg (by rw [i_0, J_eq _ _ (by omega) (by omega)]; omega), J_add, ← i_1, ← h.1]
      refine ih m (i + 1) _ _ (by omega) (by omega) ?_
      rw [take_snoc hti, pUses_snoc]
      exact hnx
  rw [fX10_uses]
  exact key ps.length FU 0 uses idle (by omega) (by simp only [FU]; omega) h
theorem z_usesE (h : lP p n code paid owner uses idle) (o : oP p) (hb : ∀ q, q < p.1 → p.2.2.2.2.1 q < 1000000) (hl : ab l) (h9 : l.length ≤ 9) (hS : isS l s ps) (hk : ∀ x ∈ ps, fnd p.1 p.2.1 x < p.1) (hc : ∀ q, (ps.map (fnd p.1 p.2.1)).count q ≤ p.2.2.2.2.1 q) : Ok (fX10_uses (Int32.ofNat (cd l)) (Int32.ofNat s) (-1) n t code uses idle) (fun r => lP (pEnds t p (ps.map (fnd p.1 p.2.1))) n code paid owner r.1 r.2) := by
  have hlen : ps.length ≤ 10 := by
    have := hS.2.2
    have := pc_lt' s hS.1
    omega
  have hlen0 := hS.2.2
  have hC := lC_of h o
  have h24 := o.1
  have key : ∀ (d m i : Nat) (uses' idle' : Nat → Int32), i + d = ps.length → d < m → lP (pEnds t p ((ps.map (fnd p.1 p.2.1)).take i)) n code paid owner uses' idle' → Ok (fX10_uses_L3 (Int32.ofNat (cd l)) (Int32.ofNat s) (-1) n t code (fun a b => some (a, b)) m (Int32.ofNat i) uses' idle') (fun r => lP (pEnds t p (ps.map (fnd p.1 p.2.1))) n code paid owner r.1 r.2) := by
    intro d
    induction d with
    | zero =>
      intro m i uses' idle' e hm hj
      obtain ⟨m, rfl⟩ : ∃ x, m = x + 1 := ⟨m - 1, by omega⟩
      rw [fX10_uses_L3, z_bc hS, gb1_some, if_pos (by rw [J_lt _ _ (by omega) (by omega)]; omega)]
      rw [List.take_of_length_le (by rw [List.length_map]; omega)] at hj
      exact ok_some hj
    | succ d ih =>
      intro m i uses' idle' e hm hj
      obtain ⟨m, rfl⟩ : ∃ x, m = x + 1 := ⟨m - 1, by omega⟩
      have hi : i < ps.length := by omega
      have hpi : ps[i]? = some ps[i] := List.getElem?_eq_getElem hi
      have hab := isS_ab hl hS ps[i] (List.getElem_mem hi)
      have hfn := hk ps[i] (List.getElem_mem hi)
      have hix := nr_ix hfn h24
      have hti : (ps.map (fnd p.1 p.2.1))[i]? = some (fnd p.1 p.2.1 ps[i]) := by rw [List.getElem?_map, hpi]; rfl
      obtain ⟨n1, n2, n3, n4, n5⟩ := pEnds_n t ((ps.map (fnd p.1 p.2.1)).take i) p
      have hq : fnd p.1 p.2.1 ps[i] < (pEnds t p ((ps.map (fnd p.1 p.2.1)).take i)).1 := by rw [n1]; exact hfn
      have hct := cnt_take hti
      have hc1 := hc (fnd p.1 p.2.1 ps[i])
      have hb1 := hb _ hfn
      have n5' := n5 (fnd p.1 p.2.1 ps[i])
      have hu := (hj.2 _ hq).2.2.2.1
      have hnx := lP_end hj hq (by omega) t
      rw [fX10_uses_L3, z_bc hS, gb1_some, if_neg (by rw [J_lt _ _ (by omega) (by omega)]; omega), z_piece hl h9 hS (by omega), hpi, gb1_some]
      show Ok (gb1 (fX10_find (Int32.ofNat (cd ps[i])) n code) _) _
      rw [h.1, z_find hC hab.1 (by omega), gb1_some, if_neg hix.1, if_neg hix.1]
      simp only [Lt_eq]
      rw [if_neg hix.1, hix.2, upd_eq, hu, show (-1 : Int32) = M1 from rfl, J_dec _ (by omega)]
      simp only [J_eq0 _ (show (pEnds t p ((ps.map (fnd p.1 p.2.1)).take i)).2.2.2.2.1 (fnd p.1 p.2.1 ps[i]) - 1 < 2147483648 by omega)]
      have fin := fun a b hh => ih m (i + 1) a b (by omega) (by omega) hh
      rw [take_snoc hti] at fin
      have es : pEnds t p ((ps.map (fnd p.1 p.2.1)).take i ++ [fnd p.1 p.2.1 ps[i]]) = pEnd (pEnds t p ((ps.map (fnd p.1 p.2.1)).take i)) (fnd p.1 p.2.1 ps[i]) t := by
        unfold pEnds
        rw [List.foldl_append]
        rfl
      rw [es] at fin
      by_cases g : (pEnds t p ((ps.map (fnd p.1 p.2.1)).take i)).2.2.2.2.1 (fnd p.1 p.2.1 ps[i]) - 1 = 0
      · rw [if_pos g, if_neg (by have := hix.1; rw [hix.2] at this; exact this), i_1, J_add, ← h.1, show M1 = (-1 : Int32) from rfl]
        rw [if_pos g] at hnx
        exact fin _ _ hnx
      · rw [if_neg g, i_1, J_add, ← h.1, show M1 = (-1 : Int32) from rfl]
        rw [if_neg g] at hnx
        exact fin _ _ hnx
  rw [fX10_uses]
  exact key ps.length FU 0 uses idle (by omega) (by simp only [FU]; omega) h
end ZU
/-- the law's whole book stands for the abstract one -/
def lW (w : aWs) (pl : Nat → List Nat) (n : Int32) (user word cut : Nat → Int32) : Prop := n = Int32.ofNat w.1 ∧ ∀ i, i < w.1 → user i = Int32.ofNat (w.2.2.1 i) ∧ word i = Int32.ofNat (cd (w.2.1 i)) ∧ cut i = Int32.ofNat (setL (w.2.1 i).length 0 (((w.2.2.2 i).map pl).map List.length))
def lB (A : aB) (price letter deposit keep refund users pieces words time chest fund : Int32) (coins accounts code paid owner uses idle user word cut : Nat → Int32) : Prop :=
  (price = Int32.ofNat (A.2.2.2.1 0) ∧ letter = Int32.ofNat (A.2.2.2.1 1) ∧ deposit = Int32.ofNat (A.2.2.2.1 2) ∧ keep = Int32.ofNat (A.2.2.2.1 3) ∧ refund = Int32.ofNat (A.2.2.2.1 4)) ∧ users = Int32.ofNat A.1.1 ∧ (∀ u, u < A.1.1 → coins u = Int32.ofNat (A.1.2.2 u)) ∧ lP A.2.1 pieces code paid owner uses idle ∧ lW A.2.2.1 A.2.1.2.1 words user word cut ∧ (∀ i, i < 6 → accounts i = A.2.2.2.2.1 i) ∧ time = A.2.2.2.2.2.1 ∧ chest = A.2.2.2.2.2.2.1 ∧ fund = A.2.2.2.2.2.2.2
/-- what holds of every book of the law, besides Inv -/
def Iv (A : aB) : Prop := Inv A ∧ (∀ q, q < A.2.1.1 → ab (A.2.1.2.1 q)) ∧ (∀ q q', q < A.2.1.1 → q' < A.2.1.1 → A.2.1.2.1 q = A.2.1.2.1 q' → q = q') ∧ (∀ i, i < A.2.2.1.1 → (A.2.2.1.2.1 i).length ≤ 9) ∧ 1 ≤ A.1.1 ∧ A.1.1 ≤ 3
theorem fnd_self {np : Nat} {pl : Nat → List Nat} (hd : ∀ q q', q < np → q' < np → pl q = pl q' → q = q') {q : Nat} (hq : q < np) : fnd np pl (pl q) = q := by
  have key : ∀ (d j : Nat), j + d = np → j ≤ q → fndF pl (pl q) j d = q := by
    intro d
    induction d with
    | zero => intro j h1 h2; omega
    | succ d ih =>
      intro j h1 h2
      unfold fndF
      by_cases c : pl j = pl q
      · rw [if_pos c]
        exact hd j q (by omega) hq c
      · rw [if_neg c]
        refine ih (j + 1) (by omega) ?_
        rcases Nat.lt_or_ge j q with g | g
        · exact g
        · exact absurd (by rw [show j = q by omega]) c
  exact key np 0 (by omega) (Nat.zero_le _)
theorem fnd_selfs {np : Nat} {pl : Nat → List Nat} (hd : ∀ q q', q < np → q' < np → pl q = pl q' → q = q') : ∀ (idx : List Nat), (∀ q ∈ idx, q < np) → (idx.map pl).map (fnd np pl) = idx
  | [], _ => rfl
  | q :: idx, h => by
    rw [List.map_cons, List.map_cons, fnd_self hd (h q List.mem_cons_self), fnd_selfs hd idx (fun x hx => h x (List.mem_cons_of_mem _ hx))]
theorem Iv_oP {A : aB} (h : Iv A) : oP A.2.1 := by
  obtain ⟨⟨_, i2, _⟩, h2, _⟩ := h
  refine ⟨i2.1, fun q hq => ⟨h2 q hq, (i2.2 q hq).2.2.1, fun z => ?_⟩⟩
  have := (i2.2 q hq).2.1
  rw [z] at this
  exact absurd this (by decide)
/-- a stored word: its letters, its set and its pieces -/
theorem Iv_word {A : aB} (h : Iv A) {i : Nat} (hi : i < A.2.2.1.1) : ab (A.2.2.1.2.1 i) ∧ (A.2.2.1.2.1 i).length ≤ 9 ∧ 0 < (A.2.2.1.2.1 i).length ∧ isS (A.2.2.1.2.1 i) (setL (A.2.2.1.2.1 i).length 0 (((A.2.2.1.2.2.2 i).map A.2.1.2.1).map List.length)) ((A.2.2.1.2.2.2 i).map A.2.1.2.1) ∧ (∀ x ∈ (A.2.2.1.2.2.2 i).map A.2.1.2.1, fnd A.2.1.1 A.2.1.2.1 x < A.2.1.1) ∧ ((A.2.2.1.2.2.2 i).map A.2.1.2.1).map (fnd A.2.1.1 A.2.1.2.1) = A.2.2.1.2.2.2 i := by
  have o := Iv_oP h
  obtain ⟨⟨i1, i2, i3, i4, i5, i6⟩, h2, h3, h4, h5, h6⟩ := h
  obtain ⟨w1, w2, w3, w4, w5⟩ := i3.2 i hi
  have hab : ab (A.2.2.1.2.1 i) := by
    rw [w3]
    intro x hx
    obtain ⟨s, hs, hxs⟩ := List.mem_flatten.mp hx
    obtain ⟨q, hq, rfl⟩ := List.mem_map.mp hs
    exact h2 q (w2 q hq) x hxs
  have h9 := h4 i hi
  have h0 : 0 < (A.2.2.1.2.1 i).length := List.length_pos_iff.mpr w4
  refine ⟨hab, h9, h0, isS_of h9 h0 w3.symm ?_, ?_, fnd_selfs h3 _ w2⟩
  · intro s hs
    obtain ⟨q, hq, rfl⟩ := List.mem_map.mp hs
    exact (o.2 q (w2 q hq)).2.2
  · intro x hx
    obtain ⟨q, hq, rfl⟩ := List.mem_map.mp hx
    rw [fnd_self h3 (w2 q hq)]
    exact w2 q hq
