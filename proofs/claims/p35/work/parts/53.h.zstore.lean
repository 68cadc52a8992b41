/-! the law's book against the abstract one: pieces come, are bought, used, no more used -/
def lP (p : aPs) (n : Int32) (code paid owner uses idle : Nat → Int32) : Prop := n = Int32.ofNat p.1 ∧ ∀ q, q < p.1 → code q = Int32.ofNat (cd (p.2.1 q)) ∧ paid q = Int32.ofNat (p.2.2.1 q) ∧ owner q = p.2.2.2.1 q ∧ uses q = Int32.ofNat (p.2.2.2.2.1 q) ∧ (p.2.2.2.2.1 q = 0 → idle q = p.2.2.2.2.2 q)
def oP (p : aPs) : Prop := p.1 ≤ 24 ∧ ∀ q, q < p.1 → ab (p.2.1 q) ∧ (p.2.1 q).length ≤ 6 ∧ p.2.1 q ≠ []
def oR (s : List Nat) : Prop := ab s ∧ s.length ≤ 6 ∧ s ≠ []
theorem lC_of {p : aPs} {n : Int32} {code paid owner uses idle : Nat → Int32} (h : lP p n code paid owner uses idle) (o : oP p) : lC p.1 p.2.1 code := ⟨o.1, fun k hk => ⟨(h.2 k hk).1, o.2 k hk⟩⟩
theorem oP_add {p : aPs} (o : oP p) {s : List Nat} (hs : oR s) (hn : p.1 < 24) (pd : Nat) (own t : Int32) : oP (pAdd p s pd own t) := by
  refine ⟨by simp only [pAdd]; omega, fun q hq => ?_⟩
  simp only [pAdd] at hq ⊢
  by_cases c : q = p.1
  · rw [c, up_eq]
    exact hs
  · rw [up_ne _ _ _ _ c]
    exact o.2 q (by omega)
theorem oP_buys {st : Nat → Nat} {u t : Int32} : ∀ (fr : List (List Nat)) (p : aPs), oP p → (∀ s ∈ fr, oR s) → p.1 + fr.length ≤ 24 → oP (pBuys st u t p fr)
  | [], p, o, _, _ => o
  | s :: fr, p, o, h, hn => by
    rw [List.length_cons] at hn
    exact oP_buys fr (pBuy st u t p s) (oP_add o (h s List.mem_cons_self) (by omega) _ _ _) (fun x hx => h x (List.mem_cons_of_mem _ hx)) (by show p.1 + 1 + fr.length ≤ 24; omega)
section ZS
variable {p : aPs} {n : Int32} {code paid owner uses idle coins accounts : Nat → Int32} {st : Nat → Nat}
theorem z_comes (h : lP p n code paid owner uses idle) (hn : p.1 ≤ 24) (s : List Nat) (pd : Nat) (own t : Int32) : Ok (fX10_comes (Int32.ofNat (cd s)) (Int32.ofNat pd) own n t code paid owner uses idle) (fun r => lP (pAdd p s pd own t) r.1 r.2.1 r.2.2.1 r.2.2.2.1 r.2.2.2.2.1 r.2.2.2.2.2) := by
  obtain ⟨e, h⟩ := h
  subst e
  simp (disch := omega) only [fX10_comes, J_lt, J_le, J_eq, J_nat, J_add, J_mul, J_sub, J_ne1, J_m1, J_le1, J_1le, J_1lt, J_lt1, J_dec, J_dec0, M1_def, M1_neg, n_leF, n_leT, n_ltF, n_ltT, false_or, or_false, true_or, or_true, and_true, true_and, false_and, and_false, not_true_eq_false, not_false_eq_true, if_true, if_false, ite_true, ite_false, Lt_eq, cmpJ, gb1_some, gb2_some, gb3_some, gb4_some, gb5_some, gb6_some, gb7_some, gb8_some, Nat.add_zero, Nat.zero_add, Nat.add_sub_cancel, i_0, i_1, i_2, i_3, i_4, i_5, i_6, i_7, i_8, i_9, i_10, i_11, i_12, i_13, i_14, i_15, i_16, i_17, i_18, i_19, i_20, i_21, i_22, i_23, i_24, i_25, i_26, i_27, i_28, i_29, i_31, i_32, i_48, i_57, i_59, i_61, i_63, i_72, i_96, i_97, i_99, i_100, i_122, i_128, i_141, i_160, i_192, i_255, i_256, i_365, i_600, i_730, i_3650, i_9999, i_1000000, -Int32.reduceOfNat]
  refine ok_some ⟨rfl, fun i hi => ?_⟩
  by_cases c : i = p.1
  · subst c
    simp only [pAdd, upd_eq, up_eq]
    exact ⟨trivial, trivial, trivial, trivial, fun _ => trivial⟩
  · have hi2 : i < p.1 := by simp only [pAdd] at hi; omega
    simp only [pAdd, upd_ne _ _ _ _ c, up_ne _ _ _ _ c]
    exact h i hi2
theorem z_buys (h : lP p n code paid owner uses idle) (hn : p.1 ≤ 24) {s : List Nat} (hs : ab s) (hl : s.length ≤ 9) {u c : Nat} (hu : u < 4) (hc : coins u = Int32.ofNat c) (hle : st 0 + st 1 * s.length ≤ c) (t chest : Int32) : Ok (fX10_buys (Int32.ofNat (cd s)) (Int32.ofNat u) (Int32.ofNat (st 0)) (Int32.ofNat (st 1)) n t chest coins accounts code paid owner uses idle) (fun r => lP (pBuy st (Int32.ofNat u) t p s) r.1 r.2.2.2.2.1 r.2.2.2.2.2.1 r.2.2.2.2.2.2.1 r.2.2.2.2.2.2.2.1 r.2.2.2.2.2.2.2.2 ∧ r.2.1 = chest + Int32.ofNat (st 0 + st 1 * s.length) ∧ r.2.2.1 = upd coins u (Int32.ofNat (c - (st 0 + st 1 * s.length))) ∧ ∀ i, r.2.2.2.1 i = if i = 0 then accounts 0 + Int32.ofNat (st 0 + st 1 * s.length) else if i = 4 then accounts 4 + Int32.ofNat 1 else accounts i) := by
  obtain ⟨⟨r0, r1, r2, r3, r4, r5⟩, e, hr⟩ := z_comes h hn s (st 0 + st 1 * s.length) (Int32.ofNat u) t
  have hu1 : ¬ (Int32.ofNat u < 0 ∨ 4 ≤ (Int32.ofNat u).toNatClampNeg) := by
    rw [J_nat _ (by omega), J_neg _ (by omega)]
    simp
    omega
  rw [fX10_buys, z_price hs hl, gb1_some, if_neg hu1, if_neg hu1]
  simp only [Lt_eq]
  rw [e, gb6_some, J_nat _ (by omega), hc, J_sub _ _ hle]
  refine ok_some ⟨hr, rfl, rfl, fun i => ?_⟩
  show upd (upd accounts 0 _) 4 _ i = _
  unfold upd
  by_cases c4 : i = 4
  · subst c4
    simp
  · by_cases c0 : i = 0
    · subst c0
      simp
    · simp [c4, c0]
theorem nr_ix {np : Nat} {pl : Nat → List Nat} {s : List Nat} (h : fnd np pl s < np) (hn : np ≤ 24) : ¬ (nr np pl s < 0 ∨ 25 ≤ (nr np pl s).toNatClampNeg) ∧ (nr np pl s).toNatClampNeg = fnd np pl s := by
  unfold nr
  rw [if_pos h, J_nat _ (by omega), J_neg _ (by omega)]
  constructor
  · simp
    omega
  · rfl
/-- the loop that buys what is new: what holds before piece k -/
def jL (p : aPs) (st : Nat → Nat) (u c : Nat) (t chest : Int32) (co acc : Nat → Int32) (fr : List (List Nat)) (n' chest' : Int32) (coins' accounts' code' paid' owner' uses' idle' : Nat → Int32) : Prop :=
  lP (pBuys st (Int32.ofNat u) t p fr) n' code' paid' owner' uses' idle' ∧ chest' = chest + Int32.ofNat (prS st fr) ∧ coins' u = Int32.ofNat (c - prS st fr) ∧ (∀ i, i ≠ u → coins' i = co i) ∧ ∀ i, i < 6 → accounts' i = sBuy acc (prS st fr) fr.length i
theorem sBuy_st {acc a1 a2 : Nat → Int32} {x y z : Nat} (h : ∀ i, i < 6 → a1 i = sBuy acc x y i) (h2 : ∀ i, a2 i = if i = 0 then a1 0 + Int32.ofNat z else if i = 4 then a1 4 + Int32.ofNat 1 else a1 i) : ∀ i, i < 6 → a2 i = sBuy acc (x + z) (y + 1) i := by
  intro i hi
  have h0 := h 0 (by omega)
  have h4 := h 4 (by omega)
  have hi' := h i hi
  rw [h2 i]
  unfold sBuy at h0 h4 hi' ⊢
  by_cases c0 : i = 0
  · rw [if_pos c0, if_pos c0, h0, if_pos rfl, I_assoc]
  · rw [if_neg c0, if_neg c0]
    by_cases c4 : i = 4
    · rw [if_pos c4, if_pos c4, h4, if_neg (by decide), if_pos rfl, I_assoc]
    · rw [if_neg c4, if_neg c4, hi', if_neg c0, if_neg c4]
theorem z_store_L (o : oP p) (h0 : st 0 ≤ 99) (h1 : st 1 ≤ 9) {l : List Nat} (hl : ab l) (h9 : l.length ≤ 9) {s : Nat} {ps : List (List Nat)} (hS : isS l s ps) (hps : ∀ x ∈ ps, oR x) (hroom : p.1 + (frs p.1 p.2.1 [] ps).length ≤ 24) {u c : Nat} (hu : u < 4) (hcoin : prS st (frs p.1 p.2.1 [] ps) ≤ c) {t chest : Int32} {co acc : Nat → Int32}
    {k : Int32 → Int32 → (Nat → Int32) → (Nat → Int32) → (Nat → Int32) → (Nat → Int32) → (Nat → Int32) → (Nat → Int32) → (Nat → Int32) → Option (Int32 × Int32 × Int32 × Int32 × (Nat → Int32) × (Nat → Int32) × (Nat → Int32) × (Nat → Int32) × (Nat → Int32) × (Nat → Int32) × (Nat → Int32) × (Nat → Int32) × (Nat → Int32) × (Nat → Int32))} {Q : Int32 × Int32 × Int32 × Int32 × (Nat → Int32) × (Nat → Int32) × (Nat → Int32) × (Nat → Int32) × (Nat → Int32) × (Nat → Int32) × (Nat → Int32) × (Nat → Int32) × (Nat → Int32) × (Nat → Int32) → Prop}
    (hk : ∀ n' chest' coins' accounts' code' paid' owner' uses' idle', jL p st u c t chest co acc (frs p.1 p.2.1 [] ps) n' chest' coins' accounts' code' paid' owner' uses' idle' → Ok (k n' chest' coins' accounts' code' paid' owner' uses' idle') Q) : ∀ (d m i : Nat) (n' chest' : Int32) (coins' accounts' code' paid' owner' uses' idle' : Nat → Int32), i + d = ps.length → d < m → jL p st u c t chest co acc (frs p.1 p.2.1 [] (ps.take i)) n' chest' coins' accounts' code' paid' owner' uses' idle' → Ok (fX10_store_L11 (Int32.ofNat u) (Int32.ofNat (cd l)) (Int32.ofNat s) (Int32.ofNat (st 0)) (Int32.ofNat (st 1)) t k m (Int32.ofNat i) n' chest' coins' accounts' code' paid' owner' uses' idle') Q := by
  have hlen : ps.length ≤ 10 := by
    have := hS.2.2
    have := pc_lt' s hS.1
    omega
  have hlen0 := hS.2.2
  intro d
  induction d with
  | zero =>
    intro m i n' chest' coins' accounts' code' paid' owner' uses' idle' e hm hj
    obtain ⟨m, rfl⟩ : ∃ x, m = x + 1 := ⟨m - 1, by omega⟩
    have ei : i = ps.length := by omega
    rw [fX10_store_L11, z_bc hS, gb1_some, if_pos (by rw [J_lt _ _ (by omega) (by omega)]; omega)]
    rw [ei, List.take_length] at hj
    exact hk _ _ _ _ _ _ _ _ _ hj
  | succ d ih =>
    intro m i n' chest' coins' accounts' code' paid' owner' uses' idle' e hm hj
    obtain ⟨m, rfl⟩ : ∃ x, m = x + 1 := ⟨m - 1, by omega⟩
    have hi : i < ps.length := by omega
    have hpi : ps[i]? = some ps[i] := List.getElem?_eq_getElem hi
    obtain ⟨r1, r2, r3⟩ := hps ps[i] (List.getElem_mem hi)
    have hstep := frs_tk p.1 p.2.1 ps hpi
    have hle := frs_take p.1 p.2.1 st ps
    obtain ⟨j1, j2, j3, j4, j5⟩ := hj
    have hfr : ∀ x ∈ frs p.1 p.2.1 [] (ps.take i), oR x := by
      intro x hx
      have := (frs_iff p.1 p.2.1 x (ps.take i) []).mp hx
      rcases this with z | ⟨z, _⟩
      · exact absurd z List.not_mem_nil
      · exact hps x (List.mem_of_mem_take z)
    have ok1 := oP_buys (st := st) (u := Int32.ofNat u) (t := t) (frs p.1 p.2.1 [] (ps.take i)) p o hfr (by have := (hle i).1; omega)
    have hC := lC_of j1 ok1
    have hkn := kn_buys (st := st) (u := Int32.ofNat u) (t := t) (frs p.1 p.2.1 [] (ps.take i)) p ps[i]
    have hin : ps[i] ∈ frs p.1 p.2.1 [] (ps.take i) ↔ ps[i] ∈ ps.take i ∧ ¬ fnd p.1 p.2.1 ps[i] < p.1 := by
      rw [frs_iff]
      simp
    rw [fX10_store_L11, z_bc hS, gb1_some, if_neg (by rw [J_lt _ _ (by omega) (by omega)]; omega), z_piece hl h9 hS (by omega), hpi, gb1_some]
    show Ok (gb1 (fX10_find (Int32.ofNat (cd ps[i])) n' code') _) Q
    rw [j1.1, z_find hC r1 (by omega), gb1_some]
    have ihn := fun n'' c'' a b c2 d2 e2 f2 g2 hh => ih m (i + 1) n'' c'' a b c2 d2 e2 f2 g2 (by omega) (by omega) hh
    by_cases g : ps[i] ∈ ps.take i ∨ fnd p.1 p.2.1 ps[i] < p.1
    · have hlt : fnd (pBuys st (Int32.ofNat u) t p (frs p.1 p.2.1 [] (ps.take i))).1 (pBuys st (Int32.ofNat u) t p (frs p.1 p.2.1 [] (ps.take i))).2.1 ps[i] < (pBuys st (Int32.ofNat u) t p (frs p.1 p.2.1 [] (ps.take i))).1 := by
        rw [hkn, hin]
        by_cases g2 : fnd p.1 p.2.1 ps[i] < p.1
        · exact Or.inl g2
        · exact Or.inr ⟨g.resolve_right g2, g2⟩
      have h24 := ok1.1
      unfold nr
      rw [if_pos hlt, if_pos (by rw [J_0le _ (by omega)]; trivial), i_1, J_add]
      rw [hstep, if_pos g] at ihn
      rw [← j1.1]
      exact ihn _ _ _ _ _ _ _ _ _ ⟨j1, j2, j3, j4, j5⟩
    · have hnl : ¬ fnd (pBuys st (Int32.ofNat u) t p (frs p.1 p.2.1 [] (ps.take i))).1 (pBuys st (Int32.ofNat u) t p (frs p.1 p.2.1 [] (ps.take i))).2.1 ps[i] < (pBuys st (Int32.ofNat u) t p (frs p.1 p.2.1 [] (ps.take i))).1 := by
        rw [hkn, hin]
        rintro (z | ⟨z, _⟩)
        · exact g (Or.inr z)
        · exact g (Or.inl z)
      have ef : frs p.1 p.2.1 [] (ps.take (i + 1)) = frs p.1 p.2.1 [] (ps.take i) ++ [ps[i]] := by rw [hstep, if_neg g]
      have hl2 := hle (i + 1)
      rw [ef, prS_app, List.length_append] at hl2
      simp only [prS, List.length_cons, List.length_nil] at hl2
      unfold nr
      rw [if_neg hnl, if_neg (show ¬ (0 : Int32) ≤ M1 by decide), gb1_some]
      show Ok (gb9 (fX10_buys (Int32.ofNat (cd ps[i])) _ _ _ _ _ _ _ _ _ _ _ _ _) _) Q
      have hpn := pBuys_n st (Int32.ofNat u) t (frs p.1 p.2.1 [] (ps.take i)) p
      rw [← j1.1]
      obtain ⟨⟨q0, q1, q2, q3, q4, q5, q6, q7, q8⟩, e9, w1, w2, w3, w4⟩ := z_buys (st := st) (accounts := accounts') j1 (by omega) r1 (by omega) hu j3 (by omega) t chest'
      rw [e9, gb9_some, i_1, J_add]
      refine ihn _ _ _ _ _ _ _ _ _ ?_
      rw [ef]
      refine ⟨by rw [pBuys_snoc]; exact w1, ?_, ?_, ?_, ?_⟩
      · rw [show q1 = _ from w2, j2, I_assoc, prS_app]
        simp only [prS, Nat.add_zero]
      · rw [show q2 = _ from w3, upd_eq, prS_app]
        simp only [prS, Nat.add_zero]
        rw [Nat.sub_sub]
      · intro x hx
        rw [show q2 = _ from w3, upd_ne _ _ _ _ hx]
        exact j4 x hx
      · rw [prS_app, List.length_append]
        simp only [prS, Nat.add_zero, List.length_cons, List.length_nil]
        exact sBuy_st j5 w4
end ZS
