/-! what holds of every book of the law is kept -/
def Dp (p : aPs) : Prop := ∀ q q', q < p.1 → q' < p.1 → p.2.1 q = p.2.1 q' → q = q'
theorem Dp_add {p : aPs} (h : Dp p) {s : List Nat} (hs : ¬ fnd p.1 p.2.1 s < p.1) (pd : Nat) (own t : Int32) : Dp (pAdd p s pd own t) := by
  intro q q' hq hq' e
  have a1 : q < p.1 + 1 := hq
  have a2 : q' < p.1 + 1 := hq'
  have e' : up p.2.1 p.1 s q = up p.2.1 p.1 s q' := e
  by_cases c : q = p.1
  · by_cases c' : q' = p.1
    · omega
    · rw [c, up_eq, up_ne _ _ _ _ c'] at e'
      exact absurd (fnd_lt (show q' < p.1 by omega) e'.symm) hs
  · by_cases c' : q' = p.1
    · rw [c', up_eq, up_ne _ _ _ _ c] at e'
      exact absurd (fnd_lt (show q < p.1 by omega) e') hs
    · rw [up_ne _ _ _ _ c, up_ne _ _ _ _ c'] at e'
      exact h q q' (by omega) (by omega) e'
theorem Dp_buys {st : Nat → Nat} {u t : Int32} : ∀ (fr : List (List Nat)) (p : aPs), Dp p → (∀ s ∈ fr, ¬ fnd p.1 p.2.1 s < p.1) → fr.Nodup → Dp (pBuys st u t p fr)
  | [], _, h, _, _ => h
  | s :: fr, p, h, hs, hn => by
    obtain ⟨n1, n2⟩ := List.nodup_cons.mp hn
    refine Dp_buys fr (pBuy st u t p s) (Dp_add h (hs s List.mem_cons_self) _ _ _) (fun x hx => ?_) n2
    rw [kn_buy]
    rintro (z | z)
    · exact hs x (List.mem_cons_of_mem _ hx) z
    · exact n1 (z ▸ hx)
theorem frs_nd (np : Nat) (pl : Nat → List Nat) : ∀ (ps acc : List (List Nat)), acc.Nodup → (frs np pl acc ps).Nodup
  | [], _, h => h
  | p :: ps, acc, h => by
    rw [frs]
    refine frs_nd np pl ps _ ?_
    by_cases c : fnd np pl p < np ∨ p ∈ acc
    · rw [if_pos c]
      exact h
    · rw [if_neg c]
      refine List.nodup_append.mpr ⟨h, List.nodup_cons.mpr ⟨List.not_mem_nil, List.nodup_nil⟩, ?_⟩
      intro a ha b hb e
      rw [List.mem_singleton] at hb
      exact c (Or.inr (by rw [← hb, ← e]; exact ha))
theorem Dp_drop {p : aPs} (h : Dp p) (q : Nat) : Dp (pDrop p q) := by
  intro a b ha hb e
  have a1 : a < p.1 - 1 := ha
  have b1 : b < p.1 - 1 := hb
  have e' : sh p.2.1 q a = sh p.2.1 q b := e
  by_cases c : a < q
  · rw [sh_lo _ _ _ c] at e'
    by_cases d : b < q
    · rw [sh_lo _ _ _ d] at e'
      exact h a b (by omega) (by omega) e'
    · rw [sh_hi _ _ _ (by omega)] at e'
      have := h a (b + 1) (by omega) (by omega) e'
      omega
  · rw [sh_hi _ _ _ (by omega)] at e'
    by_cases d : b < q
    · rw [sh_lo _ _ _ d] at e'
      have := h (a + 1) b (by omega) (by omega) e'
      omega
    · rw [sh_hi _ _ _ (by omega)] at e'
      have := h (a + 1) (b + 1) (by omega) (by omega) e'
      omega
theorem Iv_time {A : aB} (h : Iv A) : Iv (aTime A) := h
theorem Iv_send {A : aB} (h : Iv A) {q : Nat} (hq : q < A.2.1.1) (hg : aGo A q) : Iv (aSend A q) := by
  obtain ⟨i, h1, h2, h3, h4, h5⟩ := h
  refine ⟨Inv_send i hq hg, fun m hm => ?_, Dp_drop h2 q, h3, h4, h5⟩
  have hm' : m < A.2.1.1 - 1 := hm
  show ab (sh A.2.1.2.1 q m)
  by_cases c : m < q
  · rw [sh_lo _ _ _ c]
    exact h1 m (by omega)
  · rw [sh_hi _ _ _ (by omega)]
    exact h1 (m + 1) (by omega)
theorem Iv_tk : ∀ (d q : Nat) (A : aB), A.2.1.1 = q + d → Iv A → Iv (aTk d q A)
  | 0, _, _, _, h => h
  | d + 1, q, A, e, h => by
    unfold aTk
    by_cases g : A.2.1.2.2.2.1 q ≠ M1 ∧ A.2.1.2.2.2.2.1 q = 0 ∧ ¬ (A.2.2.2.2.2.1 - A.2.1.2.2.2.2.2 q ≤ Int32.ofNat (A.2.2.2.1 3))
    · rw [if_pos g]
      exact Iv_tk d q (aSend A q) (by show A.2.1.1 - 1 = q + d; omega) (Iv_send h (by omega) g)
    · rw [if_neg g]
      exact Iv_tk d (q + 1) A (by omega) h
theorem Iv_T1 {A : aB} (h : Iv A) : Iv (aTk A.2.1.1 0 (aTime A)) := Iv_tk A.2.1.1 0 (aTime A) (by rw [Nat.zero_add]; rfl) (Iv_time h)
theorem Iv_end {A : aB} (h : Iv A) {i : Nat} (hi : i < A.2.2.1.1) : Iv (aEnd A i) := by
  obtain ⟨v, h1, h2, h3, h4, h5⟩ := h
  have hp := pEnds_n A.2.2.2.2.2.1 (A.2.2.1.2.2.2 i) A.2.1
  refine ⟨Inv_end v hi, fun m hm => ?_, fun m m' hm hm' e => ?_, fun x hx => ?_, h4, h5⟩
  · have hm1 : m < (pEnds A.2.2.2.2.2.1 A.2.1 (A.2.2.1.2.2.2 i)).1 := hm
    show ab ((pEnds A.2.2.2.2.2.1 A.2.1 (A.2.2.1.2.2.2 i)).2.1 m)
    rw [hp.1] at hm1
    rw [hp.2.1]
    exact h1 m hm1
  · have hm1 : m < (pEnds A.2.2.2.2.2.1 A.2.1 (A.2.2.1.2.2.2 i)).1 := hm
    have hm2 : m' < (pEnds A.2.2.2.2.2.1 A.2.1 (A.2.2.1.2.2.2 i)).1 := hm'
    have e' : (pEnds A.2.2.2.2.2.1 A.2.1 (A.2.2.1.2.2.2 i)).2.1 m = (pEnds A.2.2.2.2.2.1 A.2.1 (A.2.2.1.2.2.2 i)).2.1 m' := e
    rw [hp.1] at hm1 hm2
    rw [hp.2.1] at e'
    exact h2 m m' hm1 hm2 e'
  · have hx' : x < A.2.2.1.1 - 1 := hx
    show (sh A.2.2.1.2.1 i x).length ≤ 9
    by_cases c : x < i
    · rw [sh_lo _ _ _ c]
      exact h3 x (by omega)
    · rw [sh_hi _ _ _ (by omega)]
      exact h3 (x + 1) (by omega)
theorem Iv_cut {A : aB} (h : Iv A) {i : Nat} (hi : i < A.2.2.1.1) : Iv (aCut A i (kI A (A.2.2.1.2.1 i))) := by
  obtain ⟨v, h1, h2, h3, h4, h5⟩ := h
  have hp := pEnds_n A.2.2.2.2.2.1 (A.2.2.1.2.2.2 i) (pUses A.2.1 (kI A (A.2.2.1.2.1 i)))
  have hq := pUses_n (kI A (A.2.2.1.2.1 i)) A.2.1
  refine ⟨Inv_cut v hi, fun m hm => ?_, fun m m' hm hm' e => ?_, h3, h4, h5⟩
  · have hm1 : m < (pEnds A.2.2.2.2.2.1 (pUses A.2.1 (kI A (A.2.2.1.2.1 i))) (A.2.2.1.2.2.2 i)).1 := hm
    show ab ((pEnds A.2.2.2.2.2.1 (pUses A.2.1 (kI A (A.2.2.1.2.1 i))) (A.2.2.1.2.2.2 i)).2.1 m)
    rw [hp.1, hq.1] at hm1
    rw [hp.2.1, hq.2]
    exact h1 m hm1
  · have hm1 : m < (pEnds A.2.2.2.2.2.1 (pUses A.2.1 (kI A (A.2.2.1.2.1 i))) (A.2.2.1.2.2.2 i)).1 := hm
    have hm2 : m' < (pEnds A.2.2.2.2.2.1 (pUses A.2.1 (kI A (A.2.2.1.2.1 i))) (A.2.2.1.2.2.2 i)).1 := hm'
    have e' : (pEnds A.2.2.2.2.2.1 (pUses A.2.1 (kI A (A.2.2.1.2.1 i))) (A.2.2.1.2.2.2 i)).2.1 m = (pEnds A.2.2.2.2.2.1 (pUses A.2.1 (kI A (A.2.2.1.2.1 i))) (A.2.2.1.2.2.2 i)).2.1 m' := e
    rw [hp.1, hq.1] at hm1 hm2
    rw [hp.2.1, hq.2] at e'
    exact h2 m m' hm1 hm2 e'
theorem ab_wf {l : List Nat} (h : ab l) : wf l := fun x hx => by
  rcases h x hx with c | c <;> omega
/-- a word is stored, with the cheapest cutting -/
theorem Iv_store {A : aB} (h : Iv A) {l : List Nat} (hl : ab l) (h9 : l.length ≤ 9) (hn0 : 0 < l.length) {u : Nat} (hu : u < A.1.1) (hw16 : A.2.2.1.1 < 16)
    (hroom : A.2.1.1 + (frs A.2.1.1 A.2.1.2.1 [] (CL (sC A.2.1.1 A.2.1.2.1 A.2.2.2.1 true l) (A.2.2.2.1 2) l)).length ≤ 24) (hcoin : prS A.2.2.2.1 (frs A.2.1.1 A.2.1.2.1 [] (CL (sC A.2.1.1 A.2.1.2.1 A.2.2.2.1 true l) (A.2.2.2.1 2) l)) + A.2.2.2.1 2 * (CL (sC A.2.1.1 A.2.1.2.1 A.2.2.2.1 true l) (A.2.2.2.1 2) l).length ≤ A.1.2.2 u) : Iv (aStore A u l (CL (sC A.2.1.1 A.2.1.2.1 A.2.2.2.1 true l) (A.2.2.2.1 2) l)) := by
  have o := Iv_oP h
  obtain ⟨v, h1, h2, h3, h4, h5⟩ := h
  obtain ⟨s0, s1, s2', s2, s3, s4⟩ := v.2.2.2.2.1
  have hf := TB_b (np := A.2.1.1) (pl := A.2.1.2.1) (l := l) s0 s1 s2 h9
  have hR := CL_oR (sc := sC A.2.1.1 A.2.1.2.1 A.2.2.2.1 true l) (dep := A.2.2.2.1 2) h9 hl hf
  obtain ⟨c1, c2, c3⟩ := CL_ok (sc := sC A.2.1.1 A.2.1.2.1 A.2.2.2.1 true l) (dep := A.2.2.2.1 2) (l := l) (by omega) hf
  have hlen := CL_len (sc := sC A.2.1.1 A.2.1.2.1 A.2.2.2.1 true l) (dep := A.2.2.2.1 2) (l := l) (by omega) hf
  generalize hps : CL (sC A.2.1.1 A.2.1.2.1 A.2.2.2.1 true l) (A.2.2.2.1 2) l = ps at *
  have hfr : ∀ x ∈ frs A.2.1.1 A.2.1.2.1 [] ps, oR x ∧ ¬ fnd A.2.1.1 A.2.1.2.1 x < A.2.1.1 := by
    intro x hx
    rcases (frs_iff A.2.1.1 A.2.1.2.1 x ps []).mp hx with z | ⟨z, z2⟩
    · exact absurd z List.not_mem_nil
    · exact ⟨hR x z, z2⟩
  have hI := Inv_store v hu hw16 hlen c1 (fun z => by rw [z] at hn0; exact absurd hn0 (by decide)) (by omega) (fun s hs => ⟨ab_wf (hR s hs).1, (c3 s hs).1, (c3 s hs).2.1⟩) hroom hcoin
  have ok1 := oP_buys (st := A.2.2.2.1) (u := Int32.ofNat u) (t := A.2.2.2.2.2.1) _ A.2.1 o (fun x hx => (hfr x hx).1) hroom
  have hd := Dp_buys (st := A.2.2.2.1) (u := Int32.ofNat u) (t := A.2.2.2.2.2.1) _ A.2.1 h2 (fun x hx => (hfr x hx).2) (frs_nd A.2.1.1 A.2.1.2.1 ps [] List.nodup_nil)
  have hq := pUses_n (stI A.2.2.2.1 (Int32.ofNat u) A.2.2.2.2.2.1 A.2.1 ps) (stB A.2.2.2.1 (Int32.ofNat u) A.2.2.2.2.2.1 A.2.1 ps)
  refine ⟨hI, fun m hm => ?_, fun m m' hm hm' e => ?_, fun x hx => ?_, h4, h5⟩
  · have hm1 : m < (pUses (stB A.2.2.2.1 (Int32.ofNat u) A.2.2.2.2.2.1 A.2.1 ps) (stI A.2.2.2.1 (Int32.ofNat u) A.2.2.2.2.2.1 A.2.1 ps)).1 := hm
    show ab ((pUses (stB A.2.2.2.1 (Int32.ofNat u) A.2.2.2.2.2.1 A.2.1 ps) (stI A.2.2.2.1 (Int32.ofNat u) A.2.2.2.2.2.1 A.2.1 ps)).2.1 m)
    rw [hq.1] at hm1
    rw [hq.2]
    exact (ok1.2 m hm1).1
  · have hm1 : m < (pUses (stB A.2.2.2.1 (Int32.ofNat u) A.2.2.2.2.2.1 A.2.1 ps) (stI A.2.2.2.1 (Int32.ofNat u) A.2.2.2.2.2.1 A.2.1 ps)).1 := hm
    have hm2 : m' < (pUses (stB A.2.2.2.1 (Int32.ofNat u) A.2.2.2.2.2.1 A.2.1 ps) (stI A.2.2.2.1 (Int32.ofNat u) A.2.2.2.2.2.1 A.2.1 ps)).1 := hm'
    have e' : (pUses (stB A.2.2.2.1 (Int32.ofNat u) A.2.2.2.2.2.1 A.2.1 ps) (stI A.2.2.2.1 (Int32.ofNat u) A.2.2.2.2.2.1 A.2.1 ps)).2.1 m = (pUses (stB A.2.2.2.1 (Int32.ofNat u) A.2.2.2.2.2.1 A.2.1 ps) (stI A.2.2.2.1 (Int32.ofNat u) A.2.2.2.2.2.1 A.2.1 ps)).2.1 m' := e
    rw [hq.1] at hm1 hm2
    rw [hq.2] at e'
    exact hd m m' hm1 hm2 e'
  · have hx' : x < A.2.2.1.1 + 1 := hx
    show (up A.2.2.1.2.1 A.2.2.1.1 l x).length ≤ 9
    by_cases c : x = A.2.2.1.1
    · rw [c, up_eq]
      exact h9
    · rw [up_ne _ _ _ _ c]
      exact h3 x (by omega)
