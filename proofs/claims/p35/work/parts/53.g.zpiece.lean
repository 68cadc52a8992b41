/-! pieces of a set, new pieces, prices, refusal: the law's book -/
/-- a set that cuts l into the pieces ps -/
def isS (l : List Nat) (s : Nat) (ps : List (List Nat)) : Prop := s < 512 ∧ sl l 0 (cuts s l.length) = ps ∧ pc s + 1 = ps.length
theorem sl_len (l : List Nat) : ∀ (ns : List Nat) (i : Nat), (sl l i ns).length = ns.length
  | [], _ => rfl
  | n :: r, i => by rw [sl, List.length_cons, List.length_cons, sl_len l r]
theorem sl_flat (l : List Nat) : ∀ (ns : List Nat) (i : Nat), i + ns.sum = l.length → (sl l i ns).flatten = l.drop i
  | [], i, h => by
    have : i = l.length := by simpa using h
    rw [sl, this, List.drop_length]
    rfl
  | n :: r, i, h => by
    rw [List.sum_cons] at h
    rw [sl, List.flatten_cons, sl_flat l r (i + n) (by omega), ← List.drop_drop, List.take_append_drop]
theorem sl_lens (l : List Nat) : ∀ (ns : List Nat) (i : Nat), i + ns.sum ≤ l.length → (sl l i ns).map List.length = ns
  | [], _, _ => rfl
  | n :: r, i, h => by
    rw [List.sum_cons] at h
    rw [sl, List.map_cons, sl_lens l r (i + n) (by omega)]
    congr 1
    simp
    omega
theorem sl_of (l : List Nat) : ∀ (ps : List (List Nat)) (i : Nat), ps.flatten = l.drop i → sl l i (ps.map List.length) = ps
  | [], _, _ => rfl
  | p :: ps, i, h => by
    rw [List.flatten_cons] at h
    rw [List.map_cons, sl, ← h, List.take_left, sl_of l ps (i + p.length) (by rw [← List.drop_drop, ← h, List.drop_left])]
/-- each way to write a word as a row of pieces has its set -/
theorem isS_of {l : List Nat} (h9 : l.length ≤ 9) (hn0 : 0 < l.length) {ps : List (List Nat)} (hf : ps.flatten = l) (hp : ∀ p ∈ ps, p ≠ []) : isS l (setL l.length 0 (ps.map List.length)) ps := by
  have hsum : (ps.map List.length).sum = l.length := by rw [← hf, List.length_flatten]
  have hpos : ∀ n ∈ ps.map List.length, 1 ≤ n := by
    intro n hn
    obtain ⟨p, a, rfl⟩ := List.mem_map.mp hn
    exact List.length_pos_iff.mpr (hp p a)
  have hm := com_mem l.length (ps.map List.length) l.length (Nat.le_refl _) hsum hpos
  obtain ⟨y1, y2, y3⟩ := com_all l.length (by omega) _ hm
  obtain ⟨y3, y4⟩ := y3 hn0
  have hsl := sl_of l ps 0 (by rw [hf, List.drop_zero])
  generalize hS : setL l.length 0 (ps.map List.length) = S at *
  obtain ⟨T, rfl⟩ : ∃ T, S = 2 * T := ⟨S / 2, by omega⟩
  obtain ⟨c1, c2, c3, c4, c5, c6, c7⟩ := cuts_all l.length (by omega) hn0 T (by omega) y3
  refine ⟨y1, by rw [y4]; exact hsl, ?_⟩
  rw [y4, List.length_map] at c4
  omega
section ZP
variable {np : Nat} {pl : Nat → List Nat} {st : Nat → Nat} {code : Nat → Int32} {l : List Nat}
theorem z_piece_L (hl : ab l) (h9 : l.length ≤ 9) {s : Nat} (hs : s < 512) {q : Nat} (hq : q < 1000) (k : Option Int32) : ∀ (d n f j c : Nat), c + d = l.length + 1 → d < n → f < c → j ≤ q → fX10_piece_L9 (Int32.ofNat (cd l)) (Int32.ofNat s) (Int32.ofNat q) k n (Int32.ofNat f) (Int32.ofNat j) (Int32.ofNat c) = match (sl l f (ctF s l.length d f c))[q - j]? with
    | some p => some (Int32.ofNat (cd p))
    | none => k := by
  intro d
  induction d with
  | zero =>
    intro n f j c h3 h4 h5 h6
    obtain ⟨n, rfl⟩ : ∃ m, n = m + 1 := ⟨n - 1, by omega⟩
    rw [fX10_piece_L9, z_size hl h9, gb1_some, if_pos (by rw [J_lt _ _ (by omega) (by omega)]; omega)]
    rfl
  | succ d ih =>
    intro n f j c h3 h4 h5 h6
    obtain ⟨n, rfl⟩ : ∃ m, n = m + 1 := ⟨n - 1, by omega⟩
    rw [fX10_piece_L9, z_size hl h9, gb1_some, if_neg (by rw [J_lt _ _ (by omega) (by omega)]; omega), gb1_some, bit_and s c hs (by omega), z_part hl h9 h5 (by omega), gb1_some]
    simp only [Lt_eq]
    unfold ctF
    have hbit : s / 2 ^ c % 2 < 2 := Nat.mod_lt _ (by decide)
    have hJ : (if Int32.ofNat j = Int32.ofNat q then some (Int32.ofNat (cd ((l.drop f).take (c - f)))) else fX10_piece_L9 (Int32.ofNat (cd l)) (Int32.ofNat s) (Int32.ofNat q) k n (Int32.ofNat c) (Int32.ofNat j + 1) (Int32.ofNat c + 1)) = match (sl l f ((c - f) :: ctF s l.length d c (c + 1)))[q - j]? with
        | some p => some (Int32.ofNat (cd p))
        | none => k := by
      rw [sl, show f + (c - f) = c by omega]
      by_cases e : j = q
      · subst e
        rw [if_pos rfl, Nat.sub_self]
        rfl
      · rw [if_neg (by rw [J_eq _ _ (by omega) (by omega)]; exact e), i_1, J_add, J_add, ih n c (j + 1) (c + 1) (by omega) (by omega) (by omega) (by omega), show q - j = (q - (j + 1)) + 1 by omega, List.getElem?_cons_succ]
    by_cases g : c < l.length ∧ s / 2 ^ c % 2 = 0
    · rw [if_pos g, if_neg (by rw [J_le _ _ (by omega) (by omega)]; omega), if_pos (by rw [g.2]; rfl), i_1, J_add]
      exact ih n f j (c + 1) (by omega) (by omega) (by omega) h6
    · rw [if_neg g, ← hJ]
      by_cases g1 : l.length ≤ c
      · rw [if_pos (by rw [J_le _ _ (by omega) (by omega)]; exact g1)]
      · rw [if_neg (by rw [J_le _ _ (by omega) (by omega)]; exact g1), if_neg (by rw [i_0, J_eq _ _ (by omega) (by omega)]; omega)]
theorem z_piece (hl : ab l) (h9 : l.length ≤ 9) {s : Nat} {ps : List (List Nat)} (h : isS l s ps) {q : Nat} (hq : q < 1000) : fX10_piece (Int32.ofNat (cd l)) (Int32.ofNat s) (Int32.ofNat q) = some (match ps[q]? with
    | some p => Int32.ofNat (cd p)
    | none => 0) := by
  obtain ⟨a, b, c⟩ := h
  have := z_piece_L hl h9 a hq (some 0) l.length FU 0 0 1 (by omega) (by simp only [FU]; omega) (by omega) (by omega)
  rw [show fX10_piece (Int32.ofNat (cd l)) (Int32.ofNat s) (Int32.ofNat q) = _ from this]
  rw [show ctF s l.length l.length 0 1 = cuts s l.length from rfl, b, Nat.sub_zero]
  cases ps[q]? <;> rfl
theorem z_bc {s : Nat} {ps : List (List Nat)} (h : isS l s ps) : fJ6_bitCount_0f7a4 (Int32.ofNat s) = some (Int32.ofNat (ps.length - 1)) := by
  rw [bc_all s h.1]
  have := h.2.2
  rw [show pc s = ps.length - 1 by omega]
/-- the pieces of a word, each of them a part of it -/
theorem isS_ab (hl : ab l) {s : Nat} {ps : List (List Nat)} (h : isS l s ps) : ∀ p ∈ ps, ab p ∧ p.length ≤ l.length := by
  obtain ⟨_, b, _⟩ := h
  subst b
  have key : ∀ (ns : List Nat) (i : Nat), ∀ p ∈ sl l i ns, ab p ∧ p.length ≤ l.length := by
    intro ns
    induction ns with
    | nil => intro i p hp; exact absurd hp List.not_mem_nil
    | cons n r ih =>
      intro i p hp
      rw [sl] at hp
      rcases List.mem_cons.mp hp with rfl | hp
      · refine ⟨ab_sub hl _ _, ?_⟩
        rw [List.length_take, List.length_drop]
        omega
      · exact ih _ p hp
  exact key _ _
/-- is piece k a new one -/
def isF (np : Nat) (pl : Nat → List Nat) (ps : List (List Nat)) (k : Nat) : Prop := ∃ p, ps[k]? = some p ∧ p ∉ ps.take k ∧ ¬ fnd np pl p < np
theorem z_isFresh_L (hl : ab l) (h9 : l.length ≤ 9) {s : Nat} {ps : List (List Nat)} (h : isS l s ps) {q : Nat} (hq : q < ps.length) {p : List Nat} (hp : ps[q]? = some p) (k : Option Int32) : ∀ (d n i : Nat), i + d = q → d < n → fX10_isFresh_L12 (Int32.ofNat (cd l)) (Int32.ofNat s) (Int32.ofNat q) (Int32.ofNat (cd p)) k n (Int32.ofNat i) = if p ∈ (ps.take q).drop i then some 0 else k := by
  have hlen : ps.length ≤ 10 := by
    have := h.2.2
    have := h.1
    have := pc_lt' s h.1
    omega
  intro d
  induction d with
  | zero =>
    intro n i e hn
    obtain ⟨n, rfl⟩ : ∃ m, n = m + 1 := ⟨n - 1, by omega⟩
    rw [fX10_isFresh_L12, if_pos (by rw [J_le _ _ (by omega) (by omega)]; omega), if_neg]
    rw [List.drop_eq_nil_of_le (by rw [List.length_take]; omega)]
    exact List.not_mem_nil
  | succ d ih =>
    intro n i e hn
    obtain ⟨n, rfl⟩ : ∃ m, n = m + 1 := ⟨n - 1, by omega⟩
    have hi : i < ps.length := by omega
    have hab := isS_ab hl h
    have hpi : ps[i]? = some ps[i] := List.getElem?_eq_getElem hi
    have hmi := hab ps[i] (List.getElem_mem hi)
    have hmp := hab p (List.mem_of_getElem? hp)
    have s1 := cd_sm hmi.1 (by omega)
    have s2 := cd_sm hmp.1 (by omega)
    rw [fX10_isFresh_L12, if_neg (by rw [J_le _ _ (by omega) (by omega)]; omega), z_piece hl h9 h (by omega), hpi, gb1_some]
    show (if Int32.ofNat (cd ps[i]) = Int32.ofNat (cd p) then _ else _) = _
    have ed : (ps.take q).drop i = ps[i] :: (ps.take q).drop (i + 1) := by
      have hlt : i < (ps.take q).length := by rw [List.length_take]; omega
      rw [List.drop_eq_getElem_cons hlt]
      congr 1
      exact List.getElem_take
    rw [ed]
    by_cases c : ps[i] = p
    · rw [if_pos (by rw [c]), if_pos (by rw [c]; exact List.mem_cons_self)]
    · rw [if_neg (by rw [J_eq _ _ (by omega) (by omega)]; exact fun z => c (cd_inj hmi.1 hmp.1 z)), i_1, J_add, ih n (i + 1) (by omega) (by omega)]
      by_cases m : p ∈ (ps.take q).drop (i + 1)
      · rw [if_pos m, if_pos (List.mem_cons_of_mem _ m)]
      · rw [if_neg m, if_neg (fun z => (List.mem_cons.mp z).elim (fun z => c z.symm) m)]
theorem z_isFresh (hC : lC np pl code) (hl : ab l) (h9 : l.length ≤ 9) {s : Nat} {ps : List (List Nat)} (h : isS l s ps) {q : Nat} (hq : q < ps.length) {p : List Nat} (hp : ps[q]? = some p) : fX10_isFresh (Int32.ofNat (cd l)) (Int32.ofNat s) (Int32.ofNat q) (Int32.ofNat np) code = some (if p ∈ ps.take q ∨ fnd np pl p < np then 0 else 1) := by
  have hlen : ps.length ≤ 10 := by
    have := h.2.2
    have := pc_lt' s h.1
    omega
  have hmp := isS_ab hl h p (List.mem_of_getElem? hp)
  have h24 := hC.1
  rw [fX10_isFresh, z_piece hl h9 h (by omega), hp, gb1_some, show (0 : Int32) = Int32.ofNat 0 from rfl]
  show fX10_isFresh_L12 _ _ _ (Int32.ofNat (cd p)) _ FU (Int32.ofNat 0) = _
  rw [z_isFresh_L hl h9 h hq hp _ q FU 0 (by omega) (by simp only [FU]; omega), List.drop_zero, z_find hC hmp.1 (by omega), gb1_some]
  by_cases c : p ∈ ps.take q
  · rw [if_pos c, if_pos (Or.inl c)]
    rfl
  · rw [if_neg c]
    unfold nr
    by_cases c2 : fnd np pl p < np
    · rw [if_pos c2, if_pos (Or.inr c2), if_pos (by rw [J_le _ _ (by omega) (by omega)]; omega)]
    · rw [if_neg c2, if_neg (show ¬ (Int32.ofNat 0 ≤ M1) by decide), if_neg (by rintro (z | z) <;> contradiction)]
/-- counts and prices of new pieces, from piece k on -/
theorem frs_iff (np : Nat) (pl : Nat → List Nat) (p : List Nat) : ∀ (ps acc : List (List Nat)), p ∈ frs np pl acc ps ↔ p ∈ acc ∨ (p ∈ ps ∧ ¬ fnd np pl p < np)
  | [], acc => by simp [frs]
  | q :: ps, acc => by
    rw [frs, frs_iff np pl p ps]
    by_cases e : p = q
    · subst e
      by_cases c : fnd np pl p < np
      · rw [if_pos (Or.inl c)]
        simp [c]
      · by_cases c2 : p ∈ acc
        · rw [if_pos (Or.inr c2)]
          simp [c2]
        · rw [if_neg (by rintro (z | z) <;> contradiction)]
          simp [c]
    · have e2 : p ∈ (if fnd np pl q < np ∨ q ∈ acc then acc else acc ++ [q]) ↔ p ∈ acc := by
        split
        · exact Iff.rfl
        · simp [e]
      rw [e2]
      simp [e]
theorem frs_tk (np : Nat) (pl : Nat → List Nat) (ps : List (List Nat)) {k : Nat} {p : List Nat} (hp : ps[k]? = some p) : frs np pl [] (ps.take (k + 1)) = if p ∈ ps.take k ∨ fnd np pl p < np then frs np pl [] (ps.take k) else frs np pl [] (ps.take k) ++ [p] := by
  have hk : k < ps.length := (List.getElem?_eq_some_iff.mp hp).1
  have e : ps.take (k + 1) = ps.take k ++ [p] := by
    rw [List.take_succ, hp]
    rfl
  rw [e, frs_snoc]
  have hm : p ∈ frs np pl [] (ps.take k) ↔ p ∈ ps.take k ∧ ¬ fnd np pl p < np := by
    rw [frs_iff]
    simp
  by_cases c : fnd np pl p < np
  · rw [if_pos (Or.inl c), if_pos (Or.inr c)]
  · by_cases c2 : p ∈ ps.take k
    · rw [if_pos (Or.inr (hm.mpr ⟨c2, c⟩)), if_pos (Or.inl c2)]
    · rw [if_neg, if_neg]
      · rintro (z | z) <;> contradiction
      · rintro (z | z)
        · exact c z
        · exact c2 (hm.mp z).1
def fsum (st : Nat → Nat) (b : Bool) (fr : List (List Nat)) : Nat := if b = true then prS st fr else fr.length
theorem z_fresh_L (hC : lC np pl code) (h0 : st 0 ≤ 99) (h1 : st 1 ≤ 9) (hl : ab l) (h9 : l.length ≤ 9) {s : Nat} {ps : List (List Nat)} (h : isS l s ps) (b : Bool) (k : Int32 → Option Int32) : ∀ (d n i : Nat), i + d = ps.length → d < n → fX10_fresh_L6 (Int32.ofNat (cd l)) (Int32.ofNat s) (bI b) (Int32.ofNat (st 0)) (Int32.ofNat (st 1)) (Int32.ofNat np) code k n (Int32.ofNat (fsum st b (frs np pl [] (ps.take i)))) (Int32.ofNat i) = k (Int32.ofNat (fsum st b (frs np pl [] ps))) := by
  have hlen : ps.length ≤ 10 := by
    have := h.2.2
    have := pc_lt' s h.1
    omega
  have hlen0 := h.2.2
  intro d
  induction d with
  | zero =>
    intro n i e hn
    obtain ⟨n, rfl⟩ : ∃ m, n = m + 1 := ⟨n - 1, by omega⟩
    have ei : i = ps.length := by omega
    rw [fX10_fresh_L6, z_bc h, gb1_some, if_pos (by rw [J_lt _ _ (by omega) (by omega)]; omega), ei, List.take_length]
  | succ d ih =>
    intro n i e hn
    obtain ⟨n, rfl⟩ : ∃ m, n = m + 1 := ⟨n - 1, by omega⟩
    have hi : i < ps.length := by omega
    have hpi : ps[i]? = some ps[i] := List.getElem?_eq_getElem hi
    have hmi := isS_ab hl h ps[i] (List.getElem_mem hi)
    have hstep := frs_tk np pl ps hpi
    rw [fX10_fresh_L6, z_bc h, gb1_some, if_neg (by rw [J_lt _ _ (by omega) (by omega)]; omega), z_isFresh hC hl h9 h hi hpi, gb1_some]
    have ihn := ih n (i + 1) (by omega) (by omega)
    by_cases c : ps[i] ∈ ps.take i ∨ fnd np pl ps[i] < np
    · rw [if_pos c, if_pos rfl, i_1, J_add]
      rw [hstep, if_pos c] at ihn
      exact ihn
    · rw [if_neg c, if_neg (by decide)]
      rw [hstep, if_neg c] at ihn
      cases b with
      | false =>
        rw [if_pos (by decide), i_1, J_add, J_add]
        rw [← ihn]
        congr 2
        show _ = fsum st false _
        unfold fsum
        rw [if_neg (by decide), if_neg (by decide), List.length_append]
        rfl
      | true =>
        rw [if_neg (show ¬ bI true = 0 by decide), z_piece hl h9 h (by omega), hpi, gb1_some]
        show gb1 (fX10_priceOf (Int32.ofNat (cd ps[i])) _ _) _ = _
        rw [z_price hmi.1 (by omega), gb1_some, J_add, i_1, J_add, ← ihn]
        congr 2
        show _ = fsum st true _
        unfold fsum
        rw [if_pos rfl, if_pos rfl, prS_app]
        rfl
theorem z_fresh (hC : lC np pl code) (h0 : st 0 ≤ 99) (h1 : st 1 ≤ 9) (hl : ab l) (h9 : l.length ≤ 9) {s : Nat} {ps : List (List Nat)} (h : isS l s ps) (b : Bool) : fX10_fresh (Int32.ofNat (cd l)) (Int32.ofNat s) (bI b) (Int32.ofNat (st 0)) (Int32.ofNat (st 1)) (Int32.ofNat np) code = some (Int32.ofNat (fsum st b (frs np pl [] ps))) := by
  have hlen : ps.length ≤ 10 := by
    have := h.2.2
    have := pc_lt' s h.1
    omega
  have := z_fresh_L hC h0 h1 hl h9 h b (fun x => some x) ps.length FU 0 (by omega) (by simp only [FU]; omega)
  have e0 : Int32.ofNat (fsum st b (frs np pl [] (ps.take 0))) = 0 := by
    rw [List.take_zero]
    unfold fsum frs prS
    cases b <;> rfl
  rw [e0] at this
  rw [fX10_fresh]
  exact this
end ZP
