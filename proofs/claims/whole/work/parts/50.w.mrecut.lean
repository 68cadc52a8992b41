/-! the reference cuts anew -/
theorem m_rec22 {p0 : aPs} (hn : p0.1 ≤ 24) (hr : okR p0.1 p0.2.1 6) {l : List Nat} (hw : wf l) (hl : l.length ≤ 12) {spl : Nat → Int32} (hs : sp l spl) {sc : Nat → Nat → Nat} {dep : Nat} {g : Nat → Int32} (hg : ∀ x, x < l.length → g x = Int32.ofNat (TB sc dep l.length x).2.2) (hb : ∀ q, q < p0.1 → p0.2.2.2.2.1 q < 900000) (now0 : Nat → Int32) {x2 : Int32} {k : (Nat → Int32) → Option (Int32 × Int32 × (Nat → Int32) × (Nat → Int32) × (Nat → Int32) × (Nat → Int32) × (Nat → Int32))} {Q : Int32 × Int32 × (Nat → Int32) × (Nat → Int32) × (Nat → Int32) × (Nat → Int32) × (Nat → Int32) → Prop} : ∀ (f n i : Nat) (acc : List Nat) (now : Nat → Int32), f < n → l.length - i < f → i ≤ l.length → acc.length ≤ i → (TB sc dep l.length i).1 < 1000000 → (∀ s ∈ cl (fun i => (TB sc dep l.length i).2.2) l f i, fnd p0.1 p0.2.1 s < p0.1) → mP (pUses p0 acc) now → (∀ x, ¬ (21 ≤ x ∧ x < 141) → now x = now0 x) → (∀ now', mP (pUses p0 (acc ++ (cl (fun i => (TB sc dep l.length i).2.2) l f i).map (fnd p0.1 p0.2.1))) now' → (∀ x, ¬ (21 ≤ x ∧ x < 141) → now' x = now0 x) → Ok (k now') Q) → Ok (fX10_recuts_L22 x2 (Int32.ofNat l.length) spl g k n (Int32.ofNat i) now) Q
  | f, 0, i, acc, now, h, _, _, _, _, _, _, _, _ => by omega
  | 0, n + 1, i, acc, now, _, h, _, _, _, _, _, _, _ => by omega
  | f + 1, n + 1, i, acc, now, h1, h2, h3, h4, hf, hkn, hP, hfr, hk => by
    by_cases ci : i < l.length
    · obtain ⟨a1, a2, a3, a4, a5⟩ := TB_fin ci hf
      have hsw : wf ((l.drop i).take (TB sc dep l.length i).2.2) := wf_take _ (wf_drop _ hw)
      have hsl := take_len a3
      rw [cl, if_pos ⟨ci, by omega⟩] at hk hkn
      have hck : ¬ (Int32.ofNat i < 0 ∨ 13 ≤ (Int32.ofNat i).toNatClampNeg) := by
        rw [i_0, J_lt _ _ (by omega) (by omega), J_nat _ (by omega)]
        omega
      have hck' : ¬ (Int32.ofNat i < 0 ∨ 13 ≤ i) := by
        rw [i_0, J_lt _ _ (by omega) (by omega)]
        omega
      have hq := hkn _ (List.mem_cons_self)
      have hnU := pUses_n acc p0
      have hbq := hb _ hq
      have hcl := List.count_le_length (a := fnd p0.1 p0.2.1 ((l.drop i).take (TB sc dep l.length i).2.2)) (l := acc)
      have e2 := m_pieceOf hP (by rw [hnU.1]; exact hn) (by rw [hnU.1, hnU.2]; exact hr) hsw (by omega)
      rw [hnU.1, hnU.2] at e2
      rw [fX10_recuts_L22, if_neg (by rw [J_le _ _ (by omega) (by omega)]; omega), if_neg hck, J_nat i (by omega), hg i ci, m_code hw hl hs a3, gb1_some, e2, gb1_some, nr, if_pos hq]
      apply ok_gb1
      refine ok_mono (m_usesUp hP (by rw [hnU.1]; exact hn) (q := fnd p0.1 p0.2.1 ((l.drop i).take (TB sc dep l.length i).2.2)) (by rw [hnU.1]; exact hq) (by rw [pUses_u]; omega)) ?_
      rintro now1 ⟨f1, f2⟩
      rw [if_neg hck', J_add]
      refine m_rec22 hn hr hw hl hs hg hb now0 f n (i + (TB sc dep l.length i).2.2) (acc ++ [fnd p0.1 p0.2.1 ((l.drop i).take (TB sc dep l.length i).2.2)]) now1 (by omega) (by omega) a3 (by rw [List.length_append, List.length_singleton]; omega) (by omega) (fun s hs => hkn s (List.mem_cons_of_mem _ hs)) (by rw [pUses_snoc]; exact f1) (fun x hx => by rw [f2 x hx]; exact hfr x hx) ?_
      intro now' h1 h2
      refine hk now' ?_ h2
      rw [List.append_assoc] at h1
      exact h1
    · rw [cl, if_neg (fun h => ci h.1), List.map_nil, List.append_nil] at hk
      rw [fX10_recuts_L22, if_pos (by rw [J_le _ _ (by omega) (by omega)]; omega)]
      exact hk now hP hfr
theorem pEnds_snoc (t : Int32) (p : aPs) (idx : List Nat) (q : Nat) : pEnds t p (idx ++ [q]) = pEnd (pEnds t p idx) q t := by simp [pEnds]
theorem count_take_lt {idx : List Nat} {j : Nat} (hj : j < idx.length) : (idx.take j).count (idx[j]) + 1 ≤ idx.count (idx[j]) := by
  have e : idx.count (idx[j]) = (idx.take j).count (idx[j]) + (idx.drop j).count (idx[j]) := by
    rw [← List.count_append, List.take_append_drop]
  rw [e, List.drop_eq_getElem_cons hj, List.count_cons_self]
  omega
theorem m_ends_L {at0 : Nat} (hat : 141 ≤ at0) (hat2 : at0 + 14 ≤ 365) {idx : List Nat} (hi12 : idx.length ≤ 12) {p1 : aPs} (hn : p1.1 ≤ 24) (hlt : ∀ q ∈ idx, q < p1.1) (hc : ∀ q, idx.count q ≤ p1.2.2.2.2.1 q) (hb : ∀ q, q < p1.1 → p1.2.2.2.2.1 q < 1000000) {t : Int32} (now3 : Nat → Int32) (ht : now3 6 = t) (hidx : ∀ m (h : m < idx.length), now3 (at0 + 2 + m) = Int32.ofNat (idx[m])) {R : Type} {F : Nat → Int32 → (Nat → Int32) → Option R} {K : (Nat → Int32) → Option R} {Q : R → Prop} (hF1 : ∀ n x now, (∀ y, ¬ (21 ≤ y ∧ y < 141) → now y = now3 y) → Int32.ofNat idx.length ≤ x → F (n + 1) x now = K now) (hF2 : ∀ n j now, (∀ y, ¬ (21 ≤ y ∧ y < 141) → now y = now3 y) → j < idx.length → F (n + 1) (Int32.ofNat j) now = gb1 (fX10_uses (now (at0 + 2 + j)) (-1) now) fun now1 => F n (Int32.ofNat j + 1) now1) (hk : ∀ now', mP (pEnds t p1 idx) now' → (∀ x, ¬ (21 ≤ x ∧ x < 141) → now' x = now3 x) → Ok (K now') Q) : ∀ (d j n : Nat) (now : Nat → Int32), j + d = idx.length → d < n → mP (pEnds t p1 (idx.take j)) now → (∀ x, ¬ (21 ≤ x ∧ x < 141) → now x = now3 x) → Ok (F n (Int32.ofNat j) now) Q
  | d, j, 0, now, _, h2, _, _ => by omega
  | 0, j, n + 1, now, h1, _, hP, hfr => by
    rw [List.take_of_length_le (by omega)] at hP
    rw [hF1 n _ now hfr (by rw [J_le _ _ (by omega) (by omega)]; omega)]
    exact hk now hP hfr
  | d + 1, j, n + 1, now, h1, h2, hP, hfr => by
    have hj : j < idx.length := by omega
    have hq := hlt _ (List.getElem_mem hj)
    obtain ⟨n1, n2, _, _, n5⟩ := pEnds_n t (idx.take j) p1
    have hcq := hc (idx[j])
    have hct := count_take_lt hj
    have hbq := hb _ hq
    rw [hF2 n j now hfr hj, hfr (at0 + 2 + j) (by omega), hidx j hj]
    apply ok_gb1
    refine ok_mono (m_usesDn hP (by rw [n1]; exact hn) (q := idx[j]) (by rw [n1]; exact hq) (by rw [n5]; omega) (by rw [n5]; omega)) ?_
    rintro now1 ⟨e1, e2⟩
    rw [hfr 6 (by omega), ht] at e1
    rw [i_1, J_add]
    refine m_ends_L hat hat2 hi12 hn hlt hc hb now3 ht hidx hF1 hF2 hk d (j + 1) n now1 (by omega) (by omega) ?_ (fun x hx => by rw [e2 x hx]; exact hfr x hx)
    rw [List.take_succ_eq_append_getElem hj, pEnds_snoc]
    exact e1
theorem m_rec74 {at0 : Nat} (hat : 141 ≤ at0) (hat2 : at0 + 14 ≤ 365) {idx : List Nat} (hi12 : idx.length ≤ 12) {p1 : aPs} (hn : p1.1 ≤ 24) (hlt : ∀ q ∈ idx, q < p1.1) (hc : ∀ q, idx.count q ≤ p1.2.2.2.2.1 q) (hb : ∀ q, q < p1.1 → p1.2.2.2.2.1 q < 1000000) {t : Int32} (now3 : Nat → Int32) (ht : now3 6 = t) (hidx : ∀ m (h : m < idx.length), now3 (at0 + 2 + m) = Int32.ofNat (idx[m])) {k : (Nat → Int32) → Option (Int32 × Int32 × (Nat → Int32) × (Nat → Int32) × (Nat → Int32) × (Nat → Int32) × (Nat → Int32))} {Q : Int32 × Int32 × (Nat → Int32) × (Nat → Int32) × (Nat → Int32) × (Nat → Int32) × (Nat → Int32) → Prop} (hk : ∀ now', mP (pEnds t p1 idx) now' → (∀ x, ¬ (21 ≤ x ∧ x < 141) → now' x = now3 x) → Ok (k now') Q) (hP : mP p1 now3) : Ok (fX10_recuts_L74 (Int32.ofNat at0) (Int32.ofNat idx.length) k FU 0 now3) Q := by
  refine m_ends_L (F := fun n x now => fX10_recuts_L74 (Int32.ofNat at0) (Int32.ofNat idx.length) k n x now) (K := k) hat hat2 hi12 hn hlt hc hb now3 ht hidx (fun n x now _ h => ?_) (fun n j now _ h => ?_) hk idx.length 0 FU now3 (by omega) (by simp only [FU]; omega) (by rw [List.take_zero]; exact hP) (fun _ _ => rfl)
  · show fX10_recuts_L74 _ _ _ (n + 1) x now = _
    rw [fX10_recuts_L74, if_pos h]
  · show fX10_recuts_L74 _ _ _ (n + 1) _ now = _
    rw [fX10_recuts_L74, if_neg (by rw [J_le _ _ (by omega) (by omega)]; omega), i_2, J_add, J_add, if_neg (by rw [i_0, J_lt _ _ (by omega) (by omega), J_nat _ (by omega)]; omega), J_nat _ (by omega)]
theorem TB_agS {A : aB} {l : List Nat} {c f g : Nat → Int32} {b : Bool} (h : mag (sSet (sC A.2.1.1 A.2.1.2.1 A.2.2.2.1 b l) l [] 0) (A.2.2.2.1 2) l.length l.length c f g) : mag (sC A.2.1.1 A.2.1.2.1 A.2.2.2.1 b l) (A.2.2.2.1 2) l.length l.length c f g := by
  have e : tb (sSet (sC A.2.1.1 A.2.1.2.1 A.2.2.2.1 b l) l [] 0) (A.2.2.2.1 2) l.length l.length = tb (sC A.2.1.1 A.2.1.2.1 A.2.2.2.1 b l) (A.2.2.2.1 2) l.length l.length := by
    refine tb_congr (fun i m a b' c => ?_) l.length (Nat.le_refl _)
    rw [sSet, if_neg]
    intro e
    have := congrArg List.length e
    rw [take_len c] at this
    simp at this
    omega
  unfold mag at h ⊢
  rw [e] at h
  exact h
theorem m_cut0 {A : aB} {now : Nat → Int32} (hB : mB A now) (hI : Inv A) {l : List Nat} (hw : wf l) (hl : l.length ≤ 12) {spl : Nat → Int32} (hs : sp l spl) (b : Bool) (c f g : Nat → Int32) : Ok (fX10_cuts (if b = true then 1 else 0) 0 (Int32.ofNat l.length) now spl c f g) (fun r => mag (sC A.2.1.1 A.2.1.2.1 A.2.2.2.1 b l) (A.2.2.2.1 2) l.length l.length r.1 r.2.1 r.2.2) :=
  ok_mono (m_cuts (al := []) hB.2.1 hI.2.1.1 (ok6_Inv hI) hB.2.2.2.1 hI.2.2.2.2.1.1 hI.2.2.2.2.1.2.1 hI.2.2.2.2.1.2.2.2.1 hw hl hs wf_nil (by simp) c f g) (fun r h => TB_agS h)
theorem ng (x : Nat) (y : Int32) : y - -(Int32.ofNat x) = y + Int32.ofNat x := by rw [Int32.sub_eq_add_neg, Int32.neg_neg]
theorem m_recuts {A : aB} {now : Nat → Int32} (hB : mB A now) (hI : Inv A) {i : Nat} (hi : i < A.2.2.1.1) (many : Int32) (spl c f g : Nat → Int32) : Ok (fX10_recuts (Int32.ofNat i) many now spl c f g) (fun r => r.1 = Int32.ofNat (A.2.2.2.1 2 * ((A.2.2.1.2.2.2 i).length - (kS A (A.2.2.1.2.1 i)).length)) ∧ mB (aCut A i (kI A (A.2.2.1.2.1 i))) r.2.2.1) := by
  obtain ⟨w1, w2, w3, w4, w5⟩ := hI.2.2.1.2 i hi
  obtain ⟨k1, k2, k3, k4, kf⟩ := kS_ok hI hi
  have hw := iW_wf hI hi
  have h4 := hI.1.1
  have h24 := hI.2.1.1
  have h16 := hI.2.2.1.1
  have h12 := iW_len hI hi
  have hkl : (kI A (A.2.2.1.2.1 i)).length = (kS A (A.2.2.1.2.1 i)).length := by rw [kI, List.length_map]
  rw [fX10_recuts]
  apply ok_gb2
  refine ok_mono (m_spellsWord hB hI hi many spl) ?_
  rintro ⟨many1, spl1⟩ ⟨e1, e2⟩
  simp only at e1 e2 ⊢
  subst e1
  apply ok_gb3
  refine ok_mono (m_cut0 hB hI hw w5 e2 false c f g) ?_
  rintro ⟨c1, f1, g1⟩ hm
  simp only at hm ⊢
  have hg : ∀ x, x < (A.2.2.1.2.1 i).length → g1 x = Int32.ofNat (TB (sC A.2.1.1 A.2.1.2.1 A.2.2.2.1 false (A.2.2.1.2.1 i)) (A.2.2.2.1 2) (A.2.2.1.2.1 i).length x).2.2 := fun x hx => (hm x (by omega) (by omega)).2.2 hx
  refine m_rec22 (p0 := A.2.1) h24 (ok6_Inv hI) hw w5 e2 hg (fun q hq => by have := uses_bd hI hq; omega) now 13 FU 0 [] now (by decide) (by omega) (Nat.zero_le _) (Nat.le_refl _) kf k4 hB.2.1 (fun _ _ => rfl) ?_
  intro now1 hP1 f1'
  rw [List.nil_append] at hP1
  have hP1' : mP (pUses A.2.1 (kI A (A.2.2.1.2.1 i))) now1 := hP1
  have eat : (141 : Int32) + 14 * Int32.ofNat i = Int32.ofNat (141 + 14 * i) := by rw [J_lmul, i_141, J_add]
  have r0 := hB.2.2.1.2 i hi
  obtain ⟨r1, r2, r3⟩ := r0
  have hck1 : ¬ (Int32.ofNat (141 + 14 * i) + 1 < 0 ∨ 365 ≤ (Int32.ofNat (141 + 14 * i) + 1).toNatClampNeg) := by
    rw [i_1, J_add, i_0, J_lt _ _ (by omega) (by omega), J_nat _ (by omega)]
    omega
  have hat1 : (Int32.ofNat (141 + 14 * i) + 1).toNatClampNeg = 141 + 14 * i + 1 := by
    rw [i_1, J_add, J_nat _ (by omega)]
  have hat0 : (Int32.ofNat (141 + 14 * i) + 0) = Int32.ofNat (141 + 14 * i) := Int32.add_zero _
  have hck0 : ¬ (Int32.ofNat (141 + 14 * i) < 0 ∨ 365 ≤ (Int32.ofNat (141 + 14 * i)).toNatClampNeg) := by
    rw [i_0, J_lt _ _ (by omega) (by omega), J_nat _ (by omega)]
    omega
  have hnU := pUses_n (kI A (A.2.2.1.2.1 i)) A.2.1
  rw [eat, if_neg hck1, hat1, f1' _ (by omega), r2]
  refine m_rec74 (at0 := 141 + 14 * i) (by omega) (by omega) h12 (p1 := pUses A.2.1 (kI A (A.2.2.1.2.1 i))) (by rw [hnU.1]; exact h24) (by rw [hnU.1]; exact w2) (fun q => by rw [pUses_u]; have := cnt_le' hI hi q; omega) (fun q hq => by
    rw [hnU.1] at hq
    have := uses_bd hI hq
    have c2 := List.count_le_length (a := q) (l := kI A (A.2.2.1.2.1 i))
    rw [pUses_u]
    omega) (t := A.2.2.2.2.2.1) now1 (by rw [f1' 6 (by omega)]; exact hB.2.2.2.2.2.1) (fun m hm => by rw [f1' _ (by omega)]; exact r3 m hm) ?_ hP1'
  intro now2 hP2 f2
  have f2' : ∀ x, ¬ (21 ≤ x ∧ x < 141) → now2 x = now x := fun x hx => by rw [f2 x hx]; exact f1' x hx
  obtain ⟨n1, n2, _, _, _⟩ := pEnds_n A.2.2.2.2.2.1 (A.2.2.1.2.2.2 i) (pUses A.2.1 (kI A (A.2.2.1.2.1 i)))
  rw [hnU.1] at n1
  rw [hnU.2] at n2
  apply ok_gb2
  refine ok_mono (m_laysParts hP2 (by rw [n1]; exact h24) (by rw [n1, n2]; exact ok6_Inv hI) hw w5 e2 hg kf (by rw [n1, n2]; exact k4) (at0 := 141 + 14 * i) (by omega) (by omega)) ?_
  rintro ⟨r4, now3⟩ ⟨d1, d2, d3, d4⟩
  simp only at d1 d2 d3 d4 ⊢
  rw [n1, n2] at d3
  have d1' : r4 = Int32.ofNat (kS A (A.2.2.1.2.1 i)).length := d1
  have f3 : ∀ x, ¬ (21 ≤ x ∧ x < 141) → ¬ (141 + 14 * i + 1 ≤ x ∧ x < 141 + 14 * i + 14) → now3 x = now x := fun x h1 h2 => by rw [d4 x h2]; exact f2' x h1
  rw [hat0, if_neg hck0, J_nat _ (by omega), f3 _ (by omega) (by omega), r1, f2' 2 (by omega), hB.2.2.2.1 2 (by omega), d1', J_sub _ _ k2, J_mul, i_8, i_2, m_pays now3 (show A.2.2.1.2.2.1 i < 4 by omega) _ (by omega) (by omega), gb1_some, Lt_eq, Lt_eq]
  obtain ⟨b1, b2, b3, b4, b5, b6, b7, b8⟩ := hB
  refine ok_some ⟨rfl, ?_, ?_, ?_, ?_, ?_, ?_, ?_, ?_⟩
  · refine ⟨?_, fun x hx => ?_⟩
    · simp (disch := omega) only [upd_ne]
      rw [f3 5 (by omega) (by omega)]
      exact b1.1
    · have hx2 : x < A.1.1 := hx
      have := b1.2 x hx2
      show _ = Int32.ofNat (up A.1.2.2 (A.2.2.1.2.2.1 i) _ x)
      by_cases cx : x = A.2.2.1.2.2.1 i
      · rw [cx, up_eq]
        rw [cx] at this
        simp (disch := omega) only [upd_ne, upd_eq]
        rw [f3 _ (by omega) (by omega), this, ng, J_add, hkl]
      · rw [up_ne _ _ _ _ cx]
        simp (disch := omega) only [upd_ne]
        rw [f3 _ (by omega) (by omega), this]
  · refine mP_fr hP2 (show (pEnds _ _ _).1 ≤ 24 by rw [n1]; exact h24) (fun k hk => ?_)
    simp (disch := omega) only [upd_ne]
    exact d4 k (by omega)
  · refine ⟨?_, fun x hx => ?_⟩
    · simp (disch := omega) only [upd_ne]
      rw [f3 10 (by omega) (by omega)]
      exact b3.1
    · have hx2 : x < A.2.2.1.1 := hx
      show mR (A.2.2.1.2.2.1 x) (up A.2.2.1.2.2.2 i (kI A (A.2.2.1.2.1 i)) x) x _
      by_cases cx : x = i
      · subst cx
        rw [up_eq]
        refine mR_fr (now := now3) ⟨?_, ?_, d3⟩ (by omega) ?_
        · rw [f3 _ (by omega) (by omega)]; exact r1
        · rw [d2, hkl]; rfl
        · intro k hk1 hk2
          simp (disch := omega) only [upd_ne]
      · rw [up_ne _ _ _ _ cx]
        refine mR_fr (b3.2 x hx2) (iW_len hI hx2) ?_
        intro k hk1 hk2
        simp (disch := omega) only [upd_ne]
        exact f3 k (by omega) (by omega)
  · intro x hx
    simp (disch := omega) only [upd_ne]
    rw [f3 x (by omega) (by omega)]
    exact b4 x hx
  · intro x hx
    have := b5 x hx
    simp only [aCut, sAdd]
    by_cases c3 : x = 3
    · subst c3
      rw [if_pos rfl]
      simp (disch := omega) only [upd_ne, upd_eq]
      rw [f3 14 (by omega) (by omega), show (14 : Nat) = 11 + 3 from rfl, this, hkl]
    · rw [if_neg c3]
      by_cases c2 : x = 2
      · subst c2
        simp (disch := omega) only [upd_ne, upd_eq]
        rw [f3 13 (by omega) (by omega)]
        rw [show now 13 = A.2.2.2.2.1 2 from this]
        rw [Int32.add_assoc, Int32.add_left_neg, Int32.add_zero]
      · simp (disch := omega) only [upd_ne]
        rw [f3 _ (by omega) (by omega)]
        exact this
  · simp (disch := omega) only [upd_ne]
    rw [f3 6 (by omega) (by omega)]
    exact b6
  · simp (disch := omega) only [upd_ne]
    rw [f3 7 (by omega) (by omega)]
    exact b7
  · simp (disch := omega) only [upd_ne, upd_eq]
    rw [f3 8 (by omega) (by omega), b8, ← Int32.sub_eq_add_neg, ← hkl]
    rfl
