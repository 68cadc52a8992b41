/-! fresh pieces, refusals: the reference -/
def bR (fr : List (List Nat)) (n : Int32) (fa : Nat → Int32) : Prop := n = Int32.ofNat fr.length ∧ ∀ m (h : m < fr.length), fa m = B32 (fr[m])
theorem bR_snoc {fr : List (List Nat)} {n : Int32} {fa : Nat → Int32} (h : bR fr n fa) (s : List Nat) : bR (fr ++ [s]) (Int32.ofNat (fr.length + 1)) (upd fa fr.length (B32 s)) := by
  refine ⟨by simp, fun m hm => ?_⟩
  rw [List.length_append, List.length_singleton] at hm
  by_cases c : m = fr.length
  · subst c
    rw [upd_eq, List.getElem_append_right (Nat.le_refl _)]
    simp
  · rw [upd_ne _ _ _ _ c, List.getElem_append_left (by omega)]
    exact h.2 m (by omega)
theorem m_fresh45 {fr : List (List Nat)} {n0 : Int32} {fa : Nat → Int32} (h : bR fr n0 fa) (hf : fr.length ≤ 12) (hfw : ∀ x ∈ fr, wf x ∧ x.length ≤ 6) {s : List Nat} (hw : wf s) (hl : s.length ≤ 6) {x1 : Int32} (k : Int32 → Option (Int32 × (Nat → Int32))) : ∀ (d j n c : Nat), j + d = fr.length → d < n → c ≤ 1 → fX10_laysFresh_L45 x1 (B32 s) n0 fa k n (Int32.ofNat c) (Int32.ofNat j) = k (Int32.ofNat (if c = 1 ∧ s ∉ fr.drop j then 1 else 0))
  | d, j, 0, c, _, h2, _ => by omega
  | 0, j, n + 1, c, h1, _, hc => by
    have e : fr.drop j = [] := List.drop_eq_nil_of_le (by omega)
    rw [fX10_laysFresh_L45, if_pos (by rw [h.1, J_le _ _ (by omega) (by omega)]; omega), e]
    congr 2
    by_cases c1 : c = 1
    · rw [if_pos ⟨c1, by simp⟩, c1]
    · rw [if_neg (fun hh => c1 hh.1)]
      omega
  | d + 1, j, n + 1, c, h1, h2, hc => by
    have hj : j < fr.length := by omega
    have e := h.2 j hj
    obtain ⟨w1, w2⟩ := hfw fr[j] (List.getElem_mem hj)
    have ei := B32_inj w1 hw w2 hl
    have hd := List.drop_eq_getElem_cons hj
    have ih := m_fresh45 h hf hfw hw hl (x1 := x1) k d (j + 1) n
    rw [fX10_laysFresh_L45, if_neg (by rw [h.1, J_le _ _ (by omega) (by omega)]; omega), i_1, J_add]
    by_cases c1 : c = 1
    · subst c1
      rw [if_neg (by decide), if_neg (by rw [i_0, J_lt _ _ (by omega) (by omega), J_nat _ (by omega)]; omega), J_nat _ (by omega), e]
      simp only [ei]
      by_cases ce : fr[j] = s
      · rw [if_pos ce, i_0, ih 0 (by omega) (by omega) (by omega), if_neg (fun hh => absurd hh.1 (by decide)), if_neg]
        intro hh
        apply hh.2
        rw [hd, ce]
        simp
      · rw [if_neg ce, ih 1 (by omega) (by omega) (by omega)]
        congr 2
        have : (s ∉ fr.drop j) = (s ∉ fr.drop (j + 1)) := by
          rw [hd, List.mem_cons]
          apply propext
          constructor
          · intro hh hm
            exact hh (Or.inr hm)
          · rintro hh (hm | hm)
            · exact ce hm.symm
            · exact hh hm
        simp only [this]
    · have : c = 0 := by omega
      subst this
      rw [if_pos (by decide), i_0, ih 0 (by omega) (by omega) (by omega), if_neg (fun hh => absurd hh.1 (by decide)), if_neg (fun hh => absurd hh.1 (by decide))]
theorem m_f45_0 {fr : List (List Nat)} {n0 : Int32} {fa : Nat → Int32} (h : bR fr n0 fa) (hf : fr.length ≤ 12) (hfw : ∀ x ∈ fr, wf x ∧ x.length ≤ 6) {s : List Nat} (hw : wf s) (hl : s.length ≤ 6) {x1 : Int32} (k : Int32 → Option (Int32 × (Nat → Int32))) : fX10_laysFresh_L45 x1 (B32 s) n0 fa k FU 0 0 = k 0 := by
  have := m_fresh45 h hf hfw hw hl (x1 := x1) k fr.length 0 FU 0 (Nat.zero_add _) (by simp only [FU]; omega) (by omega)
  rw [if_neg (fun hh => absurd hh.1 (by decide))] at this
  exact this
theorem m_f45_in {fr : List (List Nat)} {n0 : Int32} {fa : Nat → Int32} (h : bR fr n0 fa) (hf : fr.length ≤ 12) (hfw : ∀ x ∈ fr, wf x ∧ x.length ≤ 6) {s : List Nat} (hw : wf s) (hl : s.length ≤ 6) {x1 : Int32} (k : Int32 → Option (Int32 × (Nat → Int32))) (hm : s ∈ fr) : fX10_laysFresh_L45 x1 (B32 s) n0 fa k FU 1 0 = k 0 := by
  have := m_fresh45 h hf hfw hw hl (x1 := x1) k fr.length 0 FU 1 (Nat.zero_add _) (by simp only [FU]; omega) (by omega)
  rw [List.drop_zero, if_neg (fun hh => hh.2 hm)] at this
  exact this
theorem m_f45_out {fr : List (List Nat)} {n0 : Int32} {fa : Nat → Int32} (h : bR fr n0 fa) (hf : fr.length ≤ 12) (hfw : ∀ x ∈ fr, wf x ∧ x.length ≤ 6) {s : List Nat} (hw : wf s) (hl : s.length ≤ 6) {x1 : Int32} (k : Int32 → Option (Int32 × (Nat → Int32))) (hm : s ∉ fr) : fX10_laysFresh_L45 x1 (B32 s) n0 fa k FU 1 0 = k 1 := by
  have := m_fresh45 h hf hfw hw hl (x1 := x1) k fr.length 0 FU 1 (Nat.zero_add _) (by simp only [FU]; omega) (by omega)
  rw [List.drop_zero, if_pos ⟨rfl, hm⟩] at this
  exact this
theorem m_fresh7 {p : aPs} {now : Nat → Int32} (hP : mP p now) (hn : p.1 ≤ 24) (hr : okR p.1 p.2.1 6) {l : List Nat} (hw : wf l) (hl : l.length ≤ 12) {spl : Nat → Int32} (hs : sp l spl) {sc : Nat → Nat → Nat} {dep : Nat} {g : Nat → Int32} (hg : ∀ x, x < l.length → g x = Int32.ofNat (TB sc dep l.length x).2.2) {k : Int32 → (Nat → Int32) → Option (Int32 × (Nat → Int32))} {Q : Int32 × (Nat → Int32) → Prop} : ∀ (f n i : Nat) (acc : List (List Nat)) (fm : Int32) (fa : Nat → Int32), f < n → l.length - i < f → i ≤ l.length → acc.length ≤ i → (∀ x ∈ acc, wf x ∧ x.length ≤ 6) → (TB sc dep l.length i).1 < 1000000 → bR (frs p.1 p.2.1 [] acc) fm fa → (∀ fm' fa', bR (frs p.1 p.2.1 [] (acc ++ cl (fun i => (TB sc dep l.length i).2.2) l f i)) fm' fa' → Ok (k fm' fa') Q) → Ok (fX10_laysFresh_L7 (Int32.ofNat l.length) now spl g k n (Int32.ofNat i) fm fa) Q
  | f, 0, i, acc, fm, fa, h, _, _, _, _, _, _, _ => by omega
  | 0, n + 1, i, acc, fm, fa, _, h, _, _, _, _, _, _ => by omega
  | f + 1, n + 1, i, acc, fm, fa, h1, h2, h3, h4, h5, hf, hb, hk => by
    by_cases ci : i < l.length
    · obtain ⟨a1, a2, a3, a4, a5⟩ := TB_fin ci hf
      have hsw : wf ((l.drop i).take (TB sc dep l.length i).2.2) := wf_take _ (wf_drop _ hw)
      have hsl := take_len a3
      rw [cl, if_pos ⟨ci, by omega⟩] at hk
      have fl := frs_len p.1 p.2.1 [] acc
      rw [List.length_nil] at fl
      have hfw : ∀ x ∈ frs p.1 p.2.1 [] acc, wf x ∧ x.length ≤ 6 := by
        intro x hx
        rcases frs_sub _ _ _ _ _ hx with h | h
        · cases h
        · exact h5 x h.1
      have hck : ¬ (Int32.ofNat i < 0 ∨ 13 ≤ (Int32.ofNat i).toNatClampNeg) := by
        rw [i_0, J_lt _ _ (by omega) (by omega), J_nat _ (by omega)]
        omega
      have hrec : ∀ fm' fa', bR (frs p.1 p.2.1 [] (acc ++ [(l.drop i).take (TB sc dep l.length i).2.2])) fm' fa' → Ok (fX10_laysFresh_L7 (Int32.ofNat l.length) now spl g k n (Int32.ofNat i + g i) fm' fa') Q := by
        intro fm' fa' hb'
        rw [hg i ci, J_add]
        refine m_fresh7 hP hn hr hw hl hs hg f n (i + (TB sc dep l.length i).2.2) (acc ++ [(l.drop i).take (TB sc dep l.length i).2.2]) fm' fa' (by omega) (by omega) a3 (by rw [List.length_append, List.length_singleton]; omega) ?_ (by omega) hb' ?_
        · intro x hx
          rcases List.mem_append.mp hx with h | h
          · exact h5 x h
          · rw [List.mem_singleton] at h
            rw [h]
            exact ⟨hsw, by omega⟩
        · intro fm2 fa2 h
          rw [List.append_assoc] at h
          exact hk fm2 fa2 h
      rw [frs_snoc] at hrec
      rw [fX10_laysFresh_L7, if_neg (by rw [J_le _ _ (by omega) (by omega)]; omega), if_neg hck, J_nat _ (by omega), hg i ci, m_code hw hl hs a3, gb1_some, m_pieceOf hP hn hr hsw (by omega), gb1_some]
      rw [hg i ci] at hrec
      simp only [Lt_eq, M1_def, nr_eq p.1 p.2.1 _ (show p.1 < 1000000 by omega)]
      have hck' : ¬ (Int32.ofNat i < 0 ∨ 13 ≤ i) := by
        rw [i_0, J_lt _ _ (by omega) (by omega)]
        omega
      by_cases ck : fnd p.1 p.2.1 ((l.drop i).take (TB sc dep l.length i).2.2) < p.1
      · rw [if_neg (by simpa using ck), m_f45_0 hb (by omega) hfw hsw (by omega), if_pos rfl, if_neg hck']
        refine hrec fm fa ?_
        rw [if_pos (Or.inl ck)]
        exact hb
      · rw [if_pos ck]
        by_cases cm : (l.drop i).take (TB sc dep l.length i).2.2 ∈ frs p.1 p.2.1 [] acc
        · rw [m_f45_in hb (by omega) hfw hsw (by omega) _ cm, if_pos rfl, if_neg hck']
          refine hrec fm fa ?_
          rw [if_pos (Or.inr cm)]
          exact hb
        · rw [m_f45_out hb (by omega) hfw hsw (by omega) _ cm, if_neg (show ¬ ((1 : Int32) = 0) by decide), hb.1, if_neg (by rw [i_0, J_lt _ _ (by omega) (by omega), J_nat _ (by omega)]; omega), J_nat _ (by omega), if_neg hck']
          refine hrec _ _ ?_
          rw [if_neg (by rintro (h | h); exact ck h; exact cm h), i_1, J_add]
          exact bR_snoc hb _
    · rw [cl, if_neg (fun h => ci h.1), List.append_nil] at hk
      rw [fX10_laysFresh_L7, if_pos (by rw [J_le _ _ (by omega) (by omega)]; omega)]
      exact hk fm fa hb
theorem m_laysFresh {p : aPs} {now : Nat → Int32} (hP : mP p now) (hn : p.1 ≤ 24) (hr : okR p.1 p.2.1 6) {l : List Nat} (hw : wf l) (hl : l.length ≤ 12) {spl : Nat → Int32} (hs : sp l spl) {sc : Nat → Nat → Nat} {dep : Nat} {g : Nat → Int32} (hg : ∀ x, x < l.length → g x = Int32.ofNat (TB sc dep l.length x).2.2) (hf : (TB sc dep l.length 0).1 < 1000000) (fm : Int32) (fa : Nat → Int32) : Ok (fX10_laysFresh (Int32.ofNat l.length) fm now spl g fa) (fun r => bR (frs p.1 p.2.1 [] (CL sc dep l)) r.1 r.2) := by
  rw [fX10_laysFresh]
  exact m_fresh7 hP hn hr hw hl hs hg 13 FU 0 [] 0 fa (by decide) (by omega) (Nat.zero_le _) (Nat.le_refl _) (fun x hx => by cases hx) hf ⟨rfl, fun m h => by cases h⟩ (fun fm' fa' h => ok_some h)
theorem m_price4 {st : Nat → Nat} {now : Nat → Int32} (hS : mS st now) {fr : List (List Nat)} {fm : Int32} {fa : Nat → Int32} (h : bR fr fm fa) (hf : fr.length ≤ 12) (hfw : ∀ x ∈ fr, wf x ∧ x.length ≤ 6) (k : Int32 → Option Int32) : ∀ (d j n acc : Nat), j + d = fr.length → d < n → fX10_freshPrice_L4 fm now fa k n (Int32.ofNat acc) (Int32.ofNat j) = k (Int32.ofNat (acc + prS st (fr.drop j)))
  | d, j, 0, acc, _, h2 => by omega
  | 0, j, n + 1, acc, h1, _ => by
    rw [fX10_freshPrice_L4, if_pos (by rw [h.1, J_le _ _ (by omega) (by omega)]; omega), List.drop_eq_nil_of_le (by omega)]
    rfl
  | d + 1, j, n + 1, acc, h1, h2 => by
    have hj : j < fr.length := by omega
    obtain ⟨w1, w2⟩ := hfw fr[j] (List.getElem_mem hj)
    rw [fX10_freshPrice_L4, if_neg (by rw [h.1, J_le _ _ (by omega) (by omega)]; omega), if_neg (by rw [i_0, J_lt _ _ (by omega) (by omega), J_nat _ (by omega)]; omega), J_nat _ (by omega), h.2 j hj, m_priceOf hS w1 w2, gb1_some, J_add, i_1, J_add, m_price4 hS h hf hfw k d (j + 1) n _ (by omega) (by omega), List.drop_eq_getElem_cons hj, prS, Nat.add_assoc]
theorem m_freshPrice {st : Nat → Nat} {now : Nat → Int32} (hS : mS st now) {fr : List (List Nat)} {fm : Int32} {fa : Nat → Int32} (h : bR fr fm fa) (hf : fr.length ≤ 12) (hfw : ∀ x ∈ fr, wf x ∧ x.length ≤ 6) : fX10_freshPrice fm now fa = some (Int32.ofNat (prS st fr)) := by
  rw [fX10_freshPrice, i_0, m_price4 hS h hf hfw _ fr.length 0 FU 0 (by omega) (by simp only [FU]; omega), Nat.zero_add, List.drop_zero]
