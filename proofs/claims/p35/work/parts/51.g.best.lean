/-! the part that would help most: the class -/
def kn (A : aB) (s : List Nat) : Prop := fnd A.2.1.1 A.2.1.2.1 s < A.2.1.1
def sec (l : List Nat) (x : Nat × Nat) : List Nat := (l.drop x.1).take x.2
def rowP (A : aB) (l : List Nat) (n : Nat) : Nat → Nat → List (Nat × Nat)
  | _, 0 => []
  | i, d + 1 => if fnd A.2.1.1 A.2.1.2.1 (sec l (i, n)) < A.2.1.1 then rowP A l n (i + 1) d else (i, n) :: rowP A l n (i + 1) d
def allP (A : aB) (l : List Nat) : Nat → Nat → List (Nat × Nat)
  | _, 0 => []
  | n, e + 1 => rowP A l n 0 (l.length + 1 - n) ++ allP A l (n + 1) e
def okX (A : aB) (l : List Nat) (x : Nat × Nat) : Prop := 1 ≤ x.2 ∧ x.2 ≤ 6 ∧ x.1 + x.2 ≤ l.length ∧ ¬ fnd A.2.1.1 A.2.1.2.1 (sec l x) < A.2.1.1
def vR (l : List Nat) (acc : List (Nat × Nat)) (G : List Nat → Int32) (V : tAdv) : Prop := V.2.2.2.1 = Int32.ofNat acc.length ∧ ∀ m (h : m < acc.length), V.2.2.2.2.1 m = L64 (sec l acc[m]) ∧ V.2.2.2.2.2.1 m = Int32.ofNat (acc[m].1) ∧ V.2.2.2.2.2.2.1 m = Int32.ofNat (acc[m].2) ∧ V.2.2.2.2.2.2.2 m = G (sec l acc[m])
theorem c_list24 {A : aB} {P : tPieces} (hP : cP A.2.1 P) (hI : Inv A) {l : List Nat} (hw : wf l) (hl : l.length ≤ 12) {n0 : Nat} (hn1 : 1 ≤ n0) (hn6 : n0 ≤ 6) {k : tAdv → Option tAdv} {Q : tAdv → Prop} : ∀ (d i n : Nat) (acc : List (Nat × Nat)) (V : tAdv), i + d = l.length + 1 - n0 → d < n → acc.length + d ≤ 72 → (∀ x ∈ acc, okX A l x) → vR l acc (fun _ => 0) V → (∀ V', (∀ x ∈ acc ++ rowP A l n0 i d, okX A l x) → vR l (acc ++ rowP A l n0 i d) (fun _ => 0) V' → Ok (k V') Q) → Ok (fX0_listParts_L24 (L64 l) (Int32.ofNat l.length) (Int32.ofNat n0) P k n (Int32.ofNat i) V) Q
  | d, i, 0, acc, V, _, h, _, _, _, _ => by omega
  | 0, i, n + 1, acc, V, h1, _, h72, hok, hV, hk => by
    rw [rowP, List.append_nil] at hk
    by_cases hx : l.length < i + n0
    · rw [fX0_listParts_L24, J_add, if_pos (by rw [J_lt _ _ (by omega) (by omega)]; omega)]
      exact hk V hok hV
    · omega
  | d + 1, i, n + 1, acc, V, h1, h2, h72, hok, hV, hk => by
    have hin : i + n0 ≤ l.length := by omega
    have hsl := take_len hin
    have hsw : wf ((l.drop i).take n0) := wf_take _ (wf_drop _ hw)
    rw [rowP] at hk
    rw [fX0_listParts_L24, J_add, if_neg (by rw [J_lt _ _ (by omega) (by omega)]; omega), hV.1, if_neg (by rw [i_72, J_le _ _ (by omega) (by omega)]; omega), c_section hw hl (by omega) (by omega), gb1_some, c_numP hP hI.2.1.1 (okP_Inv hI) hsw (by omega), gb1_some]
    simp only [M1_def, nr_eq A.2.1.1 A.2.1.2.1 _ (show A.2.1.1 < 1000000 by have := hI.2.1.1; omega)]
    by_cases ck : fnd A.2.1.1 A.2.1.2.1 ((l.drop i).take n0) < A.2.1.1
    · rw [if_pos (show fnd A.2.1.1 A.2.1.2.1 (sec l (i, n0)) < A.2.1.1 from ck)] at hk
      rw [if_neg (by simpa using ck), i_1, J_add]
      exact c_list24 hP hI hw hl hn1 hn6 d (i + 1) n acc V (by omega) (by omega) (by omega) hok hV hk
    · rw [if_neg (show ¬ fnd A.2.1.1 A.2.1.2.1 (sec l (i, n0)) < A.2.1.1 from ck)] at hk
      have hck : ¬ (Int32.ofNat acc.length < 0 ∨ 72 ≤ (Int32.ofNat acc.length).toNatClampNeg) := inck (n := 72) (by omega) (by omega) (by omega)
      rw [if_pos ck]
      simp only [Lt_eq, if_neg hck, hV.1]
      rw [J_nat _ (by omega), i_1, J_add, J_add]
      refine c_list24 hP hI hw hl hn1 hn6 d (i + 1) n (acc ++ [(i, n0)]) _ (by omega) (by omega) (by rw [List.length_append, List.length_singleton]; omega) ?_ ?_ ?_
      · intro x hx
        rcases List.mem_append.mp hx with h | h
        · exact hok x h
        · rw [List.mem_singleton] at h
          rw [h]
          exact ⟨hn1, hn6, hin, ck⟩
      · refine ⟨by rw [List.length_append, List.length_singleton], fun m hm => ?_⟩
        rw [List.length_append, List.length_singleton] at hm
        by_cases c : m = acc.length
        · subst c
          simp only [upd_eq, updL_eq, List.getElem_append_right (Nat.le_refl _), Nat.sub_self, List.getElem_cons_zero]
          exact ⟨rfl, trivial, trivial, trivial⟩
        · have := hV.2 m (by omega)
          simp only [upd_ne _ _ _ _ c, updL_ne _ _ _ _ c, List.getElem_append_left (show m < acc.length by omega)]
          exact this
      · intro V' h1' h2'
        rw [List.append_assoc] at h1' h2'
        exact hk V' h1' h2'
theorem c_list14 {A : aB} {P : tPieces} (hP : cP A.2.1 P) (hI : Inv A) {l : List Nat} (hw : wf l) (hl : l.length ≤ 12) {k : tAdv → Option tAdv} {Q : tAdv → Prop} : ∀ (e n0 n : Nat) (acc : List (Nat × Nat)) (V : tAdv), n0 + e = 7 → 1 ≤ n0 → e < n → acc.length + 12 * e ≤ 72 → (∀ x ∈ acc, okX A l x) → vR l acc (fun _ => 0) V → (∀ V', (∀ x ∈ acc ++ allP A l n0 e, okX A l x) → vR l (acc ++ allP A l n0 e) (fun _ => 0) V' → (acc ++ allP A l n0 e).length ≤ 72 → Ok (k V') Q) → Ok (fX0_listParts_L14 (L64 l) (Int32.ofNat l.length) P k n (Int32.ofNat n0) V) Q
  | e, n0, 0, acc, V, _, _, h, _, _, _, _ => by omega
  | 0, n0, n + 1, acc, V, h1, _, _, h72, hok, hV, hk => by
    rw [allP, List.append_nil] at hk
    rw [fX0_listParts_L14, if_pos (by rw [i_6, J_lt _ _ (by omega) (by omega)]; omega)]
    exact hk V hok hV (by omega)
  | e + 1, n0, n + 1, acc, V, h1, hn1, h2, h72, hok, hV, hk => by
    rw [allP] at hk
    have hrl : ∀ (d i : Nat), (rowP A l n0 i d).length ≤ d := by
      intro d
      induction d with
      | zero => intro i; simp [rowP]
      | succ d ih =>
        intro i
        rw [rowP]
        have := ih (i + 1)
        split
        · omega
        · rw [List.length_cons]; omega
    have hr := hrl (l.length + 1 - n0) 0
    rw [fX0_listParts_L14, if_neg (by rw [i_6, J_lt _ _ (by omega) (by omega)]; omega), i_0]
    refine c_list24 hP hI hw hl hn1 (by omega) (l.length + 1 - n0) 0 FU acc V (by omega) (by simp only [FU]; omega) (by omega) hok hV ?_
    intro V' h3 h4
    rw [i_1, J_add]
    refine c_list14 hP hI hw hl e (n0 + 1) n _ V' (by omega) (by omega) (by omega) (by rw [List.length_append]; omega) h3 h4 ?_
    intro V2 h5 h6 h7
    rw [List.append_assoc] at h5 h6 h7
    exact hk V2 h5 h6 h7
def gv (A : aB) (j : Nat) (s : List Nat) : Int32 := Int32.ofNat (sm (fun w => gn A w []) j) - Int32.ofNat (sm (fun w => gn A w s) j)
theorem I_sub4 (a b c d : Int32) : (a - b) + (c - d) = (a + c) - (b + d) := by grind
theorem gv_succ (A : aB) (j : Nat) (s : List Nat) : gv A (j + 1) s = gv A j s + (Int32.ofNat (gn A j []) - Int32.ofNat (gn A j s)) := by
  unfold gv
  rw [sm_succ, sm_succ, I_sub4, J_add, J_add]
theorem gv_0 (A : aB) (s : List Nat) : gv A 0 s = 0 := by
  unfold gv
  rw [sm_zero, sm_zero]
  decide
theorem c_weigh42 {A : aB} (hI : Inv A) {l : List Nat} (hw : wf l) (hl : l.length ≤ 12) {acc : List (Nat × Nat)} (h72 : acc.length ≤ 72) (hok : ∀ x ∈ acc, okX A l x) {w : Nat} (hw2 : w < A.2.2.1.1) {x4 : Int32} {k : tAdv → tCut → tCutR → Option (tAdv × tCut × tCutR)} {Q : tAdv × tCut × tCutR → Prop} (hk : ∀ V C S, vR l acc (gv A (w + 1)) V → Ok (k V C S) Q) : ∀ (d j n : Nat) (V : tAdv) (C : tCut) (S : tCutR), j + d = acc.length → d < n → V.2.2.2.1 = Int32.ofNat acc.length → (∀ m (h : m < acc.length), V.2.2.2.2.1 m = L64 (sec l acc[m]) ∧ V.2.2.2.2.2.1 m = Int32.ofNat (acc[m].1) ∧ V.2.2.2.2.2.2.1 m = Int32.ofNat (acc[m].2) ∧ V.2.2.2.2.2.2.2 m = if m < j then gv A (w + 1) (sec l acc[m]) else gv A w (sec l acc[m])) → cG (A.2.2.2.1 2) (gn A w []) (A.2.2.1.2.1 w) C → cR (sC A.2.1.1 A.2.1.2.1 A.2.2.2.1 false (A.2.2.1.2.1 w)) (A.2.2.1.2.1 w) S → Ok (fX0_weighParts_L42 x4 k n (Int32.ofNat j) V C S) Q
  | d, j, 0, V, C, S, _, h, _, _, _, _ => by omega
  | 0, j, n + 1, V, C, S, h1, _, hc, hV, _, _ => by
    rw [fX0_weighParts_L42, if_pos (by rw [hc, J_le _ _ (by omega) (by omega)]; omega)]
    exact hk V C S ⟨hc, fun m hm => by
      obtain ⟨a, b, c, d⟩ := hV m hm
      rw [if_pos (by omega)] at d
      exact ⟨a, b, c, d⟩⟩
  | d + 1, j, n + 1, V, C, S, h1, h2, hc, hV, hG, hR => by
    have hj : j < acc.length := by omega
    obtain ⟨v1, v2, v3, v4⟩ := hV j hj
    rw [if_neg (by omega)] at v4
    obtain ⟨x1, x2, x3, x5⟩ := hok _ (List.getElem_mem hj)
    have hsl : (sec l acc[j]).length = acc[j].2 := take_len x3
    have hsw : wf (sec l acc[j]) := wf_take _ (wf_drop _ hw)
    have hwl := (hI.2.2.1.2 w hw2).2.2.2.2
    have hck : ¬ (Int32.ofNat j < 0 ∨ 72 ≤ (Int32.ofNat j).toNatClampNeg) := inck (n := 72) (by omega) (by omega) (by omega)
    have hck' : ¬ (Int32.ofNat j < 0 ∨ 72 ≤ j) := inck' (n := 72) (by omega) (by omega) (by omega)
    rw [fX0_weighParts_L42, if_neg (by rw [hc, J_le _ _ (by omega) (by omega)]; omega), if_neg hck, if_neg hck, if_neg hck, J_nat _ (by omega), v1, v3, ← hsl]
    apply ok_gb3
    refine ok_mono (c_gain (iW_wf hI hw2) hwl hsw (by rw [hsl]; exact x1) (by rw [hsl]; exact x2) hI.2.2.2.2.1.2.2.2.1 (fun i m a b c => ⟨sC_le hI.2.2.2.2.1.1 hI.2.2.2.2.1.2.1 i m b, fun e => by
      unfold sC
      rw [e, if_neg x5, if_neg (by decide)]⟩) (by
      have hf := (kS_ok hI hw2).2.2.2.2
      rw [gn_nil hI hw2, kS, (CL_ok hwl hf).2.1]) hG hR) ?_
    rintro ⟨r1, C1, S1⟩ ⟨g1, g2, g3⟩
    simp only at g1 g2 g3 ⊢
    rw [if_neg hck', Lt_eq, i_1, J_add]
    refine c_weigh42 hI hw hl h72 hok hw2 hk d (j + 1) n _ C1 S1 (by omega) (by omega) hc (fun m hm => ?_) g2 g3
    obtain ⟨a, b, c, e⟩ := hV m hm
    by_cases cm : m = j
    · subst cm
      simp only [upd_eq]
      refine ⟨a, b, c, ?_⟩
      rw [if_pos (by omega), v4, g1, gv_succ]
      rfl
    · simp only [upd_ne _ _ _ _ cm]
      refine ⟨a, b, c, ?_⟩
      rw [e]
      by_cases c2 : m < j
      · rw [if_pos c2, if_pos (by omega)]
      · rw [if_neg c2, if_neg (by omega)]
theorem c_weigh9 {A : aB} {b : tBk} (hc : cBk A b) (hI : Inv A) {l : List Nat} (hw : wf l) (hl : l.length ≤ 12) {acc : List (Nat × Nat)} (h72 : acc.length ≤ 72) (hok : ∀ x ∈ acc, okX A l x) {k : tAdv → tCut → tCutR → Option (tAdv × tCut × tCutR)} {Q : tAdv × tCut × tCutR → Prop} (hk : ∀ V C S, vR l acc (gv A A.2.2.1.1) V → Ok (k V C S) Q) : ∀ (d j n : Nat) (V : tAdv) (C : tCut) (S : tCutR), j + d = A.2.2.1.1 → d < n → vR l acc (gv A j) V → Ok (fX0_weighParts_L9 b.2.2.2.1 b.2.2.2.2.2.2.1 b.2.2.2.2.2.2.2 k n (Int32.ofNat j) V C S) Q
  | d, j, 0, V, C, S, _, h, _ => by omega
  | 0, j, n + 1, V, C, S, h1, _, hV => by
    have h16 := hI.2.2.1.1
    have : j = A.2.2.1.1 := by omega
    subst this
    rw [fX0_weighParts_L9, if_pos (by rw [hc.2.2.1.1, J_le _ _ (by omega) (by omega)]; omega)]
    exact hk V C S hV
  | d + 1, j, n + 1, V, C, S, h1, h2, hV => by
    have h16 := hI.2.2.1.1
    have hj : j < A.2.2.1.1 := by omega
    obtain ⟨f0, _⟩ := hc.2.2.1.2 j hj
    rw [fX0_weighParts_L9, if_neg (by rw [hc.2.2.1.1, J_le _ _ (by omega) (by omega)]; omega), if_neg (inck hj h16 (by omega)), J_nat _ (by omega), f0]
    apply ok_gb2
    refine ok_mono (c_cutKnown hc.2.1 hI.2.1.1 (okP_Inv hI) hc.2.2.2.1 hI.2.2.2.2.1.1 hI.2.2.2.2.1.2.1 hI.2.2.2.2.1.2.2.2.1 (iW_wf hI hj) ((hI.2.2.1.2 j hj).2.2.2.2) C S) ?_
    rintro ⟨C1, S1⟩ ⟨h, h'⟩
    simp only at h h' ⊢
    rw [i_0]
    refine c_weigh42 hI hw hl h72 hok hj ?_ acc.length 0 FU V C1 S1 (by omega) (by simp only [FU]; omega) hV.1 (fun m hm => by
      rw [if_neg (by omega)]
      exact hV.2 m hm) ⟨by rw [gn_nil hI hj]; exact h.1.1, h.2.1, h.2.2.1, h.2.2.2.1⟩ h'
    intro V2 C2 S2 hV2
    rw [i_1, J_add]
    exact c_weigh9 hc hI hw hl h72 hok hk d (j + 1) n V2 C2 S2 (by omega) (by omega) hV2
def scn (G : List Nat → Int32) (l : List Nat) : List (Nat × Nat) → Int32 × Int32 × Int32 → Int32 × Int32 × Int32
  | [], s => s
  | x :: xs, s => scn G l xs (if G (sec l x) ≤ s.2.2 then s else (Int32.ofNat x.1, Int32.ofNat x.2, G (sec l x)))
theorem c_take7 {l : List Nat} {acc : List (Nat × Nat)} (h72 : acc.length ≤ 72) {G : List Nat → Int32} {k : tAdv → Option tAdv} {Q : tAdv → Prop} : ∀ (d j n : Nat) (V : tAdv), j + d = acc.length → d < n → vR l acc G V → (∀ V', vR l acc G V' → (V'.1, V'.2.1, V'.2.2.1) = scn G l (acc.drop j) (V.1, V.2.1, V.2.2.1) → Ok (k V') Q) → Ok (fX0_takeBest_L7 k n (Int32.ofNat j) V) Q
  | d, j, 0, V, _, h, _, _ => by omega
  | 0, j, n + 1, V, h1, _, hV, hk => by
    rw [List.drop_eq_nil_of_le (by omega)] at hk
    rw [fX0_takeBest_L7, if_pos (by rw [hV.1, J_le _ _ (by omega) (by omega)]; omega)]
    exact hk V hV rfl
  | d + 1, j, n + 1, V, h1, h2, hV, hk => by
    have hj : j < acc.length := by omega
    obtain ⟨v1, v2, v3, v4⟩ := hV.2 j hj
    rw [List.drop_eq_getElem_cons hj] at hk
    have hck : ¬ (Int32.ofNat j < 0 ∨ 72 ≤ (Int32.ofNat j).toNatClampNeg) := inck (n := 72) (by omega) (by omega) (by omega)
    rw [fX0_takeBest_L7, if_neg (by rw [hV.1, J_le _ _ (by omega) (by omega)]; omega), if_neg hck]
    simp only [Lt_eq, if_neg hck]
    rw [J_nat _ (by omega), v4, i_1, J_add]
    by_cases cg : G (sec l acc[j]) ≤ V.2.2.1
    · rw [if_pos cg]
      refine c_take7 h72 d (j + 1) n V (by omega) (by omega) hV (fun V' a b => hk V' a ?_)
      rw [scn, if_pos cg]
      exact b
    · rw [if_neg cg, v2, v3]
      refine c_take7 h72 d (j + 1) n _ (by omega) (by omega) (show vR l acc G (Int32.ofNat (acc[j].1), Int32.ofNat (acc[j].2), G (sec l acc[j]), V.2.2.2.1, V.2.2.2.2.1, V.2.2.2.2.2.1, V.2.2.2.2.2.2.1, V.2.2.2.2.2.2.2) from hV) (fun V' a b => hk V' a ?_)
      rw [scn, if_neg cg]
      exact b
theorem c_weigh {A : aB} {b : tBk} (hc : cBk A b) (hI : Inv A) {l : List Nat} (hw : wf l) (hl : l.length ≤ 12) (V : tAdv) (C : tCut) (S : tCutR) : Ok (fX0_weighParts (L64 l) V C S b.2.2.2.1 b.2.2.2.2.2.2.1 b.2.2.2.2.2.2.2) (fun r => ∃ a0 b0, (r.1.1, r.1.2.1, r.1.2.2.1) = scn (gv A A.2.2.1.1) l (allP A l 1 6) (a0, b0, 0)) := by
  have h16 := hI.2.2.1.1
  rw [fX0_weighParts]
  apply ok_gb1
  rw [fX0_listParts, c_lengthOf hw hl, gb1_some]
  refine c_list14 hc.2.1 hI hw hl 6 1 FU [] _ (by omega) (by omega) (by simp only [FU]; omega) (by simp) (fun x hx => by cases hx) ⟨rfl, fun m hm => by cases hm⟩ ?_
  intro V1 hok hV1 h72
  rw [List.nil_append] at hok hV1 h72
  refine ok_some ?_
  refine c_weigh9 hc hI hw hl h72 hok ?_ A.2.2.1.1 0 FU V1 C S (by omega) (by simp only [FU]; omega) ⟨hV1.1, fun m hm => by
    rw [gv_0]
    exact hV1.2 m hm⟩
  intro V2 C2 S2 hV2
  apply ok_gb1
  rw [fX0_takeBest]
  refine c_take7 h72 (allP A l 1 6).length 0 FU (V2.1, V2.2.1, 0, V2.2.2.2.1, V2.2.2.2.2.1, V2.2.2.2.2.2.1, V2.2.2.2.2.2.2.1, V2.2.2.2.2.2.2.2) (by omega) (by simp only [FU]; omega) hV2 ?_
  intro V3 hV3 he
  rw [List.drop_zero] at he
  exact ok_some (ok_some ⟨_, _, he⟩)
/-! the reference -/
def rBs (s t : Int32 × Int32 × Int32) : Prop := s.2.2 = t.2.2 ∧ ¬ (t.2.2 < 0) ∧ ((t.2.2 = 0 ∧ t.1 = -1) ∨ (t.2.2 ≠ 0 ∧ s = t ∧ t.1 ≠ -1))
theorem rBs_step {l : List Nat} {G : List Nat → Int32} {s t : Int32 × Int32 × Int32} (h : rBs s t) (x : Nat × Nat) (hx : x.1 < 1000) : rBs (if G (sec l x) ≤ s.2.2 then s else (Int32.ofNat x.1, Int32.ofNat x.2, G (sec l x))) (if G (sec l x) ≤ t.2.2 then t else (Int32.ofNat x.1, Int32.ofNat x.2, G (sec l x))) := by
  rw [h.1]
  by_cases c : G (sec l x) ≤ t.2.2
  · rw [if_pos c, if_pos c]; exact h
  · rw [if_neg c, if_neg c]
    have h2 := h.2.1
    rw [Int32.lt_iff_toInt_lt] at h2
    rw [Int32.le_iff_toInt_le] at c
    have z : (0 : Int32).toInt = 0 := by decide
    have hp : 0 < (G (sec l x)).toInt := by omega
    refine ⟨rfl, ?_, Or.inr ⟨?_, rfl, ?_⟩⟩
    · simp only
      rw [Int32.lt_iff_toInt_lt]
      omega
    · simp only
      intro e
      rw [e] at hp
      omega
    · simp only
      rw [M1_def]
      intro e
      have := J_ne1 x.1 (by omega)
      rw [e] at this
      simp at this
theorem scn_app (G : List Nat → Int32) (l : List Nat) : ∀ (a b : List (Nat × Nat)) (s : Int32 × Int32 × Int32), scn G l (a ++ b) s = scn G l b (scn G l a s)
  | [], b, s => rfl
  | x :: a, b, s => scn_app G l a b _
theorem scn_R {G : List Nat → Int32} {l : List Nat} : ∀ (xs : List (Nat × Nat)) (s t : Int32 × Int32 × Int32), (∀ x ∈ xs, x.1 < 1000) → rBs s t → rBs (scn G l xs s) (scn G l xs t)
  | [], s, t, _, h => h
  | x :: xs, s, t, hx, h => scn_R xs _ _ (fun y hy => hx y (by simp [hy])) (rBs_step h x (hx x (by simp)))
theorem rowP_lt (A : aB) (l : List Nat) (n : Nat) : ∀ (d i : Nat), ∀ x ∈ rowP A l n i d, x.1 < i + d
  | 0, i, x, hx => by cases hx
  | d + 1, i, x, hx => by
    rw [rowP] at hx
    split at hx
    · have := rowP_lt A l n d (i + 1) x hx
      omega
    · rcases List.mem_cons.mp hx with h | h
      · subst h; simp
      · have := rowP_lt A l n d (i + 1) x h
        omega
theorem allP_lt (A : aB) (l : List Nat) (hl : l.length ≤ 12) : ∀ (e n : Nat), ∀ x ∈ allP A l n e, x.1 < 1000
  | 0, n, x, hx => by cases hx
  | e + 1, n, x, hx => by
    rw [allP] at hx
    rcases List.mem_append.mp hx with h | h
    · have := rowP_lt A l n _ _ x h
      omega
    · exact allP_lt A l hl e (n + 1) x h
