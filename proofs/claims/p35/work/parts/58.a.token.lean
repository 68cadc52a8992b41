/-! tokens of a certain text: the class's tokenizer -/
theorem run_to (p : Nat → Bool) (bt : Nat → Nat) : ∀ (d i m : Nat), i ≤ m → m ≤ i + d → (∀ j, i ≤ j → j < m → p (bt j) = true) → (m = i + d ∨ ¬ p (bt m) = true) → run p bt i d = m
  | 0, i, m, h1, h2, _, _ => by rw [run]; omega
  | d + 1, i, m, h1, h2, h3, h4 => by
    rw [run]
    by_cases c : p (bt i) = true
    · rw [if_pos c]
      have : i ≠ m := fun z => by
        rcases h4 with h4 | h4
        · omega
        · rw [← z] at h4
          exact h4 c
      exact run_to p bt d (i + 1) m (by omega) (by omega) (fun j a b => h3 j (by omega) b) (h4.imp (fun z => by omega) id)
    · rw [if_neg c]
      rcases Nat.lt_or_ge i m with z | z
      · exact absurd (h3 i (Nat.le_refl _) z) c
      · omega
def tx (X : List Nat) (tc : Nat → Int32) : Prop := X.length ≤ 500 ∧ ∀ i, i < X.length → X.getD i 0 < 128 ∧ tc i = sxb (X.getD i 0)
def bX (X : List Nat) (j : Nat) : Nat := X.getD j 0
theorem tx_b {X : List Nat} {tc : Nat → Int32} (h : tx X tc) : ∀ i, i < X.length → bX X i < 256 ∧ tc i = sxb (bX X i) := fun i hi => ⟨by have := (h.2 i hi).1; unfold bX; omega, (h.2 i hi).2⟩
theorem gd {X Y : List Nat} {p : Nat} (h : X.drop p = Y) (j : Nat) : bX X (p + j) = Y.getD j 0 := by
  unfold bX
  rw [← h, List.getD_eq_getElem?_getD, List.getD_eq_getElem?_getD, List.getElem?_drop]
theorem drop_add {X Y Z : List Nat} {p : Nat} (h : X.drop p = Y ++ Z) : X.drop (p + Y.length) = Z := by
  rw [← List.drop_drop, h, List.drop_left]
theorem drop_len {X Y : List Nat} {p : Nat} (h : X.drop p = Y) (hp : p ≤ X.length) : X.length = p + Y.length := by
  rw [← h, List.length_drop]
  omega
theorem drop_le {X Y : List Nat} {p c : Nat} (h : X.drop p = c :: Y) : p < X.length := by
  have := congrArg List.length h
  rw [List.length_drop, List.length_cons] at this
  omega
theorem gd_app {W R : List Nat} {c j : Nat} (h : j < W.length) : (W ++ c :: R).getD j 0 = W.getD j 0 := by
  rw [List.getD_eq_getElem?_getD, List.getD_eq_getElem?_getD, List.getElem?_append_left h]
theorem gd_end {W R : List Nat} {c : Nat} : (W ++ c :: R).getD W.length 0 = c := by
  rw [List.getD_eq_getElem?_getD, List.getElem?_append_right (Nat.le_refl _), Nat.sub_self]
  rfl
/-- at p stands a token, from s to e, of a kind; with its letters, or its number -/
def tk (X : List Nat) (tc : Nat → Int32) (p s e : Nat) (K : Int32) (w : List Nat) (v : Nat) : Prop := ∀ (k a : Int32) (l : Int64) (u : Int32), ∃ l' u', fX5_readToken (Int32.ofNat X.length) (Int32.ofNat p) k a l u tc = some (Int32.ofNat e, K, Int32.ofNat s, l', u') ∧ (K = 3 → l' = L64 w) ∧ (K = 4 → u' = Int32.ofNat v)
section TK
variable {X : List Nat} {tc : Nat → Int32}
theorem tk_pre (h : tx X tc) {p s : Nat} (hps : p ≤ s) (hs : s < X.length) (hsp : ∀ j, p ≤ j → j < s → bX X j = 32) (hn : ¬ pW (bX X s) = true) (k : Int32 → Option (Int32 × Int32 × Int32 × Int64 × Int32)) : fX5_readToken_L0 (Int32.ofNat X.length) tc k FU (Int32.ofNat p) = k (Int32.ofNat s) := by
  have h500 := h.1
  rw [c_t0 (by omega) (tx_b h) k (X.length - p) p FU (by omega) (by simp only [FU]; omega), run_to pW (bX X) (X.length - p) p s hps (by omega) (fun j a b => by rw [hsp j a b]; decide) (Or.inr hn)]
theorem tk_word (h : tx X tc) {p s : Nat} (hps : p ≤ s) (hsp : ∀ j, p ≤ j → j < s → bX X j = 32) {w R : List Nat} {c : Nat} (hd : X.drop s = w.map (fun x => x + 96) ++ c :: R) (hw : wf w) (h1 : 1 ≤ w.length) (h12 : w.length ≤ 12) (hc : ¬ pL c = true) : tk X tc p s (s + w.length) 3 w 0 := by
  have h500 := h.1
  have hml : (w.map (fun x => x + 96)).length = w.length := List.length_map ..
  have hlen : s + w.length < X.length := drop_le (by have := drop_add hd; rw [hml] at this; exact this)
  have hb : ∀ j (hj : j < w.length), bX X (s + j) = w[j] + 96 := fun j hj => by
    rw [gd hd, gd_app (by rw [hml]; exact hj), List.getD_eq_getElem?_getD, List.getElem?_map, List.getElem?_eq_getElem hj]
    rfl
  have hbe : bX X (s + w.length) = c := by
    rw [gd hd, ← hml, gd_end]
  have hL : ∀ j, s ≤ j → j < s + w.length → pL (bX X j) = true := fun j a b => by
    have := hb (j - s) (by omega)
    rw [show s + (j - s) = j by omega] at this
    have hx := wf_get hw (show j - s < w.length by omega)
    rw [this]
    simp only [pL, decide_eq_true_eq]
    omega
  have cL := hL s (Nat.le_refl _) (by omega)
  obtain ⟨b1, b2⟩ := tx_b h s (by omega)
  have hkd : kd (bX X s) = 3 := (kd_L _ b1).mpr cL
  have hnw : ¬ pW (bX X s) = true := by
    intro z
    simp only [pL, pW, decide_eq_true_eq] at cL z
    omega
  have hck : ¬ (Int32.ofNat s < 0 ∨ 600 ≤ (Int32.ofNat s).toNatClampNeg) := inck (n := X.length) (by omega) (by omega) (by omega)
  have ec2 := fun k => c_t113 (by omega) (tx_b h) (q := pL) (kk := 3) (by omega) kd_L k (X.length - (s + 1)) (s + 1) FU (by omega) (by simp only [FU]; omega)
  rw [run_to pL (bX X) (X.length - (s + 1)) (s + 1) (s + w.length) (by omega) (by omega) (fun j a b => hL j (by omega) b) (Or.inr (by rw [hbe]; exact hc))] at ec2
  have hlets : lets (bX X) s (s + w.length) = w := by
    apply List.ext_getElem
    · rw [lets_len]; omega
    · intro j z1 z2
      rw [lets_get _ _ _ _ z1, hb j z2, Nat.add_sub_cancel]
  intro k a l u
  refine ⟨L64 w, u, ?_, fun _ => rfl, fun z => absurd z (by decide)⟩
  rw [fX5_readToken, tk_pre h hps (by omega) hsp hnw, if_pos (by rw [J_lt _ _ (by omega) (by omega)]; omega), if_neg hck, J_nat _ (by omega), b2, c_kind _ b1, gb1_some, hkd, Lt_eq, Lt_eq, if_pos (by rfl), i_1, J_add]
  refine (ec2 _).trans ?_
  rw [Lt_eq, if_neg (by decide), Lt_eq, if_pos (by rfl)]
  dsimp only
  rw [if_pos (by rw [J_sub _ _ (by omega), i_12, J_le _ _ (by omega) (by omega)]; omega), if_pos (by rfl), c_read (bt := bX X) (by omega) (by omega) (by omega) (by omega) hL (fun j hj => (tx_b h j (by omega)).2), gb1_some, hlets]
  rfl
theorem dec_all : ∀ n, n < 1000 → 1 ≤ (gDec n).length ∧ (gDec n).length ≤ 3 ∧ (∀ x ∈ gDec n, 48 ≤ x ∧ x ≤ 57) ∧ (gDec n).foldl (fun a x => a * 10 + (x - 48)) 0 = n := by decide +kernel
theorem dv_fold {bt : Nat → Nat} {s : Nat} {D : List Nat} (hb : ∀ j (h : j < D.length), bt (s + j) = D[j]) : ∀ j, j ≤ D.length → dv bt s j = (D.take j).foldl (fun a x => a * 10 + (x - 48)) 0
  | 0, _ => rfl
  | j + 1, h => by
    rw [dv, dv_fold hb j (by omega), List.take_succ_eq_append_getElem (show j < D.length by omega), List.foldl_append, hb j (by omega)]
    rfl
theorem tk_num (h : tx X tc) {p s : Nat} (hps : p ≤ s) (hsp : ∀ j, p ≤ j → j < s → bX X j = 32) {n c : Nat} {R : List Nat} (hd : X.drop s = gDec n ++ c :: R) (hn : n < 1000) (hc : ¬ pD c = true) : tk X tc p s (s + (gDec n).length) 4 [] n := by
  have h500 := h.1
  obtain ⟨d1, d2, d3, d4⟩ := dec_all n hn
  have hlen : s + (gDec n).length < X.length := drop_le (drop_add hd)
  have hb : ∀ j (hj : j < (gDec n).length), bX X (s + j) = (gDec n)[j] := fun j hj => by
    rw [gd hd, gd_app hj, List.getD_eq_getElem?_getD, List.getElem?_eq_getElem hj]
    rfl
  have hbe : bX X (s + (gDec n).length) = c := by
    rw [gd hd, gd_end]
  have hL : ∀ j, s ≤ j → j < s + (gDec n).length → pD (bX X j) = true := fun j a b => by
    have := hb (j - s) (by omega)
    rw [show s + (j - s) = j by omega] at this
    have hx := d3 _ (List.getElem_mem (show j - s < (gDec n).length by omega))
    rw [this]
    simp only [pD, decide_eq_true_eq]
    omega
  have cD := hL s (Nat.le_refl _) (by omega)
  obtain ⟨b1, b2⟩ := tx_b h s (by omega)
  have hkd : kd (bX X s) = 4 := (kd_D _ b1).mpr cD
  have hnw : ¬ pW (bX X s) = true := by
    intro z
    simp only [pD, pW, decide_eq_true_eq] at cD z
    omega
  have hck : ¬ (Int32.ofNat s < 0 ∨ 600 ≤ (Int32.ofNat s).toNatClampNeg) := inck (n := X.length) (by omega) (by omega) (by omega)
  have ec2 := fun k => c_t113 (by omega) (tx_b h) (q := pD) (kk := 4) (by omega) kd_D k (X.length - (s + 1)) (s + 1) FU (by omega) (by simp only [FU]; omega)
  rw [run_to pD (bX X) (X.length - (s + 1)) (s + 1) (s + (gDec n).length) (by omega) (by omega) (fun j a b => hL j (by omega) b) (Or.inr (by rw [hbe]; exact hc))] at ec2
  have ev : fX5_valueOf (Int32.ofNat s) (Int32.ofNat (s + (gDec n).length)) tc = some (Int32.ofNat n) := by
    have := c_val (by omega) (tx_b h) (a := s) (b := s + (gDec n).length) (by omega) hL (fun x => some x) (gDec n).length 0 FU (by omega) (by simp only [FU]; omega)
    rw [Nat.zero_add, dv_fold hb _ (Nat.le_refl _), List.take_length, d4] at this
    exact this
  intro k a l u
  refine ⟨l, Int32.ofNat n, ?_, fun z => absurd z (by decide), fun _ => rfl⟩
  rw [fX5_readToken, tk_pre h hps (by omega) hsp hnw, if_pos (by rw [J_lt _ _ (by omega) (by omega)]; omega), if_neg hck, J_nat _ (by omega), b2, c_kind _ b1, gb1_some, hkd, Lt_eq, Lt_eq, if_neg (by decide), if_pos (by rfl), i_1, J_add]
  refine (ec2 _).trans ?_
  rw [Lt_eq, if_neg (by decide), Lt_eq, if_neg (by decide)]
  dsimp only
  rw [if_pos (by rw [J_sub _ _ (by omega), i_4, J_le _ _ (by omega) (by omega)]; omega), if_neg (by decide), if_pos (by rfl), ev, gb1_some]
  rfl
theorem tk_semi (h : tx X tc) {s : Nat} {R : List Nat} (hd : X.drop s = 59 :: R) : tk X tc s s (s + 1) 5 [] 0 := by
  have h500 := h.1
  have hlen : s < X.length := drop_le hd
  have hb : bX X s = 59 := by
    have := gd hd 0
    exact this
  obtain ⟨b1, b2⟩ := tx_b h s hlen
  rw [hb] at b2
  have hck : ¬ (Int32.ofNat s < 0 ∨ 600 ≤ (Int32.ofNat s).toNatClampNeg) := inck (n := X.length) (by omega) (by omega) (by omega)
  intro k a l u
  refine ⟨l, u, ?_, fun z => absurd z (by decide), fun z => absurd z (by decide)⟩
  rw [fX5_readToken, tk_pre h (Nat.le_refl _) hlen (fun j z1 z2 => by omega) (by rw [hb]; decide), if_pos (by rw [J_lt _ _ (by omega) (by omega)]; omega), if_neg hck, J_nat _ (by omega), b2, c_kind _ (by decide), gb1_some, show kd 59 = 5 from rfl, Lt_eq, Lt_eq, if_neg (by decide), if_neg (by decide), i_1, J_add]
  dsimp only
  obtain ⟨m, hm⟩ : ∃ m, FU = m + 1 := ⟨FU - 1, by simp only [FU]⟩
  rw [hm, fX5_readToken_L113, if_pos rfl, Lt_eq, if_pos rfl]
  dsimp only
  rw [if_neg (by decide), if_neg (by decide)]
  rfl
theorem tk_end (h : tx X tc) {p : Nat} (hp : p = X.length) : tk X tc p p p 0 [] 0 := by
  have h500 := h.1
  intro k a l u
  refine ⟨l, u, ?_, fun z => absurd z (by decide), fun z => absurd z (by decide)⟩
  rw [fX5_readToken, c_t0 (by omega) (tx_b h) _ (X.length - p) p FU (by omega) (by simp only [FU]; omega), run_to pW (bX X) (X.length - p) p p (Nat.le_refl _) (by omega) (fun j a b => by omega) (Or.inl (by omega)), if_neg (by rw [J_lt _ _ (by omega) (by omega)]; omega)]
theorem rd_letters {p s e : Nat} {w : List Nat} {v : Nat} (h : tk X tc p s e 3 w v) (ea ec k a : Int32) (l : Int64) (u : Int32) : ∃ u', fX5_readLetters ea (Int32.ofNat X.length) (Int32.ofNat p) ec k a l u tc = some (1, ea, Int32.ofNat e, ec, 3, Int32.ofNat s, L64 w, u') := by
  obtain ⟨l', u', r1, r2, r3⟩ := h k a l u
  exact ⟨u', by rw [fX5_readLetters, r1, gb5_some, if_pos rfl, r2 rfl]⟩
theorem rd_semi {p s e : Nat} {w : List Nat} {v : Nat} (h : tk X tc p s e 5 w v) (ea ec k a : Int32) (l : Int64) (u : Int32) : ∃ l' u', fX5_readSemicolon ea (Int32.ofNat X.length) (Int32.ofNat p) ec k a l u tc = some (1, ea, Int32.ofNat e, ec, 5, Int32.ofNat s, l', u') := by
  obtain ⟨l', u', r1, r2, r3⟩ := h k a l u
  exact ⟨l', u', by rw [fX5_readSemicolon, r1, gb5_some, if_pos rfl]⟩
theorem rd_number {p s e : Nat} {w : List Nat} {v : Nat} (h : tk X tc p s e 4 w v) {lo hi : Nat} (hlo : lo ≤ v) (hhi : v ≤ hi) (h9 : hi ≤ 9999) (ea ec k a : Int32) (l : Int64) (u : Int32) : ∃ l', fX5_readNumber (Int32.ofNat lo) (Int32.ofNat hi) ea (Int32.ofNat X.length) (Int32.ofNat p) ec k a l u tc = some (1, ea, Int32.ofNat e, ec, 4, Int32.ofNat s, l', Int32.ofNat v) := by
  obtain ⟨l', u', r1, r2, r3⟩ := h k a l u
  exact ⟨l', by rw [fX5_readNumber, r1, gb5_some, if_pos rfl, r3 rfl, Lt_eq, if_neg (by rw [J_lt _ _ (by omega) (by omega)]; omega), if_pos (by rw [J_le _ _ (by omega) (by omega)]; omega)]⟩
end TK
