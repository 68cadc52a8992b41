/-! tokens: both sides -/
def pW (v : Nat) : Bool := decide (v = 32 ∨ v = 10)
def pD (v : Nat) : Bool := decide (48 ≤ v ∧ v ≤ 57)
def kd (v : Nat) : Nat := if pW v = true then 1 else if pL v = true then 3 else if pD v = true then 4 else if v = 59 then 5 else 2
theorem c_kind : ∀ v : Nat, v < 256 → fX5_kindOf (sxb v) = some (Int32.ofNat (kd v)) := by decide +kernel
theorem kd_le : ∀ v : Nat, kd v ≤ 5 := by
  intro v
  unfold kd
  split
  · omega
  · split
    · omega
    · split
      · omega
      · split <;> omega
theorem run_stop (p : Nat → Bool) (bt : Nat → Nat) : ∀ (d i : Nat), run p bt i d < i + d → ¬ p (bt (run p bt i d)) = true
  | 0, i, h => by simp [run] at h
  | d + 1, i, h => by
    rw [run] at h ⊢
    split
    · rename_i c
      rw [if_pos c] at h
      exact run_stop p bt d (i + 1) (by omega)
    · rename_i c
      exact c
theorem run_1 (p : Nat → Bool) (bt : Nat → Nat) {s N : Nat} (hs : s < N) (h : p (bt s) = true) : run p bt s (N - s) = run p bt (s + 1) (N - (s + 1)) := by
  rw [show N - s = N - (s + 1) + 1 by omega, run, if_pos h]
theorem c_t0 {bt : Nat → Nat} {N : Nat} (hN : N ≤ 600) {tc : Nat → Int32} (hb : ∀ i, i < N → bt i < 256 ∧ tc i = sxb (bt i)) (k : Int32 → Option (Int32 × Int32 × Int32 × Int64 × Int32)) : ∀ (d i f : Nat), i + d = N → d < f → fX5_readToken_L0 (Int32.ofNat N) tc k f (Int32.ofNat i) = k (Int32.ofNat (run pW bt i d))
  | d, i, 0, _, h => by omega
  | 0, i, f + 1, h1, _ => by
    rw [fX5_readToken_L0, if_pos (by rw [J_le _ _ (by omega) (by omega)]; omega)]
    rfl
  | d + 1, i, f + 1, h1, h2 => by
    obtain ⟨b1, b2⟩ := hb i (by omega)
    rw [fX5_readToken_L0, if_neg (by rw [J_le _ _ (by omega) (by omega)]; omega), if_neg (inck (i := i) (n := N) (by omega) hN (by omega)), J_nat _ (by omega), b2, c_kind _ b1, gb1_some, run]
    by_cases c : pW (bt i) = true
    · rw [if_pos (by rw [kd, if_pos c]; rfl), if_pos c, i_1, J_add]
      exact c_t0 hN hb k d (i + 1) f (by omega) (by omega)
    · rw [if_neg (by rw [i_1, J_eq _ _ (by have := kd_le (bt i); omega) (by omega), kd, if_neg c]; split <;> first | omega | (split <;> first | omega | (split <;> omega))), if_neg c]
theorem c_t113 {bt : Nat → Nat} {N : Nat} (hN : N ≤ 600) {tc : Nat → Int32} (hb : ∀ i, i < N → bt i < 256 ∧ tc i = sxb (bt i)) {q : Nat → Bool} {kk : Nat} (hk : kk ≤ 5) (hq : ∀ v, v < 256 → (kd v = kk ↔ q v = true)) (k : Int32 → Option (Int32 × Int32 × Int32 × Int64 × Int32)) : ∀ (d i f : Nat), i + d = N → d < f → fX5_readToken_L113 1 (Int32.ofNat N) (Int32.ofNat kk) tc k f (Int32.ofNat i) = k (Int32.ofNat (run q bt i d))
  | d, i, 0, _, h => by omega
  | 0, i, f + 1, h1, _ => by
    rw [fX5_readToken_L113, if_neg (by decide), if_pos (by rw [J_le _ _ (by omega) (by omega)]; omega)]
    rfl
  | d + 1, i, f + 1, h1, h2 => by
    obtain ⟨b1, b2⟩ := hb i (by omega)
    have hkl := kd_le (bt i)
    rw [fX5_readToken_L113, if_neg (by decide), if_neg (by rw [J_le _ _ (by omega) (by omega)]; omega), if_neg (inck (i := i) (n := N) (by omega) hN (by omega)), J_nat _ (by omega), b2, c_kind _ b1, gb1_some, run]
    by_cases c : q (bt i) = true
    · rw [if_pos (by rw [(hq _ b1).mpr c]), if_pos c, i_1, J_add]
      exact c_t113 hN hb hk hq k d (i + 1) f (by omega) (by omega)
    · rw [if_neg (by rw [J_eq _ _ (by omega) (by omega)]; exact fun h => c ((hq _ b1).mp h)), if_neg c]
theorem kd_L : ∀ v, v < 256 → (kd v = 3 ↔ pL v = true) := by decide +kernel
theorem kd_D : ∀ v, v < 256 → (kd v = 4 ↔ pD v = true) := by decide +kernel
def dv (bt : Nat → Nat) (a : Nat) : Nat → Nat
  | 0 => 0
  | j + 1 => dv bt a j * 10 + (bt (a + j) - 48)
theorem dv_lt {bt : Nat → Nat} {a : Nat} : ∀ {j : Nat}, (∀ i, i < j → pD (bt (a + i)) = true) → dv bt a j + 1 ≤ 10 ^ j
  | 0, _ => by simp [dv]
  | j + 1, h => by
    have h1 := dv_lt (j := j) (fun i hi => h i (by omega))
    have h2 := h j (by omega)
    simp only [pD, decide_eq_true_eq] at h2
    rw [dv, Nat.pow_succ]
    omega
theorem c_val {bt : Nat → Nat} {N : Nat} (hN : N ≤ 600) {tc : Nat → Int32} (hb : ∀ i, i < N → bt i < 256 ∧ tc i = sxb (bt i)) {a b : Nat} (hbN : b ≤ N) (hd : ∀ j, a ≤ j → j < b → pD (bt j) = true) (k : Int32 → Option Int32) : ∀ (d j f : Nat), a + j + d = b → d < f → fX5_valueOf_L5 (Int32.ofNat b) tc k f (Int32.ofNat (dv bt a j)) (Int32.ofNat (a + j)) = k (Int32.ofNat (dv bt a (j + d)))
  | d, j, 0, _, h => by omega
  | 0, j, f + 1, h1, _ => by
    rw [fX5_valueOf_L5, if_pos (by rw [J_le _ _ (by omega) (by omega)]; omega)]
    rfl
  | d + 1, j, f + 1, h1, h2 => by
    have hp := hd (a + j) (by omega) (by omega)
    simp only [pD, decide_eq_true_eq] at hp
    obtain ⟨b1, b2⟩ := hb (a + j) (by omega)
    have e : Int32.ofNat (dv bt a j) * 10 + tc (a + j) - 48 = Int32.ofNat (dv bt a (j + 1)) := by
      rw [b2, sxlo _ (by omega), i_10, J_mul, J_add, i_48, J_sub _ _ (by omega), dv]
      congr 1
      omega
    rw [fX5_valueOf_L5, if_neg (by rw [J_le _ _ (by omega) (by omega)]; omega), if_neg (inck (i := a + j) (n := N) (by omega) hN (by omega)), J_nat _ (by omega), e, i_1, J_add]
    have := c_val hN hb hbN hd k d (j + 1) f (by omega) (by omega)
    rw [show j + 1 + d = j + (d + 1) by omega] at this
    exact this
/-! the reference -/
theorem m_t0 {bt : Nat → Nat} {N : Nat} (hN : N ≤ 600) {tm : Nat → Int32} (hb : ∀ i, i < N → bt i < 256 ∧ tm i = sxb (bt i)) (k : Int32 → Option (Int32 × Int32 × Int32 × Int32)) : ∀ (d i f : Nat), i + d = N → d < f → fX10_advance_L0 (Int32.ofNat N) tm k f (Int32.ofNat i) = k (Int32.ofNat (run pW bt i d))
  | d, i, 0, _, h => by omega
  | 0, i, f + 1, h1, _ => by
    rw [fX10_advance_L0, m_byteE hN (by omega) (by omega), gb1_some, Lt_eq, if_neg (by decide), gb1_some, if_neg (by decide)]
    rfl
  | d + 1, i, f + 1, h1, h2 => by
    obtain ⟨b1, b2⟩ := hb i (by omega)
    rw [fX10_advance_L0, m_byte hN hb (by omega), gb1_some, Lt_eq, gb1_some, run]
    by_cases c : bt i = 32
    · rw [if_pos (by rw [c]; rfl), if_pos (by simp [pW, c]), i_1, J_add]
      exact m_t0 hN hb k d (i + 1) f (by omega) (by omega)
    · rw [if_neg (by rw [i_32, J_eq _ _ (by omega) (by omega)]; exact c)]
      by_cases c2 : bt i = 10
      · rw [if_pos (by rw [c2]; rfl), if_pos (by simp [pW, c2]), i_1, J_add]
        exact m_t0 hN hb k d (i + 1) f (by omega) (by omega)
      · rw [if_neg (by rw [i_10, J_eq _ _ (by omega) (by omega)]; exact c2), if_neg (by simp [pW, c, c2])]
theorem m_t85 {bt : Nat → Nat} {N : Nat} (hN : N ≤ 600) {tm : Nat → Int32} (hb : ∀ i, i < N → bt i < 256 ∧ tm i = sxb (bt i)) (k : Int32 → Option (Int32 × Int32 × Int32 × Int32)) : ∀ (d i f : Nat), i + d = N → d < f → fX10_advance_L85 (Int32.ofNat N) tm k f (Int32.ofNat i) = k (Int32.ofNat (run pL bt i d))
  | d, i, 0, _, h => by omega
  | 0, i, f + 1, h1, _ => by
    rw [fX10_advance_L85, m_byteE hN (by omega) (by omega), gb1_some, i_97, i_122, within_m1 (by omega), gb1_some, if_pos rfl]
    rfl
  | d + 1, i, f + 1, h1, h2 => by
    obtain ⟨b1, b2⟩ := hb i (by omega)
    rw [fX10_advance_L85, m_byte hN hb (by omega), gb1_some, i_97, i_122, within_b b1 (by omega) (by omega), gb1_some, run]
    by_cases c : 97 ≤ bt i ∧ bt i ≤ 122
    · have : pL (bt i) = true := by simpa [pL] using c
      rw [if_pos c, if_neg (by decide), if_pos this, i_1, J_add]
      exact m_t85 hN hb k d (i + 1) f (by omega) (by omega)
    · have : ¬ pL (bt i) = true := by simpa [pL] using c
      rw [if_neg c, if_pos rfl, if_neg this]
theorem m_t153 {bt : Nat → Nat} {N : Nat} (hN : N ≤ 600) {tm : Nat → Int32} (hb : ∀ i, i < N → bt i < 256 ∧ tm i = sxb (bt i)) {a : Nat} (k : Int32 → Int32 → Option (Int32 × Int32 × Int32 × Int32)) : ∀ (d j f : Nat), a + j + d = N → d < f → fX10_advance_L153 (Int32.ofNat N) (Int32.ofNat a) tm k f (Int32.ofNat (a + j)) (Int32.ofNat (dv bt a (min 4 j))) = k (Int32.ofNat (run pD bt (a + j) d)) (Int32.ofNat (dv bt a (min 4 (run pD bt (a + j) d - a))))
  | d, j, 0, _, h => by omega
  | 0, j, f + 1, h1, _ => by
    rw [fX10_advance_L153, m_byteE hN (by omega) (by omega), gb1_some, i_48, i_57, within_m1 (by omega), gb1_some, if_pos rfl, run, Nat.add_sub_cancel_left]
  | d + 1, j, f + 1, h1, h2 => by
    obtain ⟨b1, b2⟩ := hb (a + j) (by omega)
    rw [fX10_advance_L153, m_byte hN hb (by omega), gb1_some, i_48, i_57, within_b b1 (by omega) (by omega), gb1_some, run]
    by_cases c : 48 ≤ bt (a + j) ∧ bt (a + j) ≤ 57
    · have hp : pD (bt (a + j)) = true := by simpa [pD] using c
      have ih := m_t153 hN hb (a := a) k d (j + 1) f (by omega) (by omega)
      rw [if_pos c, if_neg (by decide), if_pos hp, Lt_eq, J_sub _ _ (by omega), Nat.add_sub_cancel_left]
      by_cases c4 : 4 ≤ j
      · rw [if_pos (by rw [i_4, J_le _ _ (by omega) (by omega)]; exact c4), i_1, J_add]
        rw [show min 4 (j + 1) = min 4 j by omega] at ih
        exact ih
      · have e : 10 * Int32.ofNat (dv bt a (min 4 j)) + Int32.ofNat (bt (a + j)) - Int32.ofNat 48 = Int32.ofNat (dv bt a (min 4 (j + 1))) := by
          rw [show min 4 j = j by omega, show min 4 (j + 1) = j + 1 by omega, i_10, J_mul, J_add, J_sub _ _ (by omega), dv]
          congr 1
          omega
        rw [if_neg (by rw [i_4, J_le _ _ (by omega) (by omega)]; exact c4), gb1_some, e, i_1, J_add]
        exact ih
    · have hp : ¬ pD (bt (a + j)) = true := by simpa [pD] using c
      rw [if_neg c, if_pos rfl, if_neg hp, Nat.add_sub_cancel_left]
def kc (K : Nat) : Int32 := if K = 0 then 0 else if K = 1 then 3 else if K = 2 then 4 else if K = 3 then 5 else 2
def Tok (N : Nat) (bt : Nat → Nat) (tc tm : Nat → Int32) (p s e K v : Nat) : Prop := p ≤ s ∧ s ≤ e ∧ e ≤ N ∧ K ≤ 4 ∧ (K = 0 ∨ s < e) ∧ (K = 1 → e - s ≤ 12 ∧ ∀ j, s ≤ j → j < e → pL (bt j) = true) ∧ v ≤ 9999 ∧ (∀ (k a : Int32) (l : Int64) (u : Int32), ∃ l' u', fX5_readToken (Int32.ofNat N) (Int32.ofNat p) k a l u tc = some (Int32.ofNat e, kc K, Int32.ofNat s, l', u') ∧ (K = 1 → l' = L64 (lets bt s e)) ∧ (K = 2 → u' = Int32.ofNat v)) ∧ ∀ st t0 v0, fX10_advance (Int32.ofNat N) st (Int32.ofNat p) t0 v0 tm = some (Int32.ofNat s, Int32.ofNat e, Int32.ofNat K, Int32.ofNat v)
theorem tok {bt : Nat → Nat} {N : Nat} (hN : N ≤ 600) {tc tm : Nat → Int32} (hY : tY N bt tc tm) {p : Nat} (hp : p ≤ N) : ∃ s e K v, Tok N bt tc tm p s e K v := by
  have hc : ∀ i, i < N → bt i < 256 ∧ tc i = sxb (bt i) := fun i hi => ⟨(hY i hi).1, (hY i hi).2.1⟩
  have hm : ∀ i, i < N → bt i < 256 ∧ tm i = sxb (bt i) := fun i hi => ⟨(hY i hi).1, (hY i hi).2.2⟩
  have hr := run_le pW bt (N - p) p
  have hst := run_stop pW bt (N - p) p
  have ec := fun (k : Int32 → Option (Int32 × Int32 × Int32 × Int64 × Int32)) => c_t0 hN hc k (N - p) p FU (by omega) (by simp only [FU]; omega)
  have em := fun (k : Int32 → Option (Int32 × Int32 × Int32 × Int32)) => m_t0 hN hm k (N - p) p FU (by omega) (by simp only [FU]; omega)
  generalize run pW bt p (N - p) = s at hr hst ec em
  by_cases c0 : s = N
  · subst c0
    refine ⟨s, s, 0, 0, hr.1, Nat.le_refl _, Nat.le_refl _, by omega, Or.inl rfl, by omega, by omega, fun k a l u => ⟨l, u, ?_, by omega, by omega⟩, fun st t0 v0 => ?_⟩
    · rw [fX5_readToken, ec, if_neg (by rw [J_lt _ _ (by omega) (by omega)]; omega)]
      rfl
    · rw [fX10_advance, em, m_byteE hN (Nat.le_refl _) (by omega), gb1_some, if_pos (show M1 = -1 from rfl)]
      rfl
  · have hs : s < N := by omega
    have hnw := hst (by omega)
    obtain ⟨b1, b2⟩ := hc s hs
    have hck : ¬ (Int32.ofNat s < 0 ∨ 600 ≤ (Int32.ofNat s).toNatClampNeg) := inck (n := N) hs hN (by omega)
    have eb := m_byte hN hm hs
    by_cases cL : pL (bt s) = true
    · have hkd : kd (bt s) = 3 := (kd_L _ b1).mpr cL
      have hrl := run_le pL bt (N - (s + 1)) (s + 1)
      have hrin := run_in pL bt (N - (s + 1)) (s + 1)
      have ec2 := fun k => c_t113 hN hc (q := pL) (kk := 3) (by omega) kd_L k (N - (s + 1)) (s + 1) FU (by omega) (by simp only [FU]; omega)
      have em2 := fun k => m_t85 hN hm k (N - s) s FU (by omega) (by simp only [FU]; omega)
      rw [run_1 pL bt hs cL] at em2
      generalize run pL bt (s + 1) (N - (s + 1)) = e at hrl hrin ec2 em2
      have hall : ∀ j, s ≤ j → j < e → pL (bt j) = true := by
        intro j h1 h2
        by_cases c : j = s
        · rw [c]; exact cL
        · exact hrin j (by omega) h2
      have hpl : 97 ≤ bt s ∧ bt s ≤ 122 := by simpa [pL] using cL
      have ew : fX10_within (Int32.ofNat (bt s)) 97 122 = some 1 := by
        rw [i_97, i_122, within_b b1 (by omega) (by omega), if_pos hpl]
      refine ⟨s, e, if e - s ≤ 12 then 1 else 4, 0, hr.1, by omega, by omega, by split <;> omega, Or.inr (by omega), fun h => ⟨by split at h <;> omega, hall⟩, by omega, fun k a l u => ?_, fun st t0 v0 => ?_⟩
      · have hpre : fX5_readToken (Int32.ofNat N) (Int32.ofNat p) k a l u tc = (if Int32.ofNat e - Int32.ofNat s ≤ 12 then (gb1 (fX4_read 600 (Int32.ofNat s) (Int32.ofNat e) tc) fun (r_2 : Int64) => some (Int32.ofNat e, 3, Int32.ofNat s, r_2, u)) else some (Int32.ofNat e, 2, Int32.ofNat s, l, u)) := by
          rw [fX5_readToken, ec, if_pos (by rw [J_lt _ _ (by omega) (by omega)]; omega), if_neg hck, J_nat _ (by omega), b2, c_kind _ b1, gb1_some, hkd, Lt_eq, Lt_eq, if_pos (by rfl)]
          have := ec2
          rw [i_1, J_add]
          refine (this _).trans ?_
          rw [Lt_eq, if_neg (by decide), Lt_eq, if_pos (by rfl)]
          rfl
        by_cases c12 : e - s ≤ 12
        · refine ⟨L64 (lets bt s e), u, ?_, fun _ => rfl, ?_⟩
          · rw [hpre, if_pos (by rw [J_sub _ _ (by omega), i_12, J_le _ _ (by omega) (by omega)]; exact c12), c_read (bt := bt) (by omega) (by omega) (by omega) c12 hall (fun j hj => (hc j (by omega)).2), gb1_some, if_pos c12]
            rfl
          · rw [if_pos c12]; omega
        · refine ⟨l, u, ?_, ?_, ?_⟩
          · rw [hpre, if_neg (by rw [J_sub _ _ (by omega), i_12, J_le _ _ (by omega) (by omega)]; exact c12), if_neg c12]
            rfl
          · rw [if_neg c12]; omega
          · rw [if_neg c12]; omega
      · rw [fX10_advance, em, eb, gb1_some, if_neg (by rw [show (-1 : Int32) = M1 from rfl, J_ne1 _ (by omega)]; exact fun h => h), ew, gb1_some, if_neg (by decide)]
        refine (em2 _).trans ?_
        rw [Lt_eq]
        by_cases c12 : e - s ≤ 12
        · rw [if_pos (by rw [J_sub _ _ (by omega), i_12, J_le _ _ (by omega) (by omega)]; exact c12), if_pos c12]
          rfl
        · rw [if_neg (by rw [J_sub _ _ (by omega), i_12, J_le _ _ (by omega) (by omega)]; exact c12), if_neg c12]
          rfl
    · have hpl : ¬ (97 ≤ bt s ∧ bt s ≤ 122) := by simpa [pL] using cL
      have ew : fX10_within (Int32.ofNat (bt s)) 97 122 = some 0 := by
        rw [i_97, i_122, within_b b1 (by omega) (by omega), if_neg hpl]
      by_cases cD : pD (bt s) = true
      · have hkd : kd (bt s) = 4 := (kd_D _ b1).mpr cD
        have hrl := run_le pD bt (N - (s + 1)) (s + 1)
        have hrin := run_in pD bt (N - (s + 1)) (s + 1)
        have ec2 := fun k => c_t113 hN hc (q := pD) (kk := 4) (by omega) kd_D k (N - (s + 1)) (s + 1) FU (by omega) (by simp only [FU]; omega)
        have em2 := fun k => m_t153 hN hm (a := s) k (N - s) 0 FU (by omega) (by simp only [FU]; omega)
        rw [Nat.add_zero, run_1 pD bt hs cD] at em2
        generalize run pD bt (s + 1) (N - (s + 1)) = e at hrl hrin ec2 em2
        have hall : ∀ j, s ≤ j → j < e → pD (bt j) = true := by
          intro j h1 h2
          by_cases c : j = s
          · rw [c]; exact cD
          · exact hrin j (by omega) h2
        have hpd : 48 ≤ bt s ∧ bt s ≤ 57 := by simpa [pD] using cD
        have ew2 : fX10_within (Int32.ofNat (bt s)) 48 57 = some 1 := by
          rw [i_48, i_57, within_b b1 (by omega) (by omega), if_pos hpd]
        have hv := dv_lt (bt := bt) (a := s) (j := min 4 (e - s)) (fun i hi => hall (s + i) (by omega) (by omega))
        have hv2 : 10 ^ (min 4 (e - s)) ≤ 10 ^ 4 := Nat.pow_le_pow_right (by omega) (by omega)
        refine ⟨s, e, if e - s ≤ 4 then 2 else 4, dv bt s (min 4 (e - s)), hr.1, by omega, by omega, by split <;> omega, Or.inr (by omega), fun h => ?_, by omega, fun k a l u => ?_, fun st t0 v0 => ?_⟩
        · exfalso
          split at h <;> omega
        · have hpre : fX5_readToken (Int32.ofNat N) (Int32.ofNat p) k a l u tc = (if Int32.ofNat e - Int32.ofNat s ≤ 4 then (gb1 (fX5_valueOf (Int32.ofNat s) (Int32.ofNat e) tc) fun (r_3 : Int32) => some (Int32.ofNat e, 4, Int32.ofNat s, l, r_3)) else some (Int32.ofNat e, 2, Int32.ofNat s, l, u)) := by
            rw [fX5_readToken, ec, if_pos (by rw [J_lt _ _ (by omega) (by omega)]; omega), if_neg hck, J_nat _ (by omega), b2, c_kind _ b1, gb1_some, hkd, Lt_eq, Lt_eq, if_neg (by decide), if_pos (by rfl)]
            have := ec2
            rw [i_1, J_add]
            refine (this _).trans ?_
            rw [Lt_eq, if_neg (by decide), Lt_eq, if_neg (by decide)]
            rfl
          by_cases c4 : e - s ≤ 4
          · have ev : fX5_valueOf (Int32.ofNat s) (Int32.ofNat e) tc = some (Int32.ofNat (dv bt s (min 4 (e - s)))) := by
              have := c_val hN hc (a := s) (b := e) (by omega) hall (fun x => some x) (e - s) 0 FU (by omega) (by simp only [FU]; omega)
              rw [Nat.zero_add] at this
              rw [show min 4 (e - s) = e - s by omega]
              exact this
            refine ⟨l, _, ?_, ?_, fun _ => rfl⟩
            · rw [hpre, if_pos (by rw [J_sub _ _ (by omega), i_4, J_le _ _ (by omega) (by omega)]; exact c4), ev, gb1_some, if_pos c4]
              rfl
            · rw [if_pos c4]; omega
          · refine ⟨l, u, ?_, ?_, ?_⟩
            · rw [hpre, if_neg (by rw [J_sub _ _ (by omega), i_4, J_le _ _ (by omega) (by omega)]; exact c4), if_neg c4]
              rfl
            · rw [if_neg c4]; omega
            · rw [if_neg c4]; omega
        · rw [fX10_advance, em, eb, gb1_some, if_neg (by rw [show (-1 : Int32) = M1 from rfl, J_ne1 _ (by omega)]; exact fun h => h), ew, gb1_some, if_pos rfl, ew2, gb1_some, if_neg (by decide)]
          refine (em2 _).trans ?_
          rw [Lt_eq]
          by_cases c4 : e - s ≤ 4
          · rw [if_pos (by rw [J_sub _ _ (by omega), i_4, J_le _ _ (by omega) (by omega)]; exact c4), if_pos c4]
            rfl
          · rw [if_neg (by rw [J_sub _ _ (by omega), i_4, J_le _ _ (by omega) (by omega)]; exact c4), if_neg c4]
            rfl
      · have hpd : ¬ (48 ≤ bt s ∧ bt s ≤ 57) := by simpa [pD] using cD
        have ew2 : fX10_within (Int32.ofNat (bt s)) 48 57 = some 0 := by
          rw [i_48, i_57, within_b b1 (by omega) (by omega), if_neg hpd]
        have hkd : kd (bt s) = if bt s = 59 then 5 else 2 := by rw [kd, if_neg hnw, if_neg cL, if_neg cD]
        refine ⟨s, s + 1, if bt s = 59 then 3 else 4, 0, hr.1, by omega, by omega, by split <;> omega, Or.inr (by omega), fun h => ?_, by omega, fun k a l u => ⟨l, u, ?_, ?_, ?_⟩, fun st t0 v0 => ?_⟩
        · exfalso
          split at h <;> omega
        · rw [fX5_readToken, ec, if_pos (by rw [J_lt _ _ (by omega) (by omega)]; omega), if_neg hck, J_nat _ (by omega), b2, c_kind _ b1, gb1_some, hkd, Lt_eq, Lt_eq, i_1, J_add]
          by_cases c9 : bt s = 59
          · rw [if_pos c9, if_pos c9]
            rw [if_neg (by decide), if_neg (by decide)]
            rfl
          · rw [if_neg c9, if_neg c9]
            rw [if_neg (by decide), if_neg (by decide)]
            rfl
        · split <;> omega
        · split <;> omega
        · rw [fX10_advance, em, eb, gb1_some, if_neg (by rw [show (-1 : Int32) = M1 from rfl, J_ne1 _ (by omega)]; exact fun h => h), ew, gb1_some, if_pos rfl, ew2, gb1_some, if_pos rfl, Lt_eq, i_1, J_add]
          by_cases c9 : bt s = 59
          · rw [if_pos (by rw [c9]; rfl), if_pos c9]
            rfl
          · rw [if_neg (by rw [i_59, J_eq _ _ (by omega) (by omega)]; exact c9), if_neg c9]
            rfl
