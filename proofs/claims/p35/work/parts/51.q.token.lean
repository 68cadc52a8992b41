/-! tokens: both sides -/
def pW (v : Nat) : Bool := decide (v = 32 ∨ v = 10)
def pD (v : Nat) : Bool := decide (48 ≤ v ∧ v ≤ 57)
def kd (v : Nat) : Nat := if pW v = true then 1 else if pL v = true then 3 else if pD v = true then 4 else if v = 59 then 5 else 2
theorem c_kind : ∀ v : Nat, v < 256 → fX5_kindOf (sxb v) = some (Int32.ofNat (kd v)) := by decide +kernel
theorem kd_le : ∀ v : Nat, kd v ≤ 5 := by
  intro v
  unfold kd
  split
  · omega
  · split
    · omega
    · split
      · omega
      · split <;> omega
theorem run_stop (p : Nat → Bool) (bt : Nat → Nat) : ∀ (d i : Nat), run p bt i d < i + d → ¬ p (bt (run p bt i d)) = true
  | 0, i, h => by simp [run] at h
  | d + 1, i, h => by
    rw [run] at h ⊢
    split
    · rename_i c
      rw [if_pos c] at h
      exact run_stop p bt d (i + 1) (by omega)
    · rename_i c
      exact c
theorem run_1 (p : Nat → Bool) (bt : Nat → Nat) {s N : Nat} (hs : s < N) (h : p (bt s) = true) : run p bt s (N - s) = run p bt (s + 1) (N - (s + 1)) := by
  rw [show N - s = N - (s + 1) + 1 by omega, run, if_pos h]
theorem c_t0 {bt : Nat → Nat} {N : Nat} (hN : N ≤ 600) {tc : Nat → Int32} (hb : ∀ i, i < N → bt i < 256 ∧ tc i = sxb (bt i)) (k : Int32 → Option (Int32 × Int32 × Int32 × Int64 × Int32)) : ∀ (d i f : Nat), i + d = N → d < f → fX5_readToken_L0 (Int32.ofNat N) tc k f (Int32.ofNat i) = k (Int32.ofNat (run pW bt i d))
  | d, i, 0, _, h => by omega
  | 0, i, f + 1, h1, _ => by
    rw [fX5_readToken_L0, if_pos (by rw [J_le _ _ (by omega) (by omega)]; omega)]
    rfl
  | d + 1, i, f + 1, h1, h2 => by
    obtain ⟨b1, b2⟩ := hb i (by omega)
    rw [fX5_readToken_L0, if_neg (by rw [J_le _ _ (by omega) (by omega)]; omega), if_neg (inck (i := i) (n := N) (by omega) hN (by omega)), J_nat _ (by omega), b2, c_kind _ b1, gb1_some, run]
    by_cases c : pW (bt i) = true
    · rw [if_pos (by rw [kd, if_pos c]; rfl), if_pos c, i_1, J_add]
      exact c_t0 hN hb k d (i + 1) f (by omega) (by omega)
    · rw [if_neg (by rw [i_1, J_eq _ _ (by have := kd_le (bt i); omega) (by omega), kd, if_neg c]; split <;> first | omega | (split <;> first | omega | (split <;> omega))), if_neg c]
theorem c_t113 {bt : Nat → Nat} {N : Nat} (hN : N ≤ 600) {tc : Nat → Int32} (hb : ∀ i, i < N → bt i < 256 ∧ tc i = sxb (bt i)) {q : Nat → Bool} {kk : Nat} (hk : kk ≤ 5) (hq : ∀ v, v < 256 → (kd v = kk ↔ q v = true)) (k : Int32 → Option (Int32 × Int32 × Int32 × Int64 × Int32)) : ∀ (d i f : Nat), i + d = N → d < f → fX5_readToken_L113 1 (Int32.ofNat N) (Int32.ofNat kk) tc k f (Int32.ofNat i) = k (Int32.ofNat (run q bt i d))
  | d, i, 0, _, h => by omega
  | 0, i, f + 1, h1, _ => by
    rw [fX5_readToken_L113, if_neg (by decide), if_pos (by rw [J_le _ _ (by omega) (by omega)]; omega)]
    rfl
  | d + 1, i, f + 1, h1, h2 => by
    obtain ⟨b1, b2⟩ := hb i (by omega)
    have hkl := kd_le (bt i)
    rw [fX5_readToken_L113, if_neg (by decide), if_neg (by rw [J_le _ _ (by omega) (by omega)]; omega), if_neg (inck (i := i) (n := N) (by omega) hN (by omega)), J_nat _ (by omega), b2, c_kind _ b1, gb1_some, run]
    by_cases c : q (bt i) = true
    · rw [if_pos (by rw [(hq _ b1).mpr c]), if_pos c, i_1, J_add]
      exact c_t113 hN hb hk hq k d (i + 1) f (by omega) (by omega)
    · rw [if_neg (by rw [J_eq _ _ (by omega) (by omega)]; exact fun h => c ((hq _ b1).mp h)), if_neg c]
theorem kd_L : ∀ v, v < 256 → (kd v = 3 ↔ pL v = true) := by decide +kernel
theorem kd_D : ∀ v, v < 256 → (kd v = 4 ↔ pD v = true) := by decide +kernel
def dv (bt : Nat → Nat) (a : Nat) : Nat → Nat
  | 0 => 0
  | j + 1 => dv bt a j * 10 + (bt (a + j) - 48)
theorem dv_lt {bt : Nat → Nat} {a : Nat} : ∀ {j : Nat}, (∀ i, i < j → pD (bt (a + i)) = true) → dv bt a j + 1 ≤ 10 ^ j
  | 0, _ => by simp [dv]
  | j + 1, h => by
    have h1 := dv_lt (j := j) (fun i hi => h i (by omega))
    have h2 := h j (by omega)
    simp only [pD, decide_eq_true_eq] at h2
    rw [dv, Nat.pow_succ]
    omega
theorem c_val {bt : Nat → Nat} {N : Nat} (hN : N ≤ 600) {tc : Nat → Int32} (hb : ∀ i, i < N → bt i < 256 ∧ tc i = sxb (bt i)) {a b : Nat} (hbN : b ≤ N) (hd : ∀ j, a ≤ j → j < b → pD (bt j) = true) (k : Int32 → Option Int32) : ∀ (d j f : Nat), a + j + d = b → d < f → fX5_valueOf_L5 (Int32.ofNat b) tc k f (Int32.ofNat (dv bt a j)) (Int32.ofNat (a + j)) = k (Int32.ofNat (dv bt a (j + d)))
  | d, j, 0, _, h => by omega
  | 0, j, f + 1, h1, _ => by
    rw [fX5_valueOf_L5, if_pos (by rw [J_le _ _ (by omega) (by omega)]; omega)]
    rfl
  | d + 1, j, f + 1, h1, h2 => by
    have hp := hd (a + j) (by omega) (by omega)
    simp only [pD, decide_eq_true_eq] at hp
    obtain ⟨b1, b2⟩ := hb (a + j) (by omega)
    have e : Int32.ofNat (dv bt a j) * 10 + tc (a + j) - 48 = Int32.ofNat (dv bt a (j + 1)) := by
      rw [b2, sxlo _ (by omega), i_10, J_mul, J_add, i_48, J_sub _ _ (by omega), dv]
      congr 1
      omega
    rw [fX5_valueOf_L5, if_neg (by rw [J_le _ _ (by omega) (by omega)]; omega), if_neg (inck (i := a + j) (n := N) (by omega) hN (by omega)), J_nat _ (by omega), e, i_1, J_add]
    have := c_val hN hb hbN hd k d (j + 1) f (by omega) (by omega)
    rw [show j + 1 + d = j + (d + 1) by omega] at this
    exact this
/-! the reference -/
def kc (K : Nat) : Int32 := if K = 0 then 0 else if K = 1 then 3 else if K = 2 then 4 else if K = 3 then 5 else 2
