/-! recut, recutAll, tick -/
theorem c_cut {A : aB} {b : tBk} (hc : cBk A b) (hI : Inv A) {i : Nat} (hi : i < A.2.2.1.1) (C : tCut) (S : tCutR) : Ok (fX1_cutAnew (Int32.ofNat i) b.1 b.2.2.1 b.2.2.2.1 b.2.2.2.2.1 b.2.2.2.2.2.1 b.2.2.2.2.2.2.1 b.2.2.2.2.2.2.2 C S) (fun r => r.1 = Int32.ofNat (A.2.2.2.1 2 * ((A.2.2.1.2.2.2 i).length - (kS A (A.2.2.1.2.1 i)).length)) ∧ cBk (aCut A i (kI A (A.2.2.1.2.1 i))) (b.1, b.2.1, r.2.1, b.2.2.2.1, r.2.2.1, r.2.2.2.1, r.2.2.2.2.1, r.2.2.2.2.2.1)) := by
  obtain ⟨w1, w2, w3, w4, w5⟩ := hI.2.2.1.2 i hi
  obtain ⟨k1, k2, k3, k4, kf⟩ := kS_ok hI hi
  exact c_cutAnew hc hI.1.1 hI.2.1.1 (okP_Inv hI) hI.2.2.1.1 (fun j hj => iW_len hI hj) hI.2.2.2.2.1.1 hI.2.2.2.2.1.2.1 hI.2.2.2.2.1.2.2.2.1 hi (iW_wf hI hi) w5 w1 w2 (fun q => cnt_le' hI hi q) (fun q hq => by have := uses_bd hI hq; omega) k2 k3 k4 C S
def aC1 (A : aB) (i : Nat) : aB := aCut A i (kI A (A.2.2.1.2.1 i))
def rC1 (A : aB) (i : Nat) : Int32 := Int32.ofNat (A.2.2.2.1 2 * ((A.2.2.1.2.2.2 i).length - (kS A (A.2.2.1.2.1 i)).length))
def aAll : Nat → Nat → aB → aB
  | 0, _, A => A
  | d + 1, i, A => aAll d (i + 1) (aC1 A i)
def rAll : Nat → Nat → aB → Int32 → Int32
  | 0, _, _, x => x
  | d + 1, i, A, x => rAll d (i + 1) (aC1 A i) (x + rC1 A i)
theorem c_all_L {time chest : Int32} {settings : Nat → Int32} {k : Int32 → Int32 → (Nat → Int32) → tUsers → tPieces → tWords → tCut → tCutR → Option (Int32 × Int32 × (Nat → Int32) × tUsers × tPieces × tWords × tCut × tCutR × tHist)} {Q : Int32 × Int32 × (Nat → Int32) × tUsers × tPieces × tWords × tCut × tCutR × tHist → Prop} : ∀ (d i n : Nat) (A : aB) (x fund : Int32) (sums : Nat → Int32) (U : tUsers) (P : tPieces) (W : tWords) (C : tCut) (S : tCutR), i + d = A.2.2.1.1 → d < n → Inv A → cBk A (time, chest, fund, settings, sums, U, P, W) → (∀ fund sums U P W C S, cBk (aAll d i A) (time, chest, fund, settings, sums, U, P, W) → Ok (k (rAll d i A x) fund sums U P W C S) Q) → Ok (fX9_recutAll_L15 time settings k n x (Int32.ofNat i) fund sums U P W C S) Q
  | d, i, 0, A, x, fund, sums, U, P, W, C, S, _, h2, _, _, _ => by omega
  | 0, i, n + 1, A, x, fund, sums, U, P, W, C, S, h1, _, hI, hc, hk => by
    have h16 := hI.2.2.1.1
    rw [fX9_recutAll_L15, if_pos (by rw [hc.2.2.1.1, J_le _ _ (by omega) (by omega)]; omega)]
    exact hk fund sums U P W C S hc
  | d + 1, i, n + 1, A, x, fund, sums, U, P, W, C, S, h1, h2, hI, hc, hk => by
    have h16 := hI.2.2.1.1
    have hi : i < A.2.2.1.1 := by omega
    obtain ⟨⟨r, fund', sums', U', P', W', C', S'⟩, c1, c2, c3⟩ := c_cut hc hI hi C S
    simp only at c1 c2 c3
    rw [fX9_recutAll_L15, if_neg (by rw [hc.2.2.1.1, J_le _ _ (by omega) (by omega)]; omega), c1, gb8_some, i_1, J_add, c2]
    exact c_all_L d (i + 1) n (aC1 A i) _ fund' sums' U' P' W' C' S' (show i + 1 + d = A.2.2.1.1 by omega) (by omega) (Inv_cut hI hi) c3 hk
def aT1 (A : aB) : aB := aTk A.2.1.1 0 (aTime A)
def rT1 (A : aB) : Int32 := Int32.ofNat (A.2.1.1 - (aT1 A).2.1.1)
def aTs : Nat → aB → aB
  | 0, A => A
  | d + 1, A => aTs d (aT1 A)
def rTs : Nat → aB → Int32 → Int32
  | 0, _, x => x
  | d + 1, A, x => rTs d (aT1 A) (x + rT1 A)
theorem Inv_T1 {A : aB} (h : Inv A) : Inv (aT1 A) := (Inv_tk A.2.1.1 0 (aTime A) (by show A.2.1.1 = _; omega) (Inv_time h)).1
theorem c_tks_L {fund : Int32} {settings : Nat → Int32} {m : Nat} (hm : m ≤ 30) {k : Int32 → Int32 → Int32 → (Nat → Int32) → tUsers → tPieces → tWords → Option (Int32 × Int32 × Int32 × (Nat → Int32) × tUsers × tPieces × tWords × tHist)} {Q : Int32 × Int32 × Int32 × (Nat → Int32) × tUsers × tPieces × tWords × tHist → Prop} : ∀ (d i n : Nat) (A : aB) (x time chest : Int32) (sums : Nat → Int32) (U : tUsers) (P : tPieces) (W : tWords), i + d = m → d < n → Inv A → cB A time chest fund settings sums U P W → (∀ time chest sums U P W, cB (aTs d A) time chest fund settings sums U P W → Ok (k (rTs d A x) time chest sums U P W) Q) → Ok (fX9_tick_L34 (Int32.ofNat m) settings k n x (Int32.ofNat i) time chest sums U P W) Q
  | d, i, 0, A, x, time, chest, sums, U, P, W, _, h2, _, _, _ => by omega
  | 0, i, n + 1, A, x, time, chest, sums, U, P, W, h1, _, hI, hc, hk => by
    rw [fX9_tick_L34, if_pos (by rw [J_le _ _ (by omega) (by omega)]; omega)]
    exact hk time chest sums U P W hc
  | d + 1, i, n + 1, A, x, time, chest, sums, U, P, W, h1, h2, hI, hc, hk => by
    obtain ⟨⟨r, time', chest', sums', U', P', W'⟩, c1, c2, c3⟩ := c_passTick hc hI
    simp only at c1 c2 c3
    rw [fX9_tick_L34, if_neg (by rw [J_le _ _ (by omega) (by omega)]; omega), c1, gb7_some, i_1, J_add, c2]
    exact c_tks_L hm d (i + 1) n (aT1 A) _ time' chest' sums' U' P' W' (by omega) (by omega) (Inv_T1 hI) c3 hk
