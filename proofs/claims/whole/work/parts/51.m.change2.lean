/-! recut, recutAll, tick -/
theorem c_cut {A : aB} {b : tBk} (hc : cBk A b) (hI : Inv A) {i : Nat} (hi : i < A.2.2.1.1) (C : tCut) (S : tCutR) : Ok (fX1_cutAnew (Int32.ofNat i) b.1 b.2.2.1 b.2.2.2.1 b.2.2.2.2.1 b.2.2.2.2.2.1 b.2.2.2.2.2.2.1 b.2.2.2.2.2.2.2 C S) (fun r => r.1 = Int32.ofNat (A.2.2.2.1 2 * ((A.2.2.1.2.2.2 i).length - (kS A (A.2.2.1.2.1 i)).length)) ∧ cBk (aCut A i (kI A (A.2.2.1.2.1 i))) (b.1, b.2.1, r.2.1, b.2.2.2.1, r.2.2.1, r.2.2.2.1, r.2.2.2.2.1, r.2.2.2.2.2.1)) := by
  obtain ⟨w1, w2, w3, w4, w5⟩ := hI.2.2.1.2 i hi
  obtain ⟨k1, k2, k3, k4, kf⟩ := kS_ok hI hi
  exact c_cutAnew hc hI.1.1 hI.2.1.1 (okP_Inv hI) hI.2.2.1.1 (fun j hj => iW_len hI hj) hI.2.2.2.2.1.1 hI.2.2.2.2.1.2.1 hI.2.2.2.2.1.2.2.2.1 hi (iW_wf hI hi) w5 w1 w2 (fun q => cnt_le' hI hi q) (fun q hq => by have := uses_bd hI hq; omega) k2 k3 k4 C S
theorem q_recut {A : aB} {b : tBk} {now : Nat → Int32} (hc : cBk A b) (hm : mB A now) (hI : Inv A) {h : Nat} {HA : Nat → aB} {Hs : tHist} {undo : Nat → Int32} (H : hHi A h HA Hs undo) (u1 t0 many : Int32) (C : tCut) (S : tCutR) (spl c f g : Nat → Int32) : ∃ (x r B_fund' : Int32) (sums' : Nat → Int32) (U' : tUsers) (P' : tPieces) (W' : tWords) (C' : tCut) (S' : tCutR) (Hs' : tHist) (r2 t many' un' : Int32) (now' spl' c' f' g' undo' : Nat → Int32), fX9_recut u1 b.1 b.2.1 b.2.2.1 b.2.2.2.1 b.2.2.2.2.1 b.2.2.2.2.2.1 b.2.2.2.2.2.2.1 b.2.2.2.2.2.2.2 C S Hs = some (x, r, B_fund', sums', U', P', W', C', S', Hs') ∧ fX10_recut u1 t0 many (Int32.ofNat h) now spl c f g undo = some (r2, t, many', un', now', spl', c', f', g', undo') ∧ ((x = 0 ∧ t = 0 ∧ r = r2) ∨ (x = 1 ∧ t = 1)) ∧ ∃ A' h' HA', cBk A' (b.1, b.2.1, B_fund', b.2.2.2.1, sums', U', P', W') ∧ mB A' now' ∧ Inv A' ∧ same A A' ∧ hHi A h' HA' Hs' undo' ∧ un' = Int32.ofNat h' := by
  have h16 := hI.2.2.1.1
  rcases idx_cases u1 A.2.2.1.1 with ⟨i, hi, _, rfl⟩ | ho
  · obtain ⟨Hs', undo', h', HA', k1, k2, k3⟩ := keep hc hm hI H
    obtain ⟨⟨r2, many', now', spl', c', f', g'⟩, m1, m2, m3⟩ := m_recuts hm hI hi many spl c f g
    simp only at m2 m3
    obtain ⟨⟨r, fund', sums', U', P', W', C', S'⟩, c1, c2, c3⟩ := c_cut hc hI hi C S
    simp only at c2 c3
    refine ⟨0, r, fund', sums', U', P', W', C', S', Hs', r2, 0, many', _, now', spl', c', f', g', undo', ?_, ?_, Or.inl ⟨rfl, rfl, c2.trans m2.symm⟩, _, h', HA', c3, m3, Inv_cut hI hi, ⟨rfl, rfl⟩, k3, rfl⟩
    · rw [fX9_recut, reqW_in hc.2.2.1.1 hi (by omega), gb1_some, if_pos rfl, k1, gb1_some, c1, gb8_some]
    · rw [fX10_recut, noW_in hm.2.2.1.1 hi (by omega), gb2_some, if_pos rfl, k2, gb2_some, m1, gb7_some]
  · refine ⟨1, 0, b.2.2.1, b.2.2.2.2.1, b.2.2.2.2.2.1, b.2.2.2.2.2.2.1, b.2.2.2.2.2.2.2, C, S, Hs, 0, 1, many, Int32.ofNat h, now, spl, c, f, g, undo, ?_, ?_, Or.inr ⟨rfl, rfl⟩, A, h, HA, hc, hm, hI, same_refl A, H, rfl⟩
    · rw [fX9_recut, reqW_out hc.2.2.1.1 (by omega) ho, gb1_some, if_neg (by decide)]
    · rw [fX10_recut, noW_out hm.2.2.1.1 (by omega) ho, gb2_some, if_neg (by decide)]
def aC1 (A : aB) (i : Nat) : aB := aCut A i (kI A (A.2.2.1.2.1 i))
def rC1 (A : aB) (i : Nat) : Int32 := Int32.ofNat (A.2.2.2.1 2 * ((A.2.2.1.2.2.2 i).length - (kS A (A.2.2.1.2.1 i)).length))
def aAll : Nat → Nat → aB → aB
  | 0, _, A => A
  | d + 1, i, A => aAll d (i + 1) (aC1 A i)
def rAll : Nat → Nat → aB → Int32 → Int32
  | 0, _, _, x => x
  | d + 1, i, A, x => rAll d (i + 1) (aC1 A i) (x + rC1 A i)
theorem Inv_all : ∀ (d i : Nat) (A : aB), i + d = A.2.2.1.1 → Inv A → Inv (aAll d i A) ∧ same A (aAll d i A)
  | 0, i, A, _, h => ⟨h, same_refl A⟩
  | d + 1, i, A, e, h => by
    have := Inv_all d (i + 1) (aC1 A i) (show i + 1 + d = A.2.2.1.1 by omega) (Inv_cut h (by omega))
    exact ⟨this.1, this.2.1, this.2.2⟩
theorem c_all_L {time chest : Int32} {settings : Nat → Int32} {k : Int32 → Int32 → (Nat → Int32) → tUsers → tPieces → tWords → tCut → tCutR → Option (Int32 × Int32 × (Nat → Int32) × tUsers × tPieces × tWords × tCut × tCutR × tHist)} {Q : Int32 × Int32 × (Nat → Int32) × tUsers × tPieces × tWords × tCut × tCutR × tHist → Prop} : ∀ (d i n : Nat) (A : aB) (x fund : Int32) (sums : Nat → Int32) (U : tUsers) (P : tPieces) (W : tWords) (C : tCut) (S : tCutR), i + d = A.2.2.1.1 → d < n → Inv A → cBk A (time, chest, fund, settings, sums, U, P, W) → (∀ fund sums U P W C S, cBk (aAll d i A) (time, chest, fund, settings, sums, U, P, W) → Ok (k (rAll d i A x) fund sums U P W C S) Q) → Ok (fX9_recutAll_L15 time settings k n x (Int32.ofNat i) fund sums U P W C S) Q
  | d, i, 0, A, x, fund, sums, U, P, W, C, S, _, h2, _, _, _ => by omega
  | 0, i, n + 1, A, x, fund, sums, U, P, W, C, S, h1, _, hI, hc, hk => by
    have h16 := hI.2.2.1.1
    rw [fX9_recutAll_L15, if_pos (by rw [hc.2.2.1.1, J_le _ _ (by omega) (by omega)]; omega)]
    exact hk fund sums U P W C S hc
  | d + 1, i, n + 1, A, x, fund, sums, U, P, W, C, S, h1, h2, hI, hc, hk => by
    have h16 := hI.2.2.1.1
    have hi : i < A.2.2.1.1 := by omega
    obtain ⟨⟨r, fund', sums', U', P', W', C', S'⟩, c1, c2, c3⟩ := c_cut hc hI hi C S
    simp only at c1 c2 c3
    rw [fX9_recutAll_L15, if_neg (by rw [hc.2.2.1.1, J_le _ _ (by omega) (by omega)]; omega), c1, gb8_some, i_1, J_add, c2]
    exact c_all_L d (i + 1) n (aC1 A i) _ fund' sums' U' P' W' C' S' (show i + 1 + d = A.2.2.1.1 by omega) (by omega) (Inv_cut hI hi) c3 hk
theorem m_all_L {k : Int32 → Int32 → (Nat → Int32) → (Nat → Int32) → (Nat → Int32) → (Nat → Int32) → (Nat → Int32) → Option (Int32 × Int32 × Int32 × Int32 × (Nat → Int32) × (Nat → Int32) × (Nat → Int32) × (Nat → Int32) × (Nat → Int32) × (Nat → Int32))} {Q : Int32 × Int32 × Int32 × Int32 × (Nat → Int32) × (Nat → Int32) × (Nat → Int32) × (Nat → Int32) × (Nat → Int32) × (Nat → Int32) → Prop} : ∀ (d i n : Nat) (A : aB) (x many : Int32) (now spl c f g : Nat → Int32), i + d = A.2.2.1.1 → d < n → Inv A → mB A now → (∀ many now spl c f g, mB (aAll d i A) now → Ok (k (rAll d i A x) many now spl c f g) Q) → Ok (fX10_recutAll_L13 k n x (Int32.ofNat i) many now spl c f g) Q
  | d, i, 0, A, x, many, now, spl, c, f, g, _, h2, _, _, _ => by omega
  | 0, i, n + 1, A, x, many, now, spl, c, f, g, h1, _, hI, hm, hk => by
    have h16 := hI.2.2.1.1
    rw [fX10_recutAll_L13, if_pos (by rw [hm.2.2.1.1, J_le _ _ (by omega) (by omega)]; omega)]
    exact hk many now spl c f g hm
  | d + 1, i, n + 1, A, x, many, now, spl, c, f, g, h1, h2, hI, hm, hk => by
    have h16 := hI.2.2.1.1
    have hi : i < A.2.2.1.1 := by omega
    obtain ⟨⟨r2, many', now', spl', c', f', g'⟩, m1, m2, m3⟩ := m_recuts hm hI hi many spl c f g
    simp only at m2 m3
    rw [fX10_recutAll_L13, if_neg (by rw [hm.2.2.1.1, J_le _ _ (by omega) (by omega)]; omega), m1, gb7_some, i_1, J_add, m2]
    exact m_all_L d (i + 1) n (aC1 A i) _ many' now' spl' c' f' g' (show i + 1 + d = A.2.2.1.1 by omega) (by omega) (Inv_cut hI hi) m3 hk
theorem q_recutAll {A : aB} {b : tBk} {now : Nat → Int32} (hc : cBk A b) (hm : mB A now) (hI : Inv A) {h : Nat} {HA : Nat → aB} {Hs : tHist} {undo : Nat → Int32} (H : hHi A h HA Hs undo) (t0 many : Int32) (C : tCut) (S : tCutR) (spl c f g : Nat → Int32) : ∃ (r B_fund' : Int32) (sums' : Nat → Int32) (U' : tUsers) (P' : tPieces) (W' : tWords) (C' : tCut) (S' : tCutR) (Hs' : tHist) (r2 t many' un' : Int32) (now' spl' c' f' g' undo' : Nat → Int32), fX9_recutAll b.1 b.2.1 b.2.2.1 b.2.2.2.1 b.2.2.2.2.1 b.2.2.2.2.2.1 b.2.2.2.2.2.2.1 b.2.2.2.2.2.2.2 C S Hs = some (r, B_fund', sums', U', P', W', C', S', Hs') ∧ fX10_recutAll t0 many (Int32.ofNat h) now spl c f g undo = some (r2, t, many', un', now', spl', c', f', g', undo') ∧ r = r2 ∧ ∃ A' h' HA', cBk A' (b.1, b.2.1, B_fund', b.2.2.2.1, sums', U', P', W') ∧ mB A' now' ∧ Inv A' ∧ same A A' ∧ hHi A h' HA' Hs' undo' ∧ un' = Int32.ofNat h' := by
  have h16 := hI.2.2.1.1
  obtain ⟨Hs', undo', h', HA', k1, k2, k3⟩ := keep hc hm hI H
  have hC : Ok (fX9_recutAll b.1 b.2.1 b.2.2.1 b.2.2.2.1 b.2.2.2.2.1 b.2.2.2.2.2.1 b.2.2.2.2.2.2.1 b.2.2.2.2.2.2.2 C S Hs) (fun r => r.1 = rAll A.2.2.1.1 0 A 0 ∧ cBk (aAll A.2.2.1.1 0 A) (b.1, b.2.1, r.2.1, b.2.2.2.1, r.2.2.1, r.2.2.2.1, r.2.2.2.2.1, r.2.2.2.2.2.1) ∧ r.2.2.2.2.2.2.2.2 = Hs') := by
    rw [fX9_recutAll, k1, gb1_some]
    refine c_all_L (time := b.1) (chest := b.2.1) A.2.2.1.1 0 FU A 0 _ _ _ _ _ _ _ (by omega) (by simp only [FU]; omega) hI hc ?_
    intro fund sums U P W C S hc'
    exact ok_some ⟨rfl, hc', rfl⟩
  have hM : Ok (fX10_recutAll t0 many (Int32.ofNat h) now spl c f g undo) (fun r => r.1 = rAll A.2.2.1.1 0 A 0 ∧ r.2.1 = 0 ∧ r.2.2.2.1 = Int32.ofNat h' ∧ mB (aAll A.2.2.1.1 0 A) r.2.2.2.2.1 ∧ r.2.2.2.2.2.2.2.2.2 = undo') := by
    rw [fX10_recutAll, k2, gb2_some]
    refine m_all_L A.2.2.1.1 0 FU A 0 _ _ _ _ _ _ (by omega) (by simp only [FU]; omega) hI hm ?_
    intro many now spl c f g hm'
    exact ok_some ⟨rfl, rfl, rfl, hm', rfl⟩
  obtain ⟨⟨r, fund', sums', U', P', W', C', S', Hs2⟩, c1, c2, c3, c4⟩ := hC
  obtain ⟨⟨r2, t, many', un', now', spl', c', f', g', undo2⟩, m1, m2, m3, m4, m5, m6⟩ := hM
  simp only at c2 c3 c4 m2 m3 m4 m5 m6
  subst c4 m6
  have hi := Inv_all A.2.2.1.1 0 A (by omega) hI
  exact ⟨r, fund', sums', U', P', W', C', S', Hs2, r2, t, many', un', now', spl', c', f', g', undo2, c1, m1, c2.trans m2.symm, _, h', HA', c3, m5, hi.1, hi.2, k3, m4⟩
def aT1 (A : aB) : aB := aTk A.2.1.1 0 (aTime A)
def rT1 (A : aB) : Int32 := Int32.ofNat (A.2.1.1 - (aT1 A).2.1.1)
def aTs : Nat → aB → aB
  | 0, A => A
  | d + 1, A => aTs d (aT1 A)
def rTs : Nat → aB → Int32 → Int32
  | 0, _, x => x
  | d + 1, A, x => rTs d (aT1 A) (x + rT1 A)
theorem same_trans {A B C : aB} (h : same A B) (h2 : same B C) : same A C := ⟨h2.1.trans h.1, h2.2.trans h.2⟩
theorem same_tk : ∀ (d q : Nat) (A : aB), same A (aTk d q A)
  | 0, q, A => same_refl A
  | d + 1, q, A => by
    unfold aTk
    split
    · exact same_trans (show same A (aSend A q) from ⟨rfl, rfl⟩) (same_tk d q _)
    · exact same_tk d (q + 1) A
theorem same_T1 (A : aB) : same A (aT1 A) := same_trans (show same A (aTime A) from ⟨rfl, rfl⟩) (same_tk _ _ _)
theorem Inv_T1 {A : aB} (h : Inv A) : Inv (aT1 A) := (Inv_tk A.2.1.1 0 (aTime A) (by show A.2.1.1 = _; omega) (Inv_time h)).1
theorem Inv_Ts : ∀ (d : Nat) (A : aB), Inv A → Inv (aTs d A) ∧ same A (aTs d A)
  | 0, A, h => ⟨h, same_refl A⟩
  | d + 1, A, h => by
    have := Inv_Ts d (aT1 A) (Inv_T1 h)
    exact ⟨this.1, same_trans (same_T1 A) this.2⟩
theorem c_tks_L {fund : Int32} {settings : Nat → Int32} {m : Nat} (hm : m ≤ 30) {k : Int32 → Int32 → Int32 → (Nat → Int32) → tUsers → tPieces → tWords → Option (Int32 × Int32 × Int32 × Int32 × (Nat → Int32) × tUsers × tPieces × tWords × tHist)} {Q : Int32 × Int32 × Int32 × Int32 × (Nat → Int32) × tUsers × tPieces × tWords × tHist → Prop} : ∀ (d i n : Nat) (A : aB) (x time chest : Int32) (sums : Nat → Int32) (U : tUsers) (P : tPieces) (W : tWords), i + d = m → d < n → Inv A → cB A time chest fund settings sums U P W → (∀ time chest sums U P W, cB (aTs d A) time chest fund settings sums U P W → Ok (k (rTs d A x) time chest sums U P W) Q) → Ok (fX9_tick_L34 (Int32.ofNat m) settings k n x (Int32.ofNat i) time chest sums U P W) Q
  | d, i, 0, A, x, time, chest, sums, U, P, W, _, h2, _, _, _ => by omega
  | 0, i, n + 1, A, x, time, chest, sums, U, P, W, h1, _, hI, hc, hk => by
    rw [fX9_tick_L34, if_pos (by rw [J_le _ _ (by omega) (by omega)]; omega)]
    exact hk time chest sums U P W hc
  | d + 1, i, n + 1, A, x, time, chest, sums, U, P, W, h1, h2, hI, hc, hk => by
    obtain ⟨⟨r, time', chest', sums', U', P', W'⟩, c1, c2, c3⟩ := c_passTick hc hI
    simp only at c1 c2 c3
    rw [fX9_tick_L34, if_neg (by rw [J_le _ _ (by omega) (by omega)]; omega), c1, gb7_some, i_1, J_add, c2]
    exact c_tks_L hm d (i + 1) n (aT1 A) _ time' chest' sums' U' P' W' (by omega) (by omega) (Inv_T1 hI) c3 hk
theorem m_tks_L {m : Nat} (hm30 : m ≤ 30) {k : Int32 → (Nat → Int32) → Option (Int32 × Int32 × Int32 × (Nat → Int32) × (Nat → Int32))} {Q : Int32 × Int32 × Int32 × (Nat → Int32) × (Nat → Int32) → Prop} : ∀ (d i n : Nat) (A : aB) (x : Int32) (now : Nat → Int32), i + d = m → d < n → Inv A → mB A now → (∀ now, mB (aTs d A) now → Ok (k (rTs d A x) now) Q) → Ok (fX10_tick_L38 (Int32.ofNat m) k n x (Int32.ofNat i) now) Q
  | d, i, 0, A, x, now, _, h2, _, _, _ => by omega
  | 0, i, n + 1, A, x, now, h1, _, hI, hm, hk => by
    rw [fX10_tick_L38, if_pos (by rw [J_le _ _ (by omega) (by omega)]; omega)]
    exact hk now hm
  | d + 1, i, n + 1, A, x, now, h1, h2, hI, hm, hk => by
    obtain ⟨⟨r2, now'⟩, m1, m2, m3⟩ := m_ticks hm hI
    simp only at m2 m3
    rw [fX10_tick_L38, if_neg (by rw [J_le _ _ (by omega) (by omega)]; omega), m1, gb2_some, i_1, J_add, m2]
    exact m_tks_L hm30 d (i + 1) n (aT1 A) _ now' (by omega) (by omega) (Inv_T1 hI) m3 hk
theorem q_tick {A : aB} {b : tBk} {now : Nat → Int32} (hc : cBk A b) (hm : mB A now) (hI : Inv A) {h : Nat} {HA : Nat → aB} {Hs : tHist} {undo : Nat → Int32} (H : hHi A h HA Hs undo) (u1 t0 : Int32) : ∃ (x r time' chest' : Int32) (sums' : Nat → Int32) (U' : tUsers) (P' : tPieces) (W' : tWords) (Hs' : tHist) (r2 t un' : Int32) (now' undo' : Nat → Int32), fX9_tick u1 b.1 b.2.1 b.2.2.1 b.2.2.2.1 b.2.2.2.2.1 b.2.2.2.2.2.1 b.2.2.2.2.2.2.1 b.2.2.2.2.2.2.2 Hs = some (x, r, time', chest', sums', U', P', W', Hs') ∧ fX10_tick u1 t0 (Int32.ofNat h) now undo = some (r2, t, un', now', undo') ∧ ((x = 0 ∧ t = 0 ∧ r = r2) ∨ (x = 2 ∧ t = 1)) ∧ ∃ A' h' HA', cBk A' (time', chest', b.2.2.1, b.2.2.2.1, sums', U', P', W') ∧ mB A' now' ∧ Inv A' ∧ same A A' ∧ hHi A h' HA' Hs' undo' ∧ un' = Int32.ofNat h' := by
  by_cases hin : ∃ m, 1 ≤ m ∧ m ≤ 30 ∧ u1 = Int32.ofNat m
  · obtain ⟨m, m1, m30, rfl⟩ := hin
    obtain ⟨Hs', undo', h', HA', k1, k2, k3⟩ := keep hc hm hI H
    have hC : Ok (fX9_tick (Int32.ofNat m) b.1 b.2.1 b.2.2.1 b.2.2.2.1 b.2.2.2.2.1 b.2.2.2.2.2.1 b.2.2.2.2.2.2.1 b.2.2.2.2.2.2.2 Hs) (fun r => r.1 = 0 ∧ r.2.1 = rTs m A 0 ∧ cBk (aTs m A) (r.2.2.1, r.2.2.2.1, b.2.2.1, b.2.2.2.1, r.2.2.2.2.1, r.2.2.2.2.2.1, r.2.2.2.2.2.2.1, r.2.2.2.2.2.2.2.1) ∧ r.2.2.2.2.2.2.2.2 = Hs') := by
      rw [fX9_tick, if_neg (by rw [i_1, J_lt _ _ (by omega) (by omega)]; omega), if_pos (by rw [show (30 : Int32) = Int32.ofNat 30 from rfl, J_le _ _ (by omega) (by omega)]; omega), k1, gb1_some]
      refine c_tks_L m30 m 0 FU A 0 _ _ _ _ _ _ (by omega) (by simp only [FU]; omega) hI hc ?_
      intro time chest sums U P W hc'
      exact ok_some ⟨rfl, rfl, hc', rfl⟩
    have hM : Ok (fX10_tick (Int32.ofNat m) t0 (Int32.ofNat h) now undo) (fun r => r.1 = rTs m A 0 ∧ r.2.1 = 0 ∧ r.2.2.1 = Int32.ofNat h' ∧ mB (aTs m A) r.2.2.2.1 ∧ r.2.2.2.2 = undo') := by
      have ew : fX10_within (Int32.ofNat m) 1 30 = some 1 := by
        rw [fX10_within, if_neg (by rw [i_1, J_lt _ _ (by omega) (by omega)]; omega), if_neg (by rw [show (30 : Int32) = Int32.ofNat 30 from rfl, J_lt _ _ (by omega) (by omega)]; omega)]
      rw [fX10_tick, ew, gb1_some, Lt_eq, if_neg (by decide)]
      dsimp only
      rw [throws_no, gb2_some, if_pos rfl, k2, gb2_some]
      refine m_tks_L m30 m 0 FU A 0 _ (by omega) (by simp only [FU]; omega) hI hm ?_
      intro now hm'
      exact ok_some ⟨rfl, rfl, rfl, hm', rfl⟩
    obtain ⟨⟨x, r, time', chest', sums', U', P', W', Hs2⟩, c1, c2, c3, c4, c5⟩ := hC
    obtain ⟨⟨r2, t, un', now', undo2⟩, d1, d2, d3, d4, d5, d6⟩ := hM
    simp only at c2 c3 c4 c5 d2 d3 d4 d5 d6
    subst c5 d6
    have hi := Inv_Ts m A hI
    exact ⟨x, r, time', chest', sums', U', P', W', Hs2, r2, t, un', now', undo2, c1, d1, Or.inl ⟨c2, d3, c3.trans d2.symm⟩, _, h', HA', c4, d5, hi.1, hi.2, k3, d4⟩
  · have hout : u1 < 1 ∨ ¬ u1 ≤ 30 := by
      by_cases c : u1 < 1
      · exact Or.inl c
      · refine Or.inr (fun c2 => hin ?_)
        rw [Int32.lt_iff_toInt_lt] at c
        rw [Int32.le_iff_toInt_le] at c2
        have e1 : (1 : Int32).toInt = 1 := by decide
        have e30 : (30 : Int32).toInt = 30 := by decide
        rw [e1] at c
        rw [e30] at c2
        refine ⟨u1.toInt.toNat, by omega, by omega, ?_⟩
        apply Int32.toInt_inj.mp
        rw [J_int _ (by omega)]
        omega
    have ew : fX10_within u1 1 30 = some 0 := by
      rw [fX10_within]
      by_cases c : u1 < 1
      · rw [if_pos c]
      · rw [if_neg c, if_pos (by rw [Int32.lt_iff_toInt_lt]; have := hout.resolve_left c; rw [Int32.le_iff_toInt_le] at this; omega)]
    refine ⟨2, 0, b.1, b.2.1, b.2.2.2.2.1, b.2.2.2.2.2.1, b.2.2.2.2.2.2.1, b.2.2.2.2.2.2.2, Hs, 0, 1, Int32.ofNat h, now, undo, ?_, ?_, Or.inr ⟨rfl, rfl⟩, A, h, HA, hc, hm, hI, same_refl A, H, rfl⟩
    · rw [fX9_tick]
      by_cases c : u1 < 1
      · rw [if_pos c]
      · rw [if_neg c, if_neg (hout.resolve_left c)]
    · rw [fX10_tick, ew, gb1_some, Lt_eq, if_pos rfl]
      dsimp only
      rw [throws_1, gb2_some, if_neg (by decide)]
