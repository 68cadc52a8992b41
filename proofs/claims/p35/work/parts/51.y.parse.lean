/-! parse -/
theorem gb20_some {α0 : Type} {α1 : Type} {α2 : Type} {α3 : Type} {α4 : Type} {α5 : Type} {α6 : Type} {α7 : Type} {α8 : Type} {α9 : Type} {α10 : Type} {α11 : Type} {α12 : Type} {α13 : Type} {α14 : Type} {α15 : Type} {α16 : Type} {α17 : Type} {α18 : Type} {α19 : Type} {β : Type} (a0 : α0) (a1 : α1) (a2 : α2) (a3 : α3) (a4 : α4) (a5 : α5) (a6 : α6) (a7 : α7) (a8 : α8) (a9 : α9) (a10 : α10) (a11 : α11) (a12 : α12) (a13 : α13) (a14 : α14) (a15 : α15) (a16 : α16) (a17 : α17) (a18 : α18) (a19 : α19) (k : α0 → α1 → α2 → α3 → α4 → α5 → α6 → α7 → α8 → α9 → α10 → α11 → α12 → α13 → α14 → α15 → α16 → α17 → α18 → α19 → Option β) : gb20 (some (a0, a1, a2, a3, a4, a5, a6, a7, a8, a9, a10, a11, a12, a13, a14, a15, a16, a17, a18, a19)) k = k a0 a1 a2 a3 a4 a5 a6 a7 a8 a9 a10 a11 a12 a13 a14 a15 a16 a17 a18 a19 := rfl
theorem nar0 : vp_nar .boolean 0 = 0 := by decide
theorem c_83 (k : (Nat → Int32) → Option (Int32 × Int32 × Int32 × Int32 × Int32 × Int32 × (Nat → Int32) × (Nat → Int32) × tUsers × tPieces × tWords × Int32 × Int32 × Int32 × Int32 × Int32 × Int32 × Int64 × Int32 × Int32 × Int32 × Int32 × (Nat → Int32) × (Nat → Int32) × tUsers × tPieces × tWords × tCut × tCutR × (Nat → Int32) × tHist × (Nat → Int32))) (n j : Nat) (hj : j < 2) (fl : Nat → Int32) : fX9_parse_L83 k (n + 1) (Int32.ofNat j) fl = fX9_parse_L83 k n (Int32.ofNat (j + 1)) (upd fl j 0) := by
  rw [fX9_parse_L83, if_neg (by rw [i_2, J_le _ _ (by omega) (by omega)]; omega), if_neg (inck (n := 2) hj (by omega) (by omega)), nar0, Lt_eq, J_nat _ (by omega), i_1, J_add]
theorem c_L83 (k : (Nat → Int32) → Option (Int32 × Int32 × Int32 × Int32 × Int32 × Int32 × (Nat → Int32) × (Nat → Int32) × tUsers × tPieces × tWords × Int32 × Int32 × Int32 × Int32 × Int32 × Int32 × Int64 × Int32 × Int32 × Int32 × Int32 × (Nat → Int32) × (Nat → Int32) × tUsers × tPieces × tWords × tCut × tCutR × (Nat → Int32) × tHist × (Nat → Int32))) (fl : Nat → Int32) : fX9_parse_L83 k FU 0 fl = k (upd (upd fl 0 0) 1 0) := by
  obtain ⟨m, hm⟩ := fu5
  rw [hm]
  refine (c_83 k (m + 4) 0 (by omega) fl).trans ((c_83 k (m + 3) 1 (by omega) _).trans ?_)
  rw [fX9_parse_L83, if_pos (by decide)]
def aE (w : Nat → Nat) : aB := ((0, fun _ => [], fun _ => 0), (0, fun _ => [], fun _ => 0, fun _ => 0, fun _ => 0, fun _ => 0), (0, fun _ => [], fun _ => 0, fun _ => []), w, fun _ => 0, 0, 0, 0)
theorem dI_E {w : Nat → Nat} (h : iS w) : dI (aE w) := by
  have ht : tot (aE w) = 0 := rfl
  refine ⟨⟨⟨by show 0 ≤ 4; omega, fun i hi => absurd hi (Nat.not_lt_zero i)⟩, ⟨by show 0 ≤ 24; omega, fun i hi => absurd hi (Nat.not_lt_zero i)⟩, ⟨by show 0 ≤ 16; omega, fun i hi => absurd hi (Nat.not_lt_zero i)⟩, fun i hi => absurd hi (Nat.not_lt_zero i), h, ?_⟩, ?_, rfl⟩
  · show tot (aE w) ≤ 40000
    rw [ht]
    omega
  · rw [ht]
    omega
theorem cB_E {w : Nat → Nat} {st sums : Nat → Int32} (hs : ∀ i, i < 5 → st i = Int32.ofNat (w i)) (h6 : ∀ i, i < 6 → sums i = 0) {U : tUsers} {P : tPieces} {W : tWords} (hU : U.1 = 0) (hP : P.1 = 0) (hW : W.1 = 0) : cBk (aE w) (0, 0, 0, st, sums, U, P, W) :=
  ⟨⟨hU, fun i hi => absurd hi (Nat.not_lt_zero i)⟩, ⟨hP, fun i hi => absurd hi (Nat.not_lt_zero i)⟩, ⟨hW, fun i hi => absurd hi (Nat.not_lt_zero i)⟩, hs, h6, rfl, rfl, rfl⟩
theorem c_fill_L (k : (Nat → Int32) → Option (Nat → Int32)) : ∀ (d j n : Nat) (p : Nat → Int32), j + d = 6 → d < n → (∀ x, x < j → p x = 0) → ∃ r, (∀ x, x < 6 → r x = 0) ∧ fJ7_fill_53178_L5 6 0 (Int32.ofNat 6) k n (Int32.ofNat j) p = k r
  | d, j, 0, p, _, h, _ => by omega
  | 0, j, n + 1, p, h1, _, h3 => by
    refine ⟨p, fun x hx => h3 x (by omega), ?_⟩
    rw [fJ7_fill_53178_L5, if_pos (by rw [J_le _ _ (by omega) (by omega)]; omega)]
  | d + 1, j, n + 1, p, h1, h2, h3 => by
    rw [fJ7_fill_53178_L5, if_neg (by rw [J_le _ _ (by omega) (by omega)]; omega), if_neg (inck (n := 6) (by omega) (by omega) (by omega)), Lt_eq, J_nat _ (by omega), i_1, J_add]
    refine c_fill_L k d (j + 1) n _ (by omega) (by omega) (fun x hx => ?_)
    by_cases c : x = j
    · rw [c, upd_eq]
    · rw [upd_ne _ _ _ _ c]
      exact h3 x (by omega)
theorem c_clear (t ch f : Int32) (sums : Nat → Int32) (U : tUsers) (P : tPieces) (W : tWords) : ∃ s6, (∀ x, x < 6 → s6 x = 0) ∧ fX1_clear t ch f sums U P W = some (0, 0, 0, s6, (0, U.2.1, U.2.2), (0, P.2.1, P.2.2.1, P.2.2.2.1, P.2.2.2.2.1, P.2.2.2.2.2), (0, W.2.1, W.2.2.1, W.2.2.2.1, W.2.2.2.2)) := by
  obtain ⟨r, r1, r2⟩ := c_fill_L (fun x => some x) 6 0 FU sums (by omega) (by simp only [FU]; omega) (fun x hx => by omega)
  refine ⟨r, r1, ?_⟩
  have e : fJ7_fill_53178 6 0 sums = some r := r2
  rw [fX1_clear, e, gb1_some]
theorem sx_fits : ∀ v, v < 256 → fits .byte (.int (sxb v)) = true := by decide +kernel
