/-! books kept: both sides -/
theorem cU_cpy {u : aUs} {U U2 : tUsers} (h : cU u U2) (h4 : u.1 ≤ 4) : Ok (fX7_copyFrom U U2) (cU u) := by
  have e := h.1
  simp (disch := omega) only [fX7_copyFrom, e, J_lt, J_le, J_eq, J_nat, J_add, J_mul, J_sub, J_ne1, J_m1, J_le1, J_1le, J_1lt, J_lt1, J_dec, J_dec0, M1_def, M1_neg, n_leF, n_leT, n_ltF, n_ltT, false_or, or_false, true_or, or_true, and_true, true_and, false_and, and_false, not_true_eq_false, not_false_eq_true, if_true, if_false, ite_true, ite_false, Lt_eq, cmpJ, gb1_some, gb2_some, gb3_some, gb4_some, gb5_some, gb6_some, gb7_some, gb8_some, Nat.add_zero, Nat.zero_add, Nat.add_sub_cancel, i_0, i_1, i_2, i_3, i_4, i_5, i_6, i_7, i_8, i_9, i_10, i_11, i_12, i_13, i_14, i_15, i_16, i_17, i_18, i_19, i_20, i_21, i_22, i_23, i_24, i_25, i_26, i_27, i_28, i_29, i_31, i_32, i_48, i_57, i_59, i_61, i_63, i_72, i_96, i_97, i_99, i_100, i_122, i_128, i_141, i_160, i_192, i_255, i_256, i_365, i_600, i_730, i_3650, i_9999, i_1000000, -Int32.reduceOfNat]
  refine ok_some ⟨rfl, fun i hi => ?_⟩
  have := h.2 i hi
  simp only
  rw [cpy_in _ _ _ _ _ _ (Nat.zero_le _) (by omega), cpy_in _ _ _ _ _ _ (Nat.zero_le _) (by omega)]
  rw [Nat.zero_add, Nat.sub_zero]
  exact this
theorem cP_cpy {p : aPs} {P P2 : tPieces} (h : cP p P2) (h4 : p.1 ≤ 24) : Ok (fX6_copyFrom P P2) (cP p) := by
  have e := h.1
  simp (disch := omega) only [fX6_copyFrom, e, J_lt, J_le, J_eq, J_nat, J_add, J_mul, J_sub, J_ne1, J_m1, J_le1, J_1le, J_1lt, J_lt1, J_dec, J_dec0, M1_def, M1_neg, n_leF, n_leT, n_ltF, n_ltT, false_or, or_false, true_or, or_true, and_true, true_and, false_and, and_false, not_true_eq_false, not_false_eq_true, if_true, if_false, ite_true, ite_false, Lt_eq, cmpJ, gb1_some, gb2_some, gb3_some, gb4_some, gb5_some, gb6_some, gb7_some, gb8_some, Nat.add_zero, Nat.zero_add, Nat.add_sub_cancel, i_0, i_1, i_2, i_3, i_4, i_5, i_6, i_7, i_8, i_9, i_10, i_11, i_12, i_13, i_14, i_15, i_16, i_17, i_18, i_19, i_20, i_21, i_22, i_23, i_24, i_25, i_26, i_27, i_28, i_29, i_31, i_32, i_48, i_57, i_59, i_61, i_63, i_72, i_96, i_97, i_99, i_100, i_122, i_128, i_141, i_160, i_192, i_255, i_256, i_365, i_600, i_730, i_3650, i_9999, i_1000000, -Int32.reduceOfNat]
  refine ok_some ⟨rfl, fun i hi => ?_⟩
  have := h.2 i hi
  simp only
  rw [cpy_in _ _ _ _ _ _ (Nat.zero_le _) (by omega), cpy_in _ _ _ _ _ _ (Nat.zero_le _) (by omega), cpy_in _ _ _ _ _ _ (Nat.zero_le _) (by omega), cpy_in _ _ _ _ _ _ (Nat.zero_le _) (by omega), cpy_in _ _ _ _ _ _ (Nat.zero_le _) (by omega)]
  rw [Nat.zero_add, Nat.sub_zero]
  exact this
theorem cW_cpy {w : aWs} {W W2 : tWords} (h : cW w W2) (h4 : w.1 ≤ 16) (hl : ∀ j, j < w.1 → (w.2.2.2 j).length ≤ 12) : Ok (fX8_copyFrom W W2) (cW w) := by
  have e := h.1
  simp (disch := omega) only [fX8_copyFrom, e, J_lt, J_le, J_eq, J_nat, J_add, J_mul, J_sub, J_ne1, J_m1, J_le1, J_1le, J_1lt, J_lt1, J_dec, J_dec0, M1_def, M1_neg, n_leF, n_leT, n_ltF, n_ltT, false_or, or_false, true_or, or_true, and_true, true_and, false_and, and_false, not_true_eq_false, not_false_eq_true, if_true, if_false, ite_true, ite_false, Lt_eq, cmpJ, gb1_some, gb2_some, gb3_some, gb4_some, gb5_some, gb6_some, gb7_some, gb8_some, Nat.add_zero, Nat.zero_add, Nat.add_sub_cancel, i_0, i_1, i_2, i_3, i_4, i_5, i_6, i_7, i_8, i_9, i_10, i_11, i_12, i_13, i_14, i_15, i_16, i_17, i_18, i_19, i_20, i_21, i_22, i_23, i_24, i_25, i_26, i_27, i_28, i_29, i_31, i_32, i_48, i_57, i_59, i_61, i_63, i_72, i_96, i_97, i_99, i_100, i_122, i_128, i_141, i_160, i_192, i_255, i_256, i_365, i_600, i_730, i_3650, i_9999, i_1000000, -Int32.reduceOfNat]
  refine ok_some ⟨rfl, fun i hi => ?_⟩
  obtain ⟨a, b, c, d⟩ := h.2 i hi
  simp only
  rw [cpy_in _ _ _ _ _ _ (Nat.zero_le _) (by omega), cpy_in _ _ _ _ _ _ (Nat.zero_le _) (by omega), cpy_in _ _ _ _ _ _ (Nat.zero_le _) (by omega)]
  rw [Nat.zero_add, Nat.sub_zero]
  refine ⟨a, b, c, fun k hk => ?_⟩
  have := hl i hi
  rw [cpy_in _ _ _ _ _ _ (Nat.zero_le _) (by omega), Nat.zero_add, Nat.sub_zero]
  exact d k hk
theorem c_copy {A : aB} {b : tBk} (hc : cBk A b) (hI : Inv A) (d : tBk) : Ok (fX1_copyFrom d.1 d.2.1 d.2.2.1 d.2.2.2.1 d.2.2.2.2.1 d.2.2.2.2.2.1 d.2.2.2.2.2.2.1 d.2.2.2.2.2.2.2 b.1 b.2.1 b.2.2.1 b.2.2.2.1 b.2.2.2.2.1 b.2.2.2.2.2.1 b.2.2.2.2.2.2.1 b.2.2.2.2.2.2.2) (cBk A) := by
  obtain ⟨c1, c2, c3, c4, c5, c6, c7, c8⟩ := hc
  rw [fX1_copyFrom, if_neg (by decide), Lt_eq, if_neg (by decide), Lt_eq]
  apply ok_gb1
  refine ok_mono (cU_cpy c1 hI.1.1) ?_
  intro U1 h1
  apply ok_gb1
  refine ok_mono (cP_cpy c2 hI.2.1.1) ?_
  intro P1 h2
  apply ok_gb1
  refine ok_mono (cW_cpy c3 hI.2.2.1.1 (fun j hj => iW_len hI hj)) ?_
  intro W1 h3
  refine ok_some ⟨h1, h2, h3, fun i hi => ?_, fun i hi => ?_, c6, c7, c8⟩
  · simp only
    rw [cpy_in _ _ _ _ _ _ (Nat.zero_le _) (by omega), Nat.zero_add, Nat.sub_zero]
    exact c4 i hi
  · simp only
    rw [cpy_in _ _ _ _ _ _ (Nat.zero_le _) (by omega), Nat.zero_add, Nat.sub_zero]
    exact c5 i hi
theorem mB_ext {A : aB} {now now' : Nat → Int32} (h : mB A now) (hI : Inv A) (he : ∀ k, k < 365 → now' k = now k) : mB A now' := by
  obtain ⟨b1, b2, b3, b4, b5, b6, b7, b8⟩ := h
  have h16 := hI.2.2.1.1
  refine ⟨mU_fr b1 hI.1.1 (fun k hk => he k (by omega)), mP_fr b2 hI.2.1.1 (fun k hk => he k (by omega)), ⟨by rw [he 10 (by omega)]; exact b3.1, fun i hi => mR_fr (b3.2 i hi) (iW_len hI hi) (fun k h1 h2 => he k (by omega))⟩, mS_fr b4 (fun k hk => he k (by omega)), mA_fr b5 (fun k h1 h2 => he k (by omega)), by rw [he 6 (by omega)]; exact b6, by rw [he 7 (by omega)]; exact b7, by rw [he 8 (by omega)]; exact b8⟩
theorem cpy_step (f g : Nat → Int32) (a b j : Nat) : upd (va_cpy f g a b j) (b + j) (f (a + j)) = va_cpy f g a b (j + 1) := by
  funext x
  by_cases c : x = b + j
  · subst c
    rw [upd_eq, cpy_in _ _ _ _ _ _ (by omega) (by omega)]
    congr 1
    omega
  · rw [upd_ne _ _ _ _ c]
    by_cases c2 : b ≤ x ∧ x < b + j
    · rw [cpy_in _ _ _ _ _ _ c2.1 c2.2, cpy_in _ _ _ _ _ _ c2.1 (by omega)]
    · by_cases c3 : x < b
      · rw [cpy_lo _ _ _ _ _ _ c3, cpy_lo _ _ _ _ _ _ c3]
      · rw [cpy_hi _ _ _ _ _ _ (by omega), cpy_hi _ _ _ _ _ _ (by omega)]
theorem cpy_0 (f g : Nat → Int32) (a b : Nat) : va_cpy f g a b 0 = g := by
  funext x
  unfold va_cpy
  rw [if_neg (by omega)]
theorem m_copies_L {n0 n2 a b : Nat} (h0 : a + 365 ≤ n0) (h2 : b + 365 ≤ n2) (hn0 : n0 ≤ 4000) (hn2 : n2 ≤ 4000) (p0 p2 : Nat → Int32) (k : (Nat → Int32) → Option (Nat → Int32)) : ∀ (d j n : Nat), j + d = 365 → d < n → fX10_copies_L3 n0 n2 (Int32.ofNat a) (Int32.ofNat b) p0 k n (Int32.ofNat j) (va_cpy p0 p2 a b j) = k (va_cpy p0 p2 a b 365)
  | d, j, 0, _, h => by omega
  | 0, j, n + 1, h1, _ => by
    have : j = 365 := by omega
    subst this
    rw [fX10_copies_L3, if_pos (by decide)]
  | d + 1, j, n + 1, h1, h3 => by
    have hck : ∀ x m : Nat, x < m → m ≤ 4000 → ¬ (Int32.ofNat x < 0 ∨ m ≤ (Int32.ofNat x).toNatClampNeg) := by
      intro x m hx hm
      rw [i_0, J_lt _ _ (by omega) (by omega), J_nat _ (by omega)]
      omega
    rw [fX10_copies_L3, if_neg (by rw [i_365, J_le _ _ (by omega) (by omega)]; omega), J_add, if_neg (hck (a + j) n0 (by omega) hn0), J_add, if_neg (hck (b + j) n2 (by omega) hn2), Lt_eq, J_nat _ (by omega), J_nat _ (by omega), cpy_step, i_1, J_add]
    exact m_copies_L h0 h2 hn0 hn2 p0 p2 k d (j + 1) n (by omega) (by omega)
theorem m_copies {n0 n2 a b : Nat} (h0 : a + 365 ≤ n0) (h2 : b + 365 ≤ n2) (hn0 : n0 ≤ 4000) (hn2 : n2 ≤ 4000) (p0 p2 : Nat → Int32) : fX10_copies n0 n2 (Int32.ofNat a) (Int32.ofNat b) p0 p2 = some (va_cpy p0 p2 a b 365) := by
  have := m_copies_L h0 h2 hn0 hn2 p0 p2 (fun x => some x) 365 0 FU (by omega) (by simp only [FU]; omega)
  rw [cpy_0] at this
  exact this
theorem m_copiesA_L {n0 b : Nat} (h0 : b + 730 ≤ n0) (hn0 : n0 ≤ 4000) (p0 : Nat → Int32) (k : (Nat → Int32) → Option (Nat → Int32)) : ∀ (d j n : Nat), j + d = 365 → d < n → fX10_copiesA_L3 n0 (Int32.ofNat (b + 365)) (Int32.ofNat b) k n (Int32.ofNat j) (va_cpy p0 p0 (b + 365) b j) = k (va_cpy p0 p0 (b + 365) b 365)
  | d, j, 0, _, h => by omega
  | 0, j, n + 1, h1, _ => by
    have : j = 365 := by omega
    subst this
    rw [fX10_copiesA_L3, if_pos (by decide)]
  | d + 1, j, n + 1, h1, h3 => by
    have hck : ∀ x m : Nat, x < m → m ≤ 4000 → ¬ (Int32.ofNat x < 0 ∨ m ≤ (Int32.ofNat x).toNatClampNeg) := by
      intro x m hx hm
      rw [i_0, J_lt _ _ (by omega) (by omega), J_nat _ (by omega)]
      omega
    rw [fX10_copiesA_L3, if_neg (by rw [i_365, J_le _ _ (by omega) (by omega)]; omega), J_add, if_neg (hck (b + 365 + j) n0 (by omega) hn0), J_add, if_neg (hck (b + j) n0 (by omega) hn0), Lt_eq, J_nat _ (by omega), J_nat _ (by omega), cpy_hi p0 p0 (b + 365) b j (b + 365 + j) (by omega), cpy_step, i_1, J_add]
    exact m_copiesA_L h0 hn0 p0 k d (j + 1) n (by omega) (by omega)
theorem m_copiesA {n0 b : Nat} (h0 : b + 730 ≤ n0) (hn0 : n0 ≤ 4000) (p0 : Nat → Int32) : fX10_copiesA n0 (Int32.ofNat (b + 365)) (Int32.ofNat b) p0 = some (va_cpy p0 p0 (b + 365) b 365) := by
  have := m_copiesA_L h0 hn0 p0 (fun x => some x) 365 0 FU (by omega) (by simp only [FU]; omega)
  rw [cpy_0] at this
  exact this
theorem m_keeps21 {undo : Nat → Int32} {k : (Nat → Int32) → Option (Int32 × (Nat → Int32))} {Q : Int32 × (Nat → Int32) → Prop} (hk : ∀ u', (∀ j, j < 9 → ∀ x, x < 365 → blk u' j x = blk undo (j + 1) x) → Ok (k u') Q) : ∀ (d m n : Nat) (u : Nat → Int32), m + d = 9 → d < n → (∀ j, j < 10 → ∀ x, x < 365 → blk u j x = if j < m then blk undo (j + 1) x else blk undo j x) → Ok (fX10_keeps_L21 (Int32.ofNat 9) k n (Int32.ofNat m) u) Q
  | d, m, 0, u, _, h, _ => by omega
  | 0, m, n + 1, u, h1, _, hu => by
    rw [fX10_keeps_L21, if_pos (by rw [J_le _ _ (by omega) (by omega)]; omega)]
    refine hk u (fun j hj x hx => ?_)
    rw [hu j (by omega) x hx, if_pos (by omega)]
  | d + 1, m, n + 1, u, h1, h2, hu => by
    have e1 : (365 : Int32) * (Int32.ofNat m + 1) = Int32.ofNat (365 * m + 365) := by
      rw [i_1, J_add, J_lmul, Nat.mul_add]
    have e2 : (365 : Int32) * Int32.ofNat m = Int32.ofNat (365 * m) := J_lmul m 365
    rw [fX10_keeps_L21, if_neg (by rw [J_le _ _ (by omega) (by omega)]; omega), e1, e2, m_copiesA (by omega) (by omega), gb1_some, i_1, J_add]
    refine m_keeps21 hk d (m + 1) n _ (by omega) (by omega) (fun j hj x hx => ?_)
    by_cases c : j = m
    · subst c
      rw [if_pos (by omega)]
      show va_cpy u u (365 * j + 365) (365 * j) 365 (365 * j + x) = _
      rw [cpy_in _ _ _ _ _ _ (by omega) (by omega)]
      have := hu (j + 1) (by omega) x hx
      rw [if_neg (by omega)] at this
      rw [← this]
      unfold blk
      congr 1
      omega
    · have := hu j hj x hx
      have e : blk (va_cpy u u (365 * m + 365) (365 * m) 365) j x = blk u j x := by
        unfold blk
        by_cases c2 : j < m
        · exact cpy_lo _ _ _ _ _ _ (by omega)
        · exact cpy_hi _ _ _ _ _ _ (by omega)
      rw [e, this]
      by_cases c2 : j < m
      · rw [if_pos c2, if_pos (by omega)]
      · rw [if_neg c2, if_neg (by omega)]
theorem hHi_same {A B : aB} {h : Nat} {HA : Nat → aB} {Hs : tHist} {undo : Nat → Int32} (hs : same A B) (H : hHi A h HA Hs undo) : hHi B h HA Hs undo := ⟨H.1, H.2.1, fun j hj => by
  obtain ⟨a, b, c, d⟩ := H.2.2 j hj
  exact ⟨a, b, c, by rw [hs.1]; exact d.1, by rw [hs.2]; exact d.2⟩⟩
theorem hSl_same {A B : aB} {SA : Nat → aB} {fl : Nat → Nat} {Sl : tSlots} {f s i : Nat → Int32} (hs : same A B) (H : hSl A SA fl Sl f s i) : hSl B SA fl Sl f s i := fun j hj => by
  obtain ⟨a, b, c, d⟩ := H j hj
  refine ⟨a, b, c, fun e => ?_⟩
  obtain ⟨d1, d2, d3, d4⟩ := d e
  exact ⟨d1, d2, d3, by rw [hs.1]; exact d4.1, by rw [hs.2]; exact d4.2⟩
theorem same_refl (A : aB) : same A A := ⟨rfl, rfl⟩
theorem ok_gb8 {α0 α1 α2 α3 α4 α5 α6 α7 β : Type} {x : Option (α0 × α1 × α2 × α3 × α4 × α5 × α6 × α7)} {k : α0 → α1 → α2 → α3 → α4 → α5 → α6 → α7 → Option β} {Q : β → Prop} (h : Ok x (fun a => Ok (k a.1 a.2.1 a.2.2.1 a.2.2.2.1 a.2.2.2.2.1 a.2.2.2.2.2.1 a.2.2.2.2.2.2.1 a.2.2.2.2.2.2.2) Q)) : Ok (gb8 x k) Q := by
  obtain ⟨a, e, q⟩ := h
  rw [e]
  exact q
theorem vaup_eq {α : Type} (f : Nat → α) (k : Nat) (x : α) : va_up f k x k = x := by simp [va_up]
theorem vaup_ne {α : Type} (f : Nat → α) (k : Nat) (x : α) (j : Nat) (h : j ≠ k) : va_up f k x j = f j := by simp [va_up, h]
theorem keep {A : aB} {b : tBk} {now : Nat → Int32} (hc : cBk A b) (hm : mB A now) (hI : Inv A) {h : Nat} {HA : Nat → aB} {Hs : tHist} {undo : Nat → Int32} (H : hHi A h HA Hs undo) : ∃ Hs' undo' h' HA', fX3_keep Hs b.1 b.2.1 b.2.2.1 b.2.2.2.1 b.2.2.2.2.1 b.2.2.2.2.2.1 b.2.2.2.2.2.2.1 b.2.2.2.2.2.2.2 = some Hs' ∧ fX10_keeps (Int32.ofNat h) now undo = some (Int32.ofNat h', undo') ∧ hHi A h' HA' Hs' undo' := by
  obtain ⟨H1, H2, H3⟩ := H
  have c_part : ∀ (Hs1 : tHist) (g : Nat), g < 10 → Hs1.1 = Int32.ofNat g → ∃ Hs' : tHist, (if Hs1.1 < 0 ∨ 10 ≤ Hs1.1.toNatClampNeg then none else gb8 (fX1_copyFrom (Hs1.2.2 (Hs1.1.toNatClampNeg)).1 (Hs1.2.2 (Hs1.1.toNatClampNeg)).2.1 (Hs1.2.2 (Hs1.1.toNatClampNeg)).2.2.1 (Hs1.2.2 (Hs1.1.toNatClampNeg)).2.2.2.1 (Hs1.2.2 (Hs1.1.toNatClampNeg)).2.2.2.2.1 (Hs1.2.2 (Hs1.1.toNatClampNeg)).2.2.2.2.2.1 (Hs1.2.2 (Hs1.1.toNatClampNeg)).2.2.2.2.2.2.1 (Hs1.2.2 (Hs1.1.toNatClampNeg)).2.2.2.2.2.2.2 b.1 b.2.1 b.2.2.1 b.2.2.2.1 b.2.2.2.2.1 b.2.2.2.2.2.1 b.2.2.2.2.2.2.1 b.2.2.2.2.2.2.2) fun (B_time_1 : Int32) (B_chest_1 : Int32) (B_fund_1 : Int32) (settings_1 : (Nat → Int32)) (sums_1 : (Nat → Int32)) (U_1 : tUsers) (P_1 : tPieces) (W_1 : tWords) => Lt (Hs1.1, Hs1.2.1, va_up Hs1.2.2 (Hs1.1.toNatClampNeg) (B_time_1, B_chest_1, B_fund_1, settings_1, sums_1, U_1, P_1, W_1)) fun (Hs_2 : tHist) => some (Hs_2.1 + 1, Hs_2.2.1, Hs_2.2.2)) = some Hs' ∧ Hs'.1 = Int32.ofNat (g + 1) ∧ cBk A (Hs'.2.2 g) ∧ ∀ j, j ≠ g → Hs'.2.2 j = Hs1.2.2 j := by
    intro Hs1 g hg e1
    have hn : (Int32.ofNat g).toNatClampNeg = g := J_nat _ (by omega)
    rw [e1, if_neg (inck (n := 10) hg (by omega) (by omega)), hn]
    obtain ⟨r, r1, r2⟩ := c_copy hc hI (Hs1.2.2 g)
    refine ⟨(Int32.ofNat g + 1, Hs1.2.1, va_up Hs1.2.2 g r), ?_, J_add g 1, ?_, fun j hj => vaup_ne _ _ _ _ hj⟩
    · rw [r1]
      rfl
    · show cBk A (va_up Hs1.2.2 g r g)
      rw [vaup_eq]
      exact r2
  by_cases h10 : h = 10
  · subst h10
    obtain ⟨Hs', k1, k2, k3, k4⟩ := c_part (Hs.1 - 1, hRot Hs.2.1, hRot Hs.2.2) 9 (by omega) (by rw [H2]; exact (by decide : Int32.ofNat 10 - 1 = Int32.ofNat 9))
    have hM : Ok (fX10_keeps (Int32.ofNat 10) now undo) (fun r => r.1 = Int32.ofNat 10 ∧ (∀ j, j < 9 → ∀ x, x < 365 → blk r.2 j x = blk undo (j + 1) x) ∧ ∀ x, x < 365 → blk r.2 9 x = now x) := by
      rw [fX10_keeps, Lt_eq, if_pos (by decide), show Int32.ofNat 10 - 1 = Int32.ofNat 9 from by decide, i_0]
      refine m_keeps21 ?_ 9 0 FU undo (by omega) (by decide) (fun j hj x hx => by rw [if_neg (by omega)])
      intro u' hu
      have e2 : (365 : Int32) * Int32.ofNat 9 = Int32.ofNat 3285 := by decide
      dsimp only
      rw [e2, m_copies (by omega) (by omega) (by omega) (by omega), gb1_some]
      refine ok_some ⟨(by decide : Int32.ofNat 9 + 1 = Int32.ofNat 10), fun j hj x hx => ?_, fun x hx => ?_⟩
      · rw [← hu j hj x hx]
        exact cpy_lo _ _ _ _ _ _ (by omega)
      · show va_cpy now u' 0 3285 365 (365 * 9 + x) = now x
        rw [cpy_in _ _ _ _ _ _ (by omega) (by omega), show 0 + (365 * 9 + x - 3285) = x by omega]
    obtain ⟨⟨r1, r2⟩, m1, m2, m3, m4⟩ := hM
    simp only at m2 m3 m4
    refine ⟨Hs', r2, 10, fun j => if j < 9 then HA (j + 1) else A, ?_, ?_, by omega, k2, fun j hj => ?_⟩
    · rw [fX3_keep, Lt_eq, if_pos (by rw [H2]; rfl), fX3_forgetOldest, gb1_some]
      exact k1
    · rw [m1, m2]
    · dsimp only
      by_cases c : j < 9
      · obtain ⟨a1, a2, a3, a4⟩ := H3 (j + 1) (by omega)
        have hr : Hs'.2.2 j = Hs.2.2 (j + 1) := by
          rw [k4 j (by omega)]
          show hRot Hs.2.2 j = _
          unfold hRot
          rw [if_pos c]
        rw [if_pos c, hr]
        exact ⟨a1, mB_ext a2 a3 (fun x hx => m3 j c x hx), a3, a4⟩
      · have : j = 9 := by omega
        subst this
        rw [if_neg c]
        exact ⟨k3, mB_ext hm hI (fun x hx => m4 x hx), hI, same_refl A⟩
  · obtain ⟨Hs', k1, k2, k3, k4⟩ := c_part Hs h (by omega) H2
    have e2 : (365 : Int32) * Int32.ofNat h = Int32.ofNat (365 * h) := J_lmul h 365
    refine ⟨Hs', va_cpy now undo 0 (365 * h) 365, h + 1, up HA h A, ?_, ?_, by omega, k2, fun j hj => ?_⟩
    · rw [fX3_keep, Lt_eq, if_neg (by rw [H2, i_10, J_eq _ _ (by omega) (by omega)]; exact h10)]
      exact k1
    · rw [fX10_keeps, Lt_eq, if_neg (by rw [i_10, J_eq _ _ (by omega) (by omega)]; exact h10)]
      dsimp only
      rw [e2, i_0, m_copies (by omega) (by omega) (by omega) (by omega), gb1_some, i_1, J_add]
    · by_cases c : j = h
      · subst c
        rw [up_eq]
        refine ⟨k3, mB_ext hm hI (fun x hx => ?_), hI, same_refl A⟩
        show va_cpy now undo 0 (365 * j) 365 (365 * j + x) = now x
        rw [cpy_in _ _ _ _ _ _ (by omega) (by omega)]
        congr 1
        omega
      · obtain ⟨a1, a2, a3, a4⟩ := H3 j (by omega)
        rw [up_ne _ _ _ _ c, k4 j c]
        refine ⟨a1, mB_ext a2 a3 (fun x hx => ?_), a3, a4⟩
        show va_cpy now undo 0 (365 * h) 365 (365 * j + x) = undo (365 * j + x)
        exact cpy_lo _ _ _ _ _ _ (by omega)
