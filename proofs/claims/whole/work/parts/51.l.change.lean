/-! remove -/
theorem m_rem125 {old : Nat → Int32} {nw a : Nat} (h10 : old 10 = Int32.ofNat nw) (hn : nw < 16) (ha : 141 ≤ a) {x2 : Int32} (k : (Nat → Int32) → Option (Int32 × Int32 × Int32 × (Nat → Int32) × (Nat → Int32))) : ∀ (d j n : Nat), j + d = 141 + 14 * nw → a ≤ j → d < n → fX10_remove_L125 x2 k n (Int32.ofNat j) (shf old 14 a j) = k (shf old 14 a (141 + 14 * nw))
  | d, j, 0, _, _, h2 => by omega
  | 0, j, n + 1, h1, h2, _ => by
    have : j = 141 + 14 * nw := by omega
    subst this
    rw [fX10_remove_L125, shf_lo _ _ _ _ _ (by omega), h10, J_lmul, i_141, J_add, if_pos (by rw [J_le _ _ (by omega) (by omega)]; omega)]
  | d + 1, j, n + 1, h1, h2, h3 => by
    rw [fX10_remove_L125, shf_lo old 14 a j 10 (by omega), h10, J_lmul, i_141, J_add, if_neg (by rw [J_le _ _ (by omega) (by omega)]; omega), i_14, J_add, if_neg (by rw [i_0, J_lt _ _ (by omega) (by omega), J_nat _ (by omega)]; omega), if_neg (by rw [i_0, J_lt _ _ (by omega) (by omega), J_nat _ (by omega)]; omega), Lt_eq, J_nat _ (by omega), J_nat _ (by omega), shf_step _ _ _ _ h2, i_1, J_add]
    exact m_rem125 h10 hn ha k d (j + 1) n (by omega) (by omega) (by omega)
theorem mW_shift {w : aWs} {now old : Nat → Int32} (hW : mW w now) (h16 : w.1 ≤ 16) (hl : ∀ i, i < w.1 → (w.2.2.2 i).length ≤ 12) {i : Nat} (hi : i < w.1) (ho : ∀ x, 141 ≤ x → old x = now x) (h10 : old 10 = Int32.ofNat (w.1 - 1)) : mW (wDrop w i) (shf old 14 (141 + 14 * i) (141 + 14 * (w.1 - 1))) := by
  refine ⟨by rw [shf_lo _ _ _ _ _ (by omega), h10]; rfl, fun x hx => ?_⟩
  simp only [wDrop] at hx ⊢
  by_cases c : x < i
  · simp only [sh_lo _ _ _ c]
    refine mR_fr (hW.2 x (by omega)) (hl x (by omega)) (fun k h1 h2 => ?_)
    rw [shf_lo _ _ _ _ _ (by omega), ho _ (by omega)]
  · simp only [sh_hi _ _ _ (show i ≤ x by omega)]
    obtain ⟨r1, r2, r3⟩ := hW.2 (x + 1) (by omega)
    have hlx := hl (x + 1) (by omega)
    have e : ∀ y, 141 + 14 * x ≤ y → y < 141 + 14 * x + 14 → shf old 14 (141 + 14 * i) (141 + 14 * (w.1 - 1)) y = now (y + 14) := by
      intro y h1 h2
      rw [shf_in _ _ _ _ _ (by omega) (by omega), ho _ (by omega)]
    refine ⟨?_, ?_, fun k hk => ?_⟩
    · rw [e _ (by omega) (by omega), ← r1]
      congr 1
    · rw [e _ (by omega) (by omega), ← r2]
      congr 1
    · rw [e _ (by omega) (by omega), ← r3 k hk]
      congr 1
      omega
theorem mN_same {A B : aB} {names : Nat → Int64} (hs : same A B) (h : mN A.1 names) : mN B.1 names := by
  intro i hi
  rw [hs.1] at hi
  rw [hs.2]
  exact h i hi
theorem m_removes {A : aB} {now : Nat → Int32} (hB : mB A now) (hI : Inv A) {i : Nat} (hi : i < A.2.2.1.1) {h h' : Nat} {undo undo' : Nat → Int32} (hk : fX10_keeps (Int32.ofNat h) now undo = some (Int32.ofNat h', undo')) (t0 : Int32) : Ok (fX10_remove (Int32.ofNat i) t0 (Int32.ofNat h) now undo) (fun r => r.1 = Int32.ofNat ((aEnd A i).1.2.2 (A.2.2.1.2.2.1 i)) ∧ r.2.1 = 0 ∧ r.2.2.1 = Int32.ofNat h' ∧ mB (aEnd A i) r.2.2.2.1 ∧ r.2.2.2.2 = undo') := by
  obtain ⟨w1, w2, w3, w4, w5⟩ := hI.2.2.1.2 i hi
  have h4 := hI.1.1
  have h24 := hI.2.1.1
  have h16 := hI.2.2.1.1
  have h12 := iW_len hI hi
  obtain ⟨r1, r2, r3⟩ := hB.2.2.1.2 i hi
  have o0 : fX10_ofWord (Int32.ofNat i) 0 now = some (now (141 + 14 * i + 0)) := m_ofWord (w := 0) now (by omega) (by omega)
  have o1 : ∀ now, fX10_ofWord (Int32.ofNat i) 1 now = some (now (141 + 14 * i + 1)) := fun now => m_ofWord (w := 1) now (by omega) (by omega)
  have hdep : now 2 * Int32.ofNat (A.2.2.1.2.2.2 i).length = Int32.ofNat (A.2.2.2.1 2 * (A.2.2.1.2.2.2 i).length) := by
    rw [hB.2.2.2.1 2 (by omega), J_mul]
  rw [fX10_remove, noW_in hB.2.2.1.1 hi (by omega), gb2_some, if_pos rfl, hk, gb2_some, o0, gb1_some, o1, gb1_some, Nat.add_zero, r1, r2, hdep]
  refine m_ends_L (F := fun n x now => fX10_remove_L38 (Int32.ofNat i) (Int32.ofNat (A.2.2.1.2.2.1 i)) (Int32.ofNat (A.2.2.2.1 2 * (A.2.2.1.2.2.2 i).length)) _ n x now) (K := fun now_1 => (Lt (upd now_1 8 ((now_1 8) - Int32.ofNat (A.2.2.2.1 2 * (A.2.2.1.2.2.2 i).length))) fun (now_2 : (Nat → Int32)) => if (17 + Int32.ofNat (A.2.2.1.2.2.1 i)) < 0 ∨ 365 ≤ (17 + Int32.ofNat (A.2.2.1.2.2.1 i)).toNatClampNeg then none else if (17 + Int32.ofNat (A.2.2.1.2.2.1 i)) < 0 ∨ 365 ≤ (17 + Int32.ofNat (A.2.2.1.2.2.1 i)).toNatClampNeg then none else Lt (upd now_2 ((17 + Int32.ofNat (A.2.2.1.2.2.1 i)).toNatClampNeg) ((now_2 ((17 + Int32.ofNat (A.2.2.1.2.2.1 i)).toNatClampNeg)) + Int32.ofNat (A.2.2.2.1 2 * (A.2.2.1.2.2.2 i).length))) fun (now_3 : (Nat → Int32)) => Lt (upd now_3 14 ((now_3 14) + Int32.ofNat (A.2.2.2.1 2 * (A.2.2.1.2.2.2 i).length))) fun (now_4 : (Nat → Int32)) => Lt (upd now_4 10 ((now_4 10) - 1)) fun (now_5 : (Nat → Int32)) => fX10_remove_L125 (Int32.ofNat (A.2.2.1.2.2.1 i)) (fun (now_6 : (Nat → Int32)) => (if (17 + Int32.ofNat (A.2.2.1.2.2.1 i)) < 0 ∨ 365 ≤ (17 + Int32.ofNat (A.2.2.1.2.2.1 i)).toNatClampNeg then none else some (now_6 ((17 + Int32.ofNat (A.2.2.1.2.2.1 i)).toNatClampNeg), 0, Int32.ofNat h', now_6, undo'))) FU (141 + (14 * Int32.ofNat i)) now_5)) (at0 := 141 + 14 * i) (by omega) (by omega) h12 (p1 := A.2.1) h24 w2 (fun q => cnt_le' hI hi q) (fun q hq => by have := uses_bd hI hq; omega) now hB.2.2.2.2.2.1 (fun m hm => r3 m hm) (fun n x now1 hf h => ?_) (fun n j now1 hf h => ?_) ?_ (A.2.2.1.2.2.2 i).length 0 FU now (by omega) (by simp only [FU]; omega) (by rw [List.take_zero]; exact hB.2.1) (fun _ _ => rfl)
  · show fX10_remove_L38 _ _ _ _ (n + 1) x now1 = _
    rw [fX10_remove_L38, o1, gb1_some, hf _ (by omega), r2, if_pos h]
  · show fX10_remove_L38 _ _ _ _ (n + 1) _ now1 = _
    rw [fX10_remove_L38, o1, gb1_some, hf _ (by omega), r2, if_neg (by rw [J_le _ _ (by omega) (by omega)]; omega), i_2, J_add, m_ofWord now1 (by omega) (by omega), gb1_some, Nat.add_assoc (141 + 14 * i) 2 j]
  · intro now1 hP1 f1
    have ho4 : A.2.2.1.2.2.1 i < 4 := by omega
    generalize hv : A.2.2.2.1 2 * (A.2.2.1.2.2.2 i).length = v
    have hck : ¬ (Int32.ofNat (17 + A.2.2.1.2.2.1 i) < 0 ∨ 365 ≤ (Int32.ofNat (17 + A.2.2.1.2.2.1 i)).toNatClampNeg) := by
      rw [i_0, J_lt _ _ (by omega) (by omega), J_nat _ (by omega)]
      omega
    have e17 : (17 : Int32) + Int32.ofNat (A.2.2.1.2.2.1 i) = Int32.ofNat (17 + A.2.2.1.2.2.1 i) := J_add 17 _
    have eat : (141 : Int32) + 14 * Int32.ofNat i = Int32.ofNat (141 + 14 * i) := by rw [J_lmul, i_141, J_add]
    rw [Lt_eq, e17, if_neg hck, if_neg hck, J_nat _ (by omega), Lt_eq, Lt_eq, Lt_eq, eat]
    generalize hu : A.2.2.1.2.2.1 i = u at *
    generalize hn5 : upd (upd (upd (upd now1 8 _) _ _) 14 _) 10 _ = now5
    have f5 : ∀ x, x ≠ 8 → x ≠ 17 + u → x ≠ 14 → x ≠ 10 → now5 x = now1 x := by
      intro x h1 h2 h3 h4
      rw [← hn5, upd_ne _ _ _ _ h4, upd_ne _ _ _ _ h3, upd_ne _ _ _ _ h2, upd_ne _ _ _ _ h1]
    have g8 : now5 8 = now 8 - Int32.ofNat v := by
      rw [← hn5]
      simp (disch := omega) only [upd_ne, upd_eq]
      rw [f1 8 (by omega)]
    have gu : now5 (17 + u) = now (17 + u) + Int32.ofNat v := by
      rw [← hn5]
      simp (disch := omega) only [upd_ne, upd_eq]
      rw [f1 (17 + u) (by omega)]
    have g14 : now5 14 = now 14 + Int32.ofNat v := by
      rw [← hn5]
      simp (disch := omega) only [upd_ne, upd_eq]
      rw [f1 14 (by omega)]
    have g10 : now5 10 = Int32.ofNat (A.2.2.1.1 - 1) := by
      rw [← hn5]
      simp (disch := omega) only [upd_ne, upd_eq]
      rw [f1 10 (by omega), hB.2.2.1.1, i_1, J_sub _ _ (by omega)]
    have t := m_rem125 (old := now5) (nw := A.2.2.1.1 - 1) (a := 141 + 14 * i) g10 (by omega) (by omega) (x2 := Int32.ofNat u) (fun (now_6 : (Nat → Int32)) => (if Int32.ofNat (17 + u) < 0 ∨ 365 ≤ 17 + u then none else some (now_6 (17 + u), 0, Int32.ofNat h', now_6, undo'))) (141 + 14 * (A.2.2.1.1 - 1) - (141 + 14 * i)) (141 + 14 * i) FU (by omega) (Nat.le_refl _) (by simp only [FU]; omega)
    rw [shf_0] at t
    rw [t, if_neg (inck' (n := 100) (by omega) (by omega) (by omega))]
    have s6 : ∀ x, x < 141 → shf now5 14 (141 + 14 * i) (141 + 14 * (A.2.2.1.1 - 1)) x = now5 x := fun x hx => shf_lo _ _ _ _ _ (by omega)
    obtain ⟨b1, b2, b3, b4, b5, b6, b7, b8⟩ := hB
    have hgu : now5 (17 + u) = Int32.ofNat ((aEnd A i).1.2.2 u) := by
      rw [gu, b1.2 u w1, J_add]
      show _ = Int32.ofNat (up A.1.2.2 (A.2.2.1.2.2.1 i) _ u)
      rw [hu, up_eq, hv]
    have hmB : mB (aEnd A i) (shf now5 14 (141 + 14 * i) (141 + 14 * (A.2.2.1.1 - 1))) := by
      refine ⟨⟨?_, fun x hx => ?_⟩, ?_, ?_, ?_, ?_, ?_, ?_, ?_⟩
      · rw [s6 _ (by omega), f5 5 (by omega) (by omega) (by omega) (by omega), f1 5 (by omega)]
        exact b1.1
      · have hx2 : x < A.1.1 := hx
        rw [s6 _ (by omega)]
        by_cases cx : x = u
        · rw [cx]
          exact hgu
        · rw [f5 _ (by omega) (by omega) (by omega) (by omega), f1 _ (by omega)]
          show _ = Int32.ofNat (up A.1.2.2 (A.2.2.1.2.2.1 i) _ x)
          rw [up_ne _ _ _ _ (by omega)]
          exact b1.2 x hx2
      · refine mP_fr hP1 (show (pEnds _ _ _).1 ≤ 24 by rw [(pEnds_n _ _ _).1]; exact h24) (fun k hk => ?_)
        rw [s6 _ (by omega), f5 _ (by omega) (by omega) (by omega) (by omega)]
      · refine mW_shift (now := now) b3 h16 (fun j hj => iW_len hI hj) hi (fun x hx => ?_) g10
        rw [f5 _ (by omega) (by omega) (by omega) (by omega), f1 _ (by omega)]
      · intro x hx
        rw [s6 _ (by omega), f5 _ (by omega) (by omega) (by omega) (by omega), f1 _ (by omega)]
        exact b4 x hx
      · intro x hx
        have := b5 x hx
        rw [s6 _ (by omega)]
        simp only [aEnd, sAdd]
        by_cases c3 : x = 3
        · subst c3
          rw [if_pos rfl, show (11 + 3 : Nat) = 14 from rfl, g14, hv]
          rw [show now 14 = A.2.2.2.2.1 3 from this]
        · rw [if_neg c3, f5 _ (by omega) (by omega) (by omega) (by omega), f1 _ (by omega)]
          exact this
      · rw [s6 _ (by omega), f5 _ (by omega) (by omega) (by omega) (by omega), f1 _ (by omega)]
        exact b6
      · rw [s6 _ (by omega), f5 _ (by omega) (by omega) (by omega) (by omega), f1 _ (by omega)]
        exact b7
      · rw [s6 _ (by omega), g8, b8, ← hv]
        rfl
    refine ok_some ⟨?_, rfl, rfl, hmB, rfl⟩
    dsimp only
    rw [s6 _ (by omega)]
    exact hgu
theorem q_remove {A : aB} {b : tBk} {now : Nat → Int32} (hc : cBk A b) (hm : mB A now) (hI : Inv A) {h : Nat} {HA : Nat → aB} {Hs : tHist} {undo : Nat → Int32} (H : hHi A h HA Hs undo) (u1 t0 : Int32) : ∃ (x r B_fund' : Int32) (sums' : Nat → Int32) (U' : tUsers) (P' : tPieces) (W' : tWords) (Hs' : tHist) (r2 t un' : Int32) (now' undo' : Nat → Int32), fX9_remove u1 b.1 b.2.1 b.2.2.1 b.2.2.2.1 b.2.2.2.2.1 b.2.2.2.2.2.1 b.2.2.2.2.2.2.1 b.2.2.2.2.2.2.2 Hs = some (x, r, B_fund', sums', U', P', W', Hs') ∧ fX10_remove u1 t0 (Int32.ofNat h) now undo = some (r2, t, un', now', undo') ∧ ((x = 0 ∧ t = 0 ∧ r = r2) ∨ (x = 1 ∧ t = 1)) ∧ ∃ A' h' HA', cBk A' (b.1, b.2.1, B_fund', b.2.2.2.1, sums', U', P', W') ∧ mB A' now' ∧ Inv A' ∧ same A A' ∧ hHi A h' HA' Hs' undo' ∧ un' = Int32.ofNat h' := by
  have h16 := hI.2.2.1.1
  rcases idx_cases u1 A.2.2.1.1 with ⟨i, hi, _, rfl⟩ | ho
  · obtain ⟨w1, w2, w3, w4, w5⟩ := hI.2.2.1.2 i hi
    have h4 := hI.1.1
    obtain ⟨Hs', undo', h', HA', k1, k2, k3⟩ := keep hc hm hI H
    obtain ⟨⟨r2, t, un', now', undo2⟩, m1, m2, m3, m4, m5, m6⟩ := m_removes hm hI hi k2 t0
    simp only at m2 m3 m4 m5 m6
    subst m6
    obtain ⟨⟨fund', sums', U', P', W'⟩, c1, c2⟩ := c_endWord hc hI.1.1 hI.2.1.1 hI.2.2.1.1 (fun j hj => iW_len hI hj) hi w1 w2 (fun q => cnt_le' hI hi q) (fun q hq => by have := uses_bd hI hq; omega)
    simp only at c2
    obtain ⟨e0, e1, e2, _⟩ := hc.2.2.1.2 i hi
    refine ⟨0, _, fund', sums', U', P', W', Hs', r2, t, un', now', undo2, ?_, m1, Or.inl ⟨rfl, m3, m2.symm⟩, aEnd A i, h', HA', c2, m5, Inv_end hI hi, ⟨rfl, rfl⟩, k3, m4⟩
    rw [fX9_remove, reqW_in hc.2.2.1.1 hi (by omega), gb1_some, if_pos rfl, k1, gb1_some, if_neg (inck (n := 16) (by omega) (by omega) (by omega)), c1, gb5_some, J_nat _ (by omega), e1, c_coinsOf c2.1 hI.1.1 w1, gb1_some]
  · refine ⟨1, 0, b.2.2.1, b.2.2.2.2.1, b.2.2.2.2.2.1, b.2.2.2.2.2.2.1, b.2.2.2.2.2.2.2, Hs, 0, 1, Int32.ofNat h, now, undo, ?_, ?_, Or.inr ⟨rfl, rfl⟩, A, h, HA, hc, hm, hI, same_refl A, H, rfl⟩
    · rw [fX9_remove, reqW_out hc.2.2.1.1 (by omega) ho, gb1_some, if_neg (by decide)]
    · rw [fX10_remove, noW_out hm.2.2.1.1 (by omega) ho, gb2_some, if_neg (by decide)]
