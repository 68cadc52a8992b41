theorem jk_in' {x : Int32} {n : Nat} (h : ¬ (x < 0 ∨ n ≤ x.toNatClampNeg)) : x.toNatClampNeg < n := Nat.lt_of_not_le (fun z => h (Or.inr z))
theorem jk_c : ∀ c, c < 128 → ((Int32.ofNat c &&& 255).toUInt32 % 65536).toInt32 = Int32.ofNat c := by decide +kernel
theorem jk_k1 {α β : Type} (a : α) (k : α → Option β) : gb1 (some a) k = k a := rfl
theorem jk_k0 {β : Type} (k : Option β) : gb0 (some ()) k = k := rfl
theorem jk_at {t : List Nat} {f : Nat → Int32} (hok : okS t f) {x : Int32} (hx : ¬ (x < 0 ∨ t.length ≤ x.toNatClampNeg)) (hxe : Int32.ofNat x.toNatClampNeg = x) (hlt : x.toNatClampNeg < t.length → Int32.ofNat x.toNatClampNeg < Int32.ofNat t.length) : fJ0_charAt_5068eW t.length x f = some (Int32.ofNat (t.getD x.toNatClampNeg 0)) := by
  have hi := jk_in' hx
  have h0 : ¬ x < 0 := fun z => hx (Or.inl z)
  have h1 : x < Int32.ofNat t.length := by
    have := hlt hi
    rw [hxe] at this
    exact this
  have ec : fJ0_checkIndex_df160 x (Int32.ofNat t.length) = some () := by
    unfold fJ0_checkIndex_df160 fJ3_checkIndex_8e157 Lt
    dsimp only
    rw [if_neg h0, if_pos h1]
    rfl
  have e1 : fJ0_isLatin1_aae02W = some 1 := by
    unfold fJ0_isLatin1_aae02W
    rw [if_neg (by decide), if_pos rfl]
  have hm : t.getD x.toNatClampNeg 0 ∈ t := by
    rw [List.getD_eq_getElem?_getD, List.getElem?_eq_getElem hi]
    exact List.getElem_mem hi
  unfold fJ0_charAt_5068eW fJ1_charAt_3b067W
  rw [e1, jk_k1, if_neg (by decide), ec, jk_k0, if_neg hx, jk_k1, hok.2.2.1 _ hi, jk_c _ (hok.2.1 _ hm)]
theorem jk_upf {f : Nat → Int32} (hf : ∀ i, fits .byte (.int (f i)) = true) (k : Nat) {x : Int32} (hx : fits .byte (.int x) = true) : ∀ i, fits .byte (.int (upd f k x i)) = true := by
  intro i
  unfold upd
  split
  · exact hx
  · exact hf i
theorem jk_dO : ∀ q, q < 100 → vp_nar .byte (gDO q) = Int32.ofNat (48 + q % 10) ∧ fits .byte (.int (Int32.ofNat (48 + q % 10))) = true := by decide +kernel
theorem jk_dT : ∀ q, q < 100 → vp_nar .byte (gDT q) = Int32.ofNat (48 + q / 10) ∧ fits .byte (.int (Int32.ofNat (48 + q / 10))) = true := by decide +kernel
theorem jk_q : ∀ q, q < 100 → -(-(Int32.ofNat q)) = Int32.ofNat q ∧ ¬ (Int32.ofNat q < 0 ∨ 100 ≤ (Int32.ofNat q).toNatClampNeg) ∧ (Int32.ofNat q).toNatClampNeg = q ∧ ((-100 : Int32) < -(Int32.ofNat q)) ∧ (((-9 : Int32) ≤ -(Int32.ofNat q)) ↔ q ≤ 9) := by decide +kernel
theorem jk_v : ∀ v, v < 1000 → 100 ≤ v → ¬ ((-100 : Int32) < -(Int32.ofNat v)) ∧ (-(Int32.ofNat (v / 100))) * 100 - (-(Int32.ofNat v)) = Int32.ofNat (v % 100) ∧ (-(Int32.ofNat v)) / 100 = -(Int32.ofNat (v / 100)) := by decide +kernel
theorem jk_v0 : ∀ v, v < 1000 → (0 : Int32) ≤ Int32.ofNat v := by decide +kernel
theorem jk_p : ∀ t, t < 1010 → ¬ (Int32.ofNat t < 0) ∧ (Int32.ofNat t).toNatClampNeg = t ∧ Int32.ofNat (t + 1) + (-1) = Int32.ofNat t := by decide +kernel
theorem jk_pos {t c : Nat} (h : t < c) (hc : c ≤ 1002) : ¬ (Int32.ofNat t < 0 ∨ c ≤ (Int32.ofNat t).toNatClampNeg) := by
  obtain ⟨a, b, _⟩ := jk_p t (by omega)
  rw [b]
  rintro (z | z)
  · exact a z
  · omega
theorem jk_chars {v : Nat} (hv : v < 1000) {t c : Nat} {f : Nat → Int32} (h1 : t + (gDec v).length ≤ c) (h2 : c ≤ 1002) (hf : ∀ i, fits .byte (.int (f i)) = true) : ∃ (r : Int32) (f' : Nat → Int32), fJ6_getChars_ba4f3 c (Int32.ofNat v) (Int32.ofNat (t + (gDec v).length)) f = some (r, f') ∧ (∀ i, i < t → f' i = f i) ∧ (∀ i, i < (gDec v).length → f' (t + i) = Int32.ofNat ((gDec v).getD i 0)) ∧ ∀ i, fits .byte (.int (f' i)) = true := by
  have lt : ∀ {α β : Type} (x : α) (k : α → β), Lt x k = k x := fun _ _ => rfl
  by_cases c1 : v < 10
  · have eg : gDec v = [48 + v] := by
      unfold gDec gDecF
      rw [if_pos c1]
    rw [eg] at h1 ⊢
    have h1' : t + 1 ≤ c := h1
    obtain ⟨q1, q2, q3, q4, q5⟩ := jk_q v (by omega)
    obtain ⟨p1, p2, p3⟩ := jk_p t (by omega)
    obtain ⟨d1, d2⟩ := jk_dO v (by omega)
    refine ⟨Int32.ofNat t, upd f t (Int32.ofNat (48 + v % 10)), ?_, fun i hi => ?_, fun i hi => ?_, jk_upf hf t d2⟩
    · show fJ6_getChars_ba4f3 c (Int32.ofNat v) (Int32.ofNat (t + 1)) f = _
      unfold fJ6_getChars_ba4f3
      simp only [lt]
      rw [if_pos (jk_v0 v hv), if_pos trivial]
      show fJ6_getChars_ba4f3_L22 c 0 _ (999 + 1) (-(Int32.ofNat v)) (Int32.ofNat (t + 1)) f = _
      unfold fJ6_getChars_ba4f3_L22
      rw [if_pos q4]
      simp only [q1, p3]
      rw [if_neg q2, if_neg (jk_pos h1' h2), if_pos (q5.mpr (by omega)), if_pos trivial, p2, q3, d1]
    · unfold upd
      rw [if_neg (by omega)]
    · have hi' : i = 0 := by
        have : i < 1 := hi
        omega
      subst hi'
      unfold upd
      rw [if_pos (Nat.add_zero t)]
      show Int32.ofNat (48 + v % 10) = Int32.ofNat (48 + v)
      rw [Nat.mod_eq_of_lt c1]
  · by_cases c2 : v < 100
    · have eg : gDec v = [48 + v / 10, 48 + v % 10] := by
        unfold gDec gDecF
        rw [if_neg c1]
        unfold gDecF
        rw [if_pos (by omega)]
        rfl
      rw [eg] at h1 ⊢
      have h1' : t + 1 + 1 ≤ c := h1
      obtain ⟨q1, q2, q3, q4, q5⟩ := jk_q v c2
      obtain ⟨p1, p2, p3⟩ := jk_p t (by omega)
      obtain ⟨r1, r2, r3⟩ := jk_p (t + 1) (by omega)
      obtain ⟨d1, d2⟩ := jk_dO v c2
      obtain ⟨e1, e2⟩ := jk_dT v c2
      refine ⟨Int32.ofNat t, upd (upd f (t + 1) (Int32.ofNat (48 + v % 10))) t (Int32.ofNat (48 + v / 10)), ?_, fun i hi => ?_, fun i hi => ?_, jk_upf (jk_upf hf _ d2) _ e2⟩
      · show fJ6_getChars_ba4f3 c (Int32.ofNat v) (Int32.ofNat (t + 1 + 1)) f = _
        unfold fJ6_getChars_ba4f3
        simp only [lt]
        rw [if_pos (jk_v0 v hv), if_pos trivial]
        show fJ6_getChars_ba4f3_L22 c 0 _ (999 + 1) (-(Int32.ofNat v)) (Int32.ofNat (t + 1 + 1)) f = _
        unfold fJ6_getChars_ba4f3_L22
        rw [if_pos q4]
        simp only [q1, r3, p3]
        rw [if_neg q2, if_neg (jk_pos (show t + 1 < c by omega) h2), if_neg (fun z => c1 (by have := q5.mp z; omega)), if_neg q2, if_neg (jk_pos (show t < c by omega) h2), if_pos trivial, p2, r2, q3, d1, e1]
      · unfold upd
        rw [if_neg (by omega), if_neg (by omega)]
      · have hi' : i = 0 ∨ i = 1 := by
          have : i < 2 := hi
          omega
        rcases hi' with rfl | rfl
        · unfold upd
          rw [if_pos (Nat.add_zero t)]
          rfl
        · unfold upd
          rw [if_neg (by omega), if_pos rfl]
          rfl
    · have eg : gDec v = [48 + v / 100, 48 + v / 10 % 10, 48 + v % 10] := by
        unfold gDec gDecF
        rw [if_neg c1]
        unfold gDecF
        rw [if_neg (by omega)]
        unfold gDecF
        rw [if_pos (by omega), Nat.div_div_eq_div_mul]
        rfl
      rw [eg] at h1 ⊢
      have h1' : t + 1 + 1 + 1 ≤ c := h1
      obtain ⟨v1, v2, v3⟩ := jk_v v hv (by omega)
      obtain ⟨u1, u2, u3, u4, u5⟩ := jk_q (v % 100) (Nat.mod_lt _ (by decide))
      obtain ⟨q1, q2, q3, q4, q5⟩ := jk_q (v / 100) (by omega)
      obtain ⟨p1, p2, p3⟩ := jk_p t (by omega)
      obtain ⟨r1, r2, r3⟩ := jk_p (t + 1) (by omega)
      obtain ⟨s1, s2, s3⟩ := jk_p (t + 1 + 1) (by omega)
      obtain ⟨d1, d2⟩ := jk_dO (v % 100) (Nat.mod_lt _ (by decide))
      obtain ⟨e1, e2⟩ := jk_dT (v % 100) (Nat.mod_lt _ (by decide))
      obtain ⟨w1, w2⟩ := jk_dO (v / 100) (by omega)
      refine ⟨Int32.ofNat t, upd (upd (upd f (t + 1 + 1) (Int32.ofNat (48 + v % 100 % 10))) (t + 1) (Int32.ofNat (48 + v % 100 / 10))) t (Int32.ofNat (48 + v / 100 % 10)), ?_, fun i hi => ?_, fun i hi => ?_, jk_upf (jk_upf (jk_upf hf _ d2) _ e2) _ w2⟩
      · show fJ6_getChars_ba4f3 c (Int32.ofNat v) (Int32.ofNat (t + 1 + 1 + 1)) f = _
        unfold fJ6_getChars_ba4f3
        simp only [lt]
        rw [if_pos (jk_v0 v hv), if_pos trivial]
        show fJ6_getChars_ba4f3_L22 c 0 _ (998 + 1 + 1) (-(Int32.ofNat v)) (Int32.ofNat (t + 1 + 1 + 1)) f = _
        rw [fJ6_getChars_ba4f3_L22, if_neg v1]
        simp only [lt, v2, v3, s3, r3]
        rw [if_neg u2, if_neg (jk_pos (show t + 1 + 1 < c by omega) h2), if_neg u2, if_neg (jk_pos (show t + 1 < c by omega) h2), fJ6_getChars_ba4f3_L22, if_pos q4]
        simp only [q1, p3]
        rw [if_neg q2, if_neg (jk_pos (show t < c by omega) h2), if_pos (q5.mpr (by omega)), if_pos trivial, p2, r2, s2, q3, u3, d1, e1, w1]
      · unfold upd
        rw [if_neg (by omega), if_neg (by omega), if_neg (by omega)]
      · have hi' : i = 0 ∨ i = 1 ∨ i = 2 := by
          have : i < 3 := hi
          omega
        rcases hi' with rfl | rfl | rfl
        · unfold upd
          rw [if_pos (Nat.add_zero t)]
          show Int32.ofNat (48 + v / 100 % 10) = Int32.ofNat (48 + v / 100)
          rw [Nat.mod_eq_of_lt (show v / 100 < 10 by omega)]
        · unfold upd
          rw [if_neg (by omega), if_pos rfl]
          show Int32.ofNat (48 + v % 100 / 10) = Int32.ofNat (48 + v / 10 % 10)
          rw [show v % 100 / 10 = v / 10 % 10 by omega]
        · unfold upd
          rw [if_neg (by omega), if_neg (by omega), if_pos rfl]
          show Int32.ofNat (48 + v % 100 % 10) = Int32.ofNat (48 + v % 10)
          rw [show v % 100 % 10 = v % 10 by omega]
