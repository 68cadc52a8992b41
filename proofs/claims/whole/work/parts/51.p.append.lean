/-! append -/
theorem nar_b (z : Int32) : vp_nar .byte (z.toInt8.toInt32) = z.toInt8.toInt32 := by
  simp [vp_nar, narrow]
theorem sh32 : ∀ k : Nat, k < 32 → (Int32.ofNat k).toUInt32 &&& Int32.toUInt32 31 = UInt32.ofNat k := by decide +kernel
theorem md32 : ∀ k : Nat, k < 32 → (BitVec.ofNat 32 k % 32).toNat = k := by decide +kernel
theorem gush_k (x : Int32) : ∀ k : Nat, k ≤ 24 → (gush x (Int32.ofNat k)).toInt8 = (x >>> (Int32.ofNat k &&& 31)).toInt8 := by
  intro k hk
  rw [J_and31, Nat.mod_eq_of_lt (by omega)]
  apply Int8.toBitVec_inj.mp
  have e1 : (gush x (Int32.ofNat k)).toInt8.toBitVec = (x.toBitVec >>> k).setWidth 8 := by
    unfold gush
    rw [sh32 k (by omega)]
    show ((x.toBitVec >>> ((BitVec.ofNat 32 k) % 32)).signExtend 8) = _
    rw [BitVec.signExtend_eq_setWidth_of_le _ (by omega)]
    show (x.toBitVec >>> ((BitVec.ofNat 32 k) % 32).toNat).setWidth 8 = _
    rw [md32 k (by omega)]
  have e2 : (x >>> Int32.ofNat k).toInt8.toBitVec = (x.toBitVec.sshiftRight k).setWidth 8 := by
    show (x.toBitVec.sshiftRight' ((Int32.ofNat k).toBitVec.smod 32)).signExtend 8 = _
    rw [BitVec.sshiftRight', sm32 k (by omega), BitVec.signExtend_eq_setWidth_of_le _ (by omega)]
  rw [e1, e2]
  apply BitVec.eq_of_getLsbD_eq
  intro i hi
  rw [BitVec.getLsbD_setWidth, BitVec.getLsbD_setWidth, BitVec.getLsbD_ushiftRight, BitVec.getLsbD_sshiftRight, if_pos (show k + i < 32 by omega)]
  rw [show decide (32 ≤ i) = false from decide_eq_false (by omega)]
  simp
theorem sx_ex (z : Int8) : ∃ v, v < 256 ∧ z.toInt32 = sxb v := by
  refine ⟨z.toBitVec.toNat, z.toBitVec.isLt, ?_⟩
  unfold sxb
  congr 1
  apply Int8.toBitVec_inj.mp
  show z.toBitVec = BitVec.ofNat 8 z.toBitVec.toNat
  rw [BitVec.ofNat_toNat, BitVec.setWidth_eq]
theorem c_ap1 (x : Int32) (k : Int32 → (Nat → Int32) → Option (Int32 × (Nat → Int32))) (m s n : Nat) (hs : s ≤ 24) (hn : n < 600) (buf : Nat → Int32) : fX9_appendFour_L3 x k (m + 1) (Int32.ofNat s) (Int32.ofNat n) buf = fX9_appendFour_L3 x k m (Int32.ofNat s + -8) (Int32.ofNat (n + 1)) (upd buf n ((x >>> (Int32.ofNat s &&& 31)).toInt8.toInt32)) := by
  rw [fX9_appendFour_L3, if_neg (by rw [i_0, J_lt _ _ (by omega) (by omega)]; omega), if_neg (by rw [i_600, J_le _ _ (by omega) (by omega)]; omega), if_neg (inck (n := 600) (by omega) (by omega) (by omega)), Lt_eq, nar_b, gush_k x s hs, J_nat _ (by omega), i_1, J_add]
theorem m_ap1 (x : Int32) (k : Int32 → (Nat → Int32) → Option (Int32 × (Nat → Int32))) (m s n : Nat) (hs : s ≤ 24) (hn : n < 600) (buf : Nat → Int32) : fX10_bytesOf_L3 x k (m + 1) (Int32.ofNat s) (Int32.ofNat n) buf = fX10_bytesOf_L3 x k m (Int32.ofNat s + -8) (Int32.ofNat (n + 1)) (upd buf n ((x >>> (Int32.ofNat s &&& 31)).toInt8.toInt32)) := by
  rw [fX10_bytesOf_L3, if_neg (by rw [i_0, J_lt _ _ (by omega) (by omega)]; omega), if_neg (inck (n := 600) (by omega) (by omega) (by omega)), Lt_eq, nar_b, J_nat _ (by omega), i_1, J_add]
theorem m24 : Int32.ofNat 24 + -8 = Int32.ofNat 16 := by decide
theorem m16 : Int32.ofNat 16 + -8 = Int32.ofNat 8 := by decide
theorem m8 : Int32.ofNat 8 + -8 = Int32.ofNat 0 := by decide
theorem m0 : Int32.ofNat 0 + -8 < 0 := by decide
def sB (x : Int32) (s : Nat) : Int32 := (x >>> (Int32.ofNat s &&& 31)).toInt8.toInt32
theorem fu5 : ∃ m, FU = m + 5 := ⟨FU - 5, by simp only [FU]⟩
theorem c_ap4 (x : Int32) (n : Nat) (hn : n + 4 ≤ 600) (buf : Nat → Int32) : fX9_appendFour x (Int32.ofNat n) buf = some (Int32.ofNat (n + 4), upd (upd (upd (upd buf n (sB x 24)) (n + 1) (sB x 16)) (n + 2) (sB x 8)) (n + 3) (sB x 0)) := by
  obtain ⟨m, hm⟩ := fu5
  rw [fX9_appendFour, hm, i_24, c_ap1 _ _ _ 24 n (by omega) (by omega), m24, c_ap1 _ _ _ 16 _ (by omega) (by omega), m16, c_ap1 _ _ _ 8 _ (by omega) (by omega), m8, c_ap1 _ _ _ 0 _ (by omega) (by omega), fX9_appendFour_L3, if_pos m0]
  rfl
theorem m_ap4 (x : Int32) (n : Nat) (hn : n + 4 ≤ 600) (buf : Nat → Int32) : fX10_bytesOf x (Int32.ofNat n) buf = some (Int32.ofNat (n + 4), upd (upd (upd (upd buf n (sB x 24)) (n + 1) (sB x 16)) (n + 2) (sB x 8)) (n + 3) (sB x 0)) := by
  obtain ⟨m, hm⟩ := fu5
  rw [fX10_bytesOf, hm, i_24, m_ap1 _ _ _ 24 n (by omega) (by omega), m24, m_ap1 _ _ _ 16 _ (by omega) (by omega), m16, m_ap1 _ _ _ 8 _ (by omega) (by omega), m8, m_ap1 _ _ _ 0 _ (by omega) (by omega), fX10_bytesOf_L3, if_pos m0]
  rfl
def tY (n : Nat) (bt : Nat → Nat) (buf text : Nat → Int32) : Prop := ∀ i, i < n → bt i < 256 ∧ buf i = sxb (bt i) ∧ text i = sxb (bt i)
theorem tY_1 {n : Nat} {bt : Nat → Nat} {buf text : Nat → Int32} (h : tY n bt buf text) (z : Int8) : ∃ bt', tY (n + 1) bt' (upd buf n z.toInt32) (upd text n z.toInt32) := by
  obtain ⟨v, hv, e⟩ := sx_ex z
  refine ⟨up bt n v, fun i hi => ?_⟩
  by_cases c : i = n
  · rw [c, up_eq, upd_eq, upd_eq]
    exact ⟨hv, e, e⟩
  · rw [up_ne _ _ _ _ c, upd_ne _ _ _ _ c, upd_ne _ _ _ _ c]
    exact h i (by omega)
theorem tY_4 {n : Nat} {bt : Nat → Nat} {buf text : Nat → Int32} (h : tY n bt buf text) (x : Int32) : ∃ bt', tY (n + 4) bt' (upd (upd (upd (upd buf n (sB x 24)) (n + 1) (sB x 16)) (n + 2) (sB x 8)) (n + 3) (sB x 0)) (upd (upd (upd (upd text n (sB x 24)) (n + 1) (sB x 16)) (n + 2) (sB x 8)) (n + 3) (sB x 0)) := by
  obtain ⟨b1, h1⟩ := tY_1 h ((x >>> (Int32.ofNat 24 &&& 31)).toInt8)
  obtain ⟨b2, h2⟩ := tY_1 h1 ((x >>> (Int32.ofNat 16 &&& 31)).toInt8)
  obtain ⟨b3, h3⟩ := tY_1 h2 ((x >>> (Int32.ofNat 8 &&& 31)).toInt8)
  obtain ⟨b4, h4⟩ := tY_1 h3 ((x >>> (Int32.ofNat 0 &&& 31)).toInt8)
  exact ⟨b4, h4⟩
theorem ap4 {n : Nat} {bt : Nat → Nat} {buf text : Nat → Int32} (h : tY n bt buf text) (hn : n + 4 ≤ 600) (x : Int32) : ∃ bt' buf' text', fX9_appendFour x (Int32.ofNat n) buf = some (Int32.ofNat (n + 4), buf') ∧ fX10_bytesOf x (Int32.ofNat n) text = some (Int32.ofNat (n + 4), text') ∧ tY (n + 4) bt' buf' text' := by
  obtain ⟨b4, h4⟩ := tY_4 h x
  exact ⟨b4, _, _, c_ap4 x n hn buf, m_ap4 x n hn text, h4⟩
theorem q_append {n : Nat} {bt : Nat → Nat} {bd ln : Int32} {buf text : Nat → Int32} (hX : tX n bt bd buf ln text) (u1 u2 u3 u4 u5 t0 : Int32) : ∃ (r bd' : Int32) (buf' : Nat → Int32) (r2 t ln' : Int32) (text' : Nat → Int32), fX9_append u1 u2 u3 u4 u5 bd buf = some (r, bd', buf') ∧ fX10_append u1 u2 u3 u4 u5 t0 ln text = some (r2, t, ln', text') ∧ r = r2 ∧ ∃ n' bt', tX n' bt' bd' buf' ln' text' := by
  obtain ⟨x1, x2, x3, x4, x5⟩ := hX
  by_cases c : n + 20 ≤ 600
  · have h0 : tY n bt buf text := x5
    obtain ⟨b1, f1, g1, a1, c1, h1⟩ := ap4 h0 (by omega) u1
    obtain ⟨b2, f2, g2, a2, c2, h2⟩ := ap4 h1 (by omega) u2
    obtain ⟨b3, f3, g3, a3, c3, h3⟩ := ap4 h2 (by omega) u3
    obtain ⟨b4, f4, g4, a4, c4, h4⟩ := ap4 h3 (by omega) u4
    obtain ⟨b5, f5, g5, a5, c5, h5⟩ := ap4 h4 (by omega) u5
    refine ⟨_, _, f5, Int32.ofNat (n + 4 + 4 + 4 + 4 + 4), 0, _, g5, ?_, ?_, rfl, n + 4 + 4 + 4 + 4 + 4, b5, by omega, by omega, rfl, rfl, h5⟩
    · rw [x3, fX9_append, if_pos (by rw [i_20, J_add, i_600, J_le _ _ (by omega) (by omega)]; omega), a1, gb2_some, a2, gb2_some, a3, gb2_some, a4, gb2_some, a5, gb2_some]
    · rw [x4, fX10_append, if_pos (by rw [i_20, J_add, i_600, J_le _ _ (by omega) (by omega)]; omega), c1, gb2_some, c2, gb2_some, c3, gb2_some, c4, gb2_some, c5, gb2_some]
  · refine ⟨-1, bd, buf, -1, 0, ln, text, ?_, ?_, rfl, n, bt, x1, x2, x3, x4, x5⟩
    · rw [fX9_append, x3, if_neg (by rw [i_20, J_add, i_600, J_le _ _ (by omega) (by omega)]; omega)]
    · rw [fX10_append, x4, if_neg (by rw [i_20, J_add, i_600, J_le _ _ (by omega) (by omega)]; omega)]
