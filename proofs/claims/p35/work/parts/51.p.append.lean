/-! append -/
theorem nar_b (z : Int32) : vp_nar .byte (z.toInt8.toInt32) = z.toInt8.toInt32 := by
  simp [vp_nar, narrow]
theorem sh32 : ∀ k : Nat, k < 32 → (Int32.ofNat k).toUInt32 &&& Int32.toUInt32 31 = UInt32.ofNat k := by decide +kernel
theorem md32 : ∀ k : Nat, k < 32 → (BitVec.ofNat 32 k % 32).toNat = k := by decide +kernel
theorem gush_k (x : Int32) : ∀ k : Nat, k ≤ 24 → (gush x (Int32.ofNat k)).toInt8 = (x >>> (Int32.ofNat k &&& 31)).toInt8 := by
  intro k hk
  rw [J_and31, Nat.mod_eq_of_lt (by omega)]
  apply Int8.toBitVec_inj.mp
  have e1 : (gush x (Int32.ofNat k)).toInt8.toBitVec = (x.toBitVec >>> k).setWidth 8 := by
    unfold gush
    rw [sh32 k (by omega)]
    show ((x.toBitVec >>> ((BitVec.ofNat 32 k) % 32)).signExtend 8) = _
    rw [BitVec.signExtend_eq_setWidth_of_le _ (by omega)]
    show (x.toBitVec >>> ((BitVec.ofNat 32 k) % 32).toNat).setWidth 8 = _
    rw [md32 k (by omega)]
  have e2 : (x >>> Int32.ofNat k).toInt8.toBitVec = (x.toBitVec.sshiftRight k).setWidth 8 := by
    show (x.toBitVec.sshiftRight' ((Int32.ofNat k).toBitVec.smod 32)).signExtend 8 = _
    rw [BitVec.sshiftRight', sm32 k (by omega), BitVec.signExtend_eq_setWidth_of_le _ (by omega)]
  rw [e1, e2]
  apply BitVec.eq_of_getLsbD_eq
  intro i hi
  rw [BitVec.getLsbD_setWidth, BitVec.getLsbD_setWidth, BitVec.getLsbD_ushiftRight, BitVec.getLsbD_sshiftRight, if_pos (show k + i < 32 by omega)]
  rw [show decide (32 ≤ i) = false from decide_eq_false (by omega)]
  simp
theorem sx_ex (z : Int8) : ∃ v, v < 256 ∧ z.toInt32 = sxb v := by
  refine ⟨z.toBitVec.toNat, z.toBitVec.isLt, ?_⟩
  unfold sxb
  congr 1
  apply Int8.toBitVec_inj.mp
  show z.toBitVec = BitVec.ofNat 8 z.toBitVec.toNat
  rw [BitVec.ofNat_toNat, BitVec.setWidth_eq]
theorem c_ap1 (x : Int32) (k : Int32 → (Nat → Int32) → Option (Int32 × (Nat → Int32))) (m s n : Nat) (hs : s ≤ 24) (hn : n < 600) (buf : Nat → Int32) : fX9_appendFour_L3 x k (m + 1) (Int32.ofNat s) (Int32.ofNat n) buf = fX9_appendFour_L3 x k m (Int32.ofNat s + -8) (Int32.ofNat (n + 1)) (upd buf n ((x >>> (Int32.ofNat s &&& 31)).toInt8.toInt32)) := by
  rw [fX9_appendFour_L3, if_neg (by rw [i_0, J_lt _ _ (by omega) (by omega)]; omega), if_neg (by rw [i_600, J_le _ _ (by omega) (by omega)]; omega), if_neg (inck (n := 600) (by omega) (by omega) (by omega)), Lt_eq, nar_b, gush_k x s hs, J_nat _ (by omega), i_1, J_add]
theorem m24 : Int32.ofNat 24 + -8 = Int32.ofNat 16 := by decide
theorem m16 : Int32.ofNat 16 + -8 = Int32.ofNat 8 := by decide
theorem m8 : Int32.ofNat 8 + -8 = Int32.ofNat 0 := by decide
theorem m0 : Int32.ofNat 0 + -8 < 0 := by decide
def sB (x : Int32) (s : Nat) : Int32 := (x >>> (Int32.ofNat s &&& 31)).toInt8.toInt32
theorem fu5 : ∃ m, FU = m + 5 := ⟨FU - 5, by simp only [FU]⟩
theorem c_ap4 (x : Int32) (n : Nat) (hn : n + 4 ≤ 600) (buf : Nat → Int32) : fX9_appendFour x (Int32.ofNat n) buf = some (Int32.ofNat (n + 4), upd (upd (upd (upd buf n (sB x 24)) (n + 1) (sB x 16)) (n + 2) (sB x 8)) (n + 3) (sB x 0)) := by
  obtain ⟨m, hm⟩ := fu5
  rw [fX9_appendFour, hm, i_24, c_ap1 _ _ _ 24 n (by omega) (by omega), m24, c_ap1 _ _ _ 16 _ (by omega) (by omega), m16, c_ap1 _ _ _ 8 _ (by omega) (by omega), m8, c_ap1 _ _ _ 0 _ (by omega) (by omega), fX9_appendFour_L3, if_pos m0]
  rfl
