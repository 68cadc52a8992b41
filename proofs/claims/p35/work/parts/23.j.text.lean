set_option maxRecDepth 20000
theorem so2 {α β : Type} {a c : α} {b d : β} (h : some (a, b) = some (c, d)) : a = c ∧ b = d := Prod.mk.inj (Option.some.inj h)
abbrev rmJ6_numberOfLeadingZeros_0f7a4 : Room := { frames := 0, cells := 0, slots := 0, locals := 0 }
theorem h0J6_numberOfLeadingZeros_0f7a4 : yJ6_numberOfLeadingZeros_0f7a4.cls ≠ "java/lang/invoke/MethodHandle" ∧ yJ6_numberOfLeadingZeros_0f7a4.cls ≠ "java/lang/invoke/VarHandle" ∧ (parseMethodDescriptor yJ6_numberOfLeadingZeros_0f7a4.desc).map (fun d => d.parameters.length) = some 1 := by decide +kernel
abbrev rmJ6_bitCount_0f7a4 : Room := { frames := 0, cells := 0, slots := 0, locals := 0 }
theorem h0J6_bitCount_0f7a4 : yJ6_bitCount_0f7a4.cls ≠ "java/lang/invoke/MethodHandle" ∧ yJ6_bitCount_0f7a4.cls ≠ "java/lang/invoke/VarHandle" ∧ (parseMethodDescriptor yJ6_bitCount_0f7a4.desc).map (fun d => d.parameters.length) = some 1 := by decide +kernel
abbrev rmJ6_lowestOneBit_0f7a4 : Room := { frames := 0, cells := 0, slots := 0, locals := 0 }
theorem h0J6_lowestOneBit_0f7a4 : yJ6_lowestOneBit_0f7a4.cls ≠ "java/lang/invoke/MethodHandle" ∧ yJ6_lowestOneBit_0f7a4.cls ≠ "java/lang/invoke/VarHandle" ∧ (parseMethodDescriptor yJ6_lowestOneBit_0f7a4.desc).map (fun d => d.parameters.length) = some 1 := by decide +kernel
abbrev rmJ6_stringSize_0f7a4 : Room := { frames := 0, cells := 0, slots := 0, locals := 0 }
theorem h0J6_stringSize_0f7a4 : yJ6_stringSize_0f7a4.cls ≠ "java/lang/invoke/MethodHandle" ∧ yJ6_stringSize_0f7a4.cls ≠ "java/lang/invoke/VarHandle" ∧ (parseMethodDescriptor yJ6_stringSize_0f7a4.desc).map (fun d => d.parameters.length) = some 1 := by decide +kernel
abbrev rmJ6_getChars_ba4f3 : Room := { frames := 0, cells := 0, slots := 0, locals := 0 }
theorem h0J6_getChars_ba4f3 : yJ6_getChars_ba4f3.cls ≠ "java/lang/invoke/MethodHandle" ∧ yJ6_getChars_ba4f3.cls ≠ "java/lang/invoke/VarHandle" ∧ (parseMethodDescriptor yJ6_getChars_ba4f3.desc).map (fun d => d.parameters.length) = some 3 := by decide +kernel
abbrev rmJ1_canEncode_fc78d : Room := { frames := 0, cells := 0, slots := 0, locals := 0 }
theorem h0J1_canEncode_fc78d : yJ1_canEncode_fc78d.cls ≠ "java/lang/invoke/MethodHandle" ∧ yJ1_canEncode_fc78d.cls ≠ "java/lang/invoke/VarHandle" ∧ (parseMethodDescriptor yJ1_canEncode_fc78d.desc).map (fun d => d.parameters.length) = some 1 := by decide +kernel
abbrev rmJ5_isLatin1_aae02 : Room := { frames := 0, cells := 0, slots := 0, locals := 0 }
theorem iJ5_isLatin1_aae02_J4 : ∀ w ∈ u_ws RJ4 TJ4 4, w ∈ wsJ5_isLatin1_aae02 := by decide +kernel
theorem h0J5_isLatin1_aae02 : yJ5_isLatin1_aae02.cls = RJ5 ∧ yJ5_isLatin1_aae02.cls ≠ "java/lang/invoke/MethodHandle" ∧ yJ5_isLatin1_aae02.cls ≠ "java/lang/invoke/VarHandle" ∧ (parseMethodDescriptor yJ5_isLatin1_aae02.desc).map (fun d => d.parameters.length) = some 0 := by decide +kernel
abbrev rmJ8_hugeLength_7cf53 : Room := { frames := 0, cells := 0, slots := 0, locals := 0 }
theorem h0J8_hugeLength_7cf53 : yJ8_hugeLength_7cf53.cls ≠ "java/lang/invoke/MethodHandle" ∧ yJ8_hugeLength_7cf53.cls ≠ "java/lang/invoke/VarHandle" ∧ (parseMethodDescriptor yJ8_hugeLength_7cf53.desc).map (fun d => d.parameters.length) = some 2 := by decide +kernel
abbrev rmJ8_newLength_cabcc : Room := { frames := 1, cells := 0, slots := 0, locals := 30 }
theorem h0J8_newLength_cabcc : yJ8_newLength_cabcc.cls ≠ "java/lang/invoke/MethodHandle" ∧ yJ8_newLength_cabcc.cls ≠ "java/lang/invoke/VarHandle" ∧ (parseMethodDescriptor yJ8_newLength_cabcc.desc).map (fun d => d.parameters.length) = some 3 := by decide +kernel
abbrev rmJ5_newCapacity_0f7a4 : Room := { frames := 2, cells := 0, slots := 0, locals := 53 }
theorem iJ5_newCapacity_0f7a4_J4 : ∀ w ∈ u_ws RJ4 TJ4 4, w ∈ wsJ5_newCapacity_0f7a4 := by decide +kernel
theorem h0J5_newCapacity_0f7a4 : yJ5_newCapacity_0f7a4.cls = RJ5 ∧ yJ5_newCapacity_0f7a4.cls ≠ "java/lang/invoke/MethodHandle" ∧ yJ5_newCapacity_0f7a4.cls ≠ "java/lang/invoke/VarHandle" ∧ (parseMethodDescriptor yJ5_newCapacity_0f7a4.desc).map (fun d => d.parameters.length) = some 1 := by decide +kernel
abbrev rmJ5_length_8abf5 : Room := { frames := 0, cells := 0, slots := 0, locals := 0 }
theorem iJ5_length_8abf5_J4 : ∀ w ∈ u_ws RJ4 TJ4 4, w ∈ wsJ5_length_8abf5 := by decide +kernel
theorem h0J5_length_8abf5 : yJ5_length_8abf5.cls = RJ5 ∧ yJ5_length_8abf5.cls ≠ "java/lang/invoke/MethodHandle" ∧ yJ5_length_8abf5.cls ≠ "java/lang/invoke/VarHandle" ∧ (parseMethodDescriptor yJ5_length_8abf5.desc).map (fun d => d.parameters.length) = some 0 := by decide +kernel
abbrev rmJ0_coder_7d493 : Room := { frames := 0, cells := 0, slots := 0, locals := 0 }
theorem h0J0_coder_7d493 : yJ0_coder_7d493.cls = RJ0 ∧ yJ0_coder_7d493.cls ≠ "java/lang/invoke/MethodHandle" ∧ yJ0_coder_7d493.cls ≠ "java/lang/invoke/VarHandle" ∧ (parseMethodDescriptor yJ0_coder_7d493.desc).map (fun d => d.parameters.length) = some 0 := by decide +kernel
abbrev rmJ5_inflateIfNeededFor_a7421 : Room := { frames := 1, cells := 0, slots := 0, locals := 20 }
theorem iJ5_inflateIfNeededFor_a7421_J4 : ∀ w ∈ u_ws RJ4 TJ4 4, w ∈ wsJ5_inflateIfNeededFor_a7421 := by decide +kernel
theorem h0J5_inflateIfNeededFor_a7421 : yJ5_inflateIfNeededFor_a7421.cls = RJ5 ∧ yJ5_inflateIfNeededFor_a7421.cls ≠ "java/lang/invoke/MethodHandle" ∧ yJ5_inflateIfNeededFor_a7421.cls ≠ "java/lang/invoke/VarHandle" ∧ (parseMethodDescriptor yJ5_inflateIfNeededFor_a7421.desc).map (fun d => d.parameters.length) = some 1 := by decide +kernel
abbrev rmJ0_getBytes_840e7 : Room := { frames := 1, cells := 0, slots := 0, locals := 30 }
theorem h0J0_getBytes_840e7 : yJ0_getBytes_840e7.cls = RJ0 ∧ yJ0_getBytes_840e7.cls ≠ "java/lang/invoke/MethodHandle" ∧ yJ0_getBytes_840e7.cls ≠ "java/lang/invoke/VarHandle" ∧ (parseMethodDescriptor yJ0_getBytes_840e7.desc).map (fun d => d.parameters.length) = some 3 := by decide +kernel
abbrev rmJ5_putStringAt_47b60 : Room := { frames := 2, cells := 0, slots := 0, locals := 53 }
theorem iJ5_putStringAt_47b60_J4 : ∀ w ∈ u_ws RJ4 TJ4 4, w ∈ wsJ5_putStringAt_47b60 := by decide +kernel
theorem h0J5_putStringAt_47b60 : yJ5_putStringAt_47b60.cls = RJ5 ∧ yJ5_putStringAt_47b60.cls ≠ "java/lang/invoke/MethodHandle" ∧ yJ5_putStringAt_47b60.cls ≠ "java/lang/invoke/VarHandle" ∧ (parseMethodDescriptor yJ5_putStringAt_47b60.desc).map (fun d => d.parameters.length) = some 2 := by decide +kernel
abbrev rmJ7_checkLength_df160 : Room := { frames := 0, cells := 0, slots := 0, locals := 0 }
theorem h0J7_checkLength_df160 : yJ7_checkLength_df160.cls ≠ "java/lang/invoke/MethodHandle" ∧ yJ7_checkLength_df160.cls ≠ "java/lang/invoke/VarHandle" ∧ (parseMethodDescriptor yJ7_checkLength_df160.desc).map (fun d => d.parameters.length) = some 2 := by decide +kernel
abbrev rmJ0_coder_7d493W : Room := { frames := 0, cells := 0, slots := 0, locals := 0 }
theorem iJ0_coder_7d493W_J0 : ∀ w ∈ u_ws RJ0 TJ0 4, w ∈ wsJ0_coder_7d493 := by decide +kernel
theorem h0J0_coder_7d493W : yJ0_coder_7d493.cls = RJ0 ∧ yJ0_coder_7d493.cls ≠ "java/lang/invoke/MethodHandle" ∧ yJ0_coder_7d493.cls ≠ "java/lang/invoke/VarHandle" ∧ (parseMethodDescriptor yJ0_coder_7d493.desc).map (fun d => d.parameters.length) = some 0 := by decide +kernel
abbrev rmJ0_length_8abf5W : Room := { frames := 1, cells := 0, slots := 0, locals := 20 }
theorem iJ0_length_8abf5W_J0 : ∀ w ∈ u_ws RJ0 TJ0 4, w ∈ wsJ0_length_8abf5 := by decide +kernel
theorem h0J0_length_8abf5W : yJ0_length_8abf5.cls = RJ0 ∧ yJ0_length_8abf5.cls ≠ "java/lang/invoke/MethodHandle" ∧ yJ0_length_8abf5.cls ≠ "java/lang/invoke/VarHandle" ∧ (parseMethodDescriptor yJ0_length_8abf5.desc).map (fun d => d.parameters.length) = some 0 := by decide +kernel
abbrev rmJ0_isLatin1_aae02W : Room := { frames := 0, cells := 0, slots := 0, locals := 0 }
theorem iJ0_isLatin1_aae02W_J0 : ∀ w ∈ u_ws RJ0 TJ0 4, w ∈ wsJ0_isLatin1_aae02 := by decide +kernel
theorem h0J0_isLatin1_aae02W : yJ0_isLatin1_aae02.cls = RJ0 ∧ yJ0_isLatin1_aae02.cls ≠ "java/lang/invoke/MethodHandle" ∧ yJ0_isLatin1_aae02.cls ≠ "java/lang/invoke/VarHandle" ∧ (parseMethodDescriptor yJ0_isLatin1_aae02.desc).map (fun d => d.parameters.length) = some 0 := by decide +kernel
abbrev rmJ3_checkIndex_8e157 : Room := { frames := 0, cells := 0, slots := 0, locals := 0 }
theorem h0J3_checkIndex_8e157 : yJ3_checkIndex_8e157.cls ≠ "java/lang/invoke/MethodHandle" ∧ yJ3_checkIndex_8e157.cls ≠ "java/lang/invoke/VarHandle" ∧ (parseMethodDescriptor yJ3_checkIndex_8e157.desc).map (fun d => d.parameters.length) = some 3 := by decide +kernel
abbrev rmJ0_checkIndex_df160 : Room := { frames := 1, cells := 0, slots := 0, locals := 22 }
theorem h0J0_checkIndex_df160 : yJ0_checkIndex_df160.cls ≠ "java/lang/invoke/MethodHandle" ∧ yJ0_checkIndex_df160.cls ≠ "java/lang/invoke/VarHandle" ∧ (parseMethodDescriptor yJ0_checkIndex_df160.desc).map (fun d => d.parameters.length) = some 2 := by decide +kernel
abbrev rmJ1_charAt_3b067W : Room := { frames := 2, cells := 0, slots := 0, locals := 43 }
theorem h0J1_charAt_3b067W : yJ1_charAt_3b067.cls ≠ "java/lang/invoke/MethodHandle" ∧ yJ1_charAt_3b067.cls ≠ "java/lang/invoke/VarHandle" ∧ (parseMethodDescriptor yJ1_charAt_3b067.desc).map (fun d => d.parameters.length) = some 2 := by decide +kernel
abbrev rmJ0_charAt_5068eW : Room := { frames := 3, cells := 0, slots := 0, locals := 64 }
theorem iJ0_charAt_5068eW_J0 : ∀ w ∈ u_ws RJ0 TJ0 4, w ∈ wsJ0_charAt_5068e := by decide +kernel
theorem h0J0_charAt_5068eW : yJ0_charAt_5068e.cls = RJ0 ∧ yJ0_charAt_5068e.cls ≠ "java/lang/invoke/MethodHandle" ∧ yJ0_charAt_5068e.cls ≠ "java/lang/invoke/VarHandle" ∧ (parseMethodDescriptor yJ0_charAt_5068e.desc).map (fun d => d.parameters.length) = some 1 := by decide +kernel
abbrev rmJ0_length_8abf5 : Room := { frames := 1, cells := 0, slots := 0, locals := 20 }
theorem h0J0_length_8abf5 : yJ0_length_8abf5.cls = RJ0 ∧ yJ0_length_8abf5.cls ≠ "java/lang/invoke/MethodHandle" ∧ yJ0_length_8abf5.cls ≠ "java/lang/invoke/VarHandle" ∧ (parseMethodDescriptor yJ0_length_8abf5.desc).map (fun d => d.parameters.length) = some 0 := by decide +kernel
abbrev rmJ0_isLatin1_aae02 : Room := { frames := 0, cells := 0, slots := 0, locals := 0 }
theorem h0J0_isLatin1_aae02 : yJ0_isLatin1_aae02.cls = RJ0 ∧ yJ0_isLatin1_aae02.cls ≠ "java/lang/invoke/MethodHandle" ∧ yJ0_isLatin1_aae02.cls ≠ "java/lang/invoke/VarHandle" ∧ (parseMethodDescriptor yJ0_isLatin1_aae02.desc).map (fun d => d.parameters.length) = some 0 := by decide +kernel
abbrev rmJ1_charAt_3b067 : Room := { frames := 2, cells := 0, slots := 0, locals := 43 }
theorem h0J1_charAt_3b067 : yJ1_charAt_3b067.cls ≠ "java/lang/invoke/MethodHandle" ∧ yJ1_charAt_3b067.cls ≠ "java/lang/invoke/VarHandle" ∧ (parseMethodDescriptor yJ1_charAt_3b067.desc).map (fun d => d.parameters.length) = some 2 := by decide +kernel
abbrev rmJ0_charAt_5068e : Room := { frames := 3, cells := 0, slots := 0, locals := 64 }
theorem h0J0_charAt_5068e : yJ0_charAt_5068e.cls = RJ0 ∧ yJ0_charAt_5068e.cls ≠ "java/lang/invoke/MethodHandle" ∧ yJ0_charAt_5068e.cls ≠ "java/lang/invoke/VarHandle" ∧ (parseMethodDescriptor yJ0_charAt_5068e.desc).map (fun d => d.parameters.length) = some 1 := by decide +kernel
abbrev rmX4_spell : Room := { frames := 4, cells := 0, slots := 0, locals := 85 }
theorem h0X4_spell : yX4_spell.cls ≠ "java/lang/invoke/MethodHandle" ∧ yX4_spell.cls ≠ "java/lang/invoke/VarHandle" ∧ (parseMethodDescriptor yX4_spell.desc).map (fun d => d.parameters.length) = some 2 := by decide +kernel
def fJ6_numberOfLeadingZeros_0f7a4 (x0 : Int32) : Option (Int32) := if 0 < x0 then (Lt (fun (x0_1 : Int32) (x1_1 : Int32) => (Lt (fun (x0_2 : Int32) (x1_2 : Int32) => (Lt (fun (x0_3 : Int32) (x1_3 : Int32) => (Lt (fun (x0_4 : Int32) (x1_4 : Int32) => (some (x1_4 - (gush x0_4 1)))) fun (j_4 : Int32 → Int32 → Option (Int32)) => if x0_3 < 4 then (j_4 x0_3 x1_3) else (j_4 (gush x0_3 2) (x1_3 + (-2))))) fun (j_3 : Int32 → Int32 → Option (Int32)) => if x0_2 < 16 then (j_3 x0_2 x1_2) else (j_3 (gush x0_2 4) (x1_2 + (-4))))) fun (j_2 : Int32 → Int32 → Option (Int32)) => if x0_1 < 256 then (j_2 x0_1 x1_1) else (j_2 (gush x0_1 8) (x1_1 + (-8))))) fun (j_1 : Int32 → Int32 → Option (Int32)) => if x0 < 65536 then (j_1 x0 31) else (j_1 (gush x0 16) (31 + (-16)))) else (if x0 = 0 then (some 32) else (some 0))
def fJ6_bitCount_0f7a4 (x0 : Int32) : Option (Int32) := some ((((((((x0 - ((gush x0 1) &&& 1431655765)) &&& 858993459) + ((gush (x0 - ((gush x0 1) &&& 1431655765)) 2) &&& 858993459)) + (gush (((x0 - ((gush x0 1) &&& 1431655765)) &&& 858993459) + ((gush (x0 - ((gush x0 1) &&& 1431655765)) 2) &&& 858993459)) 4)) &&& 252645135) + (gush (((((x0 - ((gush x0 1) &&& 1431655765)) &&& 858993459) + ((gush (x0 - ((gush x0 1) &&& 1431655765)) 2) &&& 858993459)) + (gush (((x0 - ((gush x0 1) &&& 1431655765)) &&& 858993459) + ((gush (x0 - ((gush x0 1) &&& 1431655765)) 2) &&& 858993459)) 4)) &&& 252645135) 8)) + (gush ((((((x0 - ((gush x0 1) &&& 1431655765)) &&& 858993459) + ((gush (x0 - ((gush x0 1) &&& 1431655765)) 2) &&& 858993459)) + (gush (((x0 - ((gush x0 1) &&& 1431655765)) &&& 858993459) + ((gush (x0 - ((gush x0 1) &&& 1431655765)) 2) &&& 858993459)) 4)) &&& 252645135) + (gush (((((x0 - ((gush x0 1) &&& 1431655765)) &&& 858993459) + ((gush (x0 - ((gush x0 1) &&& 1431655765)) 2) &&& 858993459)) + (gush (((x0 - ((gush x0 1) &&& 1431655765)) &&& 858993459) + ((gush (x0 - ((gush x0 1) &&& 1431655765)) 2) &&& 858993459)) 4)) &&& 252645135) 8)) 16)) &&& 63)
def fJ6_lowestOneBit_0f7a4 (x0 : Int32) : Option (Int32) := some (x0 &&& (-x0))
def fJ6_stringSize_0f7a4_L16 (x0 : Int32) (x1 : Int32) (k : Option (Int32)) : Nat → Int32 → Int32 → Option (Int32)
  | 0, _, _ => none
  | n + 1, x2, x3 => if 10 ≤ x3 then (k) else (if x0 ≤ x2 then (fJ6_stringSize_0f7a4_L16 x0 x1 k n (10 * x2) (x3 + 1)) else (some (x3 + x1)))
def fJ6_stringSize_0f7a4 (x0 : Int32) : Option (Int32) := Lt (fun (x0_1 : Int32) (x1_1 : Int32) => (fJ6_stringSize_0f7a4_L16 x0_1 x1_1 (some (10 + x1_1)) FU (-10) 1)) fun (j_1 : Int32 → Int32 → Option (Int32)) => if x0 < 0 then (j_1 x0 1) else (j_1 (-x0) 0)
def fJ6_getChars_ba4f3_L22 (n_p2 : Nat) (x6 : Int32) (k : Int32 → Int32 → (Nat → Int32) → Option (Int32 × (Nat → Int32))) : Nat → Int32 → Int32 → (Nat → Int32) → Option (Int32 × (Nat → Int32))
  | 0, _, _, _ => none
  | n + 1, x0, x5, p2 => if (-100) < x0 then (k x0 x5 p2) else (if (((x0 / 100) * 100) - x0) < 0 ∨ 100 ≤ (((x0 / 100) * 100) - x0).toNatClampNeg then none else if (x5 + (-1)) < 0 ∨ n_p2 ≤ (x5 + (-1)).toNatClampNeg then none else Lt (upd p2 ((x5 + (-1)).toNatClampNeg) (vp_nar .byte (gDO (((x0 / 100) * 100) - x0).toNatClampNeg))) fun (p2_1 : (Nat → Int32)) => if (((x0 / 100) * 100) - x0) < 0 ∨ 100 ≤ (((x0 / 100) * 100) - x0).toNatClampNeg then none else if ((x5 + (-1)) + (-1)) < 0 ∨ n_p2 ≤ ((x5 + (-1)) + (-1)).toNatClampNeg then none else Lt (upd p2_1 (((x5 + (-1)) + (-1)).toNatClampNeg) (vp_nar .byte (gDT (((x0 / 100) * 100) - x0).toNatClampNeg))) fun (p2_2 : (Nat → Int32)) => fJ6_getChars_ba4f3_L22 n_p2 x6 k n (x0 / 100) ((x5 + (-1)) + (-1)) p2_2)
def fJ6_getChars_ba4f3 (n_p2 : Nat) (x0 : Int32) (x1 : Int32) (p2 : (Nat → Int32)) : Option (Int32 × (Nat → Int32)) := Lt (fun (t0_1 : Int32) => (if t0_1 = 0 then (fJ6_getChars_ba4f3_L22 n_p2 t0_1 (fun (x0_1 : Int32) (x5_1 : Int32) (p2_1 : (Nat → Int32)) => (if (-x0_1) < 0 ∨ 100 ≤ (-x0_1).toNatClampNeg then none else if (x5_1 + (-1)) < 0 ∨ n_p2 ≤ (x5_1 + (-1)).toNatClampNeg then none else Lt (upd p2_1 ((x5_1 + (-1)).toNatClampNeg) (vp_nar .byte (gDO (-x0_1).toNatClampNeg))) fun (p2_2 : (Nat → Int32)) => Lt (fun (x5_2 : Int32) (p2_3 : (Nat → Int32)) => (if t0_1 = 0 then (some (x5_2, p2_3)) else (if (x5_2 + (-1)) < 0 ∨ n_p2 ≤ (x5_2 + (-1)).toNatClampNeg then none else Lt (upd p2_3 ((x5_2 + (-1)).toNatClampNeg) (vp_nar .byte 45)) fun (p2_4 : (Nat → Int32)) => some (x5_2 + (-1), p2_4)))) fun (j_2 : Int32 → (Nat → Int32) → Option (Int32 × (Nat → Int32))) => if (-9) ≤ x0_1 then (j_2 (x5_1 + (-1)) p2_2) else (if (-x0_1) < 0 ∨ 100 ≤ (-x0_1).toNatClampNeg then none else if ((x5_1 + (-1)) + (-1)) < 0 ∨ n_p2 ≤ ((x5_1 + (-1)) + (-1)).toNatClampNeg then none else Lt (upd p2_2 (((x5_1 + (-1)) + (-1)).toNatClampNeg) (vp_nar .byte (gDT (-x0_1).toNatClampNeg))) fun (p2_5 : (Nat → Int32)) => j_2 ((x5_1 + (-1)) + (-1)) p2_5))) FU (-x0) x1 p2) else (fJ6_getChars_ba4f3_L22 n_p2 t0_1 (fun (x0_2 : Int32) (x5_3 : Int32) (p2_6 : (Nat → Int32)) => (if (-x0_2) < 0 ∨ 100 ≤ (-x0_2).toNatClampNeg then none else if (x5_3 + (-1)) < 0 ∨ n_p2 ≤ (x5_3 + (-1)).toNatClampNeg then none else Lt (upd p2_6 ((x5_3 + (-1)).toNatClampNeg) (vp_nar .byte (gDO (-x0_2).toNatClampNeg))) fun (p2_7 : (Nat → Int32)) => Lt (fun (x5_4 : Int32) (p2_8 : (Nat → Int32)) => (if t0_1 = 0 then (some (x5_4, p2_8)) else (if (x5_4 + (-1)) < 0 ∨ n_p2 ≤ (x5_4 + (-1)).toNatClampNeg then none else Lt (upd p2_8 ((x5_4 + (-1)).toNatClampNeg) (vp_nar .byte 45)) fun (p2_9 : (Nat → Int32)) => some (x5_4 + (-1), p2_9)))) fun (j_3 : Int32 → (Nat → Int32) → Option (Int32 × (Nat → Int32))) => if (-9) ≤ x0_2 then (j_3 (x5_3 + (-1)) p2_7) else (if (-x0_2) < 0 ∨ 100 ≤ (-x0_2).toNatClampNeg then none else if ((x5_3 + (-1)) + (-1)) < 0 ∨ n_p2 ≤ ((x5_3 + (-1)) + (-1)).toNatClampNeg then none else Lt (upd p2_7 (((x5_3 + (-1)) + (-1)).toNatClampNeg) (vp_nar .byte (gDT (-x0_2).toNatClampNeg))) fun (p2_10 : (Nat → Int32)) => j_3 ((x5_3 + (-1)) + (-1)) p2_10))) FU x0 x1 p2))) fun (j_1 : Int32 → Option (Int32 × (Nat → Int32))) => if 0 ≤ x0 then (j_1 0) else (j_1 1)
def fJ1_canEncode_fc78d (x0 : Int32) : Option (Int32) := if 255 < x0 then (some 0) else (some 1)
def fJ5_isLatin1_aae02 : Option (Int32) := if (1 : Int32) = 0 then (some 0) else (if (0 : Int32) = 0 then (some 1) else (some 0))
def fJ8_hugeLength_7cf53 (x0 : Int32) (x1 : Int32) : Option (Int32) := if 0 ≤ (x0 + x1) then (if 2147483639 < (x0 + x1) then (some (x0 + x1)) else (some 2147483639)) else (none)
def fJ8_newLength_cabcc (x0 : Int32) (x1 : Int32) (x2 : Int32) : Option (Int32) := Lt (if x1 < x2 then x2 else x1) fun (z_1 : Int32) => Lt ((gb1 (fJ8_hugeLength_7cf53 x0 x1) fun (r_1 : Int32) => some r_1) : Option (Int32)) fun (j_1 : Option (Int32)) => if (x0 + z_1) ≤ (0 : Int32) then (j_1) else (if 2147483639 < (x0 + z_1) then (j_1) else (some (x0 + z_1)))
def fJ5_newCapacity_0f7a4 (n_val : Nat) (x1 : Int32) : Option (Int32) := gb1 (fJ8_newLength_cabcc (Int32.ofNat n_val) ((x1 <<< ((0 : Int32) &&& 31)) - (Int32.ofNat n_val)) ((Int32.ofNat n_val) + ((2 : Int32) <<< ((0 : Int32) &&& 31)))) fun (r_1 : Int32) => if r_1 = 2147483647 then (none) else (some (r_1 >>> ((0 : Int32) &&& 31)))
def fJ5_length_8abf5 (O_count : Int32) : Option (Int32) := some O_count
def fJ0_coder_7d493 (i0 : Nat) : Option (Int32) := if (1 : Int32) = 0 then (some 1) else (some 0)
def fJ5_inflateIfNeededFor_a7421 (i1 : Nat) : Option (Unit) := if (1 : Int32) = 0 then (some ()) else (gb1 (fJ0_coder_7d493 i1) fun (r_1 : Int32) => if (0 : Int32) = r_1 then (some ()) else (none))
def fJ0_getBytes_840e7 (n_p1 : Nat) (i0 : Nat) (x2 : Int32) (x3 : Int32) (p1 : (Nat → Int32)) : Option ((Nat → Int32)) := gb1 (fJ0_coder_7d493 i0) fun (r_1 : Int32) => if r_1 = x3 then (if (0 : Int32) < 0 ∨ (x2 <<< (x3 &&& 31)) < 0 ∨ (Int32.ofNat (gBy i0).length) < 0 ∨ (gBy i0).length < (0 : Int32).toNatClampNeg + (Int32.ofNat (gBy i0).length).toNatClampNeg ∨ n_p1 < (x2 <<< (x3 &&& 31)).toNatClampNeg + (Int32.ofNat (gBy i0).length).toNatClampNeg then none else if ∀ i, i < (Int32.ofNat (gBy i0).length).toNatClampNeg → fits .byte (.int ((gBy i0).getD ((0 : Int32).toNatClampNeg + i) 0)) = true then ( Lt (va_cpy (fun k => (gBy i0).getD k 0) p1 (0 : Int32).toNatClampNeg (x2 <<< (x3 &&& 31)).toNatClampNeg (Int32.ofNat (gBy i0).length).toNatClampNeg) fun (p1_1 : (Nat → Int32)) => some p1_1 ) else none) else (none)
def fJ5_putStringAt_47b60 (n_val : Nat) (i2 : Nat) (x1 : Int32) (value : (Nat → Int32)) : Option ((Nat → Int32)) := gb0 (fJ5_inflateIfNeededFor_a7421 i2) <| gb1 (fJ0_getBytes_840e7 n_val i2 x1 0 value) fun (value_1 : (Nat → Int32)) => some value_1
def fJ7_checkLength_df160 (x0 : Int32) (x1 : Int32) : Option (Unit) := if x0 ≤ x1 then (some ()) else (none)
def fJ0_coder_7d493W : Option (Int32) := if (1 : Int32) = 0 then (some 1) else (some 0)
def fJ0_length_8abf5W (n_val : Nat) : Option (Int32) := gb1 (fJ0_coder_7d493W) fun (r_1 : Int32) => some ((Int32.ofNat n_val) >>> (r_1 &&& 31))
def fJ0_isLatin1_aae02W : Option (Int32) := if (1 : Int32) = 0 then (some 0) else (if (0 : Int32) = 0 then (some 1) else (some 0))
def fJ3_checkIndex_8e157 (x0 : Int32) (x1 : Int32) : Option (Int32) := Lt ((none) : Option (Int32)) fun (j_1 : Option (Int32)) => if x0 < 0 then (j_1) else (if x0 < x1 then (some x0) else (j_1))
def fJ0_checkIndex_df160 (x0 : Int32) (x1 : Int32) : Option (Unit) := gb1 (fJ3_checkIndex_8e157 x0 x1) fun (r_1 : Int32) => some ()
def fJ1_charAt_3b067W (n_p0 : Nat) (x1 : Int32) (p0 : (Nat → Int32)) : Option (Int32) := gb0 (fJ0_checkIndex_df160 x1 (Int32.ofNat n_p0)) <| if x1 < 0 ∨ n_p0 ≤ x1.toNatClampNeg then none else some ((((p0 (x1.toNatClampNeg)) &&& 255).toUInt32 % 65536).toInt32)
def fJ0_charAt_5068eW (n_val : Nat) (x1 : Int32) (value : (Nat → Int32)) : Option (Int32) := gb1 (fJ0_isLatin1_aae02W) fun (r_1 : Int32) => if r_1 = 0 then (none) else (gb1 (fJ1_charAt_3b067W n_val x1 value) fun (r_2 : Int32) => some r_2)
def fJ0_length_8abf5 (i0 : Nat) : Option (Int32) := gb1 (fJ0_coder_7d493 i0) fun (r_1 : Int32) => some ((Int32.ofNat (gBy i0).length) >>> (r_1 &&& 31))
def fJ0_isLatin1_aae02 (i0 : Nat) : Option (Int32) := if (1 : Int32) = 0 then (some 0) else (if (0 : Int32) = 0 then (some 1) else (some 0))
def fJ1_charAt_3b067 (i0 : Nat) (x1 : Int32) : Option (Int32) := gb0 (fJ0_checkIndex_df160 x1 (Int32.ofNat (gBy i0).length)) <| if x1 < 0 ∨ (gBy i0).length ≤ x1.toNatClampNeg then none else some (((((gBy i0).getD x1.toNatClampNeg 0) &&& 255).toUInt32 % 65536).toInt32)
def fJ0_charAt_5068e (i0 : Nat) (x1 : Int32) : Option (Int32) := gb1 (fJ0_isLatin1_aae02 i0) fun (r_1 : Int32) => if r_1 = 0 then (none) else (gb1 (fJ1_charAt_3b067 i0 x1) fun (r_2 : Int32) => some r_2)
def fX4_spell_L2 (i2 : Nat) (x0 : Int64) (k : Option (Int32)) : Nat → Int32 → Option (Int32)
  | 0, _ => none
  | n + 1, x3 => gb1 (fJ0_length_8abf5 i2) fun (r_1 : Int32) => if r_1 ≤ x3 then (k) else (gb1 (fX4_letterAt x0 x3) fun (r_2 : Int32) => gb1 (fJ0_charAt_5068e i2 x3) fun (r_3 : Int32) => if r_2 = (r_3 - 97) then (fX4_spell_L2 i2 x0 k n (x3 + 1)) else (some 0))
def fX4_spell (i2 : Nat) (x0 : Int64) : Option (Int32) := fX4_spell_L2 i2 x0 (gb1 (fX4_lengthOf x0) fun (r_1 : Int32) => gb1 (fJ0_length_8abf5 i2) fun (r_2 : Int32) => if r_1 = r_2 then (some 1) else (some 0)) FU 0
set_option maxHeartbeats 4000000 in
set_option maxRecDepth 100000 in
theorem ctJ6_numberOfLeadingZeros_0f7a4 (l : Launch) (E : gE) (x0 : Int32) (r : Int32) (hf : fJ6_numberOfLeadingZeros_0f7a4 x0 = some r) : gMet l yJ6_numberOfLeadingZeros_0f7a4 wsJ6_numberOfLeadingZeros_0f7a4 rmJ6_numberOfLeadingZeros_0f7a4 vwCl E [.int x0] [] (fun v w => v = some (.int r) ∧ w = []) 0 0 := by
  refine g_entry [some (.int x0), none] (by decide) rfl (Nat.le_of_ble_eq_true rfl) rfl ?_
  intro p e s m below meth c A F hnm
  unfold fJ6_numberOfLeadingZeros_0f7a4 at hf
  refine g_iload_n F dJ6_numberOfLeadingZeros_0f7a4_0 rfl ?_
  refine g_ifgt F 15 dJ6_numberOfLeadingZeros_0f7a4_1 (by decide) (fun hc_6 => ?_) (fun hc_6 => ?_)
  · replace hf := gi_t hc_6 hf
    refine g_bipush F 31 dJ6_numberOfLeadingZeros_0f7a4_15 rfl ?_
    refine g_istore_n (lv' := [some (.int x0), some (.int 31)]) F dJ6_numberOfLeadingZeros_0f7a4_17 (Nat.le_of_ble_eq_true rfl) rfl rfl ?_
    refine g_iload_n F dJ6_numberOfLeadingZeros_0f7a4_18 rfl ?_
    refine g_ldcw F 65536 (by decide +kernel) dJ6_numberOfLeadingZeros_0f7a4_19 ?_
    obtain ⟨j_1, hj_1, hf⟩ := Lt_el hf
    have hj_1 : ∀ (x0_1 : Int32) (x1_1 : Int32), j_1 x0_1 x1_1 = some r → Gj p l e rmJ6_numberOfLeadingZeros_0f7a4 s m ([.int x0] : List Value).toArray below meth c 0 0 (MQ below (gQ vwCl E A (fun v w => v = some (.int r) ∧ w = [])) ([.int x0] : List Value).toArray s 0 0 A) vwCl E A [] [some (.int x0_1), some (.int x1_1)] [] 33 := by
      intro x0_1 x1_1 hf
      rw [hj_1] at hf
      refine g_iload_n F dJ6_numberOfLeadingZeros_0f7a4_33 rfl ?_
      refine g_sipush F 256 dJ6_numberOfLeadingZeros_0f7a4_34 rfl ?_
      obtain ⟨j_2, hj_2, hf⟩ := Lt_el hf
      have hj_2 : ∀ (x0_2 : Int32) (x1_2 : Int32), j_2 x0_2 x1_2 = some r → Gj p l e rmJ6_numberOfLeadingZeros_0f7a4 s m ([.int x0] : List Value).toArray below meth c 0 0 (MQ below (gQ vwCl E A (fun v w => v = some (.int r) ∧ w = [])) ([.int x0] : List Value).toArray s 0 0 A) vwCl E A [] [some (.int x0_2), some (.int x1_2)] [] 48 := by
        intro x0_2 x1_2 hf
        rw [hj_2] at hf
        refine g_iload_n F dJ6_numberOfLeadingZeros_0f7a4_48 rfl ?_
        refine g_bipush F 16 dJ6_numberOfLeadingZeros_0f7a4_49 rfl ?_
        obtain ⟨j_3, hj_3, hf⟩ := Lt_el hf
        have hj_3 : ∀ (x0_3 : Int32) (x1_3 : Int32), j_3 x0_3 x1_3 = some r → Gj p l e rmJ6_numberOfLeadingZeros_0f7a4 s m ([.int x0] : List Value).toArray below meth c 0 0 (MQ below (gQ vwCl E A (fun v w => v = some (.int r) ∧ w = [])) ([.int x0] : List Value).toArray s 0 0 A) vwCl E A [] [some (.int x0_3), some (.int x1_3)] [] 61 := by
          intro x0_3 x1_3 hf
          rw [hj_3] at hf
          refine g_iload_n F dJ6_numberOfLeadingZeros_0f7a4_61 rfl ?_
          refine g_iconst F 4 dJ6_numberOfLeadingZeros_0f7a4_62 rfl ?_
          obtain ⟨j_4, hj_4, hf⟩ := Lt_el hf
          have hj_4 : ∀ (x0_4 : Int32) (x1_4 : Int32), j_4 x0_4 x1_4 = some r → Gj p l e rmJ6_numberOfLeadingZeros_0f7a4 s m ([.int x0] : List Value).toArray below meth c 0 0 (MQ below (gQ vwCl E A (fun v w => v = some (.int r) ∧ w = [])) ([.int x0] : List Value).toArray s 0 0 A) vwCl E A [] [some (.int x0_4), some (.int x1_4)] [] 73 := by
            intro x0_4 x1_4 hf
            rw [hj_4] at hf
            refine g_iload_n F dJ6_numberOfLeadingZeros_0f7a4_73 rfl ?_
            refine g_iload_n F dJ6_numberOfLeadingZeros_0f7a4_74 rfl ?_
            refine g_iconst F 1 dJ6_numberOfLeadingZeros_0f7a4_75 rfl ?_
            refine g_iushr F dJ6_numberOfLeadingZeros_0f7a4_76 ?_
            refine g_isub F dJ6_numberOfLeadingZeros_0f7a4_77 ?_
            cases hf
            exact g_iret F rfl ⟨rfl, rfl⟩ dJ6_numberOfLeadingZeros_0f7a4_78
          refine g_icmp_lt F 73 dJ6_numberOfLeadingZeros_0f7a4_63 (by decide) (fun hc_1 => ?_) (fun hc_1 => ?_)
          · replace hf := gi_t hc_1 hf
            exact hj_4 x0_3 x1_3 hf
          · replace hf := gi_f hc_1 hf
            refine g_iinc (lv' := [some (.int x0_3), some (.int (x1_3 + (-2)))]) F (x1_3 + (-2)) dJ6_numberOfLeadingZeros_0f7a4_66 rfl rfl rfl rfl ?_
            refine g_iload_n F dJ6_numberOfLeadingZeros_0f7a4_69 rfl ?_
            refine g_iconst F 2 dJ6_numberOfLeadingZeros_0f7a4_70 rfl ?_
            refine g_iushr F dJ6_numberOfLeadingZeros_0f7a4_71 ?_
            refine g_istore_n (lv' := [some (.int (gush x0_3 2)), some (.int (x1_3 + (-2)))]) F dJ6_numberOfLeadingZeros_0f7a4_72 (Nat.le_of_ble_eq_true rfl) rfl rfl ?_
            exact hj_4 (gush x0_3 2) (x1_3 + (-2)) hf
        refine g_icmp_lt F 61 dJ6_numberOfLeadingZeros_0f7a4_51 (by decide) (fun hc_2 => ?_) (fun hc_2 => ?_)
        · replace hf := gi_t hc_2 hf
          exact hj_3 x0_2 x1_2 hf
        · replace hf := gi_f hc_2 hf
          refine g_iinc (lv' := [some (.int x0_2), some (.int (x1_2 + (-4)))]) F (x1_2 + (-4)) dJ6_numberOfLeadingZeros_0f7a4_54 rfl rfl rfl rfl ?_
          refine g_iload_n F dJ6_numberOfLeadingZeros_0f7a4_57 rfl ?_
          refine g_iconst F 4 dJ6_numberOfLeadingZeros_0f7a4_58 rfl ?_
          refine g_iushr F dJ6_numberOfLeadingZeros_0f7a4_59 ?_
          refine g_istore_n (lv' := [some (.int (gush x0_2 4)), some (.int (x1_2 + (-4)))]) F dJ6_numberOfLeadingZeros_0f7a4_60 (Nat.le_of_ble_eq_true rfl) rfl rfl ?_
          exact hj_3 (gush x0_2 4) (x1_2 + (-4)) hf
      refine g_icmp_lt F 48 dJ6_numberOfLeadingZeros_0f7a4_37 (by decide) (fun hc_3 => ?_) (fun hc_3 => ?_)
      · replace hf := gi_t hc_3 hf
        exact hj_2 x0_1 x1_1 hf
      · replace hf := gi_f hc_3 hf
        refine g_iinc (lv' := [some (.int x0_1), some (.int (x1_1 + (-8)))]) F (x1_1 + (-8)) dJ6_numberOfLeadingZeros_0f7a4_40 rfl rfl rfl rfl ?_
        refine g_iload_n F dJ6_numberOfLeadingZeros_0f7a4_43 rfl ?_
        refine g_bipush F 8 dJ6_numberOfLeadingZeros_0f7a4_44 rfl ?_
        refine g_iushr F dJ6_numberOfLeadingZeros_0f7a4_46 ?_
        refine g_istore_n (lv' := [some (.int (gush x0_1 8)), some (.int (x1_1 + (-8)))]) F dJ6_numberOfLeadingZeros_0f7a4_47 (Nat.le_of_ble_eq_true rfl) rfl rfl ?_
        exact hj_2 (gush x0_1 8) (x1_1 + (-8)) hf
    refine g_icmp_lt F 33 dJ6_numberOfLeadingZeros_0f7a4_22 (by decide) (fun hc_4 => ?_) (fun hc_4 => ?_)
    · replace hf := gi_t hc_4 hf
      exact hj_1 x0 31 hf
    · replace hf := gi_f hc_4 hf
      refine g_iinc (lv' := [some (.int x0), some (.int (31 + (-16)))]) F (31 + (-16)) dJ6_numberOfLeadingZeros_0f7a4_25 rfl rfl rfl rfl ?_
      refine g_iload_n F dJ6_numberOfLeadingZeros_0f7a4_28 rfl ?_
      refine g_bipush F 16 dJ6_numberOfLeadingZeros_0f7a4_29 rfl ?_
      refine g_iushr F dJ6_numberOfLeadingZeros_0f7a4_31 ?_
      refine g_istore_n (lv' := [some (.int (gush x0 16)), some (.int (31 + (-16)))]) F dJ6_numberOfLeadingZeros_0f7a4_32 (Nat.le_of_ble_eq_true rfl) rfl rfl ?_
      exact hj_1 (gush x0 16) (31 + (-16)) hf
  · replace hf := gi_f hc_6 hf
    refine g_iload_n F dJ6_numberOfLeadingZeros_0f7a4_4 rfl ?_
    refine g_ifne F 13 dJ6_numberOfLeadingZeros_0f7a4_5 (by decide) (fun hc_5 => ?_) (fun hc_5 => ?_)
    · replace hf := gi_f hc_5 hf
      refine g_iconst F 0 dJ6_numberOfLeadingZeros_0f7a4_13 rfl ?_
      cases hf
      exact g_iret F rfl ⟨rfl, rfl⟩ dJ6_numberOfLeadingZeros_0f7a4_14
    · replace hf := gi_t hc_5 hf
      refine g_bipush F 32 dJ6_numberOfLeadingZeros_0f7a4_8 rfl ?_
      refine g_goto F 14 dJ6_numberOfLeadingZeros_0f7a4_10 (by decide) ?_
      cases hf
      exact g_iret F rfl ⟨rfl, rfl⟩ dJ6_numberOfLeadingZeros_0f7a4_14
set_option maxHeartbeats 4000000 in
set_option maxRecDepth 100000 in
theorem ctJ6_bitCount_0f7a4 (l : Launch) (E : gE) (x0 : Int32) (r : Int32) (hf : fJ6_bitCount_0f7a4 x0 = some r) : gMet l yJ6_bitCount_0f7a4 wsJ6_bitCount_0f7a4 rmJ6_bitCount_0f7a4 vwCl E [.int x0] [] (fun v w => v = some (.int r) ∧ w = []) 0 0 := by
  refine g_entry [some (.int x0)] (by decide) rfl (Nat.le_of_ble_eq_true rfl) rfl ?_
  intro p e s m below meth c A F hnm
  unfold fJ6_bitCount_0f7a4 at hf
  refine g_iload_n F dJ6_bitCount_0f7a4_0 rfl ?_
  refine g_iload_n F dJ6_bitCount_0f7a4_1 rfl ?_
  refine g_iconst F 1 dJ6_bitCount_0f7a4_2 rfl ?_
  refine g_iushr F dJ6_bitCount_0f7a4_3 ?_
  refine g_ldcw F 1431655765 (by decide +kernel) dJ6_bitCount_0f7a4_4 ?_
  refine g_iand F dJ6_bitCount_0f7a4_7 ?_
  refine g_isub F dJ6_bitCount_0f7a4_8 ?_
  refine g_istore_n (lv' := [some (.int (x0 - ((gush x0 1) &&& 1431655765)))]) F dJ6_bitCount_0f7a4_9 (Nat.le_of_ble_eq_true rfl) rfl rfl ?_
  refine g_iload_n F dJ6_bitCount_0f7a4_10 rfl ?_
  refine g_ldcw F 858993459 (by decide +kernel) dJ6_bitCount_0f7a4_11 ?_
  refine g_iand F dJ6_bitCount_0f7a4_14 ?_
  refine g_iload_n F dJ6_bitCount_0f7a4_15 rfl ?_
  refine g_iconst F 2 dJ6_bitCount_0f7a4_16 rfl ?_
  refine g_iushr F dJ6_bitCount_0f7a4_17 ?_
  refine g_ldcw F 858993459 (by decide +kernel) dJ6_bitCount_0f7a4_18 ?_
  refine g_iand F dJ6_bitCount_0f7a4_21 ?_
  refine g_iadd F dJ6_bitCount_0f7a4_22 ?_
  refine g_istore_n (lv' := [some (.int (((x0 - ((gush x0 1) &&& 1431655765)) &&& 858993459) + ((gush (x0 - ((gush x0 1) &&& 1431655765)) 2) &&& 858993459)))]) F dJ6_bitCount_0f7a4_23 (Nat.le_of_ble_eq_true rfl) rfl rfl ?_
  refine g_iload_n F dJ6_bitCount_0f7a4_24 rfl ?_
  refine g_iload_n F dJ6_bitCount_0f7a4_25 rfl ?_
  refine g_iconst F 4 dJ6_bitCount_0f7a4_26 rfl ?_
  refine g_iushr F dJ6_bitCount_0f7a4_27 ?_
  refine g_iadd F dJ6_bitCount_0f7a4_28 ?_
  refine g_ldcw F 252645135 (by decide +kernel) dJ6_bitCount_0f7a4_29 ?_
  refine g_iand F dJ6_bitCount_0f7a4_32 ?_
  refine g_istore_n (lv' := [some (.int (((((x0 - ((gush x0 1) &&& 1431655765)) &&& 858993459) + ((gush (x0 - ((gush x0 1) &&& 1431655765)) 2) &&& 858993459)) + (gush (((x0 - ((gush x0 1) &&& 1431655765)) &&& 858993459) + ((gush (x0 - ((gush x0 1) &&& 1431655765)) 2) &&& 858993459)) 4)) &&& 252645135))]) F dJ6_bitCount_0f7a4_33 (Nat.le_of_ble_eq_true rfl) rfl rfl ?_
  refine g_iload_n F dJ6_bitCount_0f7a4_34 rfl ?_
  refine g_iload_n F dJ6_bitCount_0f7a4_35 rfl ?_
  refine g_bipush F 8 dJ6_bitCount_0f7a4_36 rfl ?_
  refine g_iushr F dJ6_bitCount_0f7a4_38 ?_
  refine g_iadd F dJ6_bitCount_0f7a4_39 ?_
  refine g_istore_n (lv' := [some (.int ((((((x0 - ((gush x0 1) &&& 1431655765)) &&& 858993459) + ((gush (x0 - ((gush x0 1) &&& 1431655765)) 2) &&& 858993459)) + (gush (((x0 - ((gush x0 1) &&& 1431655765)) &&& 858993459) + ((gush (x0 - ((gush x0 1) &&& 1431655765)) 2) &&& 858993459)) 4)) &&& 252645135) + (gush (((((x0 - ((gush x0 1) &&& 1431655765)) &&& 858993459) + ((gush (x0 - ((gush x0 1) &&& 1431655765)) 2) &&& 858993459)) + (gush (((x0 - ((gush x0 1) &&& 1431655765)) &&& 858993459) + ((gush (x0 - ((gush x0 1) &&& 1431655765)) 2) &&& 858993459)) 4)) &&& 252645135) 8)))]) F dJ6_bitCount_0f7a4_40 (Nat.le_of_ble_eq_true rfl) rfl rfl ?_
  refine g_iload_n F dJ6_bitCount_0f7a4_41 rfl ?_
  refine g_iload_n F dJ6_bitCount_0f7a4_42 rfl ?_
  refine g_bipush F 16 dJ6_bitCount_0f7a4_43 rfl ?_
  refine g_iushr F dJ6_bitCount_0f7a4_45 ?_
  refine g_iadd F dJ6_bitCount_0f7a4_46 ?_
  refine g_istore_n (lv' := [some (.int (((((((x0 - ((gush x0 1) &&& 1431655765)) &&& 858993459) + ((gush (x0 - ((gush x0 1) &&& 1431655765)) 2) &&& 858993459)) + (gush (((x0 - ((gush x0 1) &&& 1431655765)) &&& 858993459) + ((gush (x0 - ((gush x0 1) &&& 1431655765)) 2) &&& 858993459)) 4)) &&& 252645135) + (gush (((((x0 - ((gush x0 1) &&& 1431655765)) &&& 858993459) + ((gush (x0 - ((gush x0 1) &&& 1431655765)) 2) &&& 858993459)) + (gush (((x0 - ((gush x0 1) &&& 1431655765)) &&& 858993459) + ((gush (x0 - ((gush x0 1) &&& 1431655765)) 2) &&& 858993459)) 4)) &&& 252645135) 8)) + (gush ((((((x0 - ((gush x0 1) &&& 1431655765)) &&& 858993459) + ((gush (x0 - ((gush x0 1) &&& 1431655765)) 2) &&& 858993459)) + (gush (((x0 - ((gush x0 1) &&& 1431655765)) &&& 858993459) + ((gush (x0 - ((gush x0 1) &&& 1431655765)) 2) &&& 858993459)) 4)) &&& 252645135) + (gush (((((x0 - ((gush x0 1) &&& 1431655765)) &&& 858993459) + ((gush (x0 - ((gush x0 1) &&& 1431655765)) 2) &&& 858993459)) + (gush (((x0 - ((gush x0 1) &&& 1431655765)) &&& 858993459) + ((gush (x0 - ((gush x0 1) &&& 1431655765)) 2) &&& 858993459)) 4)) &&& 252645135) 8)) 16)))]) F dJ6_bitCount_0f7a4_47 (Nat.le_of_ble_eq_true rfl) rfl rfl ?_
  refine g_iload_n F dJ6_bitCount_0f7a4_48 rfl ?_
  refine g_bipush F 63 dJ6_bitCount_0f7a4_49 rfl ?_
  refine g_iand F dJ6_bitCount_0f7a4_51 ?_
  cases hf
  exact g_iret F rfl ⟨rfl, rfl⟩ dJ6_bitCount_0f7a4_52
set_option maxHeartbeats 4000000 in
set_option maxRecDepth 100000 in
theorem ctJ6_lowestOneBit_0f7a4 (l : Launch) (E : gE) (x0 : Int32) (r : Int32) (hf : fJ6_lowestOneBit_0f7a4 x0 = some r) : gMet l yJ6_lowestOneBit_0f7a4 wsJ6_lowestOneBit_0f7a4 rmJ6_lowestOneBit_0f7a4 vwCl E [.int x0] [] (fun v w => v = some (.int r) ∧ w = []) 0 0 := by
  refine g_entry [some (.int x0)] (by decide) rfl (Nat.le_of_ble_eq_true rfl) rfl ?_
  intro p e s m below meth c A F hnm
  unfold fJ6_lowestOneBit_0f7a4 at hf
  refine g_iload_n F dJ6_lowestOneBit_0f7a4_0 rfl ?_
  refine g_iload_n F dJ6_lowestOneBit_0f7a4_1 rfl ?_
  refine g_ineg F dJ6_lowestOneBit_0f7a4_2 ?_
  refine g_iand F dJ6_lowestOneBit_0f7a4_3 ?_
  cases hf
  exact g_iret F rfl ⟨rfl, rfl⟩ dJ6_lowestOneBit_0f7a4_4
set_option maxHeartbeats 4000000 in
set_option maxRecDepth 100000 in
theorem ktJ6_stringSize_0f7a4_L16 {p : Program} {l : Launch} {e : Env} {s : State} {m : MethodId} {args : Array Value} {below : List Frame} {meth : Method} {c : Code} {E : gE} {A : Nat → Prop} (F : gFx p s m args meth c RJ6 wsJ6_stringSize_0f7a4 cJ6_stringSize_0f7a4 4 (some .int) vwCl E A) (x0 : Int32) (x1 : Int32) (r : Int32) {k : Option (Int32)} (hk : k = some r → Gj p l e rmJ6_stringSize_0f7a4 s m args below meth c 0 0 (MQ below (gQ vwCl E A (fun v w => v = some (.int r) ∧ w = [])) args s 0 0 A) vwCl E A [] [none, some (.int x1), none, none] [] 42) : ∀ (n : Nat) (x2 : Int32) (x3 : Int32), fJ6_stringSize_0f7a4_L16 x0 x1 k n x2 x3 = some r → Gj p l e rmJ6_stringSize_0f7a4 s m args below meth c 0 0 (MQ below (gQ vwCl E A (fun v w => v = some (.int r) ∧ w = [])) args s 0 0 A) vwCl E A [] [some (.int x0), some (.int x1), some (.int x2), some (.int x3)] [] 16
  | 0, _, _, hf => by cases hf
  | n + 1, x2, x3, hf => by
    have ih := ktJ6_stringSize_0f7a4_L16 F  x0 x1 r hk n
    rw [fJ6_stringSize_0f7a4_L16] at hf
    refine g_iload_n F dJ6_stringSize_0f7a4_16 rfl ?_
    refine g_bipush F 10 dJ6_stringSize_0f7a4_17 rfl ?_
    refine g_icmp_ge F 42 dJ6_stringSize_0f7a4_19 (by decide) (fun hc_2 => ?_) (fun hc_2 => ?_)
    · replace hf := gi_t hc_2 hf
      refine g_mask [false, true, false, false] rfl ?_
      exact hk hf
    · replace hf := gi_f hc_2 hf
      refine g_iload_n F dJ6_stringSize_0f7a4_22 rfl ?_
      refine g_iload_n F dJ6_stringSize_0f7a4_23 rfl ?_
      refine g_icmp_le F 31 dJ6_stringSize_0f7a4_24 (by decide) (fun hc_1 => ?_) (fun hc_1 => ?_)
      · replace hf := gi_t hc_1 hf
        refine g_bipush F 10 dJ6_stringSize_0f7a4_31 rfl ?_
        refine g_iload_n F dJ6_stringSize_0f7a4_33 rfl ?_
        refine g_imul F dJ6_stringSize_0f7a4_34 ?_
        refine g_istore_n (lv' := [some (.int x0), some (.int x1), some (.int (10 * x2)), some (.int x3)]) F dJ6_stringSize_0f7a4_35 (Nat.le_of_ble_eq_true rfl) rfl rfl ?_
        refine g_iinc (lv' := [some (.int x0), some (.int x1), some (.int (10 * x2)), some (.int (x3 + 1))]) F (x3 + 1) dJ6_stringSize_0f7a4_36 rfl rfl rfl rfl ?_
        refine g_goto F 16 dJ6_stringSize_0f7a4_39 (by decide) ?_
        exact ih (10 * x2) (x3 + 1) hf
      · replace hf := gi_f hc_1 hf
        refine g_iload_n F dJ6_stringSize_0f7a4_27 rfl ?_
        refine g_iload_n F dJ6_stringSize_0f7a4_28 rfl ?_
        refine g_iadd F dJ6_stringSize_0f7a4_29 ?_
        cases hf
        exact g_iret F rfl ⟨rfl, rfl⟩ dJ6_stringSize_0f7a4_30
set_option maxHeartbeats 4000000 in
set_option maxRecDepth 100000 in
theorem ctJ6_stringSize_0f7a4 (l : Launch) (E : gE) (x0 : Int32) (r : Int32) (hf : fJ6_stringSize_0f7a4 x0 = some r) : gMet l yJ6_stringSize_0f7a4 wsJ6_stringSize_0f7a4 rmJ6_stringSize_0f7a4 vwCl E [.int x0] [] (fun v w => v = some (.int r) ∧ w = []) 0 0 := by
  refine g_entry [some (.int x0), none, none, none] (by decide) rfl (Nat.le_of_ble_eq_true rfl) rfl ?_
  intro p e s m below meth c A F hnm
  unfold fJ6_stringSize_0f7a4 at hf
  refine g_iconst F 1 dJ6_stringSize_0f7a4_0 rfl ?_
  refine g_istore_n (lv' := [some (.int x0), some (.int 1), none, none]) F dJ6_stringSize_0f7a4_1 (Nat.le_of_ble_eq_true rfl) rfl rfl ?_
  refine g_iload_n F dJ6_stringSize_0f7a4_2 rfl ?_
  obtain ⟨j_1, hj_1, hf⟩ := Lt_el hf
  have hj_1 : ∀ (x0_1 : Int32) (x1_1 : Int32), j_1 x0_1 x1_1 = some r → Gj p l e rmJ6_stringSize_0f7a4 s m ([.int x0] : List Value).toArray below meth c 0 0 (MQ below (gQ vwCl E A (fun v w => v = some (.int r) ∧ w = [])) ([.int x0] : List Value).toArray s 0 0 A) vwCl E A [] [some (.int x0_1), some (.int x1_1), none, none] [] 11 := by
    intro x0_1 x1_1 hf
    rw [hj_1] at hf
    refine g_bipush F (-10) dJ6_stringSize_0f7a4_11 rfl ?_
    refine g_istore_n (lv' := [some (.int x0_1), some (.int x1_1), some (.int (-10)), none]) F dJ6_stringSize_0f7a4_13 (Nat.le_of_ble_eq_true rfl) rfl rfl ?_
    refine g_iconst F 1 dJ6_stringSize_0f7a4_14 rfl ?_
    refine g_istore_n (lv' := [some (.int x0_1), some (.int x1_1), some (.int (-10)), some (.int 1)]) F dJ6_stringSize_0f7a4_15 (Nat.le_of_ble_eq_true rfl) rfl rfl ?_
    refine ktJ6_stringSize_0f7a4_L16 F  x0_1 x1_1 r (fun hf => ?_) FU (-10) 1 hf
    refine g_bipush F 10 dJ6_stringSize_0f7a4_42 rfl ?_
    refine g_iload_n F dJ6_stringSize_0f7a4_44 rfl ?_
    refine g_iadd F dJ6_stringSize_0f7a4_45 ?_
    cases hf
    exact g_iret F rfl ⟨rfl, rfl⟩ dJ6_stringSize_0f7a4_46
  refine g_iflt F 11 dJ6_stringSize_0f7a4_3 (by decide) (fun hc_1 => ?_) (fun hc_1 => ?_)
  · replace hf := gi_t hc_1 hf
    exact hj_1 x0 1 hf
  · replace hf := gi_f hc_1 hf
    refine g_iconst F 0 dJ6_stringSize_0f7a4_6 rfl ?_
    refine g_istore_n (lv' := [some (.int x0), some (.int 0), none, none]) F dJ6_stringSize_0f7a4_7 (Nat.le_of_ble_eq_true rfl) rfl rfl ?_
    refine g_iload_n F dJ6_stringSize_0f7a4_8 rfl ?_
    refine g_ineg F dJ6_stringSize_0f7a4_9 ?_
    refine g_istore_n (lv' := [some (.int (-x0)), some (.int 0), none, none]) F dJ6_stringSize_0f7a4_10 (Nat.le_of_ble_eq_true rfl) rfl rfl ?_
    exact hj_1 (-x0) 0 hf
set_option maxHeartbeats 4000000 in
set_option maxRecDepth 100000 in
theorem ktJ6_getChars_ba4f3_L22 {p : Program} {l : Launch} {e : Env} {s : State} {m : MethodId} {args : Array Value} {below : List Frame} {meth : Method} {c : Code} {E : gE} {A : Nat → Prop} (F : gFx p s m args meth c RJ6 wsJ6_getChars_ba4f3 cJ6_getChars_ba4f3 7 (some .int) vwCl E A) (ap2 : Nat → Nat) (n_p2 : Nat) (x6 : Int32) (r : Int32) (p2' : (Nat → Int32)) {k : Int32 → Int32 → (Nat → Int32) → Option (Int32 × (Nat → Int32))} (hk : ∀ (x0 : Int32) (x5 : Int32) (p2 : (Nat → Int32)), k x0 x5 p2 = some (r, p2') → Gj p l e rmJ6_getChars_ba4f3 s m args below meth c 0 0 (MQ below (gQ vwCl E A (fun v w => v = some (.int r) ∧ w = [sArrB E ap2 n_p2 p2'])) args s 0 0 A) vwCl E A [sArrB E ap2 n_p2 p2] [some (.int x0), none, some (.ref (ap2 0)), none, none, some (.int x5), some (.int x6)] [] 72) : ∀ (n : Nat) (x0 : Int32) (x5 : Int32) (p2 : (Nat → Int32)), fJ6_getChars_ba4f3_L22 n_p2 x6 k n x0 x5 p2 = some (r, p2') → Gj p l e rmJ6_getChars_ba4f3 s m args below meth c 0 0 (MQ below (gQ vwCl E A (fun v w => v = some (.int r) ∧ w = [sArrB E ap2 n_p2 p2'])) args s 0 0 A) vwCl E A [sArrB E ap2 n_p2 p2] [some (.int x0), none, some (.ref (ap2 0)), none, none, some (.int x5), some (.int x6)] [] 22
  | 0, _, _, _, hf => by cases hf
  | n + 1, x0, x5, p2, hf => by
    have ih := ktJ6_getChars_ba4f3_L22 F ap2 n_p2 x6 r p2' hk n
    rw [fJ6_getChars_ba4f3_L22] at hf
    refine g_iload_n F dJ6_getChars_ba4f3_22 rfl ?_
    refine g_bipush F (-100) dJ6_getChars_ba4f3_23 rfl ?_
    refine g_icmp_gt F 72 dJ6_getChars_ba4f3_25 (by decide) (fun hc_1 => ?_) (fun hc_1 => ?_)
    · replace hf := gi_t hc_1 hf
      exact hk x0 x5 p2 hf
    · replace hf := gi_f hc_1 hf
      refine g_iload_n F dJ6_getChars_ba4f3_28 rfl ?_
      refine g_bipush F 100 dJ6_getChars_ba4f3_29 rfl ?_
      refine g_idiv F dJ6_getChars_ba4f3_31 (by decide) ?_
      refine g_istore_n (lv' := [some (.int x0), none, some (.ref (ap2 0)), some (.int (x0 / 100)), none, some (.int x5), some (.int x6)]) F dJ6_getChars_ba4f3_32 (Nat.le_of_ble_eq_true rfl) rfl rfl ?_
      refine g_iload_n F dJ6_getChars_ba4f3_33 rfl ?_
      refine g_bipush F 100 dJ6_getChars_ba4f3_34 rfl ?_
      refine g_imul F dJ6_getChars_ba4f3_36 ?_
      refine g_iload_n F dJ6_getChars_ba4f3_37 rfl ?_
      refine g_isub F dJ6_getChars_ba4f3_38 ?_
      refine g_istore (lv' := [some (.int x0), none, some (.ref (ap2 0)), some (.int (x0 / 100)), some (.int (((x0 / 100) * 100) - x0)), some (.int x5), some (.int x6)]) F dJ6_getChars_ba4f3_39 (Nat.le_of_ble_eq_true rfl) rfl rfl ?_
      refine g_iload_n F dJ6_getChars_ba4f3_41 rfl ?_
      refine g_istore_n (lv' := [some (.int (x0 / 100)), none, some (.ref (ap2 0)), some (.int (x0 / 100)), some (.int (((x0 / 100) * 100) - x0)), some (.int x5), some (.int x6)]) F dJ6_getChars_ba4f3_42 (Nat.le_of_ble_eq_true rfl) rfl rfl ?_
      refine g_aload_n F dJ6_getChars_ba4f3_43 rfl ?_
      refine g_iinc (lv' := [some (.int (x0 / 100)), none, some (.ref (ap2 0)), some (.int (x0 / 100)), some (.int (((x0 / 100) * 100) - x0)), some (.int (x5 + (-1))), some (.int x6)]) F (x5 + (-1)) dJ6_getChars_ba4f3_44 rfl rfl rfl rfl ?_
      refine g_iload F dJ6_getChars_ba4f3_47 rfl ?_
      refine g_getsD F (by decide +kernel) dJ6_getChars_ba4f3_49 ?_
      refine g_iload F dJ6_getChars_ba4f3_52 rfl ?_
      obtain ⟨hb_1, hf⟩ := gb_in hf
      refine g_staD F hb_1 dJ6_getChars_ba4f3_54 ?_
      obtain ⟨hb_2, hf⟩ := gb_in hf
      obtain ⟨p2_1, hp2_1, hf⟩ := Lt_el hf
      refine g_bast (Lw' := [sArrB E ap2 n_p2 p2_1]) F 0 0 ((x5 + (-1)).toNatClampNeg) rfl rfl rfl hb_2 dJ6_getChars_ba4f3_55 (by subst hp2_1; rfl) ?_
      refine g_aload_n F dJ6_getChars_ba4f3_56 rfl ?_
      refine g_iinc (lv' := [some (.int (x0 / 100)), none, some (.ref (ap2 0)), some (.int (x0 / 100)), some (.int (((x0 / 100) * 100) - x0)), some (.int ((x5 + (-1)) + (-1))), some (.int x6)]) F ((x5 + (-1)) + (-1)) dJ6_getChars_ba4f3_57 rfl rfl rfl rfl ?_
      refine g_iload F dJ6_getChars_ba4f3_60 rfl ?_
      refine g_getsE F (by decide +kernel) dJ6_getChars_ba4f3_62 ?_
      refine g_iload F dJ6_getChars_ba4f3_65 rfl ?_
      obtain ⟨hb_3, hf⟩ := gb_in hf
      refine g_staE F hb_3 dJ6_getChars_ba4f3_67 ?_
      obtain ⟨hb_4, hf⟩ := gb_in hf
      obtain ⟨p2_2, hp2_2, hf⟩ := Lt_el hf
      refine g_bast (Lw' := [sArrB E ap2 n_p2 p2_2]) F 0 0 (((x5 + (-1)) + (-1)).toNatClampNeg) rfl rfl rfl hb_4 dJ6_getChars_ba4f3_68 (by subst hp2_2; rfl) ?_
      refine g_goto F 22 dJ6_getChars_ba4f3_69 (by decide) ?_
      refine g_mask [true, true, true, false, false, true, true] rfl ?_
      exact ih (x0 / 100) ((x5 + (-1)) + (-1)) p2_2 hf
set_option maxHeartbeats 4000000 in
set_option maxRecDepth 100000 in
theorem ctJ6_getChars_ba4f3 (l : Launch) (E : gE) (ap2 : Nat → Nat) (n_p2 : Nat) (x0 : Int32) (x1 : Int32) (p2 : (Nat → Int32)) (r : Int32) (p2' : (Nat → Int32)) (hf : fJ6_getChars_ba4f3 n_p2 x0 x1 p2 = some (r, p2')) : gMet l yJ6_getChars_ba4f3 wsJ6_getChars_ba4f3 rmJ6_getChars_ba4f3 vwCl E [.int x0, .int x1, .ref (ap2 0)] [sArrB E ap2 n_p2 p2] (fun v w => v = some (.int r) ∧ w = [sArrB E ap2 n_p2 p2']) 0 0 := by
  refine g_entry [some (.int x0), some (.int x1), some (.ref (ap2 0)), none, none, none, none] (by decide) rfl (Nat.le_of_ble_eq_true rfl) rfl ?_
  intro p e s m below meth c A F hnm
  unfold fJ6_getChars_ba4f3 at hf
  refine g_iload_n F dJ6_getChars_ba4f3_0 rfl ?_
  refine g_istore (lv' := [some (.int x0), some (.int x1), some (.ref (ap2 0)), none, none, some (.int x1), none]) F dJ6_getChars_ba4f3_1 (Nat.le_of_ble_eq_true rfl) rfl rfl ?_
  refine g_iload_n F dJ6_getChars_ba4f3_3 rfl ?_
  obtain ⟨j_1, hj_1, hf⟩ := Lt_el hf
  have hj_1 : ∀ (t0_1 : Int32), j_1 t0_1 = some (r, p2') → Gj p l e rmJ6_getChars_ba4f3 s m ([.int x0, .int x1, .ref (ap2 0)] : List Value).toArray below meth c 0 0 (MQ below (gQ vwCl E A (fun v w => v = some (.int r) ∧ w = [sArrB E ap2 n_p2 p2'])) ([.int x0, .int x1, .ref (ap2 0)] : List Value).toArray s 0 0 A) vwCl E A [sArrB E ap2 n_p2 p2] [some (.int x0), none, some (.ref (ap2 0)), none, none, some (.int x1), none] [.int t0_1] 12 := by
    intro t0_1 hf
    rw [hj_1] at hf
    refine g_istore (lv' := [some (.int x0), none, some (.ref (ap2 0)), none, none, some (.int x1), some (.int t0_1)]) F dJ6_getChars_ba4f3_12 (Nat.le_of_ble_eq_true rfl) rfl rfl ?_
    refine g_iload F dJ6_getChars_ba4f3_14 rfl ?_
    refine g_ifne F 22 dJ6_getChars_ba4f3_16 (by decide) (fun hc_5 => ?_) (fun hc_5 => ?_)
    · replace hf := gi_f hc_5 hf
      refine ktJ6_getChars_ba4f3_L22 F ap2 n_p2 t0_1 r p2' (fun x0_2 x5_3 p2_6 hf => ?_) FU x0 x1 p2 hf
      refine g_aload_n F dJ6_getChars_ba4f3_72 rfl ?_
      refine g_iinc (lv' := [some (.int x0_2), none, some (.ref (ap2 0)), none, none, some (.int (x5_3 + (-1))), some (.int t0_1)]) F (x5_3 + (-1)) dJ6_getChars_ba4f3_73 rfl rfl rfl rfl ?_
      refine g_iload F dJ6_getChars_ba4f3_76 rfl ?_
      refine g_getsD F (by decide +kernel) dJ6_getChars_ba4f3_78 ?_
      refine g_iload_n F dJ6_getChars_ba4f3_81 rfl ?_
      refine g_ineg F dJ6_getChars_ba4f3_82 ?_
      obtain ⟨hb_6, hf⟩ := gb_in hf
      refine g_staD F hb_6 dJ6_getChars_ba4f3_83 ?_
      obtain ⟨hb_7, hf⟩ := gb_in hf
      obtain ⟨p2_7, hp2_7, hf⟩ := Lt_el hf
      refine g_bast (Lw' := [sArrB E ap2 n_p2 p2_7]) F 0 0 ((x5_3 + (-1)).toNatClampNeg) rfl rfl rfl hb_7 dJ6_getChars_ba4f3_84 (by subst hp2_7; rfl) ?_
      refine g_iload_n F dJ6_getChars_ba4f3_85 rfl ?_
      refine g_bipush F (-9) dJ6_getChars_ba4f3_86 rfl ?_
      obtain ⟨j_3, hj_3, hf⟩ := Lt_el hf
      have hj_3 : ∀ (x5_4 : Int32) (p2_8 : (Nat → Int32)), j_3 x5_4 p2_8 = some (r, p2') → Gj p l e rmJ6_getChars_ba4f3 s m ([.int x0, .int x1, .ref (ap2 0)] : List Value).toArray below meth c 0 0 (MQ below (gQ vwCl E A (fun v w => v = some (.int r) ∧ w = [sArrB E ap2 n_p2 p2'])) ([.int x0, .int x1, .ref (ap2 0)] : List Value).toArray s 0 0 A) vwCl E A [sArrB E ap2 n_p2 p2_8] [none, none, some (.ref (ap2 0)), none, none, some (.int x5_4), some (.int t0_1)] [] 104 := by
        intro x5_4 p2_8 hf
        rw [hj_3] at hf
        refine g_iload F dJ6_getChars_ba4f3_104 rfl ?_
        refine g_ifeq F 118 dJ6_getChars_ba4f3_106 (by decide) (fun hc_3 => ?_) (fun hc_3 => ?_)
        · replace hf := gi_t hc_3 hf
          refine g_iload F dJ6_getChars_ba4f3_118 rfl ?_
          obtain ⟨rfl, rfl⟩ := so2 hf
          exact g_iret F rfl ⟨rfl, rfl⟩ dJ6_getChars_ba4f3_120
        · replace hf := gi_f hc_3 hf
          refine g_aload_n F dJ6_getChars_ba4f3_109 rfl ?_
          refine g_iinc (lv' := [none, none, some (.ref (ap2 0)), none, none, some (.int (x5_4 + (-1))), some (.int t0_1)]) F (x5_4 + (-1)) dJ6_getChars_ba4f3_110 rfl rfl rfl rfl ?_
          refine g_iload F dJ6_getChars_ba4f3_113 rfl ?_
          refine g_bipush F 45 dJ6_getChars_ba4f3_115 rfl ?_
          obtain ⟨hb_8, hf⟩ := gb_in hf
          obtain ⟨p2_9, hp2_9, hf⟩ := Lt_el hf
          refine g_bast (Lw' := [sArrB E ap2 n_p2 p2_9]) F 0 0 ((x5_4 + (-1)).toNatClampNeg) rfl rfl rfl hb_8 dJ6_getChars_ba4f3_117 (by subst hp2_9; rfl) ?_
          refine g_iload F dJ6_getChars_ba4f3_118 rfl ?_
          obtain ⟨rfl, rfl⟩ := so2 hf
          exact g_iret F rfl ⟨rfl, rfl⟩ dJ6_getChars_ba4f3_120
      refine g_icmp_ge F 104 dJ6_getChars_ba4f3_88 (by decide) (fun hc_4 => ?_) (fun hc_4 => ?_)
      · replace hf := gi_t hc_4 hf
        refine g_mask [false, true, true, true, true, true, true] rfl ?_
        exact hj_3 (x5_3 + (-1)) p2_7 hf
      · replace hf := gi_f hc_4 hf
        refine g_aload_n F dJ6_getChars_ba4f3_91 rfl ?_
        refine g_iinc (lv' := [some (.int x0_2), none, some (.ref (ap2 0)), none, none, some (.int ((x5_3 + (-1)) + (-1))), some (.int t0_1)]) F ((x5_3 + (-1)) + (-1)) dJ6_getChars_ba4f3_92 rfl rfl rfl rfl ?_
        refine g_iload F dJ6_getChars_ba4f3_95 rfl ?_
        refine g_getsE F (by decide +kernel) dJ6_getChars_ba4f3_97 ?_
        refine g_iload_n F dJ6_getChars_ba4f3_100 rfl ?_
        refine g_ineg F dJ6_getChars_ba4f3_101 ?_
        obtain ⟨hb_9, hf⟩ := gb_in hf
        refine g_staE F hb_9 dJ6_getChars_ba4f3_102 ?_
        obtain ⟨hb_10, hf⟩ := gb_in hf
        obtain ⟨p2_10, hp2_10, hf⟩ := Lt_el hf
        refine g_bast (Lw' := [sArrB E ap2 n_p2 p2_10]) F 0 0 (((x5_3 + (-1)) + (-1)).toNatClampNeg) rfl rfl rfl hb_10 dJ6_getChars_ba4f3_103 (by subst hp2_10; rfl) ?_
        refine g_mask [false, true, true, true, true, true, true] rfl ?_
        exact hj_3 ((x5_3 + (-1)) + (-1)) p2_10 hf
    · replace hf := gi_t hc_5 hf
      refine g_iload_n F dJ6_getChars_ba4f3_19 rfl ?_
      refine g_ineg F dJ6_getChars_ba4f3_20 ?_
      refine g_istore_n (lv' := [some (.int (-x0)), none, some (.ref (ap2 0)), none, none, some (.int x1), some (.int t0_1)]) F dJ6_getChars_ba4f3_21 (Nat.le_of_ble_eq_true rfl) rfl rfl ?_
      refine ktJ6_getChars_ba4f3_L22 F ap2 n_p2 t0_1 r p2' (fun x0_1 x5_1 p2_1 hf => ?_) FU (-x0) x1 p2 hf
      refine g_aload_n F dJ6_getChars_ba4f3_72 rfl ?_
      refine g_iinc (lv' := [some (.int x0_1), none, some (.ref (ap2 0)), none, none, some (.int (x5_1 + (-1))), some (.int t0_1)]) F (x5_1 + (-1)) dJ6_getChars_ba4f3_73 rfl rfl rfl rfl ?_
      refine g_iload F dJ6_getChars_ba4f3_76 rfl ?_
      refine g_getsD F (by decide +kernel) dJ6_getChars_ba4f3_78 ?_
      refine g_iload_n F dJ6_getChars_ba4f3_81 rfl ?_
      refine g_ineg F dJ6_getChars_ba4f3_82 ?_
      obtain ⟨hb_1, hf⟩ := gb_in hf
      refine g_staD F hb_1 dJ6_getChars_ba4f3_83 ?_
      obtain ⟨hb_2, hf⟩ := gb_in hf
      obtain ⟨p2_2, hp2_2, hf⟩ := Lt_el hf
      refine g_bast (Lw' := [sArrB E ap2 n_p2 p2_2]) F 0 0 ((x5_1 + (-1)).toNatClampNeg) rfl rfl rfl hb_2 dJ6_getChars_ba4f3_84 (by subst hp2_2; rfl) ?_
      refine g_iload_n F dJ6_getChars_ba4f3_85 rfl ?_
      refine g_bipush F (-9) dJ6_getChars_ba4f3_86 rfl ?_
      obtain ⟨j_2, hj_2, hf⟩ := Lt_el hf
      have hj_2 : ∀ (x5_2 : Int32) (p2_3 : (Nat → Int32)), j_2 x5_2 p2_3 = some (r, p2') → Gj p l e rmJ6_getChars_ba4f3 s m ([.int x0, .int x1, .ref (ap2 0)] : List Value).toArray below meth c 0 0 (MQ below (gQ vwCl E A (fun v w => v = some (.int r) ∧ w = [sArrB E ap2 n_p2 p2'])) ([.int x0, .int x1, .ref (ap2 0)] : List Value).toArray s 0 0 A) vwCl E A [sArrB E ap2 n_p2 p2_3] [none, none, some (.ref (ap2 0)), none, none, some (.int x5_2), some (.int t0_1)] [] 104 := by
        intro x5_2 p2_3 hf
        rw [hj_2] at hf
        refine g_iload F dJ6_getChars_ba4f3_104 rfl ?_
        refine g_ifeq F 118 dJ6_getChars_ba4f3_106 (by decide) (fun hc_1 => ?_) (fun hc_1 => ?_)
        · replace hf := gi_t hc_1 hf
          refine g_iload F dJ6_getChars_ba4f3_118 rfl ?_
          obtain ⟨rfl, rfl⟩ := so2 hf
          exact g_iret F rfl ⟨rfl, rfl⟩ dJ6_getChars_ba4f3_120
        · replace hf := gi_f hc_1 hf
          refine g_aload_n F dJ6_getChars_ba4f3_109 rfl ?_
          refine g_iinc (lv' := [none, none, some (.ref (ap2 0)), none, none, some (.int (x5_2 + (-1))), some (.int t0_1)]) F (x5_2 + (-1)) dJ6_getChars_ba4f3_110 rfl rfl rfl rfl ?_
          refine g_iload F dJ6_getChars_ba4f3_113 rfl ?_
          refine g_bipush F 45 dJ6_getChars_ba4f3_115 rfl ?_
          obtain ⟨hb_3, hf⟩ := gb_in hf
          obtain ⟨p2_4, hp2_4, hf⟩ := Lt_el hf
          refine g_bast (Lw' := [sArrB E ap2 n_p2 p2_4]) F 0 0 ((x5_2 + (-1)).toNatClampNeg) rfl rfl rfl hb_3 dJ6_getChars_ba4f3_117 (by subst hp2_4; rfl) ?_
          refine g_iload F dJ6_getChars_ba4f3_118 rfl ?_
          obtain ⟨rfl, rfl⟩ := so2 hf
          exact g_iret F rfl ⟨rfl, rfl⟩ dJ6_getChars_ba4f3_120
      refine g_icmp_ge F 104 dJ6_getChars_ba4f3_88 (by decide) (fun hc_2 => ?_) (fun hc_2 => ?_)
      · replace hf := gi_t hc_2 hf
        refine g_mask [false, true, true, true, true, true, true] rfl ?_
        exact hj_2 (x5_1 + (-1)) p2_2 hf
      · replace hf := gi_f hc_2 hf
        refine g_aload_n F dJ6_getChars_ba4f3_91 rfl ?_
        refine g_iinc (lv' := [some (.int x0_1), none, some (.ref (ap2 0)), none, none, some (.int ((x5_1 + (-1)) + (-1))), some (.int t0_1)]) F ((x5_1 + (-1)) + (-1)) dJ6_getChars_ba4f3_92 rfl rfl rfl rfl ?_
        refine g_iload F dJ6_getChars_ba4f3_95 rfl ?_
        refine g_getsE F (by decide +kernel) dJ6_getChars_ba4f3_97 ?_
        refine g_iload_n F dJ6_getChars_ba4f3_100 rfl ?_
        refine g_ineg F dJ6_getChars_ba4f3_101 ?_
        obtain ⟨hb_4, hf⟩ := gb_in hf
        refine g_staE F hb_4 dJ6_getChars_ba4f3_102 ?_
        obtain ⟨hb_5, hf⟩ := gb_in hf
        obtain ⟨p2_5, hp2_5, hf⟩ := Lt_el hf
        refine g_bast (Lw' := [sArrB E ap2 n_p2 p2_5]) F 0 0 (((x5_1 + (-1)) + (-1)).toNatClampNeg) rfl rfl rfl hb_5 dJ6_getChars_ba4f3_103 (by subst hp2_5; rfl) ?_
        refine g_mask [false, true, true, true, true, true, true] rfl ?_
        exact hj_2 ((x5_1 + (-1)) + (-1)) p2_5 hf
  refine g_ifge F 11 dJ6_getChars_ba4f3_4 (by decide) (fun hc_6 => ?_) (fun hc_6 => ?_)
  · replace hf := gi_t hc_6 hf
    refine g_iconst F 0 dJ6_getChars_ba4f3_11 rfl ?_
    refine g_mask [true, false, true, true, true, true, true] rfl ?_
    exact hj_1 0 hf
  · replace hf := gi_f hc_6 hf
    refine g_iconst F 1 dJ6_getChars_ba4f3_7 rfl ?_
    refine g_goto F 12 dJ6_getChars_ba4f3_8 (by decide) ?_
    refine g_mask [true, false, true, true, true, true, true] rfl ?_
    exact hj_1 1 hf
set_option maxHeartbeats 4000000 in
set_option maxRecDepth 100000 in
theorem ctJ1_canEncode_fc78d (l : Launch) (E : gE) (x0 : Int32) (r : Int32) (hf : fJ1_canEncode_fc78d x0 = some r) : gMet l yJ1_canEncode_fc78d wsJ1_canEncode_fc78d rmJ1_canEncode_fc78d vwCl E [.int x0] [] (fun v w => v = some (.int r) ∧ w = [] ∧ narrow .boolean (.int r) = .int r) 0 0 := by
  refine g_entry [some (.int x0)] (by decide) rfl (Nat.le_of_ble_eq_true rfl) rfl ?_
  intro p e s m below meth c A F hnm
  unfold fJ1_canEncode_fc78d at hf
  refine g_iload_n F dJ1_canEncode_fc78d_0 rfl ?_
  refine g_sipush F 255 dJ1_canEncode_fc78d_1 rfl ?_
  refine g_icmp_gt F 11 dJ1_canEncode_fc78d_4 (by decide) (fun hc_1 => ?_) (fun hc_1 => ?_)
  · replace hf := gi_t hc_1 hf
    refine g_iconst F 0 dJ1_canEncode_fc78d_11 rfl ?_
    cases hf
    exact g_zret (ty := .boolean) F rfl rfl ⟨rfl, rfl, rfl⟩ dJ1_canEncode_fc78d_12
  · replace hf := gi_f hc_1 hf
    refine g_iconst F 1 dJ1_canEncode_fc78d_7 rfl ?_
    refine g_goto F 12 dJ1_canEncode_fc78d_8 (by decide) ?_
    cases hf
    exact g_zret (ty := .boolean) F rfl rfl ⟨rfl, rfl, rfl⟩ dJ1_canEncode_fc78d_12
set_option maxHeartbeats 4000000 in
set_option maxRecDepth 100000 in
theorem ctJ5_isLatin1_aae02 (l : Launch) (E : gE) (aO avalue : Nat → Nat) (O_count : Int32) (r : Int32) (hf : fJ5_isLatin1_aae02 = some r) : gMet l yJ5_isLatin1_aae02 wsJ5_isLatin1_aae02 rmJ5_isLatin1_aae02 vwCl E [.ref (aO 0)] [sSBo E aO avalue O_count] (fun v w => v = some (.int r) ∧ w = [sSBo E aO avalue O_count] ∧ narrow .boolean (.int r) = .int r) 0 0 := by
  refine g_entry [some (.ref (aO 0))] (by decide) rfl (Nat.le_of_ble_eq_true rfl) rfl ?_
  intro p e s m below meth c A F hnm
  unfold fJ5_isLatin1_aae02 at hf
  refine g_gets0 F (by decide +kernel) dJ5_isLatin1_aae02_0 ?_
  refine g_ifeq F 17 dJ5_isLatin1_aae02_3 (by decide) (fun hc_2 => ?_) (fun hc_2 => ?_)
  · replace hf := gi_t hc_2 hf
    refine g_iconst F 0 dJ5_isLatin1_aae02_17 rfl ?_
    cases hf
    exact g_zret (ty := .boolean) F rfl rfl ⟨rfl, rfl, rfl⟩ dJ5_isLatin1_aae02_18
  · replace hf := gi_f hc_2 hf
    refine g_aload_n F dJ5_isLatin1_aae02_6 rfl ?_
    refine g_get (C := RJ4) (T := TJ4) (N := 4) F 0 0 1 rfl rfl rfl iJ5_isLatin1_aae02_J4 (by decide) (by decide +kernel) rfl dJ5_isLatin1_aae02_7 ?_
    refine g_ifne F 17 dJ5_isLatin1_aae02_10 (by decide) (fun hc_1 => ?_) (fun hc_1 => ?_)
    · replace hf := gi_f hc_1 hf
      refine g_iconst F 0 dJ5_isLatin1_aae02_17 rfl ?_
      cases hf
      exact g_zret (ty := .boolean) F rfl rfl ⟨rfl, rfl, rfl⟩ dJ5_isLatin1_aae02_18
    · replace hf := gi_t hc_1 hf
      refine g_iconst F 1 dJ5_isLatin1_aae02_13 rfl ?_
      refine g_goto F 18 dJ5_isLatin1_aae02_14 (by decide) ?_
      cases hf
      exact g_zret (ty := .boolean) F rfl rfl ⟨rfl, rfl, rfl⟩ dJ5_isLatin1_aae02_18
set_option maxHeartbeats 4000000 in
set_option maxRecDepth 100000 in
theorem ctJ8_hugeLength_7cf53 (l : Launch) (E : gE) (x0 : Int32) (x1 : Int32) (r : Int32) (hf : fJ8_hugeLength_7cf53 x0 x1 = some r) : gMet l yJ8_hugeLength_7cf53 wsJ8_hugeLength_7cf53 rmJ8_hugeLength_7cf53 vwCl E [.int x0, .int x1] [] (fun v w => v = some (.int r) ∧ w = []) 0 0 := by
  refine g_entry [some (.int x0), some (.int x1), none] (by decide) rfl (Nat.le_of_ble_eq_true rfl) rfl ?_
  intro p e s m below meth c A F hnm
  unfold fJ8_hugeLength_7cf53 at hf
  refine g_iload_n F dJ8_hugeLength_7cf53_0 rfl ?_
  refine g_iload_n F dJ8_hugeLength_7cf53_1 rfl ?_
  refine g_iadd F dJ8_hugeLength_7cf53_2 ?_
  refine g_istore_n (lv' := [some (.int x0), some (.int x1), some (.int (x0 + x1))]) F dJ8_hugeLength_7cf53_3 (Nat.le_of_ble_eq_true rfl) rfl rfl ?_
  refine g_iload_n F dJ8_hugeLength_7cf53_4 rfl ?_
  refine g_ifge F 49 dJ8_hugeLength_7cf53_5 (by decide) (fun hc_2 => ?_) (fun hc_2 => ?_)
  · replace hf := gi_t hc_2 hf
    refine g_iload_n F dJ8_hugeLength_7cf53_49 rfl ?_
    refine g_ldc F 2147483639 (by decide +kernel) dJ8_hugeLength_7cf53_50 ?_
    refine g_icmp_gt F 58 dJ8_hugeLength_7cf53_52 (by decide) (fun hc_1 => ?_) (fun hc_1 => ?_)
    · replace hf := gi_t hc_1 hf
      refine g_iload_n F dJ8_hugeLength_7cf53_58 rfl ?_
      cases hf
      exact g_iret F rfl ⟨rfl, rfl⟩ dJ8_hugeLength_7cf53_59
    · replace hf := gi_f hc_1 hf
      refine g_ldc F 2147483639 (by decide +kernel) dJ8_hugeLength_7cf53_55 ?_
      cases hf
      exact g_iret F rfl ⟨rfl, rfl⟩ dJ8_hugeLength_7cf53_57
  · replace hf := gi_f hc_2 hf
    cases hf
set_option maxHeartbeats 4000000 in
set_option maxRecDepth 100000 in
theorem ctJ8_newLength_cabcc (l : Launch) (E : gE) (x0 : Int32) (x1 : Int32) (x2 : Int32) (r : Int32) (hf : fJ8_newLength_cabcc x0 x1 x2 = some r) : gMet l yJ8_newLength_cabcc wsJ8_newLength_cabcc rmJ8_newLength_cabcc vwCl E [.int x0, .int x1, .int x2] [] (fun v w => v = some (.int r) ∧ w = []) 0 0 := by
  refine g_entry [some (.int x0), some (.int x1), some (.int x2), none] (by decide) rfl (Nat.le_of_ble_eq_true rfl) rfl ?_
  intro p e s m below meth c A F hnm
  unfold fJ8_newLength_cabcc at hf
  refine g_iload_n F dJ8_newLength_cabcc_0 rfl ?_
  refine g_iload_n F dJ8_newLength_cabcc_1 rfl ?_
  refine g_iload_n F dJ8_newLength_cabcc_2 rfl ?_
  refine g_mmax F (by decide +kernel) (by decide +kernel) (by decide +kernel) (by decide +kernel) rfl (Nat.le_of_ble_eq_true rfl) (Nat.le_of_ble_eq_true rfl) (Nat.le_of_ble_eq_true rfl) (Nat.le_of_ble_eq_true rfl) dJ8_newLength_cabcc_3 ?_
  obtain ⟨z_1, hz_1, hf⟩ := Lt_el hf
  rw [← hz_1]
  refine g_iadd F dJ8_newLength_cabcc_6 ?_
  refine g_istore_n (lv' := [some (.int x0), some (.int x1), some (.int x2), some (.int (x0 + z_1))]) F dJ8_newLength_cabcc_7 (Nat.le_of_ble_eq_true rfl) rfl rfl ?_
  refine g_iconst F 0 dJ8_newLength_cabcc_8 rfl ?_
  refine g_iload_n F dJ8_newLength_cabcc_9 rfl ?_
  obtain ⟨j_1, hj_1, hf⟩ := Lt_el hf
  have hj_1 : j_1 = some r → Gj p l e rmJ8_newLength_cabcc s m ([.int x0, .int x1, .int x2] : List Value).toArray below meth c 0 0 (MQ below (gQ vwCl E A (fun v w => v = some (.int r) ∧ w = [])) ([.int x0, .int x1, .int x2] : List Value).toArray s 0 0 A) vwCl E A [] [some (.int x0), some (.int x1), none, none] [] 21 := by
    intro hf
    rw [hj_1] at hf
    refine g_iload_n F dJ8_newLength_cabcc_21 rfl ?_
    refine g_iload_n F dJ8_newLength_cabcc_22 rfl ?_
    obtain ⟨r_1, hg_1, hf⟩ := gb1_el hf
    refine g_callS (Lr := []) (As := [.int x0, .int x1]) (rest := []) F 2 (ctJ8_hugeLength_7cf53 l E x0 x1 r_1 hg_1) (va_cwS 2 F.2.2.2.2.2.1 gJ8_newLength_cabcc_J8_hugeLength_7cf53 rfl rfl rfl h0J8_hugeLength_7cf53 ⟨Nat.le_of_ble_eq_true rfl, Nat.le_of_ble_eq_true rfl⟩) [] [] rfl rfl rfl rfl rfl rfl (Nat.le_of_ble_eq_true rfl) dJ8_newLength_cabcc_23 ⟨(Nat.le_of_ble_eq_true rfl), (Nat.le_of_ble_eq_true rfl)⟩ ?_
    rintro v w ⟨rfl, rfl⟩
    refine g_norm (Lw' := []) (st' := [.int r_1]) (pc' := 26) [] rfl rfl rfl rfl ?_
    cases hf
    exact g_iret F rfl ⟨rfl, rfl⟩ dJ8_newLength_cabcc_26
  refine g_icmp_ge F 21 dJ8_newLength_cabcc_10 (by decide) (fun hc_2 => ?_) (fun hc_2 => ?_)
  · replace hf := gi_t hc_2 hf
    refine g_mask [true, true, false, false] rfl ?_
    exact hj_1 hf
  · replace hf := gi_f hc_2 hf
    refine g_iload_n F dJ8_newLength_cabcc_13 rfl ?_
    refine g_ldc F 2147483639 (by decide +kernel) dJ8_newLength_cabcc_14 ?_
    refine g_icmp_gt F 21 dJ8_newLength_cabcc_16 (by decide) (fun hc_1 => ?_) (fun hc_1 => ?_)
    · replace hf := gi_t hc_1 hf
      refine g_mask [true, true, false, false] rfl ?_
      exact hj_1 hf
    · replace hf := gi_f hc_1 hf
      refine g_iload_n F dJ8_newLength_cabcc_19 rfl ?_
      cases hf
      exact g_iret F rfl ⟨rfl, rfl⟩ dJ8_newLength_cabcc_20
set_option maxHeartbeats 4000000 in
set_option maxRecDepth 100000 in
theorem ctJ5_newCapacity_0f7a4 (l : Launch) (E : gE) (aO avalue : Nat → Nat) (n_val : Nat) (x1 : Int32) (O_count : Int32) (value : (Nat → Int32)) (r : Int32) (hf : fJ5_newCapacity_0f7a4 n_val x1 = some r) : gMet l yJ5_newCapacity_0f7a4 wsJ5_newCapacity_0f7a4 rmJ5_newCapacity_0f7a4 vwCl E [.ref (aO 0), .int x1] [sSBo E aO avalue O_count, sArrB E avalue n_val value] (fun v w => v = some (.int r) ∧ w = [sSBo E aO avalue O_count, sArrB E avalue n_val value]) 0 0 := by
  refine g_entry [some (.ref (aO 0)), some (.int x1), none, none, none, none] (by decide) rfl (Nat.le_of_ble_eq_true rfl) rfl ?_
  intro p e s m below meth c A F hnm
  unfold fJ5_newCapacity_0f7a4 at hf
  refine g_aload_n F dJ5_newCapacity_0f7a4_0 rfl ?_
  refine g_get (C := RJ4) (T := TJ4) (N := 4) F 0 0 0 rfl rfl rfl iJ5_newCapacity_0f7a4_J4 (by decide) (by decide +kernel) rfl dJ5_newCapacity_0f7a4_1 ?_
  refine g_alen F 1 0 0 rfl rfl rfl rfl dJ5_newCapacity_0f7a4_4 ?_
  refine g_istore_n (lv' := [some (.ref (aO 0)), some (.int x1), some (.int (Int32.ofNat n_val)), none, none, none]) F dJ5_newCapacity_0f7a4_5 (Nat.le_of_ble_eq_true rfl) rfl rfl ?_
  refine g_iload_n F dJ5_newCapacity_0f7a4_6 rfl ?_
  refine g_aload_n F dJ5_newCapacity_0f7a4_7 rfl ?_
  refine g_get (C := RJ4) (T := TJ4) (N := 4) F 0 0 1 rfl rfl rfl iJ5_newCapacity_0f7a4_J4 (by decide) (by decide +kernel) rfl dJ5_newCapacity_0f7a4_8 ?_
  refine g_ishl F dJ5_newCapacity_0f7a4_11 ?_
  refine g_istore_n (lv' := [some (.ref (aO 0)), some (.int x1), some (.int (Int32.ofNat n_val)), some (.int (x1 <<< ((0 : Int32) &&& 31))), none, none]) F dJ5_newCapacity_0f7a4_12 (Nat.le_of_ble_eq_true rfl) rfl rfl ?_
  refine g_iload_n F dJ5_newCapacity_0f7a4_13 rfl ?_
  refine g_iload_n F dJ5_newCapacity_0f7a4_14 rfl ?_
  refine g_isub F dJ5_newCapacity_0f7a4_15 ?_
  refine g_istore (lv' := [some (.ref (aO 0)), some (.int x1), some (.int (Int32.ofNat n_val)), some (.int (x1 <<< ((0 : Int32) &&& 31))), some (.int ((x1 <<< ((0 : Int32) &&& 31)) - (Int32.ofNat n_val))), none]) F dJ5_newCapacity_0f7a4_16 (Nat.le_of_ble_eq_true rfl) rfl rfl ?_
  refine g_iload_n F dJ5_newCapacity_0f7a4_18 rfl ?_
  refine g_iload F dJ5_newCapacity_0f7a4_19 rfl ?_
  refine g_iload_n F dJ5_newCapacity_0f7a4_21 rfl ?_
  refine g_iconst F 2 dJ5_newCapacity_0f7a4_22 rfl ?_
  refine g_aload_n F dJ5_newCapacity_0f7a4_23 rfl ?_
  refine g_get (C := RJ4) (T := TJ4) (N := 4) F 0 0 1 rfl rfl rfl iJ5_newCapacity_0f7a4_J4 (by decide) (by decide +kernel) rfl dJ5_newCapacity_0f7a4_24 ?_
  refine g_ishl F dJ5_newCapacity_0f7a4_27 ?_
  refine g_iadd F dJ5_newCapacity_0f7a4_28 ?_
  obtain ⟨r_1, hg_1, hf⟩ := gb1_el hf
  refine g_callS (Lr := [sSBo E aO avalue O_count, sArrB E avalue n_val value]) (As := [.int (Int32.ofNat n_val), .int ((x1 <<< ((0 : Int32) &&& 31)) - (Int32.ofNat n_val)), .int ((Int32.ofNat n_val) + ((2 : Int32) <<< ((0 : Int32) &&& 31)))]) (rest := []) F 3 (ctJ8_newLength_cabcc l E (Int32.ofNat n_val) ((x1 <<< ((0 : Int32) &&& 31)) - (Int32.ofNat n_val)) ((Int32.ofNat n_val) + ((2 : Int32) <<< ((0 : Int32) &&& 31))) r_1 hg_1) (va_cwS 3 F.2.2.2.2.2.1 gJ5_newCapacity_0f7a4_J8_newLength_cabcc rfl rfl rfl h0J8_newLength_cabcc ⟨Nat.le_of_ble_eq_true rfl, Nat.le_of_ble_eq_true rfl⟩) [] [0, 1] rfl rfl rfl rfl rfl rfl (Nat.le_of_ble_eq_true rfl) dJ5_newCapacity_0f7a4_29 ⟨(Nat.le_of_ble_eq_true rfl), (Nat.le_of_ble_eq_true rfl)⟩ ?_
  rintro v w ⟨rfl, rfl⟩
  refine g_norm (Lw' := [sSBo E aO avalue O_count, sArrB E avalue n_val value]) (st' := [.int r_1]) (pc' := 32) [0, 1] rfl rfl rfl rfl ?_
  refine g_istore (lv' := [some (.ref (aO 0)), some (.int x1), some (.int (Int32.ofNat n_val)), some (.int (x1 <<< ((0 : Int32) &&& 31))), some (.int ((x1 <<< ((0 : Int32) &&& 31)) - (Int32.ofNat n_val))), some (.int r_1)]) F dJ5_newCapacity_0f7a4_32 (Nat.le_of_ble_eq_true rfl) rfl rfl ?_
  refine g_iload F dJ5_newCapacity_0f7a4_34 rfl ?_
  refine g_ldc F 2147483647 (by decide +kernel) dJ5_newCapacity_0f7a4_36 ?_
  refine g_icmp_ne F 51 dJ5_newCapacity_0f7a4_38 (by decide) (fun hc_1 => ?_) (fun hc_1 => ?_)
  · replace hf := gi_f hc_1 hf
    refine g_iload F dJ5_newCapacity_0f7a4_51 rfl ?_
    refine g_aload_n F dJ5_newCapacity_0f7a4_53 rfl ?_
    refine g_get (C := RJ4) (T := TJ4) (N := 4) F 0 0 1 rfl rfl rfl iJ5_newCapacity_0f7a4_J4 (by decide) (by decide +kernel) rfl dJ5_newCapacity_0f7a4_54 ?_
    refine g_ishr F dJ5_newCapacity_0f7a4_57 ?_
    cases hf
    exact g_iret F rfl ⟨rfl, rfl⟩ dJ5_newCapacity_0f7a4_58
  · replace hf := gi_t hc_1 hf
    cases hf
set_option maxHeartbeats 4000000 in
set_option maxRecDepth 100000 in
theorem ctJ5_length_8abf5 (l : Launch) (E : gE) (aO avalue : Nat → Nat) (O_count : Int32) (r : Int32) (hf : fJ5_length_8abf5 O_count = some r) : gMet l yJ5_length_8abf5 wsJ5_length_8abf5 rmJ5_length_8abf5 vwCl E [.ref (aO 0)] [sSBo E aO avalue O_count] (fun v w => v = some (.int r) ∧ w = [sSBo E aO avalue O_count]) 0 0 := by
  refine g_entry [some (.ref (aO 0))] (by decide) rfl (Nat.le_of_ble_eq_true rfl) rfl ?_
  intro p e s m below meth c A F hnm
  unfold fJ5_length_8abf5 at hf
  refine g_aload_n F dJ5_length_8abf5_0 rfl ?_
  refine g_get (C := RJ4) (T := TJ4) (N := 4) F 0 0 3 rfl rfl rfl iJ5_length_8abf5_J4 (by decide) (by decide +kernel) rfl dJ5_length_8abf5_1 ?_
  cases hf
  exact g_iret F rfl ⟨rfl, rfl⟩ dJ5_length_8abf5_4
set_option maxHeartbeats 4000000 in
set_option maxRecDepth 100000 in
theorem ctJ0_coder_7d493 (l : Launch) (E : gE) (i0 : Nat) (hi0 : i0 < 8) (r : Int32) (hf : fJ0_coder_7d493 i0 = some r) : gMet l yJ0_coder_7d493 wsJ0_coder_7d493 rmJ0_coder_7d493 vwCl E [.ref (E.2.2 i0)] [] (fun v w => v = some (.int r) ∧ w = [] ∧ narrow .byte (.int r) = .int r) 0 0 := by
  refine g_entry [some (.ref (E.2.2 i0))] (by decide) rfl (Nat.le_of_ble_eq_true rfl) rfl ?_
  intro p e s m below meth c A F hnm
  unfold fJ0_coder_7d493 at hf
  refine g_gets0 F (by decide +kernel) dJ0_coder_7d493_0 ?_
  refine g_ifeq F 13 dJ0_coder_7d493_3 (by decide) (fun hc_1 => ?_) (fun hc_1 => ?_)
  · replace hf := gi_t hc_1 hf
    refine g_iconst F 1 dJ0_coder_7d493_13 rfl ?_
    cases hf
    exact g_zret (ty := .byte) F rfl rfl ⟨rfl, rfl, rfl⟩ dJ0_coder_7d493_14
  · replace hf := gi_f hc_1 hf
    refine g_aload_n F dJ0_coder_7d493_6 rfl ?_
    refine g_strc F hi0 (by decide +kernel) dJ0_coder_7d493_7 ?_
    refine g_goto F 14 dJ0_coder_7d493_10 (by decide) ?_
    cases hf
    exact g_zret (ty := .byte) F rfl rfl ⟨rfl, rfl, rfl⟩ dJ0_coder_7d493_14
set_option maxHeartbeats 4000000 in
set_option maxRecDepth 100000 in
theorem ctJ5_inflateIfNeededFor_a7421 (l : Launch) (E : gE) (aO avalue : Nat → Nat) (i1 : Nat) (hi1 : i1 < 8) (O_count : Int32) (hf : fJ5_inflateIfNeededFor_a7421 i1 = some ()) : gMet l yJ5_inflateIfNeededFor_a7421 wsJ5_inflateIfNeededFor_a7421 rmJ5_inflateIfNeededFor_a7421 vwCl E [.ref (aO 0), .ref (E.2.2 i1)] [sSBo E aO avalue O_count] (fun v w => v = none ∧ w = [sSBo E aO avalue O_count]) 0 0 := by
  refine g_entry [some (.ref (aO 0)), some (.ref (E.2.2 i1))] (by decide) rfl (Nat.le_of_ble_eq_true rfl) rfl ?_
  intro p e s m below meth c A F hnm
  unfold fJ5_inflateIfNeededFor_a7421 at hf
  refine g_gets0 F (by decide +kernel) dJ5_inflateIfNeededFor_a7421_0 ?_
  refine g_ifeq F 21 dJ5_inflateIfNeededFor_a7421_3 (by decide) (fun hc_2 => ?_) (fun hc_2 => ?_)
  · replace hf := gi_t hc_2 hf
    cases hf
    exact g_vret F rfl ⟨rfl, rfl⟩ dJ5_inflateIfNeededFor_a7421_21
  · replace hf := gi_f hc_2 hf
    refine g_aload_n F dJ5_inflateIfNeededFor_a7421_6 rfl ?_
    refine g_get (C := RJ4) (T := TJ4) (N := 4) F 0 0 1 rfl rfl rfl iJ5_inflateIfNeededFor_a7421_J4 (by decide) (by decide +kernel) rfl dJ5_inflateIfNeededFor_a7421_7 ?_
    refine g_aload_n F dJ5_inflateIfNeededFor_a7421_10 rfl ?_
    obtain ⟨r_1, hg_1, hf⟩ := gb1_el hf
    refine g_callVs (Lr := [sSBo E aO avalue O_count]) (As := []) (rest := [.int 0]) F 0 hi1 (ctJ0_coder_7d493 l E i1 hi1 r_1 hg_1) gJ5_inflateIfNeededFor_a7421_J0_coder_7d493 rfl rfl rfl h0J0_coder_7d493 ⟨Nat.le_of_ble_eq_true rfl, Nat.le_of_ble_eq_true rfl⟩ [] [0] rfl rfl rfl rfl rfl rfl (Nat.le_of_ble_eq_true rfl) dJ5_inflateIfNeededFor_a7421_11 ⟨(Nat.le_of_ble_eq_true rfl), (Nat.le_of_ble_eq_true rfl)⟩ ?_
    rintro v w ⟨rfl, rfl, hz_1⟩
    refine g_norm (Lw' := [sSBo E aO avalue O_count]) (st' := [.int r_1, .int 0]) (pc' := 14) [0] rfl rfl rfl rfl ?_
    refine g_icmp_eq F 21 dJ5_inflateIfNeededFor_a7421_14 (by decide) (fun hc_1 => ?_) (fun hc_1 => ?_)
    · replace hf := gi_t hc_1 hf
      cases hf
      exact g_vret F rfl ⟨rfl, rfl⟩ dJ5_inflateIfNeededFor_a7421_21
    · replace hf := gi_f hc_1 hf
      cases hf
set_option maxHeartbeats 4000000 in
set_option maxRecDepth 100000 in
theorem ctJ0_getBytes_840e7 (l : Launch) (E : gE) (ap1 : Nat → Nat) (n_p1 : Nat) (i0 : Nat) (x2 : Int32) (x3 : Int32) (hi0 : i0 < 8) (p1 : (Nat → Int32)) (p1' : (Nat → Int32)) (hf : fJ0_getBytes_840e7 n_p1 i0 x2 x3 p1 = some p1') : gMet l yJ0_getBytes_840e7 wsJ0_getBytes_840e7 rmJ0_getBytes_840e7 vwCl E [.ref (E.2.2 i0), .ref (ap1 0), .int x2, .int x3] [sArrB E ap1 n_p1 p1] (fun v w => v = none ∧ w = [sArrB E ap1 n_p1 p1']) 0 0 := by
  refine g_entry [some (.ref (E.2.2 i0)), some (.ref (ap1 0)), some (.int x2), some (.int x3)] (by decide) rfl (Nat.le_of_ble_eq_true rfl) rfl ?_
  intro p e s m below meth c A F hnm
  unfold fJ0_getBytes_840e7 at hf
  refine g_aload_n F dJ0_getBytes_840e7_0 rfl ?_
  obtain ⟨r_1, hg_1, hf⟩ := gb1_el hf
  refine g_callVs (Lr := [sArrB E ap1 n_p1 p1]) (As := []) (rest := []) F 0 hi0 (ctJ0_coder_7d493 l E i0 hi0 r_1 hg_1) gJ0_getBytes_840e7_J0_coder_7d493 rfl rfl rfl h0J0_coder_7d493 ⟨Nat.le_of_ble_eq_true rfl, Nat.le_of_ble_eq_true rfl⟩ [] [0] rfl rfl rfl rfl rfl rfl (Nat.le_of_ble_eq_true rfl) dJ0_getBytes_840e7_1 ⟨(Nat.le_of_ble_eq_true rfl), (Nat.le_of_ble_eq_true rfl)⟩ ?_
  rintro v w ⟨rfl, rfl, hz_1⟩
  refine g_norm (Lw' := [sArrB E ap1 n_p1 p1]) (st' := [.int r_1]) (pc' := 4) [0] rfl rfl rfl rfl ?_
  refine g_iload_n F dJ0_getBytes_840e7_4 rfl ?_
  refine g_icmp_ne F 28 dJ0_getBytes_840e7_5 (by decide) (fun hc_1 => ?_) (fun hc_1 => ?_)
  · replace hf := gi_f hc_1 hf
    cases hf
  · replace hf := gi_t hc_1 hf
    refine g_aload_n F dJ0_getBytes_840e7_8 rfl ?_
    refine g_strv F hi0 (by decide +kernel) dJ0_getBytes_840e7_9 ?_
    refine g_iconst F 0 dJ0_getBytes_840e7_12 rfl ?_
    refine g_aload_n F dJ0_getBytes_840e7_13 rfl ?_
    refine g_iload_n F dJ0_getBytes_840e7_14 rfl ?_
    refine g_iload_n F dJ0_getBytes_840e7_15 rfl ?_
    refine g_ishl F dJ0_getBytes_840e7_16 ?_
    refine g_aload_n F dJ0_getBytes_840e7_17 rfl ?_
    refine g_strv F hi0 (by decide +kernel) dJ0_getBytes_840e7_18 ?_
    refine g_strl F hi0 dJ0_getBytes_840e7_21 ?_
    obtain ⟨hb_1, hf⟩ := gb_in hf
    obtain ⟨hb_2, hf⟩ := gb_if hf
    obtain ⟨p1_1, hp1_1, hf⟩ := Lt_el hf
    refine g_copyT (Lw' := [sArrB E ap1 n_p1 p1_1]) F hi0 0 0 rfl rfl (by decide +kernel) (by decide +kernel) (by decide +kernel) (by decide +kernel) hb_1 hb_2 rfl (Nat.le_of_ble_eq_true rfl) (Nat.le_of_ble_eq_true rfl) dJ0_getBytes_840e7_22 (by subst hp1_1; rfl) ?_
    refine g_goto F 43 dJ0_getBytes_840e7_25 (by decide) ?_
    cases hf
    exact g_vret F rfl ⟨rfl, rfl⟩ dJ0_getBytes_840e7_43
set_option maxHeartbeats 4000000 in
set_option maxRecDepth 100000 in
theorem ctJ5_putStringAt_47b60 (l : Launch) (E : gE) (aO avalue : Nat → Nat) (n_val : Nat) (i2 : Nat) (x1 : Int32) (hi2 : i2 < 8) (O_count : Int32) (value : (Nat → Int32)) (value' : (Nat → Int32)) (hf : fJ5_putStringAt_47b60 n_val i2 x1 value = some value') : gMet l yJ5_putStringAt_47b60 wsJ5_putStringAt_47b60 rmJ5_putStringAt_47b60 vwCl E [.ref (aO 0), .int x1, .ref (E.2.2 i2)] [sSBo E aO avalue O_count, sArrB E avalue n_val value] (fun v w => v = none ∧ w = [sSBo E aO avalue O_count, sArrB E avalue n_val value']) 0 0 := by
  refine g_entry [some (.ref (aO 0)), some (.int x1), some (.ref (E.2.2 i2))] (by decide) rfl (Nat.le_of_ble_eq_true rfl) rfl ?_
  intro p e s m below meth c A F hnm
  unfold fJ5_putStringAt_47b60 at hf
  refine g_aload_n F dJ5_putStringAt_47b60_0 rfl ?_
  refine g_aload_n F dJ5_putStringAt_47b60_1 rfl ?_
  obtain ⟨hg_1, hf⟩ := gb0_el hf
  refine g_callU (C := RJ4) (T := TJ4) (N := 4) (Lr := [sArrB E avalue n_val value]) (As := [.ref (E.2.2 i2)]) (rest := []) F 0 0 1 (ctJ5_inflateIfNeededFor_a7421 l E aO avalue i2 hi2 O_count hg_1) (va_cwU 1 F.2.2.2.2.2.1 gJ5_putStringAt_47b60_J5_inflateIfNeededFor_a7421_u397J4 rfl rfl rfl rfl (by decide +kernel) ⟨Nat.le_of_ble_eq_true rfl, Nat.le_of_ble_eq_true rfl⟩) rfl rfl rfl [0] [1] rfl rfl rfl rfl rfl rfl (Nat.le_of_ble_eq_true rfl) dJ5_putStringAt_47b60_2 ⟨(Nat.le_of_ble_eq_true rfl), (Nat.le_of_ble_eq_true rfl)⟩ ?_
  rintro v w ⟨rfl, rfl⟩
  refine g_norm (Lw' := [sSBo E aO avalue O_count, sArrB E avalue n_val value]) (st' := []) (pc' := 5) [0, 1] rfl rfl rfl rfl ?_
  refine g_aload_n F dJ5_putStringAt_47b60_5 rfl ?_
  refine g_aload_n F dJ5_putStringAt_47b60_6 rfl ?_
  refine g_get (C := RJ4) (T := TJ4) (N := 4) F 0 0 0 rfl rfl rfl iJ5_putStringAt_47b60_J4 (by decide) (by decide +kernel) rfl dJ5_putStringAt_47b60_7 ?_
  refine g_iload_n F dJ5_putStringAt_47b60_10 rfl ?_
  refine g_aload_n F dJ5_putStringAt_47b60_11 rfl ?_
  refine g_get (C := RJ4) (T := TJ4) (N := 4) F 0 0 1 rfl rfl rfl iJ5_putStringAt_47b60_J4 (by decide) (by decide +kernel) rfl dJ5_putStringAt_47b60_12 ?_
  obtain ⟨value_1, hg_2, hf⟩ := gb1_el hf
  refine g_callVs (Lr := [sSBo E aO avalue O_count]) (As := [.ref (avalue 0), .int x1, .int 0]) (rest := []) F 3 hi2 (ctJ0_getBytes_840e7 l E avalue n_val i2 x1 0 hi2 value value_1 hg_2) gJ5_putStringAt_47b60_J0_getBytes_840e7 rfl rfl rfl h0J0_getBytes_840e7 ⟨Nat.le_of_ble_eq_true rfl, Nat.le_of_ble_eq_true rfl⟩ [1] [0] rfl rfl rfl rfl rfl rfl (Nat.le_of_ble_eq_true rfl) dJ5_putStringAt_47b60_15 ⟨(Nat.le_of_ble_eq_true rfl), (Nat.le_of_ble_eq_true rfl)⟩ ?_
  rintro v w ⟨rfl, rfl⟩
  refine g_norm (Lw' := [sSBo E aO avalue O_count, sArrB E avalue n_val value_1]) (st' := []) (pc' := 18) [1, 0] rfl rfl rfl rfl ?_
  cases hf
  exact g_vret F rfl ⟨rfl, rfl⟩ dJ5_putStringAt_47b60_18
set_option maxHeartbeats 4000000 in
set_option maxRecDepth 100000 in
theorem ctJ7_checkLength_df160 (l : Launch) (E : gE) (x0 : Int32) (x1 : Int32) (hf : fJ7_checkLength_df160 x0 x1 = some ()) : gMet l yJ7_checkLength_df160 wsJ7_checkLength_df160 rmJ7_checkLength_df160 vwCl E [.int x0, .int x1] [] (fun v w => v = none ∧ w = []) 0 0 := by
  refine g_entry [some (.int x0), some (.int x1)] (by decide) rfl (Nat.le_of_ble_eq_true rfl) rfl ?_
  intro p e s m below meth c A F hnm
  unfold fJ7_checkLength_df160 at hf
  refine g_iload_n F dJ7_checkLength_df160_0 rfl ?_
  refine g_iload_n F dJ7_checkLength_df160_1 rfl ?_
  refine g_icmp_ge F 37 dJ7_checkLength_df160_2 (by decide) (fun hc_1 => ?_) (fun hc_1 => ?_)
  · replace hf := gi_t hc_1 hf
    cases hf
    exact g_vret F rfl ⟨rfl, rfl⟩ dJ7_checkLength_df160_37
  · replace hf := gi_f hc_1 hf
    cases hf
set_option maxHeartbeats 4000000 in
set_option maxRecDepth 100000 in
theorem ctJ0_coder_7d493W (l : Launch) (E : gE) (aO avalue : Nat → Nat) (r : Int32) (hf : fJ0_coder_7d493W = some r) : gMet l yJ0_coder_7d493 wsJ0_coder_7d493 rmJ0_coder_7d493W vwCl E [.ref (aO 0)] [sSTo E aO avalue ] (fun v w => v = some (.int r) ∧ w = [sSTo E aO avalue ] ∧ narrow .byte (.int r) = .int r) 0 0 := by
  refine g_entry [some (.ref (aO 0))] (by decide) rfl (Nat.le_of_ble_eq_true rfl) rfl ?_
  intro p e s m below meth c A F hnm
  unfold fJ0_coder_7d493W at hf
  refine g_gets0 F (by decide +kernel) dJ0_coder_7d493_0 ?_
  refine g_ifeq F 13 dJ0_coder_7d493_3 (by decide) (fun hc_1 => ?_) (fun hc_1 => ?_)
  · replace hf := gi_t hc_1 hf
    refine g_iconst F 1 dJ0_coder_7d493_13 rfl ?_
    cases hf
    exact g_zret (ty := .byte) F rfl rfl ⟨rfl, rfl, rfl⟩ dJ0_coder_7d493_14
  · replace hf := gi_f hc_1 hf
    refine g_aload_n F dJ0_coder_7d493_6 rfl ?_
    refine g_get (C := RJ0) (T := TJ0) (N := 4) F 0 0 1 rfl rfl rfl iJ0_coder_7d493W_J0 (by decide) (by decide +kernel) rfl dJ0_coder_7d493_7 ?_
    refine g_goto F 14 dJ0_coder_7d493_10 (by decide) ?_
    cases hf
    exact g_zret (ty := .byte) F rfl rfl ⟨rfl, rfl, rfl⟩ dJ0_coder_7d493_14
set_option maxHeartbeats 4000000 in
set_option maxRecDepth 100000 in
theorem ctJ0_length_8abf5W (l : Launch) (E : gE) (aO avalue : Nat → Nat) (n_val : Nat) (value : (Nat → Int32)) (r : Int32) (hf : fJ0_length_8abf5W n_val = some r) : gMet l yJ0_length_8abf5 wsJ0_length_8abf5 rmJ0_length_8abf5W vwCl E [.ref (aO 0)] [sSTo E aO avalue , sArrB E avalue n_val value] (fun v w => v = some (.int r) ∧ w = [sSTo E aO avalue , sArrB E avalue n_val value]) 0 0 := by
  refine g_entry [some (.ref (aO 0))] (by decide) rfl (Nat.le_of_ble_eq_true rfl) rfl ?_
  intro p e s m below meth c A F hnm
  unfold fJ0_length_8abf5W at hf
  refine g_aload_n F dJ0_length_8abf5_0 rfl ?_
  refine g_get (C := RJ0) (T := TJ0) (N := 4) F 0 0 0 rfl rfl rfl iJ0_length_8abf5W_J0 (by decide) (by decide +kernel) rfl dJ0_length_8abf5_1 ?_
  refine g_alen F 1 0 0 rfl rfl rfl rfl dJ0_length_8abf5_4 ?_
  refine g_aload_n F dJ0_length_8abf5_5 rfl ?_
  obtain ⟨r_1, hg_1, hf⟩ := gb1_el hf
  refine g_callV (C := RJ0) (T := TJ0) (N := 4) (Lr := [sArrB E avalue n_val value]) (As := []) (rest := [.int (Int32.ofNat n_val)]) F 0 0 0 (ctJ0_coder_7d493W l E aO avalue r_1 hg_1) gJ0_length_8abf5_J0_coder_7d493 rfl rfl rfl h0J0_coder_7d493W ⟨Nat.le_of_ble_eq_true rfl, Nat.le_of_ble_eq_true rfl⟩ rfl rfl rfl [0] [1] rfl rfl rfl rfl rfl rfl (Nat.le_of_ble_eq_true rfl) dJ0_length_8abf5_6 ⟨(Nat.le_of_ble_eq_true rfl), (Nat.le_of_ble_eq_true rfl)⟩ ?_
  rintro v w ⟨rfl, rfl, hz_1⟩
  refine g_norm (Lw' := [sSTo E aO avalue , sArrB E avalue n_val value]) (st' := [.int r_1, .int (Int32.ofNat n_val)]) (pc' := 9) [0, 1] rfl rfl rfl rfl ?_
  refine g_ishr F dJ0_length_8abf5_9 ?_
  cases hf
  exact g_iret F rfl ⟨rfl, rfl⟩ dJ0_length_8abf5_10
set_option maxHeartbeats 4000000 in
set_option maxRecDepth 100000 in
theorem ctJ0_isLatin1_aae02W (l : Launch) (E : gE) (aO avalue : Nat → Nat) (r : Int32) (hf : fJ0_isLatin1_aae02W = some r) : gMet l yJ0_isLatin1_aae02 wsJ0_isLatin1_aae02 rmJ0_isLatin1_aae02W vwCl E [.ref (aO 0)] [sSTo E aO avalue ] (fun v w => v = some (.int r) ∧ w = [sSTo E aO avalue ] ∧ narrow .boolean (.int r) = .int r) 0 0 := by
  refine g_entry [some (.ref (aO 0))] (by decide) rfl (Nat.le_of_ble_eq_true rfl) rfl ?_
  intro p e s m below meth c A F hnm
  unfold fJ0_isLatin1_aae02W at hf
  refine g_gets0 F (by decide +kernel) dJ0_isLatin1_aae02_0 ?_
  refine g_ifeq F 17 dJ0_isLatin1_aae02_3 (by decide) (fun hc_2 => ?_) (fun hc_2 => ?_)
  · replace hf := gi_t hc_2 hf
    refine g_iconst F 0 dJ0_isLatin1_aae02_17 rfl ?_
    cases hf
    exact g_zret (ty := .boolean) F rfl rfl ⟨rfl, rfl, rfl⟩ dJ0_isLatin1_aae02_18
  · replace hf := gi_f hc_2 hf
    refine g_aload_n F dJ0_isLatin1_aae02_6 rfl ?_
    refine g_get (C := RJ0) (T := TJ0) (N := 4) F 0 0 1 rfl rfl rfl iJ0_isLatin1_aae02W_J0 (by decide) (by decide +kernel) rfl dJ0_isLatin1_aae02_7 ?_
    refine g_ifne F 17 dJ0_isLatin1_aae02_10 (by decide) (fun hc_1 => ?_) (fun hc_1 => ?_)
    · replace hf := gi_f hc_1 hf
      refine g_iconst F 0 dJ0_isLatin1_aae02_17 rfl ?_
      cases hf
      exact g_zret (ty := .boolean) F rfl rfl ⟨rfl, rfl, rfl⟩ dJ0_isLatin1_aae02_18
    · replace hf := gi_t hc_1 hf
      refine g_iconst F 1 dJ0_isLatin1_aae02_13 rfl ?_
      refine g_goto F 18 dJ0_isLatin1_aae02_14 (by decide) ?_
      cases hf
      exact g_zret (ty := .boolean) F rfl rfl ⟨rfl, rfl, rfl⟩ dJ0_isLatin1_aae02_18
set_option maxHeartbeats 4000000 in
set_option maxRecDepth 100000 in
theorem ctJ3_checkIndex_8e157 (l : Launch) (E : gE) (x0 : Int32) (x1 : Int32) (q2 : Option Nat) (r : Int32) (hf : fJ3_checkIndex_8e157 x0 x1 = some r) : gMet l yJ3_checkIndex_8e157 wsJ3_checkIndex_8e157 rmJ3_checkIndex_8e157 vwCl E [.int x0, .int x1, va_rf q2] [] (fun v w => v = some (.int r) ∧ w = []) 0 0 := by
  refine g_entry [some (.int x0), some (.int x1), some (va_rf q2)] (by decide) rfl (by cases q2 <;> exact Nat.le_of_ble_eq_true rfl) (by cases q2 <;> rfl) ?_
  intro p e s m below meth c A F hnm
  unfold fJ3_checkIndex_8e157 at hf
  refine g_iload_n F dJ3_checkIndex_8e157_0 rfl ?_
  obtain ⟨j_1, hj_1, hf⟩ := Lt_el hf
  have hj_1 : j_1 = some r → Gj p l e rmJ3_checkIndex_8e157 s m ([.int x0, .int x1, va_rf q2] : List Value).toArray below meth c 0 0 (MQ below (gQ vwCl E A (fun v w => v = some (.int r) ∧ w = [])) ([.int x0, .int x1, va_rf q2] : List Value).toArray s 0 0 A) vwCl E A [] [none, none, some (va_rf q2)] [] 9 := by
    intro hf
    rw [hj_1] at hf
    cases hf
  refine g_iflt F 9 dJ3_checkIndex_8e157_1 (by decide) (fun hc_2 => ?_) (fun hc_2 => ?_)
  · replace hf := gi_t hc_2 hf
    refine g_mask [false, false, true] rfl ?_
    exact hj_1 hf
  · replace hf := gi_f hc_2 hf
    refine g_iload_n F dJ3_checkIndex_8e157_4 rfl ?_
    refine g_iload_n F dJ3_checkIndex_8e157_5 rfl ?_
    refine g_icmp_lt F 16 dJ3_checkIndex_8e157_6 (by decide) (fun hc_1 => ?_) (fun hc_1 => ?_)
    · replace hf := gi_t hc_1 hf
      refine g_iload_n F dJ3_checkIndex_8e157_16 rfl ?_
      cases hf
      exact g_iret F rfl ⟨rfl, rfl⟩ dJ3_checkIndex_8e157_17
    · replace hf := gi_f hc_1 hf
      refine g_mask [false, false, true] rfl ?_
      exact hj_1 hf
set_option maxHeartbeats 4000000 in
set_option maxRecDepth 100000 in
theorem ctJ0_checkIndex_df160 (l : Launch) (E : gE) (x0 : Int32) (x1 : Int32) (hf : fJ0_checkIndex_df160 x0 x1 = some ()) : gMet l yJ0_checkIndex_df160 wsJ0_checkIndex_df160 rmJ0_checkIndex_df160 vwCl E [.int x0, .int x1] [] (fun v w => v = none ∧ w = []) 0 0 := by
  refine g_entry [some (.int x0), some (.int x1)] (by decide) rfl (Nat.le_of_ble_eq_true rfl) rfl ?_
  intro p e s m below meth c A F hnm
  unfold fJ0_checkIndex_df160 at hf
  refine g_iload_n F dJ0_checkIndex_df160_0 rfl ?_
  refine g_iload_n F dJ0_checkIndex_df160_1 rfl ?_
  refine g_getsQ F (by decide +kernel) dJ0_checkIndex_df160_2 (fun q_1 => ?_)
  obtain ⟨r_1, hg_1, hf⟩ := gb1_el hf
  refine g_callS (Lr := []) (As := [.int x0, .int x1, va_rf q_1]) (rest := []) F 3 (ctJ3_checkIndex_8e157 l E x0 x1 q_1 r_1 hg_1) (va_cwS 3 F.2.2.2.2.2.1 gJ0_checkIndex_df160_J3_checkIndex_8e157 rfl rfl rfl h0J3_checkIndex_8e157 ⟨Nat.le_of_ble_eq_true rfl, Nat.le_of_ble_eq_true rfl⟩) [] [] rfl rfl rfl rfl rfl rfl (Nat.le_of_ble_eq_true rfl) dJ0_checkIndex_df160_5 ⟨(Nat.le_of_ble_eq_true rfl), (Nat.le_of_ble_eq_true rfl)⟩ ?_
  rintro v w ⟨rfl, rfl⟩
  refine g_norm (Lw' := []) (st' := [.int r_1]) (pc' := 8) [] rfl rfl rfl rfl ?_
  refine g_pop F dJ0_checkIndex_df160_8 rfl ?_
  cases hf
  exact g_vret F rfl ⟨rfl, rfl⟩ dJ0_checkIndex_df160_9
set_option maxHeartbeats 4000000 in
set_option maxRecDepth 100000 in
theorem ctJ1_charAt_3b067W (l : Launch) (E : gE) (ap0 : Nat → Nat) (n_p0 : Nat) (x1 : Int32) (p0 : (Nat → Int32)) (r : Int32) (hf : fJ1_charAt_3b067W n_p0 x1 p0 = some r) : gMet l yJ1_charAt_3b067 wsJ1_charAt_3b067 rmJ1_charAt_3b067W vwCl E [.ref (ap0 0), .int x1] [sArrB E ap0 n_p0 p0] (fun v w => v = some (.int r) ∧ w = [sArrB E ap0 n_p0 p0] ∧ narrow .char (.int r) = .int r) 0 0 := by
  refine g_entry [some (.ref (ap0 0)), some (.int x1)] (by decide) rfl (Nat.le_of_ble_eq_true rfl) rfl ?_
  intro p e s m below meth c A F hnm
  unfold fJ1_charAt_3b067W at hf
  refine g_iload_n F dJ1_charAt_3b067_0 rfl ?_
  refine g_aload_n F dJ1_charAt_3b067_1 rfl ?_
  refine g_alen F 0 0 0 rfl rfl rfl rfl dJ1_charAt_3b067_2 ?_
  obtain ⟨hg_1, hf⟩ := gb0_el hf
  refine g_callS (Lr := [sArrB E ap0 n_p0 p0]) (As := [.int x1, .int (Int32.ofNat n_p0)]) (rest := []) F 2 (ctJ0_checkIndex_df160 l E x1 (Int32.ofNat n_p0) hg_1) (va_cwS 2 F.2.2.2.2.2.1 gJ1_charAt_3b067_J0_checkIndex_df160 rfl rfl rfl h0J0_checkIndex_df160 ⟨Nat.le_of_ble_eq_true rfl, Nat.le_of_ble_eq_true rfl⟩) [] [0] rfl rfl rfl rfl rfl rfl (Nat.le_of_ble_eq_true rfl) dJ1_charAt_3b067_3 ⟨(Nat.le_of_ble_eq_true rfl), (Nat.le_of_ble_eq_true rfl)⟩ ?_
  rintro v w ⟨rfl, rfl⟩
  refine g_norm (Lw' := [sArrB E ap0 n_p0 p0]) (st' := []) (pc' := 6) [0] rfl rfl rfl rfl ?_
  refine g_aload_n F dJ1_charAt_3b067_6 rfl ?_
  refine g_iload_n F dJ1_charAt_3b067_7 rfl ?_
  obtain ⟨hb_1, hf⟩ := gb_in hf
  refine g_bald F 0 0 (x1.toNatClampNeg) rfl rfl rfl hb_1 dJ1_charAt_3b067_8 ?_
  refine g_sipush F 255 dJ1_charAt_3b067_9 rfl ?_
  refine g_iand F dJ1_charAt_3b067_12 ?_
  refine g_i2c F dJ1_charAt_3b067_13 ?_
  cases hf
  exact g_zret (ty := .char) F rfl (pk_nc _) ⟨rfl, rfl, (pk_nc _)⟩ dJ1_charAt_3b067_14
set_option maxHeartbeats 4000000 in
set_option maxRecDepth 100000 in
theorem ctJ0_charAt_5068eW (l : Launch) (E : gE) (aO avalue : Nat → Nat) (n_val : Nat) (x1 : Int32) (value : (Nat → Int32)) (r : Int32) (hf : fJ0_charAt_5068eW n_val x1 value = some r) : gMet l yJ0_charAt_5068e wsJ0_charAt_5068e rmJ0_charAt_5068eW vwCl E [.ref (aO 0), .int x1] [sSTo E aO avalue , sArrB E avalue n_val value] (fun v w => v = some (.int r) ∧ w = [sSTo E aO avalue , sArrB E avalue n_val value] ∧ narrow .char (.int r) = .int r) 0 0 := by
  refine g_entry [some (.ref (aO 0)), some (.int x1)] (by decide) rfl (Nat.le_of_ble_eq_true rfl) rfl ?_
  intro p e s m below meth c A F hnm
  unfold fJ0_charAt_5068eW at hf
  refine g_aload_n F dJ0_charAt_5068e_0 rfl ?_
  obtain ⟨r_1, hg_1, hf⟩ := gb1_el hf
  refine g_callV (C := RJ0) (T := TJ0) (N := 4) (Lr := [sArrB E avalue n_val value]) (As := []) (rest := []) F 0 0 0 (ctJ0_isLatin1_aae02W l E aO avalue r_1 hg_1) gJ0_charAt_5068e_J0_isLatin1_aae02 rfl rfl rfl h0J0_isLatin1_aae02W ⟨Nat.le_of_ble_eq_true rfl, Nat.le_of_ble_eq_true rfl⟩ rfl rfl rfl [0] [1] rfl rfl rfl rfl rfl rfl (Nat.le_of_ble_eq_true rfl) dJ0_charAt_5068e_1 ⟨(Nat.le_of_ble_eq_true rfl), (Nat.le_of_ble_eq_true rfl)⟩ ?_
  rintro v w ⟨rfl, rfl, hz_1⟩
  refine g_norm (Lw' := [sSTo E aO avalue , sArrB E avalue n_val value]) (st' := [.int r_1]) (pc' := 4) [0, 1] rfl rfl rfl rfl ?_
  refine g_ifeq F 16 dJ0_charAt_5068e_4 (by decide) (fun hc_1 => ?_) (fun hc_1 => ?_)
  · replace hf := gi_t hc_1 hf
    cases hf
  · replace hf := gi_f hc_1 hf
    refine g_aload_n F dJ0_charAt_5068e_7 rfl ?_
    refine g_get (C := RJ0) (T := TJ0) (N := 4) F 0 0 0 rfl rfl rfl iJ0_charAt_5068eW_J0 (by decide) (by decide +kernel) rfl dJ0_charAt_5068e_8 ?_
    refine g_iload_n F dJ0_charAt_5068e_11 rfl ?_
    obtain ⟨r_2, hg_2, hf⟩ := gb1_el hf
    refine g_callS (Lr := [sSTo E aO avalue ]) (As := [.ref (avalue 0), .int x1]) (rest := []) F 2 (ctJ1_charAt_3b067W l E avalue n_val x1 value r_2 hg_2) (va_cwS 2 F.2.2.2.2.2.1 gJ0_charAt_5068e_J1_charAt_3b067 rfl rfl rfl h0J1_charAt_3b067W ⟨Nat.le_of_ble_eq_true rfl, Nat.le_of_ble_eq_true rfl⟩) [1] [0] rfl rfl rfl rfl rfl rfl (Nat.le_of_ble_eq_true rfl) dJ0_charAt_5068e_12 ⟨(Nat.le_of_ble_eq_true rfl), (Nat.le_of_ble_eq_true rfl)⟩ ?_
    rintro v w ⟨rfl, rfl, hz_2⟩
    refine g_norm (Lw' := [sSTo E aO avalue , sArrB E avalue n_val value]) (st' := [.int r_2]) (pc' := 15) [1, 0] rfl rfl rfl rfl ?_
    cases hf
    exact g_zret (ty := .char) F rfl hz_2 ⟨rfl, rfl, hz_2⟩ dJ0_charAt_5068e_15
set_option maxHeartbeats 4000000 in
set_option maxRecDepth 100000 in
theorem ctJ0_length_8abf5 (l : Launch) (E : gE) (i0 : Nat) (hi0 : i0 < 8) (r : Int32) (hf : fJ0_length_8abf5 i0 = some r) : gMet l yJ0_length_8abf5 wsJ0_length_8abf5 rmJ0_length_8abf5 vwCl E [.ref (E.2.2 i0)] [] (fun v w => v = some (.int r) ∧ w = []) 0 0 := by
  refine g_entry [some (.ref (E.2.2 i0))] (by decide) rfl (Nat.le_of_ble_eq_true rfl) rfl ?_
  intro p e s m below meth c A F hnm
  unfold fJ0_length_8abf5 at hf
  refine g_aload_n F dJ0_length_8abf5_0 rfl ?_
  refine g_strv F hi0 (by decide +kernel) dJ0_length_8abf5_1 ?_
  refine g_strl F hi0 dJ0_length_8abf5_4 ?_
  refine g_aload_n F dJ0_length_8abf5_5 rfl ?_
  obtain ⟨r_1, hg_1, hf⟩ := gb1_el hf
  refine g_callVs (Lr := []) (As := []) (rest := [.int (Int32.ofNat (gBy i0).length)]) F 0 hi0 (ctJ0_coder_7d493 l E i0 hi0 r_1 hg_1) gJ0_length_8abf5_J0_coder_7d493 rfl rfl rfl h0J0_coder_7d493 ⟨Nat.le_of_ble_eq_true rfl, Nat.le_of_ble_eq_true rfl⟩ [] [] rfl rfl rfl rfl rfl rfl (Nat.le_of_ble_eq_true rfl) dJ0_length_8abf5_6 ⟨(Nat.le_of_ble_eq_true rfl), (Nat.le_of_ble_eq_true rfl)⟩ ?_
  rintro v w ⟨rfl, rfl, hz_1⟩
  refine g_norm (Lw' := []) (st' := [.int r_1, .int (Int32.ofNat (gBy i0).length)]) (pc' := 9) [] rfl rfl rfl rfl ?_
  refine g_ishr F dJ0_length_8abf5_9 ?_
  cases hf
  exact g_iret F rfl ⟨rfl, rfl⟩ dJ0_length_8abf5_10
set_option maxHeartbeats 4000000 in
set_option maxRecDepth 100000 in
theorem ctJ0_isLatin1_aae02 (l : Launch) (E : gE) (i0 : Nat) (hi0 : i0 < 8) (r : Int32) (hf : fJ0_isLatin1_aae02 i0 = some r) : gMet l yJ0_isLatin1_aae02 wsJ0_isLatin1_aae02 rmJ0_isLatin1_aae02 vwCl E [.ref (E.2.2 i0)] [] (fun v w => v = some (.int r) ∧ w = [] ∧ narrow .boolean (.int r) = .int r) 0 0 := by
  refine g_entry [some (.ref (E.2.2 i0))] (by decide) rfl (Nat.le_of_ble_eq_true rfl) rfl ?_
  intro p e s m below meth c A F hnm
  unfold fJ0_isLatin1_aae02 at hf
  refine g_gets0 F (by decide +kernel) dJ0_isLatin1_aae02_0 ?_
  refine g_ifeq F 17 dJ0_isLatin1_aae02_3 (by decide) (fun hc_2 => ?_) (fun hc_2 => ?_)
  · replace hf := gi_t hc_2 hf
    refine g_iconst F 0 dJ0_isLatin1_aae02_17 rfl ?_
    cases hf
    exact g_zret (ty := .boolean) F rfl rfl ⟨rfl, rfl, rfl⟩ dJ0_isLatin1_aae02_18
  · replace hf := gi_f hc_2 hf
    refine g_aload_n F dJ0_isLatin1_aae02_6 rfl ?_
    refine g_strc F hi0 (by decide +kernel) dJ0_isLatin1_aae02_7 ?_
    refine g_ifne F 17 dJ0_isLatin1_aae02_10 (by decide) (fun hc_1 => ?_) (fun hc_1 => ?_)
    · replace hf := gi_f hc_1 hf
      refine g_iconst F 0 dJ0_isLatin1_aae02_17 rfl ?_
      cases hf
      exact g_zret (ty := .boolean) F rfl rfl ⟨rfl, rfl, rfl⟩ dJ0_isLatin1_aae02_18
    · replace hf := gi_t hc_1 hf
      refine g_iconst F 1 dJ0_isLatin1_aae02_13 rfl ?_
      refine g_goto F 18 dJ0_isLatin1_aae02_14 (by decide) ?_
      cases hf
      exact g_zret (ty := .boolean) F rfl rfl ⟨rfl, rfl, rfl⟩ dJ0_isLatin1_aae02_18
set_option maxHeartbeats 4000000 in
set_option maxRecDepth 100000 in
theorem ctJ1_charAt_3b067 (l : Launch) (E : gE) (i0 : Nat) (x1 : Int32) (hi0 : i0 < 8) (r : Int32) (hf : fJ1_charAt_3b067 i0 x1 = some r) : gMet l yJ1_charAt_3b067 wsJ1_charAt_3b067 rmJ1_charAt_3b067 vwCl E [.ref (E.2.2 (8 + i0)), .int x1] [] (fun v w => v = some (.int r) ∧ w = [] ∧ narrow .char (.int r) = .int r) 0 0 := by
  refine g_entry [some (.ref (E.2.2 (8 + i0))), some (.int x1)] (by decide) rfl (Nat.le_of_ble_eq_true rfl) rfl ?_
  intro p e s m below meth c A F hnm
  unfold fJ1_charAt_3b067 at hf
  refine g_iload_n F dJ1_charAt_3b067_0 rfl ?_
  refine g_aload_n F dJ1_charAt_3b067_1 rfl ?_
  refine g_strl F hi0 dJ1_charAt_3b067_2 ?_
  obtain ⟨hg_1, hf⟩ := gb0_el hf
  refine g_callS (Lr := []) (As := [.int x1, .int (Int32.ofNat (gBy i0).length)]) (rest := []) F 2 (ctJ0_checkIndex_df160 l E x1 (Int32.ofNat (gBy i0).length) hg_1) (va_cwS 2 F.2.2.2.2.2.1 gJ1_charAt_3b067_J0_checkIndex_df160 rfl rfl rfl h0J0_checkIndex_df160 ⟨Nat.le_of_ble_eq_true rfl, Nat.le_of_ble_eq_true rfl⟩) [] [] rfl rfl rfl rfl rfl rfl (Nat.le_of_ble_eq_true rfl) dJ1_charAt_3b067_3 ⟨(Nat.le_of_ble_eq_true rfl), (Nat.le_of_ble_eq_true rfl)⟩ ?_
  rintro v w ⟨rfl, rfl⟩
  refine g_norm (Lw' := []) (st' := []) (pc' := 6) [] rfl rfl rfl rfl ?_
  refine g_aload_n F dJ1_charAt_3b067_6 rfl ?_
  refine g_iload_n F dJ1_charAt_3b067_7 rfl ?_
  obtain ⟨hb_1, hf⟩ := gb_in hf
  refine g_strb F hi0 hb_1 dJ1_charAt_3b067_8 ?_
  refine g_sipush F 255 dJ1_charAt_3b067_9 rfl ?_
  refine g_iand F dJ1_charAt_3b067_12 ?_
  refine g_i2c F dJ1_charAt_3b067_13 ?_
  cases hf
  exact g_zret (ty := .char) F rfl (pk_nc _) ⟨rfl, rfl, (pk_nc _)⟩ dJ1_charAt_3b067_14
set_option maxHeartbeats 4000000 in
set_option maxRecDepth 100000 in
theorem ctJ0_charAt_5068e (l : Launch) (E : gE) (i0 : Nat) (x1 : Int32) (hi0 : i0 < 8) (r : Int32) (hf : fJ0_charAt_5068e i0 x1 = some r) : gMet l yJ0_charAt_5068e wsJ0_charAt_5068e rmJ0_charAt_5068e vwCl E [.ref (E.2.2 i0), .int x1] [] (fun v w => v = some (.int r) ∧ w = [] ∧ narrow .char (.int r) = .int r) 0 0 := by
  refine g_entry [some (.ref (E.2.2 i0)), some (.int x1)] (by decide) rfl (Nat.le_of_ble_eq_true rfl) rfl ?_
  intro p e s m below meth c A F hnm
  unfold fJ0_charAt_5068e at hf
  refine g_aload_n F dJ0_charAt_5068e_0 rfl ?_
  obtain ⟨r_1, hg_1, hf⟩ := gb1_el hf
  refine g_callVs (Lr := []) (As := []) (rest := []) F 0 hi0 (ctJ0_isLatin1_aae02 l E i0 hi0 r_1 hg_1) gJ0_charAt_5068e_J0_isLatin1_aae02 rfl rfl rfl h0J0_isLatin1_aae02 ⟨Nat.le_of_ble_eq_true rfl, Nat.le_of_ble_eq_true rfl⟩ [] [] rfl rfl rfl rfl rfl rfl (Nat.le_of_ble_eq_true rfl) dJ0_charAt_5068e_1 ⟨(Nat.le_of_ble_eq_true rfl), (Nat.le_of_ble_eq_true rfl)⟩ ?_
  rintro v w ⟨rfl, rfl, hz_1⟩
  refine g_norm (Lw' := []) (st' := [.int r_1]) (pc' := 4) [] rfl rfl rfl rfl ?_
  refine g_ifeq F 16 dJ0_charAt_5068e_4 (by decide) (fun hc_1 => ?_) (fun hc_1 => ?_)
  · replace hf := gi_t hc_1 hf
    cases hf
  · replace hf := gi_f hc_1 hf
    refine g_aload_n F dJ0_charAt_5068e_7 rfl ?_
    refine g_strv F hi0 (by decide +kernel) dJ0_charAt_5068e_8 ?_
    refine g_iload_n F dJ0_charAt_5068e_11 rfl ?_
    obtain ⟨r_2, hg_2, hf⟩ := gb1_el hf
    refine g_callS (Lr := []) (As := [.ref (E.2.2 (8 + i0)), .int x1]) (rest := []) F 2 (ctJ1_charAt_3b067 l E i0 x1 hi0 r_2 hg_2) (va_cwS 2 F.2.2.2.2.2.1 gJ0_charAt_5068e_J1_charAt_3b067 rfl rfl rfl h0J1_charAt_3b067 ⟨Nat.le_of_ble_eq_true rfl, Nat.le_of_ble_eq_true rfl⟩) [] [] rfl rfl rfl rfl rfl rfl (Nat.le_of_ble_eq_true rfl) dJ0_charAt_5068e_12 ⟨(Nat.le_of_ble_eq_true rfl), (Nat.le_of_ble_eq_true rfl)⟩ ?_
    rintro v w ⟨rfl, rfl, hz_2⟩
    refine g_norm (Lw' := []) (st' := [.int r_2]) (pc' := 15) [] rfl rfl rfl rfl ?_
    cases hf
    exact g_zret (ty := .char) F rfl hz_2 ⟨rfl, rfl, hz_2⟩ dJ0_charAt_5068e_15
set_option maxHeartbeats 4000000 in
set_option maxRecDepth 100000 in
theorem ktX4_spell_L2 {p : Program} {l : Launch} {e : Env} {s : State} {m : MethodId} {args : Array Value} {below : List Frame} {meth : Method} {c : Code} {E : gE} {A : Nat → Prop} (F : gFx p s m args meth c RX4 wsX4_spell cX4_spell 4 (some .boolean) vwCl E A) (i2 : Nat) (hi2 : i2 < 8) (x0 : Int64) (r : Int32) {k : Option (Int32)} (hk : k = some r → Gj p l e rmX4_spell s m args below meth c 0 0 (MQ below (gQ vwCl E A (fun v w => v = some (.int r) ∧ w = [] ∧ narrow .boolean (.int r) = .int r)) args s 0 0 A) vwCl E A [] [some (.long x0), none, some (.ref (E.2.2 i2)), none] [] 34) : ∀ (n : Nat) (x3 : Int32), fX4_spell_L2 i2 x0 k n x3 = some r → Gj p l e rmX4_spell s m args below meth c 0 0 (MQ below (gQ vwCl E A (fun v w => v = some (.int r) ∧ w = [] ∧ narrow .boolean (.int r) = .int r)) args s 0 0 A) vwCl E A [] [some (.long x0), none, some (.ref (E.2.2 i2)), some (.int x3)] [] 2
  | 0, _, hf => by cases hf
  | n + 1, x3, hf => by
    have ih := ktX4_spell_L2 F  i2 hi2 x0 r hk n
    rw [fX4_spell_L2] at hf
    refine g_iload_n F dX4_spell_2 rfl ?_
    refine g_aload_n F dX4_spell_3 rfl ?_
    obtain ⟨r_1, hg_1, hf⟩ := gb1_el hf
    refine g_callVs (Lr := []) (As := []) (rest := [.int x3]) F 0 hi2 (ctJ0_length_8abf5 l E i2 hi2 r_1 hg_1) gX4_spell_J0_length_8abf5 rfl rfl rfl h0J0_length_8abf5 ⟨Nat.le_of_ble_eq_true rfl, Nat.le_of_ble_eq_true rfl⟩ [] [] rfl rfl rfl rfl rfl rfl (Nat.le_of_ble_eq_true rfl) dX4_spell_4 ⟨(Nat.le_of_ble_eq_true rfl), (Nat.le_of_ble_eq_true rfl)⟩ ?_
    rintro v w ⟨rfl, rfl⟩
    refine g_norm (Lw' := []) (st' := [.int r_1, .int x3]) (pc' := 7) [] rfl rfl rfl rfl ?_
    refine g_icmp_ge F 34 dX4_spell_7 (by decide) (fun hc_2 => ?_) (fun hc_2 => ?_)
    · replace hf := gi_t hc_2 hf
      refine g_mask [true, true, true, false] rfl ?_
      exact hk hf
    · replace hf := gi_f hc_2 hf
      refine g_lload_n F dX4_spell_10 rfl ?_
      refine g_iload_n F dX4_spell_11 rfl ?_
      obtain ⟨r_2, hg_2, hf⟩ := gb1_el hf
      refine g_callS (Lr := []) (As := [.long x0, .int x3]) (rest := []) F 2 (ctX4_letterAt l E x0 x3 r_2 hg_2) (va_cwS 2 F.2.2.2.2.2.1 gX4_spell_X4_letterAt rfl rfl rfl h0X4_letterAt ⟨Nat.le_of_ble_eq_true rfl, Nat.le_of_ble_eq_true rfl⟩) [] [] rfl rfl rfl rfl rfl rfl (Nat.le_of_ble_eq_true rfl) dX4_spell_12 ⟨(Nat.le_of_ble_eq_true rfl), (Nat.le_of_ble_eq_true rfl)⟩ ?_
      rintro v w ⟨rfl, rfl⟩
      refine g_norm (Lw' := []) (st' := [.int r_2]) (pc' := 15) [] rfl rfl rfl rfl ?_
      refine g_aload_n F dX4_spell_15 rfl ?_
      refine g_iload_n F dX4_spell_16 rfl ?_
      obtain ⟨r_3, hg_3, hf⟩ := gb1_el hf
      refine g_callVs (Lr := []) (As := [.int x3]) (rest := [.int r_2]) F 1 hi2 (ctJ0_charAt_5068e l E i2 x3 hi2 r_3 hg_3) gX4_spell_J0_charAt_5068e rfl rfl rfl h0J0_charAt_5068e ⟨Nat.le_of_ble_eq_true rfl, Nat.le_of_ble_eq_true rfl⟩ [] [] rfl rfl rfl rfl rfl rfl (Nat.le_of_ble_eq_true rfl) dX4_spell_17 ⟨(Nat.le_of_ble_eq_true rfl), (Nat.le_of_ble_eq_true rfl)⟩ ?_
      rintro v w ⟨rfl, rfl, hz_1⟩
      refine g_norm (Lw' := []) (st' := [.int r_3, .int r_2]) (pc' := 20) [] rfl rfl rfl rfl ?_
      refine g_bipush F 97 dX4_spell_20 rfl ?_
      refine g_isub F dX4_spell_22 ?_
      refine g_icmp_eq F 28 dX4_spell_23 (by decide) (fun hc_1 => ?_) (fun hc_1 => ?_)
      · replace hf := gi_t hc_1 hf
        refine g_iinc (lv' := [some (.long x0), none, some (.ref (E.2.2 i2)), some (.int (x3 + 1))]) F (x3 + 1) dX4_spell_28 rfl rfl rfl rfl ?_
        refine g_goto F 2 dX4_spell_31 (by decide) ?_
        exact ih (x3 + 1) hf
      · replace hf := gi_f hc_1 hf
        refine g_iconst F 0 dX4_spell_26 rfl ?_
        cases hf
        exact g_zret (ty := .boolean) F rfl rfl ⟨rfl, rfl, rfl⟩ dX4_spell_27
set_option maxHeartbeats 4000000 in
set_option maxRecDepth 100000 in
theorem ctX4_spell (l : Launch) (E : gE) (i2 : Nat) (x0 : Int64) (hi2 : i2 < 8) (r : Int32) (hf : fX4_spell i2 x0 = some r) : gMet l yX4_spell wsX4_spell rmX4_spell vwCl E [.long x0, .ref (E.2.2 i2)] [] (fun v w => v = some (.int r) ∧ w = [] ∧ narrow .boolean (.int r) = .int r) 0 0 := by
  refine g_entry [some (.long x0), none, some (.ref (E.2.2 i2)), none] (by decide) rfl (Nat.le_of_ble_eq_true rfl) rfl ?_
  intro p e s m below meth c A F hnm
  unfold fX4_spell at hf
  refine g_iconst F 0 dX4_spell_0 rfl ?_
  refine g_istore_n (lv' := [some (.long x0), none, some (.ref (E.2.2 i2)), some (.int 0)]) F dX4_spell_1 (Nat.le_of_ble_eq_true rfl) rfl rfl ?_
  refine ktX4_spell_L2 F  i2 hi2 x0 r (fun hf => ?_) FU 0 hf
  refine g_lload_n F dX4_spell_34 rfl ?_
  obtain ⟨r_1, hg_1, hf⟩ := gb1_el hf
  refine g_callS (Lr := []) (As := [.long x0]) (rest := []) F 1 (ctX4_lengthOf l E x0 r_1 hg_1) (va_cwS 1 F.2.2.2.2.2.1 gX4_spell_X4_lengthOf rfl rfl rfl h0X4_lengthOf ⟨Nat.le_of_ble_eq_true rfl, Nat.le_of_ble_eq_true rfl⟩) [] [] rfl rfl rfl rfl rfl rfl (Nat.le_of_ble_eq_true rfl) dX4_spell_35 ⟨(Nat.le_of_ble_eq_true rfl), (Nat.le_of_ble_eq_true rfl)⟩ ?_
  rintro v w ⟨rfl, rfl⟩
  refine g_norm (Lw' := []) (st' := [.int r_1]) (pc' := 38) [] rfl rfl rfl rfl ?_
  refine g_aload_n F dX4_spell_38 rfl ?_
  obtain ⟨r_2, hg_2, hf⟩ := gb1_el hf
  refine g_callVs (Lr := []) (As := []) (rest := [.int r_1]) F 0 hi2 (ctJ0_length_8abf5 l E i2 hi2 r_2 hg_2) gX4_spell_J0_length_8abf5 rfl rfl rfl h0J0_length_8abf5 ⟨Nat.le_of_ble_eq_true rfl, Nat.le_of_ble_eq_true rfl⟩ [] [] rfl rfl rfl rfl rfl rfl (Nat.le_of_ble_eq_true rfl) dX4_spell_39 ⟨(Nat.le_of_ble_eq_true rfl), (Nat.le_of_ble_eq_true rfl)⟩ ?_
  rintro v w ⟨rfl, rfl⟩
  refine g_norm (Lw' := []) (st' := [.int r_2, .int r_1]) (pc' := 42) [] rfl rfl rfl rfl ?_
  refine g_icmp_ne F 49 dX4_spell_42 (by decide) (fun hc_1 => ?_) (fun hc_1 => ?_)
  · replace hf := gi_f hc_1 hf
    refine g_iconst F 0 dX4_spell_49 rfl ?_
    cases hf
    exact g_zret (ty := .boolean) F rfl rfl ⟨rfl, rfl, rfl⟩ dX4_spell_50
  · replace hf := gi_t hc_1 hf
    refine g_iconst F 1 dX4_spell_45 rfl ?_
    refine g_goto F 50 dX4_spell_46 (by decide) ?_
    cases hf
    exact g_zret (ty := .boolean) F rfl rfl ⟨rfl, rfl, rfl⟩ dX4_spell_50
