abbrev rmX4_lengthOf : Room := { frames := 0, cells := 0, slots := 0, locals := 0 }
theorem h0X4_lengthOf : yX4_lengthOf.cls ≠ "java/lang/invoke/MethodHandle" ∧ yX4_lengthOf.cls ≠ "java/lang/invoke/VarHandle" ∧ (parseMethodDescriptor yX4_lengthOf.desc).map (fun d => d.parameters.length) = some 1 := by decide +kernel
abbrev rmX4_section : Room := { frames := 0, cells := 0, slots := 0, locals := 0 }
theorem h0X4_section : yX4_section.cls ≠ "java/lang/invoke/MethodHandle" ∧ yX4_section.cls ≠ "java/lang/invoke/VarHandle" ∧ (parseMethodDescriptor yX4_section.desc).map (fun d => d.parameters.length) = some 3 := by decide +kernel
abbrev rmX6_numberOf : Room := { frames := 0, cells := 0, slots := 0, locals := 0 }
theorem iX6_numberOf_X6 : ∀ w ∈ u_ws RX6 TX6 6, w ∈ wsX6_numberOf := by decide +kernel
theorem h0X6_numberOf : yX6_numberOf.cls = RX6 ∧ yX6_numberOf.cls ≠ "java/lang/invoke/MethodHandle" ∧ yX6_numberOf.cls ≠ "java/lang/invoke/VarHandle" ∧ (parseMethodDescriptor yX6_numberOf.desc).map (fun d => d.parameters.length) = some 1 := by decide +kernel
abbrev rmX7_copyFrom : Room := { frames := 1, cells := 0, slots := 0, locals := 30 }
theorem iX7_copyFrom_X7 : ∀ w ∈ u_ws RX7 TX7 3, w ∈ wsX7_copyFrom := by decide +kernel
theorem h0X7_copyFrom : yX7_copyFrom.cls = RX7 ∧ yX7_copyFrom.cls ≠ "java/lang/invoke/MethodHandle" ∧ yX7_copyFrom.cls ≠ "java/lang/invoke/VarHandle" ∧ (parseMethodDescriptor yX7_copyFrom.desc).map (fun d => d.parameters.length) = some 1 := by decide +kernel
abbrev rmX6_copyFrom : Room := { frames := 1, cells := 0, slots := 0, locals := 30 }
theorem iX6_copyFrom_X6 : ∀ w ∈ u_ws RX6 TX6 6, w ∈ wsX6_copyFrom := by decide +kernel
theorem h0X6_copyFrom : yX6_copyFrom.cls = RX6 ∧ yX6_copyFrom.cls ≠ "java/lang/invoke/MethodHandle" ∧ yX6_copyFrom.cls ≠ "java/lang/invoke/VarHandle" ∧ (parseMethodDescriptor yX6_copyFrom.desc).map (fun d => d.parameters.length) = some 1 := by decide +kernel
abbrev rmX8_copyFrom : Room := { frames := 1, cells := 0, slots := 0, locals := 30 }
theorem iX8_copyFrom_X8 : ∀ w ∈ u_ws RX8 TX8 5, w ∈ wsX8_copyFrom := by decide +kernel
theorem h0X8_copyFrom : yX8_copyFrom.cls = RX8 ∧ yX8_copyFrom.cls ≠ "java/lang/invoke/MethodHandle" ∧ yX8_copyFrom.cls ≠ "java/lang/invoke/VarHandle" ∧ (parseMethodDescriptor yX8_copyFrom.desc).map (fun d => d.parameters.length) = some 1 := by decide +kernel
abbrev rmX8_isFull : Room := { frames := 0, cells := 0, slots := 0, locals := 0 }
theorem iX8_isFull_X8 : ∀ w ∈ u_ws RX8 TX8 5, w ∈ wsX8_isFull := by decide +kernel
theorem h0X8_isFull : yX8_isFull.cls = RX8 ∧ yX8_isFull.cls ≠ "java/lang/invoke/MethodHandle" ∧ yX8_isFull.cls ≠ "java/lang/invoke/VarHandle" ∧ (parseMethodDescriptor yX8_isFull.desc).map (fun d => d.parameters.length) = some 0 := by decide +kernel
abbrev rmX7_coinsOf : Room := { frames := 0, cells := 0, slots := 0, locals := 0 }
theorem iX7_coinsOf_X7 : ∀ w ∈ u_ws RX7 TX7 3, w ∈ wsX7_coinsOf := by decide +kernel
theorem h0X7_coinsOf : yX7_coinsOf.cls = RX7 ∧ yX7_coinsOf.cls ≠ "java/lang/invoke/MethodHandle" ∧ yX7_coinsOf.cls ≠ "java/lang/invoke/VarHandle" ∧ (parseMethodDescriptor yX7_coinsOf.desc).map (fun d => d.parameters.length) = some 1 := by decide +kernel
abbrev rmX8_add : Room := { frames := 0, cells := 0, slots := 0, locals := 0 }
theorem iX8_add_X8 : ∀ w ∈ u_ws RX8 TX8 5, w ∈ wsX8_add := by decide +kernel
theorem h0X8_add : yX8_add.cls = RX8 ∧ yX8_add.cls ≠ "java/lang/invoke/MethodHandle" ∧ yX8_add.cls ≠ "java/lang/invoke/VarHandle" ∧ (parseMethodDescriptor yX8_add.desc).map (fun d => d.parameters.length) = some 2 := by decide +kernel
abbrev rmX7_give : Room := { frames := 0, cells := 0, slots := 0, locals := 0 }
theorem iX7_give_X7 : ∀ w ∈ u_ws RX7 TX7 3, w ∈ wsX7_give := by decide +kernel
theorem h0X7_give : yX7_give.cls = RX7 ∧ yX7_give.cls ≠ "java/lang/invoke/MethodHandle" ∧ yX7_give.cls ≠ "java/lang/invoke/VarHandle" ∧ (parseMethodDescriptor yX7_give.desc).map (fun d => d.parameters.length) = some 2 := by decide +kernel
abbrev rmX6_add : Room := { frames := 0, cells := 0, slots := 0, locals := 0 }
theorem iX6_add_X6 : ∀ w ∈ u_ws RX6 TX6 6, w ∈ wsX6_add := by decide +kernel
theorem h0X6_add : yX6_add.cls = RX6 ∧ yX6_add.cls ≠ "java/lang/invoke/MethodHandle" ∧ yX6_add.cls ≠ "java/lang/invoke/VarHandle" ∧ (parseMethodDescriptor yX6_add.desc).map (fun d => d.parameters.length) = some 4 := by decide +kernel
abbrev rmX8_addPart : Room := { frames := 0, cells := 0, slots := 0, locals := 0 }
theorem iX8_addPart_X8 : ∀ w ∈ u_ws RX8 TX8 5, w ∈ wsX8_addPart := by decide +kernel
theorem h0X8_addPart : yX8_addPart.cls = RX8 ∧ yX8_addPart.cls ≠ "java/lang/invoke/MethodHandle" ∧ yX8_addPart.cls ≠ "java/lang/invoke/VarHandle" ∧ (parseMethodDescriptor yX8_addPart.desc).map (fun d => d.parameters.length) = some 2 := by decide +kernel
abbrev rmX6_beginUse : Room := { frames := 0, cells := 0, slots := 0, locals := 0 }
theorem iX6_beginUse_X6 : ∀ w ∈ u_ws RX6 TX6 6, w ∈ wsX6_beginUse := by decide +kernel
theorem h0X6_beginUse : yX6_beginUse.cls = RX6 ∧ yX6_beginUse.cls ≠ "java/lang/invoke/MethodHandle" ∧ yX6_beginUse.cls ≠ "java/lang/invoke/VarHandle" ∧ (parseMethodDescriptor yX6_beginUse.desc).map (fun d => d.parameters.length) = some 1 := by decide +kernel
abbrev rmX8_partAt : Room := { frames := 0, cells := 0, slots := 0, locals := 0 }
theorem iX8_partAt_X8 : ∀ w ∈ u_ws RX8 TX8 5, w ∈ wsX8_partAt := by decide +kernel
theorem h0X8_partAt : yX8_partAt.cls = RX8 ∧ yX8_partAt.cls ≠ "java/lang/invoke/MethodHandle" ∧ yX8_partAt.cls ≠ "java/lang/invoke/VarHandle" ∧ (parseMethodDescriptor yX8_partAt.desc).map (fun d => d.parameters.length) = some 2 := by decide +kernel
abbrev rmX6_endUse : Room := { frames := 0, cells := 0, slots := 0, locals := 0 }
theorem iX6_endUse_X6 : ∀ w ∈ u_ws RX6 TX6 6, w ∈ wsX6_endUse := by decide +kernel
theorem h0X6_endUse : yX6_endUse.cls = RX6 ∧ yX6_endUse.cls ≠ "java/lang/invoke/MethodHandle" ∧ yX6_endUse.cls ≠ "java/lang/invoke/VarHandle" ∧ (parseMethodDescriptor yX6_endUse.desc).map (fun d => d.parameters.length) = some 2 := by decide +kernel
abbrev rmX8_drop : Room := { frames := 1, cells := 0, slots := 0, locals := 30 }
theorem iX8_drop_X8 : ∀ w ∈ u_ws RX8 TX8 5, w ∈ wsX8_drop := by decide +kernel
theorem h0X8_drop : yX8_drop.cls = RX8 ∧ yX8_drop.cls ≠ "java/lang/invoke/MethodHandle" ∧ yX8_drop.cls ≠ "java/lang/invoke/VarHandle" ∧ (parseMethodDescriptor yX8_drop.desc).map (fun d => d.parameters.length) = some 1 := by decide +kernel
abbrev rmX8_clearParts : Room := { frames := 0, cells := 0, slots := 0, locals := 0 }
theorem iX8_clearParts_X8 : ∀ w ∈ u_ws RX8 TX8 5, w ∈ wsX8_clearParts := by decide +kernel
theorem h0X8_clearParts : yX8_clearParts.cls = RX8 ∧ yX8_clearParts.cls ≠ "java/lang/invoke/MethodHandle" ∧ yX8_clearParts.cls ≠ "java/lang/invoke/VarHandle" ∧ (parseMethodDescriptor yX8_clearParts.desc).map (fun d => d.parameters.length) = some 1 := by decide +kernel
abbrev rmX6_goesBack : Room := { frames := 0, cells := 0, slots := 0, locals := 0 }
theorem iX6_goesBack_X6 : ∀ w ∈ u_ws RX6 TX6 6, w ∈ wsX6_goesBack := by decide +kernel
theorem h0X6_goesBack : yX6_goesBack.cls = RX6 ∧ yX6_goesBack.cls ≠ "java/lang/invoke/MethodHandle" ∧ yX6_goesBack.cls ≠ "java/lang/invoke/VarHandle" ∧ (parseMethodDescriptor yX6_goesBack.desc).map (fun d => d.parameters.length) = some 3 := by decide +kernel
abbrev rmX6_drop : Room := { frames := 1, cells := 0, slots := 0, locals := 30 }
theorem iX6_drop_X6 : ∀ w ∈ u_ws RX6 TX6 6, w ∈ wsX6_drop := by decide +kernel
theorem h0X6_drop : yX6_drop.cls = RX6 ∧ yX6_drop.cls ≠ "java/lang/invoke/MethodHandle" ∧ yX6_drop.cls ≠ "java/lang/invoke/VarHandle" ∧ (parseMethodDescriptor yX6_drop.desc).map (fun d => d.parameters.length) = some 1 := by decide +kernel
abbrev rmX8_closeGap : Room := { frames := 0, cells := 0, slots := 0, locals := 0 }
theorem iX8_closeGap_X8 : ∀ w ∈ u_ws RX8 TX8 5, w ∈ wsX8_closeGap := by decide +kernel
theorem h0X8_closeGap : yX8_closeGap.cls = RX8 ∧ yX8_closeGap.cls ≠ "java/lang/invoke/MethodHandle" ∧ yX8_closeGap.cls ≠ "java/lang/invoke/VarHandle" ∧ (parseMethodDescriptor yX8_closeGap.desc).map (fun d => d.parameters.length) = some 1 := by decide +kernel
abbrev rmX4_join : Room := { frames := 0, cells := 0, slots := 0, locals := 0 }
theorem h0X4_join : yX4_join.cls ≠ "java/lang/invoke/MethodHandle" ∧ yX4_join.cls ≠ "java/lang/invoke/VarHandle" ∧ (parseMethodDescriptor yX4_join.desc).map (fun d => d.parameters.length) = some 3 := by decide +kernel
abbrev rmX8_usesIn : Room := { frames := 1, cells := 0, slots := 0, locals := 22 }
theorem iX8_usesIn_X8 : ∀ w ∈ u_ws RX8 TX8 5, w ∈ wsX8_usesIn := by decide +kernel
theorem h0X8_usesIn : yX8_usesIn.cls = RX8 ∧ yX8_usesIn.cls ≠ "java/lang/invoke/MethodHandle" ∧ yX8_usesIn.cls ≠ "java/lang/invoke/VarHandle" ∧ (parseMethodDescriptor yX8_usesIn.desc).map (fun d => d.parameters.length) = some 2 := by decide +kernel
abbrev rmX4_isLetter : Room := { frames := 0, cells := 0, slots := 0, locals := 0 }
theorem h0X4_isLetter : yX4_isLetter.cls ≠ "java/lang/invoke/MethodHandle" ∧ yX4_isLetter.cls ≠ "java/lang/invoke/VarHandle" ∧ (parseMethodDescriptor yX4_isLetter.desc).map (fun d => d.parameters.length) = some 1 := by decide +kernel
abbrev rmX4_read : Room := { frames := 0, cells := 0, slots := 0, locals := 0 }
theorem h0X4_read : yX4_read.cls ≠ "java/lang/invoke/MethodHandle" ∧ yX4_read.cls ≠ "java/lang/invoke/VarHandle" ∧ (parseMethodDescriptor yX4_read.desc).map (fun d => d.parameters.length) = some 3 := by decide +kernel
abbrev rmX4_letterAt : Room := { frames := 0, cells := 0, slots := 0, locals := 0 }
theorem h0X4_letterAt : yX4_letterAt.cls ≠ "java/lang/invoke/MethodHandle" ∧ yX4_letterAt.cls ≠ "java/lang/invoke/VarHandle" ∧ (parseMethodDescriptor yX4_letterAt.desc).map (fun d => d.parameters.length) = some 2 := by decide +kernel
abbrev rmX7_isFull : Room := { frames := 0, cells := 0, slots := 0, locals := 0 }
theorem iX7_isFull_X7 : ∀ w ∈ u_ws RX7 TX7 3, w ∈ wsX7_isFull := by decide +kernel
theorem h0X7_isFull : yX7_isFull.cls = RX7 ∧ yX7_isFull.cls ≠ "java/lang/invoke/MethodHandle" ∧ yX7_isFull.cls ≠ "java/lang/invoke/VarHandle" ∧ (parseMethodDescriptor yX7_isFull.desc).map (fun d => d.parameters.length) = some 0 := by decide +kernel
abbrev rmX7_numberOf : Room := { frames := 0, cells := 0, slots := 0, locals := 0 }
theorem iX7_numberOf_X7 : ∀ w ∈ u_ws RX7 TX7 3, w ∈ wsX7_numberOf := by decide +kernel
theorem h0X7_numberOf : yX7_numberOf.cls = RX7 ∧ yX7_numberOf.cls ≠ "java/lang/invoke/MethodHandle" ∧ yX7_numberOf.cls ≠ "java/lang/invoke/VarHandle" ∧ (parseMethodDescriptor yX7_numberOf.desc).map (fun d => d.parameters.length) = some 1 := by decide +kernel
abbrev rmX7_add : Room := { frames := 0, cells := 0, slots := 0, locals := 0 }
theorem iX7_add_X7 : ∀ w ∈ u_ws RX7 TX7 3, w ∈ wsX7_add := by decide +kernel
theorem h0X7_add : yX7_add.cls = RX7 ∧ yX7_add.cls ≠ "java/lang/invoke/MethodHandle" ∧ yX7_add.cls ≠ "java/lang/invoke/VarHandle" ∧ (parseMethodDescriptor yX7_add.desc).map (fun d => d.parameters.length) = some 2 := by decide +kernel
abbrev rmX6_isFull : Room := { frames := 0, cells := 0, slots := 0, locals := 0 }
theorem iX6_isFull_X6 : ∀ w ∈ u_ws RX6 TX6 6, w ∈ wsX6_isFull := by decide +kernel
theorem h0X6_isFull : yX6_isFull.cls = RX6 ∧ yX6_isFull.cls ≠ "java/lang/invoke/MethodHandle" ∧ yX6_isFull.cls ≠ "java/lang/invoke/VarHandle" ∧ (parseMethodDescriptor yX6_isFull.desc).map (fun d => d.parameters.length) = some 0 := by decide +kernel
abbrev rmX6_ownedBy : Room := { frames := 0, cells := 0, slots := 0, locals := 0 }
theorem iX6_ownedBy_X6 : ∀ w ∈ u_ws RX6 TX6 6, w ∈ wsX6_ownedBy := by decide +kernel
theorem h0X6_ownedBy : yX6_ownedBy.cls = RX6 ∧ yX6_ownedBy.cls ≠ "java/lang/invoke/MethodHandle" ∧ yX6_ownedBy.cls ≠ "java/lang/invoke/VarHandle" ∧ (parseMethodDescriptor yX6_ownedBy.desc).map (fun d => d.parameters.length) = some 1 := by decide +kernel
abbrev rmX6_pricesPaidBy : Room := { frames := 0, cells := 0, slots := 0, locals := 0 }
theorem iX6_pricesPaidBy_X6 : ∀ w ∈ u_ws RX6 TX6 6, w ∈ wsX6_pricesPaidBy := by decide +kernel
theorem h0X6_pricesPaidBy : yX6_pricesPaidBy.cls = RX6 ∧ yX6_pricesPaidBy.cls ≠ "java/lang/invoke/MethodHandle" ∧ yX6_pricesPaidBy.cls ≠ "java/lang/invoke/VarHandle" ∧ (parseMethodDescriptor yX6_pricesPaidBy.desc).map (fun d => d.parameters.length) = some 1 := by decide +kernel
abbrev rmX6_mostUsed : Room := { frames := 0, cells := 0, slots := 0, locals := 0 }
theorem iX6_mostUsed_X6 : ∀ w ∈ u_ws RX6 TX6 6, w ∈ wsX6_mostUsed := by decide +kernel
theorem h0X6_mostUsed : yX6_mostUsed.cls = RX6 ∧ yX6_mostUsed.cls ≠ "java/lang/invoke/MethodHandle" ∧ yX6_mostUsed.cls ≠ "java/lang/invoke/VarHandle" ∧ (parseMethodDescriptor yX6_mostUsed.desc).map (fun d => d.parameters.length) = some 0 := by decide +kernel
abbrev rmX8_numberOf : Room := { frames := 0, cells := 0, slots := 0, locals := 0 }
theorem iX8_numberOf_X8 : ∀ w ∈ u_ws RX8 TX8 5, w ∈ wsX8_numberOf := by decide +kernel
theorem h0X8_numberOf : yX8_numberOf.cls = RX8 ∧ yX8_numberOf.cls ≠ "java/lang/invoke/MethodHandle" ∧ yX8_numberOf.cls ≠ "java/lang/invoke/VarHandle" ∧ (parseMethodDescriptor yX8_numberOf.desc).map (fun d => d.parameters.length) = some 1 := by decide +kernel
abbrev rmX8_countOf : Room := { frames := 0, cells := 0, slots := 0, locals := 0 }
theorem iX8_countOf_X8 : ∀ w ∈ u_ws RX8 TX8 5, w ∈ wsX8_countOf := by decide +kernel
theorem h0X8_countOf : yX8_countOf.cls = RX8 ∧ yX8_countOf.cls ≠ "java/lang/invoke/MethodHandle" ∧ yX8_countOf.cls ≠ "java/lang/invoke/VarHandle" ∧ (parseMethodDescriptor yX8_countOf.desc).map (fun d => d.parameters.length) = some 1 := by decide +kernel
def fX4_lengthOf_L2 (x0 : Int64) (k : Int32 → Option (Int32)) : Nat → Int32 → Option (Int32)
  | 0, _ => none
  | n + 1, x2 => if 12 ≤ x2 then (k x2) else (if (lg_cmp (glush x0 (5 * x2)) 0) = 0 then (k x2) else (fX4_lengthOf_L2 x0 k n (x2 + 1)))
def fX4_lengthOf (x0 : Int64) : Option (Int32) := fX4_lengthOf_L2 x0 (fun (x2_1 : Int32) => (some x2_1)) FU 0
def fX4_section (x0 : Int64) (x2 : Int32) (x3 : Int32) : Option (Int64) := some ((glush x0 (5 * x2)) &&& ((glshl 1 (5 * x3)) - 1))
def fX6_numberOf_L2 (x1 : Int64) (P : tPieces) (k : Option (Int32)) : Nat → Int32 → Option (Int32)
  | 0, _ => none
  | n + 1, x3 => if P.1 ≤ x3 then (k) else (if x3 < 0 ∨ 24 ≤ x3.toNatClampNeg then none else if (lg_cmp (P.2.1 (x3.toNatClampNeg)) x1) = 0 then (some x3) else (fX6_numberOf_L2 x1 P k n (x3 + 1)))
def fX6_numberOf (x1 : Int64) (P : tPieces) : Option (Int32) := fX6_numberOf_L2 x1 P (some (-1)) FU 0
def fX7_copyFrom (U : tUsers) (U2 : tUsers) : Option (tUsers) := if (0 : Int32) < 0 ∨ (0 : Int32) < 0 ∨ U2.1 < 0 ∨ 4 < 0 + U2.1.toNatClampNeg ∨ 4 < 0 + U2.1.toNatClampNeg then none else Lt (U2.1, va_cpy U2.2.1 U.2.1 0 0 U2.1.toNatClampNeg, U.2.2) fun (U_1 : tUsers) => if (0 : Int32) < 0 ∨ (0 : Int32) < 0 ∨ U_1.1 < 0 ∨ 4 < 0 + U_1.1.toNatClampNeg ∨ 4 < 0 + U_1.1.toNatClampNeg then none else Lt (U_1.1, U_1.2.1, va_cpy U2.2.2 U_1.2.2 0 0 U_1.1.toNatClampNeg) fun (U_2 : tUsers) => some U_2
def fX6_copyFrom (P : tPieces) (P2 : tPieces) : Option (tPieces) := if (0 : Int32) < 0 ∨ (0 : Int32) < 0 ∨ P2.1 < 0 ∨ 24 < 0 + P2.1.toNatClampNeg ∨ 24 < 0 + P2.1.toNatClampNeg then none else Lt (P2.1, va_cpy P2.2.1 P.2.1 0 0 P2.1.toNatClampNeg, P.2.2.1, P.2.2.2.1, P.2.2.2.2.1, P.2.2.2.2.2) fun (P_1 : tPieces) => if (0 : Int32) < 0 ∨ (0 : Int32) < 0 ∨ P_1.1 < 0 ∨ 24 < 0 + P_1.1.toNatClampNeg ∨ 24 < 0 + P_1.1.toNatClampNeg then none else Lt (P_1.1, P_1.2.1, va_cpy P2.2.2.1 P_1.2.2.1 0 0 P_1.1.toNatClampNeg, P_1.2.2.2.1, P_1.2.2.2.2.1, P_1.2.2.2.2.2) fun (P_2 : tPieces) => if (0 : Int32) < 0 ∨ (0 : Int32) < 0 ∨ P_2.1 < 0 ∨ 24 < 0 + P_2.1.toNatClampNeg ∨ 24 < 0 + P_2.1.toNatClampNeg then none else Lt (P_2.1, P_2.2.1, P_2.2.2.1, va_cpy P2.2.2.2.1 P_2.2.2.2.1 0 0 P_2.1.toNatClampNeg, P_2.2.2.2.2.1, P_2.2.2.2.2.2) fun (P_3 : tPieces) => if (0 : Int32) < 0 ∨ (0 : Int32) < 0 ∨ P_3.1 < 0 ∨ 24 < 0 + P_3.1.toNatClampNeg ∨ 24 < 0 + P_3.1.toNatClampNeg then none else Lt (P_3.1, P_3.2.1, P_3.2.2.1, P_3.2.2.2.1, va_cpy P2.2.2.2.2.1 P_3.2.2.2.2.1 0 0 P_3.1.toNatClampNeg, P_3.2.2.2.2.2) fun (P_4 : tPieces) => if (0 : Int32) < 0 ∨ (0 : Int32) < 0 ∨ P_4.1 < 0 ∨ 24 < 0 + P_4.1.toNatClampNeg ∨ 24 < 0 + P_4.1.toNatClampNeg then none else Lt (P_4.1, P_4.2.1, P_4.2.2.1, P_4.2.2.2.1, P_4.2.2.2.2.1, va_cpy P2.2.2.2.2.2 P_4.2.2.2.2.2 0 0 P_4.1.toNatClampNeg) fun (P_5 : tPieces) => some P_5
def fX8_copyFrom (W : tWords) (W2 : tWords) : Option (tWords) := if (0 : Int32) < 0 ∨ (0 : Int32) < 0 ∨ W2.1 < 0 ∨ 16 < 0 + W2.1.toNatClampNeg ∨ 16 < 0 + W2.1.toNatClampNeg then none else Lt (W2.1, va_cpy W2.2.1 W.2.1 0 0 W2.1.toNatClampNeg, W.2.2.1, W.2.2.2.1, W.2.2.2.2) fun (W_1 : tWords) => if (0 : Int32) < 0 ∨ (0 : Int32) < 0 ∨ W_1.1 < 0 ∨ 16 < 0 + W_1.1.toNatClampNeg ∨ 16 < 0 + W_1.1.toNatClampNeg then none else Lt (W_1.1, W_1.2.1, va_cpy W2.2.2.1 W_1.2.2.1 0 0 W_1.1.toNatClampNeg, W_1.2.2.2.1, W_1.2.2.2.2) fun (W_2 : tWords) => if (0 : Int32) < 0 ∨ (0 : Int32) < 0 ∨ W_2.1 < 0 ∨ 16 < 0 + W_2.1.toNatClampNeg ∨ 16 < 0 + W_2.1.toNatClampNeg then none else Lt (W_2.1, W_2.2.1, W_2.2.2.1, va_cpy W2.2.2.2.1 W_2.2.2.2.1 0 0 W_2.1.toNatClampNeg, W_2.2.2.2.2) fun (W_3 : tWords) => if (0 : Int32) < 0 ∨ (0 : Int32) < 0 ∨ (W_3.1 * 12) < 0 ∨ 192 < 0 + (W_3.1 * 12).toNatClampNeg ∨ 192 < 0 + (W_3.1 * 12).toNatClampNeg then none else Lt (W_3.1, W_3.2.1, W_3.2.2.1, W_3.2.2.2.1, va_cpy W2.2.2.2.2 W_3.2.2.2.2 0 0 (W_3.1 * 12).toNatClampNeg) fun (W_4 : tWords) => some W_4
def fX8_isFull (W : tWords) : Option (Int32) := if W.1 < 16 then (some 0) else (some 1)
def fX7_coinsOf (x1 : Int32) (U : tUsers) : Option (Int32) := if x1 < 0 then (some 0) else (if U.1 ≤ x1 then (some 0) else (if x1 < 0 ∨ 4 ≤ x1.toNatClampNeg then none else some (U.2.2 (x1.toNatClampNeg))))
def fX8_add (x1 : Int64) (x3 : Int32) (W : tWords) : Option (Int32 × tWords) := if W.1 < 16 then (if W.1 < 0 ∨ 16 ≤ W.1.toNatClampNeg then none else Lt (W.1, vp_updL W.2.1 (W.1.toNatClampNeg) x1, W.2.2.1, W.2.2.2.1, W.2.2.2.2) fun (W_1 : tWords) => if W_1.1 < 0 ∨ 16 ≤ W_1.1.toNatClampNeg then none else Lt (W_1.1, W_1.2.1, upd W_1.2.2.1 (W_1.1.toNatClampNeg) x3, W_1.2.2.2.1, W_1.2.2.2.2) fun (W_2 : tWords) => if W_2.1 < 0 ∨ 16 ≤ W_2.1.toNatClampNeg then none else Lt (W_2.1, W_2.2.1, W_2.2.2.1, upd W_2.2.2.2.1 (W_2.1.toNatClampNeg) 0, W_2.2.2.2.2) fun (W_3 : tWords) => some ((W_3.1 + 1) - 1, (W_3.1 + 1, W_3.2.1, W_3.2.2.1, W_3.2.2.2.1, W_3.2.2.2.2))) else (some ((-1), W))
def fX7_give (x1 : Int32) (x2 : Int32) (U : tUsers) : Option (tUsers) := if x1 < 0 then (some U) else (if U.1 ≤ x1 then (some U) else (if x1 < 0 ∨ 4 ≤ x1.toNatClampNeg then none else if x1 < 0 ∨ 4 ≤ x1.toNatClampNeg then none else Lt (U.1, U.2.1, upd U.2.2 (x1.toNatClampNeg) ((U.2.2 (x1.toNatClampNeg)) + x2)) fun (U_1 : tUsers) => some U_1))
def fX6_add (x1 : Int64) (x3 : Int32) (x4 : Int32) (x5 : Int32) (P : tPieces) : Option (Int32 × tPieces) := if P.1 < 24 then (if P.1 < 0 ∨ 24 ≤ P.1.toNatClampNeg then none else Lt (P.1, vp_updL P.2.1 (P.1.toNatClampNeg) x1, P.2.2.1, P.2.2.2.1, P.2.2.2.2.1, P.2.2.2.2.2) fun (P_1 : tPieces) => if P_1.1 < 0 ∨ 24 ≤ P_1.1.toNatClampNeg then none else Lt (P_1.1, P_1.2.1, upd P_1.2.2.1 (P_1.1.toNatClampNeg) x3, P_1.2.2.2.1, P_1.2.2.2.2.1, P_1.2.2.2.2.2) fun (P_2 : tPieces) => if P_2.1 < 0 ∨ 24 ≤ P_2.1.toNatClampNeg then none else Lt (P_2.1, P_2.2.1, P_2.2.2.1, upd P_2.2.2.2.1 (P_2.1.toNatClampNeg) x4, P_2.2.2.2.2.1, P_2.2.2.2.2.2) fun (P_3 : tPieces) => if P_3.1 < 0 ∨ 24 ≤ P_3.1.toNatClampNeg then none else Lt (P_3.1, P_3.2.1, P_3.2.2.1, P_3.2.2.2.1, upd P_3.2.2.2.2.1 (P_3.1.toNatClampNeg) 0, P_3.2.2.2.2.2) fun (P_4 : tPieces) => if P_4.1 < 0 ∨ 24 ≤ P_4.1.toNatClampNeg then none else Lt (P_4.1, P_4.2.1, P_4.2.2.1, P_4.2.2.2.1, P_4.2.2.2.2.1, upd P_4.2.2.2.2.2 (P_4.1.toNatClampNeg) x5) fun (P_5 : tPieces) => some ((P_5.1 + 1) - 1, (P_5.1 + 1, P_5.2.1, P_5.2.2.1, P_5.2.2.2.1, P_5.2.2.2.2.1, P_5.2.2.2.2.2))) else (some ((-1), P))
def fX8_addPart (x1 : Int32) (x2 : Int32) (W : tWords) : Option (tWords) := if x1 < 0 then (some W) else (if W.1 ≤ x1 then (some W) else (if x1 < 0 ∨ 16 ≤ x1.toNatClampNeg then none else if 12 ≤ (W.2.2.2.1 (x1.toNatClampNeg)) then (some W) else (if x1 < 0 ∨ 16 ≤ x1.toNatClampNeg then none else if ((x1 * 12) + (W.2.2.2.1 (x1.toNatClampNeg))) < 0 ∨ 192 ≤ ((x1 * 12) + (W.2.2.2.1 (x1.toNatClampNeg))).toNatClampNeg then none else Lt (W.1, W.2.1, W.2.2.1, W.2.2.2.1, upd W.2.2.2.2 (((x1 * 12) + (W.2.2.2.1 (x1.toNatClampNeg))).toNatClampNeg) x2) fun (W_1 : tWords) => if x1 < 0 ∨ 16 ≤ x1.toNatClampNeg then none else if x1 < 0 ∨ 16 ≤ x1.toNatClampNeg then none else Lt (W_1.1, W_1.2.1, W_1.2.2.1, upd W_1.2.2.2.1 (x1.toNatClampNeg) ((W_1.2.2.2.1 (x1.toNatClampNeg)) + 1), W_1.2.2.2.2) fun (W_2 : tWords) => some W_2)))
def fX6_beginUse (x1 : Int32) (P : tPieces) : Option (tPieces) := if x1 < 0 then (some P) else (if P.1 ≤ x1 then (some P) else (if x1 < 0 ∨ 24 ≤ x1.toNatClampNeg then none else if x1 < 0 ∨ 24 ≤ x1.toNatClampNeg then none else Lt (P.1, P.2.1, P.2.2.1, P.2.2.2.1, upd P.2.2.2.2.1 (x1.toNatClampNeg) ((P.2.2.2.2.1 (x1.toNatClampNeg)) + 1), P.2.2.2.2.2) fun (P_1 : tPieces) => some P_1))
def fX8_partAt (x1 : Int32) (x2 : Int32) (W : tWords) : Option (Int32) := if x1 < 0 then (some (-1)) else (if W.1 ≤ x1 then (some (-1)) else (if x2 < 0 then (some (-1)) else (if x1 < 0 ∨ 16 ≤ x1.toNatClampNeg then none else if x2 < (W.2.2.2.1 (x1.toNatClampNeg)) then (if ((x1 * 12) + x2) < 0 ∨ 192 ≤ ((x1 * 12) + x2).toNatClampNeg then none else some (W.2.2.2.2 (((x1 * 12) + x2).toNatClampNeg))) else (some (-1)))))
def fX6_endUse (x1 : Int32) (x2 : Int32) (P : tPieces) : Option (tPieces) := if x1 < 0 then (some P) else (if P.1 ≤ x1 then (some P) else (if x1 < 0 ∨ 24 ≤ x1.toNatClampNeg then none else if x1 < 0 ∨ 24 ≤ x1.toNatClampNeg then none else Lt (P.1, P.2.1, P.2.2.1, P.2.2.2.1, upd P.2.2.2.2.1 (x1.toNatClampNeg) ((P.2.2.2.2.1 (x1.toNatClampNeg)) - 1), P.2.2.2.2.2) fun (P_1 : tPieces) => if x1 < 0 ∨ 24 ≤ x1.toNatClampNeg then none else if (P_1.2.2.2.2.1 (x1.toNatClampNeg)) = 0 then (if x1 < 0 ∨ 24 ≤ x1.toNatClampNeg then none else Lt (P_1.1, P_1.2.1, P_1.2.2.1, P_1.2.2.2.1, P_1.2.2.2.2.1, upd P_1.2.2.2.2.2 (x1.toNatClampNeg) x2) fun (P_2 : tPieces) => some P_2) else (some P_1)))
def fX8_drop (x1 : Int32) (W : tWords) : Option (tWords) := if x1 < 0 then (some W) else (if x1 < W.1 then (if (x1 + 1) < 0 ∨ x1 < 0 ∨ ((W.1 - 1) - x1) < 0 ∨ 16 < (x1 + 1).toNatClampNeg + ((W.1 - 1) - x1).toNatClampNeg ∨ 16 < x1.toNatClampNeg + ((W.1 - 1) - x1).toNatClampNeg then none else Lt (W.1 - 1, va_cpy W.2.1 W.2.1 (x1 + 1).toNatClampNeg x1.toNatClampNeg ((W.1 - 1) - x1).toNatClampNeg, W.2.2.1, W.2.2.2.1, W.2.2.2.2) fun (W_1 : tWords) => if (x1 + 1) < 0 ∨ x1 < 0 ∨ ((W.1 - 1) - x1) < 0 ∨ 16 < (x1 + 1).toNatClampNeg + ((W.1 - 1) - x1).toNatClampNeg ∨ 16 < x1.toNatClampNeg + ((W.1 - 1) - x1).toNatClampNeg then none else Lt (W_1.1, W_1.2.1, va_cpy W_1.2.2.1 W_1.2.2.1 (x1 + 1).toNatClampNeg x1.toNatClampNeg ((W.1 - 1) - x1).toNatClampNeg, W_1.2.2.2.1, W_1.2.2.2.2) fun (W_2 : tWords) => if (x1 + 1) < 0 ∨ x1 < 0 ∨ ((W.1 - 1) - x1) < 0 ∨ 16 < (x1 + 1).toNatClampNeg + ((W.1 - 1) - x1).toNatClampNeg ∨ 16 < x1.toNatClampNeg + ((W.1 - 1) - x1).toNatClampNeg then none else Lt (W_2.1, W_2.2.1, W_2.2.2.1, va_cpy W_2.2.2.2.1 W_2.2.2.2.1 (x1 + 1).toNatClampNeg x1.toNatClampNeg ((W.1 - 1) - x1).toNatClampNeg, W_2.2.2.2.2) fun (W_3 : tWords) => if ((x1 + 1) * 12) < 0 ∨ (x1 * 12) < 0 ∨ (((W.1 - 1) - x1) * 12) < 0 ∨ 192 < ((x1 + 1) * 12).toNatClampNeg + (((W.1 - 1) - x1) * 12).toNatClampNeg ∨ 192 < (x1 * 12).toNatClampNeg + (((W.1 - 1) - x1) * 12).toNatClampNeg then none else Lt (W_3.1, W_3.2.1, W_3.2.2.1, W_3.2.2.2.1, va_cpy W_3.2.2.2.2 W_3.2.2.2.2 ((x1 + 1) * 12).toNatClampNeg (x1 * 12).toNatClampNeg (((W.1 - 1) - x1) * 12).toNatClampNeg) fun (W_4 : tWords) => some W_4) else (some W))
def fX8_clearParts (x1 : Int32) (W : tWords) : Option (tWords) := if x1 < 0 then (some W) else (if W.1 ≤ x1 then (some W) else (if x1 < 0 ∨ 16 ≤ x1.toNatClampNeg then none else Lt (W.1, W.2.1, W.2.2.1, upd W.2.2.2.1 (x1.toNatClampNeg) 0, W.2.2.2.2) fun (W_1 : tWords) => some W_1))
def fX6_goesBack (x1 : Int32) (x2 : Int32) (x3 : Int32) (P : tPieces) : Option (Int32) := if x1 < 0 ∨ 24 ≤ x1.toNatClampNeg then none else if (P.2.2.2.1 (x1.toNatClampNeg)) = (-1) then (some 0) else (if x1 < 0 ∨ 24 ≤ x1.toNatClampNeg then none else if (P.2.2.2.2.1 (x1.toNatClampNeg)) = 0 then (if x1 < 0 ∨ 24 ≤ x1.toNatClampNeg then none else if (x2 - (P.2.2.2.2.2 (x1.toNatClampNeg))) ≤ x3 then (some 0) else (some 1)) else (some 0))
def fX6_drop (x1 : Int32) (P : tPieces) : Option (tPieces) := if x1 < 0 then (some P) else (if x1 < P.1 then (if (x1 + 1) < 0 ∨ x1 < 0 ∨ ((P.1 - 1) - x1) < 0 ∨ 24 < (x1 + 1).toNatClampNeg + ((P.1 - 1) - x1).toNatClampNeg ∨ 24 < x1.toNatClampNeg + ((P.1 - 1) - x1).toNatClampNeg then none else Lt (P.1 - 1, va_cpy P.2.1 P.2.1 (x1 + 1).toNatClampNeg x1.toNatClampNeg ((P.1 - 1) - x1).toNatClampNeg, P.2.2.1, P.2.2.2.1, P.2.2.2.2.1, P.2.2.2.2.2) fun (P_1 : tPieces) => if (x1 + 1) < 0 ∨ x1 < 0 ∨ ((P.1 - 1) - x1) < 0 ∨ 24 < (x1 + 1).toNatClampNeg + ((P.1 - 1) - x1).toNatClampNeg ∨ 24 < x1.toNatClampNeg + ((P.1 - 1) - x1).toNatClampNeg then none else Lt (P_1.1, P_1.2.1, va_cpy P_1.2.2.1 P_1.2.2.1 (x1 + 1).toNatClampNeg x1.toNatClampNeg ((P.1 - 1) - x1).toNatClampNeg, P_1.2.2.2.1, P_1.2.2.2.2.1, P_1.2.2.2.2.2) fun (P_2 : tPieces) => if (x1 + 1) < 0 ∨ x1 < 0 ∨ ((P.1 - 1) - x1) < 0 ∨ 24 < (x1 + 1).toNatClampNeg + ((P.1 - 1) - x1).toNatClampNeg ∨ 24 < x1.toNatClampNeg + ((P.1 - 1) - x1).toNatClampNeg then none else Lt (P_2.1, P_2.2.1, P_2.2.2.1, va_cpy P_2.2.2.2.1 P_2.2.2.2.1 (x1 + 1).toNatClampNeg x1.toNatClampNeg ((P.1 - 1) - x1).toNatClampNeg, P_2.2.2.2.2.1, P_2.2.2.2.2.2) fun (P_3 : tPieces) => if (x1 + 1) < 0 ∨ x1 < 0 ∨ ((P.1 - 1) - x1) < 0 ∨ 24 < (x1 + 1).toNatClampNeg + ((P.1 - 1) - x1).toNatClampNeg ∨ 24 < x1.toNatClampNeg + ((P.1 - 1) - x1).toNatClampNeg then none else Lt (P_3.1, P_3.2.1, P_3.2.2.1, P_3.2.2.2.1, va_cpy P_3.2.2.2.2.1 P_3.2.2.2.2.1 (x1 + 1).toNatClampNeg x1.toNatClampNeg ((P.1 - 1) - x1).toNatClampNeg, P_3.2.2.2.2.2) fun (P_4 : tPieces) => if (x1 + 1) < 0 ∨ x1 < 0 ∨ ((P.1 - 1) - x1) < 0 ∨ 24 < (x1 + 1).toNatClampNeg + ((P.1 - 1) - x1).toNatClampNeg ∨ 24 < x1.toNatClampNeg + ((P.1 - 1) - x1).toNatClampNeg then none else Lt (P_4.1, P_4.2.1, P_4.2.2.1, P_4.2.2.2.1, P_4.2.2.2.2.1, va_cpy P_4.2.2.2.2.2 P_4.2.2.2.2.2 (x1 + 1).toNatClampNeg x1.toNatClampNeg ((P.1 - 1) - x1).toNatClampNeg) fun (P_5 : tPieces) => some P_5) else (some P))
def fX8_closeGap_L2 (x1 : Int32) (k : tWords → Option (tWords)) : Nat → Int32 → tWords → Option (tWords)
  | 0, _, _ => none
  | n + 1, x2, W => if (W.1 * 12) ≤ x2 then (k W) else (if x2 < 0 ∨ 192 ≤ x2.toNatClampNeg then none else if (W.2.2.2.2 (x2.toNatClampNeg)) ≤ x1 then (fX8_closeGap_L2 x1 k n (x2 + 1) W) else (if x2 < 0 ∨ 192 ≤ x2.toNatClampNeg then none else if x2 < 0 ∨ 192 ≤ x2.toNatClampNeg then none else Lt (W.1, W.2.1, W.2.2.1, W.2.2.2.1, upd W.2.2.2.2 (x2.toNatClampNeg) ((W.2.2.2.2 (x2.toNatClampNeg)) - 1)) fun (W_1 : tWords) => fX8_closeGap_L2 x1 k n (x2 + 1) W_1))
def fX8_closeGap (x1 : Int32) (W : tWords) : Option (tWords) := fX8_closeGap_L2 x1 (fun (W_1 : tWords) => (some W_1)) FU 0 W
def fX4_join (x0 : Int64) (x2 : Int32) (x3 : Int64) : Option (Int64) := some (x0 ||| (glshl x3 (5 * x2)))
def fX8_usesIn_L5 (x1 : Int32) (x2 : Int32) (W : tWords) (k : Int32 → Option (Int32)) : Nat → Int32 → Int32 → Option (Int32)
  | 0, _, _ => none
  | n + 1, x3, x4 => if x1 < 0 ∨ 16 ≤ x1.toNatClampNeg then none else if (W.2.2.2.1 (x1.toNatClampNeg)) ≤ x4 then (k x3) else (gb1 (fX8_partAt x1 x4 W) fun (r_1 : Int32) => if r_1 = x2 then (fX8_usesIn_L5 x1 x2 W k n (x3 + 1) (x4 + 1)) else (fX8_usesIn_L5 x1 x2 W k n x3 (x4 + 1)))
def fX8_usesIn (x1 : Int32) (x2 : Int32) (W : tWords) : Option (Int32) := fX8_usesIn_L5 x1 x2 W (fun (x3_1 : Int32) => (some x3_1)) FU 0 0
def fX4_isLetter (x0 : Int32) : Option (Int32) := if x0 < 97 then (some 0) else (if 122 < x0 then (some 0) else (some 1))
def fX4_read_L5 (n_p0 : Nat) (x1 : Int32) (x2 : Int32) (p0 : (Nat → Int32)) (k : Int64 → Option (Int64)) : Nat → Int64 → Int32 → Option (Int64)
  | 0, _, _ => none
  | n + 1, x3, x5 => if x2 ≤ x5 then (k x3) else (if x5 < 0 ∨ n_p0 ≤ x5.toNatClampNeg then none else fX4_read_L5 n_p0 x1 x2 p0 k n (x3 ||| (glshl ((((p0 (x5.toNatClampNeg)) - 97) + 1).toInt64) (5 * (x5 - x1)))) (x5 + 1))
def fX4_read (n_p0 : Nat) (x1 : Int32) (x2 : Int32) (p0 : (Nat → Int32)) : Option (Int64) := fX4_read_L5 n_p0 x1 x2 p0 (fun (x3_1 : Int64) => (some x3_1)) FU 0 x1
def fX4_letterAt (x0 : Int64) (x2 : Int32) : Option (Int32) := if x2 < 0 then (some (-1)) else (if x2 < 12 then (if (((glush x0 (5 * x2)).toInt32) &&& 31) = 0 then (some (-1)) else (some ((((glush x0 (5 * x2)).toInt32) &&& 31) - 1))) else (some (-1)))
def fX7_isFull (U : tUsers) : Option (Int32) := if U.1 < 4 then (some 0) else (some 1)
def fX7_numberOf_L2 (x1 : Int64) (U : tUsers) (k : Option (Int32)) : Nat → Int32 → Option (Int32)
  | 0, _ => none
  | n + 1, x3 => if U.1 ≤ x3 then (k) else (if x3 < 0 ∨ 4 ≤ x3.toNatClampNeg then none else if (lg_cmp (U.2.1 (x3.toNatClampNeg)) x1) = 0 then (some x3) else (fX7_numberOf_L2 x1 U k n (x3 + 1)))
def fX7_numberOf (x1 : Int64) (U : tUsers) : Option (Int32) := fX7_numberOf_L2 x1 U (some (-1)) FU 0
def fX7_add (x1 : Int64) (x3 : Int32) (U : tUsers) : Option (tUsers) := if U.1 < 4 then (if U.1 < 0 ∨ 4 ≤ U.1.toNatClampNeg then none else Lt (U.1, vp_updL U.2.1 (U.1.toNatClampNeg) x1, U.2.2) fun (U_1 : tUsers) => if U_1.1 < 0 ∨ 4 ≤ U_1.1.toNatClampNeg then none else Lt (U_1.1, U_1.2.1, upd U_1.2.2 (U_1.1.toNatClampNeg) x3) fun (U_2 : tUsers) => some (U_2.1 + 1, U_2.2.1, U_2.2.2)) else (some U)
def fX6_isFull (P : tPieces) : Option (Int32) := if P.1 < 24 then (some 0) else (some 1)
def fX6_ownedBy_L4 (x1 : Int32) (P : tPieces) (k : Int32 → Option (Int32)) : Nat → Int32 → Int32 → Option (Int32)
  | 0, _, _ => none
  | n + 1, x2, x3 => if P.1 ≤ x3 then (k x2) else (if x3 < 0 ∨ 24 ≤ x3.toNatClampNeg then none else if (P.2.2.2.1 (x3.toNatClampNeg)) = x1 then (fX6_ownedBy_L4 x1 P k n (x2 + 1) (x3 + 1)) else (fX6_ownedBy_L4 x1 P k n x2 (x3 + 1)))
def fX6_ownedBy (x1 : Int32) (P : tPieces) : Option (Int32) := fX6_ownedBy_L4 x1 P (fun (x2_1 : Int32) => (some x2_1)) FU 0 0
def fX6_pricesPaidBy_L4 (x1 : Int32) (P : tPieces) (k : Int32 → Option (Int32)) : Nat → Int32 → Int32 → Option (Int32)
  | 0, _, _ => none
  | n + 1, x2, x3 => if P.1 ≤ x3 then (k x2) else (if x3 < 0 ∨ 24 ≤ x3.toNatClampNeg then none else if (P.2.2.2.1 (x3.toNatClampNeg)) = x1 then (if x3 < 0 ∨ 24 ≤ x3.toNatClampNeg then none else fX6_pricesPaidBy_L4 x1 P k n (x2 + (P.2.2.1 (x3.toNatClampNeg))) (x3 + 1)) else (fX6_pricesPaidBy_L4 x1 P k n x2 (x3 + 1)))
def fX6_pricesPaidBy (x1 : Int32) (P : tPieces) : Option (Int32) := fX6_pricesPaidBy_L4 x1 P (fun (x2_1 : Int32) => (some x2_1)) FU 0 0
def fX6_mostUsed_L6 (P : tPieces) (k : Int32 → Option (Int32)) : Nat → Int32 → Int32 → Int32 → Option (Int32)
  | 0, _, _, _ => none
  | n + 1, x1, x2, x3 => if P.1 ≤ x3 then (k x1) else (if x3 < 0 ∨ 24 ≤ x3.toNatClampNeg then none else if (P.2.2.2.2.1 (x3.toNatClampNeg)) ≤ x2 then (fX6_mostUsed_L6 P k n x1 x2 (x3 + 1)) else (if x3 < 0 ∨ 24 ≤ x3.toNatClampNeg then none else fX6_mostUsed_L6 P k n x3 (P.2.2.2.2.1 (x3.toNatClampNeg)) (x3 + 1)))
def fX6_mostUsed (P : tPieces) : Option (Int32) := fX6_mostUsed_L6 P (fun (x1_1 : Int32) => (some x1_1)) FU (-1) (-1) 0
def fX8_numberOf_L2 (x1 : Int64) (W : tWords) (k : Option (Int32)) : Nat → Int32 → Option (Int32)
  | 0, _ => none
  | n + 1, x3 => if W.1 ≤ x3 then (k) else (if x3 < 0 ∨ 16 ≤ x3.toNatClampNeg then none else if (lg_cmp (W.2.1 (x3.toNatClampNeg)) x1) = 0 then (some x3) else (fX8_numberOf_L2 x1 W k n (x3 + 1)))
def fX8_numberOf (x1 : Int64) (W : tWords) : Option (Int32) := fX8_numberOf_L2 x1 W (some (-1)) FU 0
def fX8_countOf_L4 (x1 : Int32) (W : tWords) (k : Int32 → Option (Int32)) : Nat → Int32 → Int32 → Option (Int32)
  | 0, _, _ => none
  | n + 1, x2, x3 => if W.1 ≤ x3 then (k x2) else (if x3 < 0 ∨ 16 ≤ x3.toNatClampNeg then none else if (W.2.2.1 (x3.toNatClampNeg)) = x1 then (fX8_countOf_L4 x1 W k n (x2 + 1) (x3 + 1)) else (fX8_countOf_L4 x1 W k n x2 (x3 + 1)))
def fX8_countOf (x1 : Int32) (W : tWords) : Option (Int32) := fX8_countOf_L4 x1 W (fun (x2_1 : Int32) => (some x2_1)) FU 0 0
set_option maxHeartbeats 4000000 in
set_option maxRecDepth 100000 in
theorem ktX4_lengthOf_L2 {p : Program} {l : Launch} {e : Env} {s : State} {m : MethodId} {args : Array Value} {below : List Frame} {meth : Method} {c : Code} {E : gE} {A : Nat → Prop} (F : gFx p s m args meth c RX4 wsX4_lengthOf cX4_lengthOf 3 (some .int) vwCl E A) (x0 : Int64) (r : Int32) {k : Int32 → Option (Int32)} (hk : ∀ (x2 : Int32), k x2 = some r → Gj p l e rmX4_lengthOf s m args below meth c 0 0 (MQ below (gQ vwCl E A (fun v w => v = some (.int r) ∧ w = [])) args s 0 0 A) vwCl E A [] [none, none, some (.int x2)] [] 24) : ∀ (n : Nat) (x2 : Int32), fX4_lengthOf_L2 x0 k n x2 = some r → Gj p l e rmX4_lengthOf s m args below meth c 0 0 (MQ below (gQ vwCl E A (fun v w => v = some (.int r) ∧ w = [])) args s 0 0 A) vwCl E A [] [some (.long x0), none, some (.int x2)] [] 2
  | 0, _, hf => by cases hf
  | n + 1, x2, hf => by
    have ih := ktX4_lengthOf_L2 F  x0 r hk n
    rw [fX4_lengthOf_L2] at hf
    refine g_iload_n F dX4_lengthOf_2 rfl ?_
    refine g_bipush F 12 dX4_lengthOf_3 rfl ?_
    refine g_icmp_ge F 24 dX4_lengthOf_5 (by decide) (fun hc_2 => ?_) (fun hc_2 => ?_)
    · replace hf := gi_t hc_2 hf
      refine g_mask [false, true, true] rfl ?_
      exact hk x2 hf
    · replace hf := gi_f hc_2 hf
      refine g_lload_n F dX4_lengthOf_8 rfl ?_
      refine g_iconst F 5 dX4_lengthOf_9 rfl ?_
      refine g_iload_n F dX4_lengthOf_10 rfl ?_
      refine g_imul F dX4_lengthOf_11 ?_
      refine g_lushr F dX4_lengthOf_12 ?_
      refine g_lconst F 0 dX4_lengthOf_13 rfl ?_
      refine g_lcmp F dX4_lengthOf_14 ?_
      refine g_ifeq F 24 dX4_lengthOf_15 (by decide) (fun hc_1 => ?_) (fun hc_1 => ?_)
      · replace hf := gi_t hc_1 hf
        refine g_mask [false, true, true] rfl ?_
        exact hk x2 hf
      · replace hf := gi_f hc_1 hf
        refine g_iinc (lv' := [some (.long x0), none, some (.int (x2 + 1))]) F (x2 + 1) dX4_lengthOf_18 rfl rfl rfl rfl ?_
        refine g_goto F 2 dX4_lengthOf_21 (by decide) ?_
        exact ih (x2 + 1) hf
set_option maxHeartbeats 4000000 in
set_option maxRecDepth 100000 in
theorem ctX4_lengthOf (l : Launch) (E : gE) (x0 : Int64) (r : Int32) (hf : fX4_lengthOf x0 = some r) : gMet l yX4_lengthOf wsX4_lengthOf rmX4_lengthOf vwCl E [.long x0] [] (fun v w => v = some (.int r) ∧ w = []) 0 0 := by
  refine g_entry [some (.long x0), none, none] (by decide) rfl (Nat.le_of_ble_eq_true rfl) rfl ?_
  intro p e s m below meth c A F hnm
  unfold fX4_lengthOf at hf
  refine g_iconst F 0 dX4_lengthOf_0 rfl ?_
  refine g_istore_n (lv' := [some (.long x0), none, some (.int 0)]) F dX4_lengthOf_1 (Nat.le_of_ble_eq_true rfl) rfl rfl ?_
  refine ktX4_lengthOf_L2 F  x0 r (fun x2_1 hf => ?_) FU 0 hf
  refine g_iload_n F dX4_lengthOf_24 rfl ?_
  cases hf
  exact g_iret F rfl ⟨rfl, rfl⟩ dX4_lengthOf_25
set_option maxHeartbeats 4000000 in
set_option maxRecDepth 100000 in
theorem ctX4_section (l : Launch) (E : gE) (x0 : Int64) (x2 : Int32) (x3 : Int32) (r : Int64) (hf : fX4_section x0 x2 x3 = some r) : gMet l yX4_section wsX4_section rmX4_section vwCl E [.long x0, .int x2, .int x3] [] (fun v w => v = some (.long r) ∧ w = []) 0 0 := by
  refine g_entry [some (.long x0), none, some (.int x2), some (.int x3)] (by decide) rfl (Nat.le_of_ble_eq_true rfl) rfl ?_
  intro p e s m below meth c A F hnm
  unfold fX4_section at hf
  refine g_lload_n F dX4_section_0 rfl ?_
  refine g_iconst F 5 dX4_section_1 rfl ?_
  refine g_iload_n F dX4_section_2 rfl ?_
  refine g_imul F dX4_section_3 ?_
  refine g_lushr F dX4_section_4 ?_
  refine g_lconst F 1 dX4_section_5 rfl ?_
  refine g_iconst F 5 dX4_section_6 rfl ?_
  refine g_iload_n F dX4_section_7 rfl ?_
  refine g_imul F dX4_section_8 ?_
  refine g_lshl F dX4_section_9 ?_
  refine g_lconst F 1 dX4_section_10 rfl ?_
  refine g_lsub F dX4_section_11 ?_
  refine g_land F dX4_section_12 ?_
  cases hf
  exact g_lret F rfl ⟨rfl, rfl⟩ dX4_section_13
set_option maxHeartbeats 4000000 in
set_option maxRecDepth 100000 in
theorem ktX6_numberOf_L2 {p : Program} {l : Launch} {e : Env} {s : State} {m : MethodId} {args : Array Value} {below : List Frame} {meth : Method} {c : Code} {E : gE} {A : Nat → Prop} (F : gFx p s m args meth c RX6 wsX6_numberOf cX6_numberOf 4 (some .int) vwCl E A) (aP : Nat → Nat) (x1 : Int64) (P : tPieces) (r : Int32) {k : Option (Int32)} (hk : k = some r → Gj p l e rmX6_numberOf s m args below meth c 0 0 (MQ below (gQ vwCl E A (fun v w => v = some (.int r) ∧ w = [sPieces E aP P])) args s 0 0 A) vwCl E A [sPieces E aP P] [none, none, none, none] [] 29) : ∀ (n : Nat) (x3 : Int32), fX6_numberOf_L2 x1 P k n x3 = some r → Gj p l e rmX6_numberOf s m args below meth c 0 0 (MQ below (gQ vwCl E A (fun v w => v = some (.int r) ∧ w = [sPieces E aP P])) args s 0 0 A) vwCl E A [sPieces E aP P] [some (.ref (aP 0)), some (.long x1), none, some (.int x3)] [] 2
  | 0, _, hf => by cases hf
  | n + 1, x3, hf => by
    have ih := ktX6_numberOf_L2 F aP x1 P r hk n
    rw [fX6_numberOf_L2] at hf
    refine g_iload_n F dX6_numberOf_2 rfl ?_
    refine g_aload_n F dX6_numberOf_3 rfl ?_
    refine g_get (C := RX6) (T := TX6) (N := 6) F 0 0 0 rfl rfl rfl iX6_numberOf_X6 (by decide) (by decide +kernel) rfl dX6_numberOf_4 ?_
    refine g_icmp_ge F 29 dX6_numberOf_7 (by decide) (fun hc_2 => ?_) (fun hc_2 => ?_)
    · replace hf := gi_t hc_2 hf
      refine g_mask [false, false, true, false] rfl ?_
      exact hk hf
    · replace hf := gi_f hc_2 hf
      refine g_aload_n F dX6_numberOf_10 rfl ?_
      refine g_get (C := RX6) (T := TX6) (N := 6) F 0 0 1 rfl rfl rfl iX6_numberOf_X6 (by decide) (by decide +kernel) rfl dX6_numberOf_11 ?_
      refine g_iload_n F dX6_numberOf_14 rfl ?_
      obtain ⟨hb_1, hf⟩ := gb_in hf
      refine g_lald F 0 1 (x3.toNatClampNeg) rfl rfl rfl hb_1 dX6_numberOf_15 ?_
      refine g_lload_n F dX6_numberOf_16 rfl ?_
      refine g_lcmp F dX6_numberOf_17 ?_
      refine g_ifne F 23 dX6_numberOf_18 (by decide) (fun hc_1 => ?_) (fun hc_1 => ?_)
      · replace hf := gi_f hc_1 hf
        refine g_iinc (lv' := [some (.ref (aP 0)), some (.long x1), none, some (.int (x3 + 1))]) F (x3 + 1) dX6_numberOf_23 rfl rfl rfl rfl ?_
        refine g_goto F 2 dX6_numberOf_26 (by decide) ?_
        exact ih (x3 + 1) hf
      · replace hf := gi_t hc_1 hf
        refine g_iload_n F dX6_numberOf_21 rfl ?_
        cases hf
        exact g_iret F rfl ⟨rfl, rfl⟩ dX6_numberOf_22
set_option maxHeartbeats 4000000 in
set_option maxRecDepth 100000 in
theorem ctX6_numberOf (l : Launch) (E : gE) (aP : Nat → Nat) (x1 : Int64) (P : tPieces) (r : Int32) (hf : fX6_numberOf x1 P = some r) : gMet l yX6_numberOf wsX6_numberOf rmX6_numberOf vwCl E [.ref (aP 0), .long x1] [sPieces E aP P] (fun v w => v = some (.int r) ∧ w = [sPieces E aP P]) 0 0 := by
  refine g_entry [some (.ref (aP 0)), some (.long x1), none, none] (by decide) rfl (Nat.le_of_ble_eq_true rfl) rfl ?_
  intro p e s m below meth c A F hnm
  unfold fX6_numberOf at hf
  refine g_iconst F 0 dX6_numberOf_0 rfl ?_
  refine g_istore_n (lv' := [some (.ref (aP 0)), some (.long x1), none, some (.int 0)]) F dX6_numberOf_1 (Nat.le_of_ble_eq_true rfl) rfl rfl ?_
  refine ktX6_numberOf_L2 F aP x1 P r (fun hf => ?_) FU 0 hf
  refine g_iconst F (-1) dX6_numberOf_29 rfl ?_
  cases hf
  exact g_iret F rfl ⟨rfl, rfl⟩ dX6_numberOf_30
set_option maxHeartbeats 4000000 in
set_option maxRecDepth 100000 in
theorem ctX7_copyFrom (l : Launch) (E : gE) (aU aU2 : Nat → Nat) (U : tUsers) (U2 : tUsers) (U' : tUsers) (hf : fX7_copyFrom U U2 = some U') : gMet l yX7_copyFrom wsX7_copyFrom rmX7_copyFrom vwCl E [.ref (aU 0), .ref (aU2 0)] [sUsers E aU U, sUsers E aU2 U2] (fun v w => v = none ∧ w = [sUsers E aU U', sUsers E aU2 U2]) 0 0 := by
  refine g_entry [some (.ref (aU 0)), some (.ref (aU2 0))] (by decide) rfl (Nat.le_of_ble_eq_true rfl) rfl ?_
  intro p e s m below meth c A F hnm
  unfold fX7_copyFrom at hf
  refine g_aload_n F dX7_copyFrom_0 rfl ?_
  refine g_aload_n F dX7_copyFrom_1 rfl ?_
  refine g_get (C := RX7) (T := TX7) (N := 3) F 1 0 0 rfl rfl rfl iX7_copyFrom_X7 (by decide) (by decide +kernel) rfl dX7_copyFrom_2 ?_
  refine g_put (C := RX7) (T := TX7) (N := 3) (tys := tyX7) (Lw' := [sUsers E aU (U2.1, U.2.1, U.2.2), sUsers E aU2 U2]) F 0 0 0 rfl rfl rfl iX7_copyFrom_X7 tyX7_ok nmX7 (by decide) (by decide +kernel) rfl rfl rfl rfl (Nat.le_of_ble_eq_true rfl) dX7_copyFrom_5 rfl ?_
  refine g_aload_n F dX7_copyFrom_8 rfl ?_
  refine g_get (C := RX7) (T := TX7) (N := 3) F 1 0 1 rfl rfl rfl iX7_copyFrom_X7 (by decide) (by decide +kernel) rfl dX7_copyFrom_9 ?_
  refine g_iconst F 0 dX7_copyFrom_12 rfl ?_
  refine g_aload_n F dX7_copyFrom_13 rfl ?_
  refine g_get (C := RX7) (T := TX7) (N := 3) F 0 0 1 rfl rfl rfl iX7_copyFrom_X7 (by decide) (by decide +kernel) rfl dX7_copyFrom_14 ?_
  refine g_iconst F 0 dX7_copyFrom_17 rfl ?_
  refine g_aload_n F dX7_copyFrom_18 rfl ?_
  refine g_get (C := RX7) (T := TX7) (N := 3) F 0 0 0 rfl rfl rfl iX7_copyFrom_X7 (by decide) (by decide +kernel) rfl dX7_copyFrom_19 ?_
  obtain ⟨hb_1, hf⟩ := gb_in hf
  obtain ⟨U_1, hU_1, hf⟩ := Lt_el hf
  refine g_copyl (Lw' := [sUsers E aU U_1, sUsers E aU2 U2]) F 1 1 0 1 rfl rfl rfl rfl (by decide +kernel) (by decide +kernel) (by decide +kernel) (by decide +kernel) hb_1 rfl (Nat.le_of_ble_eq_true rfl) (Nat.le_of_ble_eq_true rfl) dX7_copyFrom_22 (by subst hU_1; rfl) ?_
  refine g_aload_n F dX7_copyFrom_25 rfl ?_
  refine g_get (C := RX7) (T := TX7) (N := 3) F 1 0 2 rfl rfl rfl iX7_copyFrom_X7 (by decide) (by decide +kernel) rfl dX7_copyFrom_26 ?_
  refine g_iconst F 0 dX7_copyFrom_29 rfl ?_
  refine g_aload_n F dX7_copyFrom_30 rfl ?_
  refine g_get (C := RX7) (T := TX7) (N := 3) F 0 0 2 rfl rfl rfl iX7_copyFrom_X7 (by decide) (by decide +kernel) rfl dX7_copyFrom_31 ?_
  refine g_iconst F 0 dX7_copyFrom_34 rfl ?_
  refine g_aload_n F dX7_copyFrom_35 rfl ?_
  refine g_get (C := RX7) (T := TX7) (N := 3) F 0 0 0 rfl rfl rfl iX7_copyFrom_X7 (by decide) (by decide +kernel) rfl dX7_copyFrom_36 ?_
  obtain ⟨hb_2, hf⟩ := gb_in hf
  obtain ⟨U_2, hU_2, hf⟩ := Lt_el hf
  refine g_copyi (Lw' := [sUsers E aU U_2, sUsers E aU2 U2]) F 1 2 0 2 rfl rfl rfl rfl (by decide +kernel) (by decide +kernel) (by decide +kernel) (by decide +kernel) hb_2 rfl (Nat.le_of_ble_eq_true rfl) (Nat.le_of_ble_eq_true rfl) dX7_copyFrom_39 (by subst hU_2; rfl) ?_
  cases hf
  exact g_vret F rfl ⟨rfl, rfl⟩ dX7_copyFrom_42
set_option maxHeartbeats 4000000 in
set_option maxRecDepth 100000 in
theorem ctX6_copyFrom (l : Launch) (E : gE) (aP aP2 : Nat → Nat) (P : tPieces) (P2 : tPieces) (P' : tPieces) (hf : fX6_copyFrom P P2 = some P') : gMet l yX6_copyFrom wsX6_copyFrom rmX6_copyFrom vwCl E [.ref (aP 0), .ref (aP2 0)] [sPieces E aP P, sPieces E aP2 P2] (fun v w => v = none ∧ w = [sPieces E aP P', sPieces E aP2 P2]) 0 0 := by
  refine g_entry [some (.ref (aP 0)), some (.ref (aP2 0))] (by decide) rfl (Nat.le_of_ble_eq_true rfl) rfl ?_
  intro p e s m below meth c A F hnm
  unfold fX6_copyFrom at hf
  refine g_aload_n F dX6_copyFrom_0 rfl ?_
  refine g_aload_n F dX6_copyFrom_1 rfl ?_
  refine g_get (C := RX6) (T := TX6) (N := 6) F 1 0 0 rfl rfl rfl iX6_copyFrom_X6 (by decide) (by decide +kernel) rfl dX6_copyFrom_2 ?_
  refine g_put (C := RX6) (T := TX6) (N := 6) (tys := tyX6) (Lw' := [sPieces E aP (P2.1, P.2.1, P.2.2.1, P.2.2.2.1, P.2.2.2.2.1, P.2.2.2.2.2), sPieces E aP2 P2]) F 0 0 0 rfl rfl rfl iX6_copyFrom_X6 tyX6_ok nmX6 (by decide) (by decide +kernel) rfl rfl rfl rfl (Nat.le_of_ble_eq_true rfl) dX6_copyFrom_5 rfl ?_
  refine g_aload_n F dX6_copyFrom_8 rfl ?_
  refine g_get (C := RX6) (T := TX6) (N := 6) F 1 0 1 rfl rfl rfl iX6_copyFrom_X6 (by decide) (by decide +kernel) rfl dX6_copyFrom_9 ?_
  refine g_iconst F 0 dX6_copyFrom_12 rfl ?_
  refine g_aload_n F dX6_copyFrom_13 rfl ?_
  refine g_get (C := RX6) (T := TX6) (N := 6) F 0 0 1 rfl rfl rfl iX6_copyFrom_X6 (by decide) (by decide +kernel) rfl dX6_copyFrom_14 ?_
  refine g_iconst F 0 dX6_copyFrom_17 rfl ?_
  refine g_aload_n F dX6_copyFrom_18 rfl ?_
  refine g_get (C := RX6) (T := TX6) (N := 6) F 0 0 0 rfl rfl rfl iX6_copyFrom_X6 (by decide) (by decide +kernel) rfl dX6_copyFrom_19 ?_
  obtain ⟨hb_1, hf⟩ := gb_in hf
  obtain ⟨P_1, hP_1, hf⟩ := Lt_el hf
  refine g_copyl (Lw' := [sPieces E aP P_1, sPieces E aP2 P2]) F 1 1 0 1 rfl rfl rfl rfl (by decide +kernel) (by decide +kernel) (by decide +kernel) (by decide +kernel) hb_1 rfl (Nat.le_of_ble_eq_true rfl) (Nat.le_of_ble_eq_true rfl) dX6_copyFrom_22 (by subst hP_1; rfl) ?_
  refine g_aload_n F dX6_copyFrom_25 rfl ?_
  refine g_get (C := RX6) (T := TX6) (N := 6) F 1 0 2 rfl rfl rfl iX6_copyFrom_X6 (by decide) (by decide +kernel) rfl dX6_copyFrom_26 ?_
  refine g_iconst F 0 dX6_copyFrom_29 rfl ?_
  refine g_aload_n F dX6_copyFrom_30 rfl ?_
  refine g_get (C := RX6) (T := TX6) (N := 6) F 0 0 2 rfl rfl rfl iX6_copyFrom_X6 (by decide) (by decide +kernel) rfl dX6_copyFrom_31 ?_
  refine g_iconst F 0 dX6_copyFrom_34 rfl ?_
  refine g_aload_n F dX6_copyFrom_35 rfl ?_
  refine g_get (C := RX6) (T := TX6) (N := 6) F 0 0 0 rfl rfl rfl iX6_copyFrom_X6 (by decide) (by decide +kernel) rfl dX6_copyFrom_36 ?_
  obtain ⟨hb_2, hf⟩ := gb_in hf
  obtain ⟨P_2, hP_2, hf⟩ := Lt_el hf
  refine g_copyi (Lw' := [sPieces E aP P_2, sPieces E aP2 P2]) F 1 2 0 2 rfl rfl rfl rfl (by decide +kernel) (by decide +kernel) (by decide +kernel) (by decide +kernel) hb_2 rfl (Nat.le_of_ble_eq_true rfl) (Nat.le_of_ble_eq_true rfl) dX6_copyFrom_39 (by subst hP_2; rfl) ?_
  refine g_aload_n F dX6_copyFrom_42 rfl ?_
  refine g_get (C := RX6) (T := TX6) (N := 6) F 1 0 3 rfl rfl rfl iX6_copyFrom_X6 (by decide) (by decide +kernel) rfl dX6_copyFrom_43 ?_
  refine g_iconst F 0 dX6_copyFrom_46 rfl ?_
  refine g_aload_n F dX6_copyFrom_47 rfl ?_
  refine g_get (C := RX6) (T := TX6) (N := 6) F 0 0 3 rfl rfl rfl iX6_copyFrom_X6 (by decide) (by decide +kernel) rfl dX6_copyFrom_48 ?_
  refine g_iconst F 0 dX6_copyFrom_51 rfl ?_
  refine g_aload_n F dX6_copyFrom_52 rfl ?_
  refine g_get (C := RX6) (T := TX6) (N := 6) F 0 0 0 rfl rfl rfl iX6_copyFrom_X6 (by decide) (by decide +kernel) rfl dX6_copyFrom_53 ?_
  obtain ⟨hb_3, hf⟩ := gb_in hf
  obtain ⟨P_3, hP_3, hf⟩ := Lt_el hf
  refine g_copyi (Lw' := [sPieces E aP P_3, sPieces E aP2 P2]) F 1 3 0 3 rfl rfl rfl rfl (by decide +kernel) (by decide +kernel) (by decide +kernel) (by decide +kernel) hb_3 rfl (Nat.le_of_ble_eq_true rfl) (Nat.le_of_ble_eq_true rfl) dX6_copyFrom_56 (by subst hP_3; rfl) ?_
  refine g_aload_n F dX6_copyFrom_59 rfl ?_
  refine g_get (C := RX6) (T := TX6) (N := 6) F 1 0 4 rfl rfl rfl iX6_copyFrom_X6 (by decide) (by decide +kernel) rfl dX6_copyFrom_60 ?_
  refine g_iconst F 0 dX6_copyFrom_63 rfl ?_
  refine g_aload_n F dX6_copyFrom_64 rfl ?_
  refine g_get (C := RX6) (T := TX6) (N := 6) F 0 0 4 rfl rfl rfl iX6_copyFrom_X6 (by decide) (by decide +kernel) rfl dX6_copyFrom_65 ?_
  refine g_iconst F 0 dX6_copyFrom_68 rfl ?_
  refine g_aload_n F dX6_copyFrom_69 rfl ?_
  refine g_get (C := RX6) (T := TX6) (N := 6) F 0 0 0 rfl rfl rfl iX6_copyFrom_X6 (by decide) (by decide +kernel) rfl dX6_copyFrom_70 ?_
  obtain ⟨hb_4, hf⟩ := gb_in hf
  obtain ⟨P_4, hP_4, hf⟩ := Lt_el hf
  refine g_copyi (Lw' := [sPieces E aP P_4, sPieces E aP2 P2]) F 1 4 0 4 rfl rfl rfl rfl (by decide +kernel) (by decide +kernel) (by decide +kernel) (by decide +kernel) hb_4 rfl (Nat.le_of_ble_eq_true rfl) (Nat.le_of_ble_eq_true rfl) dX6_copyFrom_73 (by subst hP_4; rfl) ?_
  refine g_aload_n F dX6_copyFrom_76 rfl ?_
  refine g_get (C := RX6) (T := TX6) (N := 6) F 1 0 5 rfl rfl rfl iX6_copyFrom_X6 (by decide) (by decide +kernel) rfl dX6_copyFrom_77 ?_
  refine g_iconst F 0 dX6_copyFrom_80 rfl ?_
  refine g_aload_n F dX6_copyFrom_81 rfl ?_
  refine g_get (C := RX6) (T := TX6) (N := 6) F 0 0 5 rfl rfl rfl iX6_copyFrom_X6 (by decide) (by decide +kernel) rfl dX6_copyFrom_82 ?_
  refine g_iconst F 0 dX6_copyFrom_85 rfl ?_
  refine g_aload_n F dX6_copyFrom_86 rfl ?_
  refine g_get (C := RX6) (T := TX6) (N := 6) F 0 0 0 rfl rfl rfl iX6_copyFrom_X6 (by decide) (by decide +kernel) rfl dX6_copyFrom_87 ?_
  obtain ⟨hb_5, hf⟩ := gb_in hf
  obtain ⟨P_5, hP_5, hf⟩ := Lt_el hf
  refine g_copyi (Lw' := [sPieces E aP P_5, sPieces E aP2 P2]) F 1 5 0 5 rfl rfl rfl rfl (by decide +kernel) (by decide +kernel) (by decide +kernel) (by decide +kernel) hb_5 rfl (Nat.le_of_ble_eq_true rfl) (Nat.le_of_ble_eq_true rfl) dX6_copyFrom_90 (by subst hP_5; rfl) ?_
  cases hf
  exact g_vret F rfl ⟨rfl, rfl⟩ dX6_copyFrom_93
set_option maxHeartbeats 4000000 in
set_option maxRecDepth 100000 in
theorem ctX8_copyFrom (l : Launch) (E : gE) (aW aW2 : Nat → Nat) (W : tWords) (W2 : tWords) (W' : tWords) (hf : fX8_copyFrom W W2 = some W') : gMet l yX8_copyFrom wsX8_copyFrom rmX8_copyFrom vwCl E [.ref (aW 0), .ref (aW2 0)] [sWords E aW W, sWords E aW2 W2] (fun v w => v = none ∧ w = [sWords E aW W', sWords E aW2 W2]) 0 0 := by
  refine g_entry [some (.ref (aW 0)), some (.ref (aW2 0))] (by decide) rfl (Nat.le_of_ble_eq_true rfl) rfl ?_
  intro p e s m below meth c A F hnm
  unfold fX8_copyFrom at hf
  refine g_aload_n F dX8_copyFrom_0 rfl ?_
  refine g_aload_n F dX8_copyFrom_1 rfl ?_
  refine g_get (C := RX8) (T := TX8) (N := 5) F 1 0 0 rfl rfl rfl iX8_copyFrom_X8 (by decide) (by decide +kernel) rfl dX8_copyFrom_2 ?_
  refine g_put (C := RX8) (T := TX8) (N := 5) (tys := tyX8) (Lw' := [sWords E aW (W2.1, W.2.1, W.2.2.1, W.2.2.2.1, W.2.2.2.2), sWords E aW2 W2]) F 0 0 0 rfl rfl rfl iX8_copyFrom_X8 tyX8_ok nmX8 (by decide) (by decide +kernel) rfl rfl rfl rfl (Nat.le_of_ble_eq_true rfl) dX8_copyFrom_5 rfl ?_
  refine g_aload_n F dX8_copyFrom_8 rfl ?_
  refine g_get (C := RX8) (T := TX8) (N := 5) F 1 0 1 rfl rfl rfl iX8_copyFrom_X8 (by decide) (by decide +kernel) rfl dX8_copyFrom_9 ?_
  refine g_iconst F 0 dX8_copyFrom_12 rfl ?_
  refine g_aload_n F dX8_copyFrom_13 rfl ?_
  refine g_get (C := RX8) (T := TX8) (N := 5) F 0 0 1 rfl rfl rfl iX8_copyFrom_X8 (by decide) (by decide +kernel) rfl dX8_copyFrom_14 ?_
  refine g_iconst F 0 dX8_copyFrom_17 rfl ?_
  refine g_aload_n F dX8_copyFrom_18 rfl ?_
  refine g_get (C := RX8) (T := TX8) (N := 5) F 0 0 0 rfl rfl rfl iX8_copyFrom_X8 (by decide) (by decide +kernel) rfl dX8_copyFrom_19 ?_
  obtain ⟨hb_1, hf⟩ := gb_in hf
  obtain ⟨W_1, hW_1, hf⟩ := Lt_el hf
  refine g_copyl (Lw' := [sWords E aW W_1, sWords E aW2 W2]) F 1 1 0 1 rfl rfl rfl rfl (by decide +kernel) (by decide +kernel) (by decide +kernel) (by decide +kernel) hb_1 rfl (Nat.le_of_ble_eq_true rfl) (Nat.le_of_ble_eq_true rfl) dX8_copyFrom_22 (by subst hW_1; rfl) ?_
  refine g_aload_n F dX8_copyFrom_25 rfl ?_
  refine g_get (C := RX8) (T := TX8) (N := 5) F 1 0 2 rfl rfl rfl iX8_copyFrom_X8 (by decide) (by decide +kernel) rfl dX8_copyFrom_26 ?_
  refine g_iconst F 0 dX8_copyFrom_29 rfl ?_
  refine g_aload_n F dX8_copyFrom_30 rfl ?_
  refine g_get (C := RX8) (T := TX8) (N := 5) F 0 0 2 rfl rfl rfl iX8_copyFrom_X8 (by decide) (by decide +kernel) rfl dX8_copyFrom_31 ?_
  refine g_iconst F 0 dX8_copyFrom_34 rfl ?_
  refine g_aload_n F dX8_copyFrom_35 rfl ?_
  refine g_get (C := RX8) (T := TX8) (N := 5) F 0 0 0 rfl rfl rfl iX8_copyFrom_X8 (by decide) (by decide +kernel) rfl dX8_copyFrom_36 ?_
  obtain ⟨hb_2, hf⟩ := gb_in hf
  obtain ⟨W_2, hW_2, hf⟩ := Lt_el hf
  refine g_copyi (Lw' := [sWords E aW W_2, sWords E aW2 W2]) F 1 2 0 2 rfl rfl rfl rfl (by decide +kernel) (by decide +kernel) (by decide +kernel) (by decide +kernel) hb_2 rfl (Nat.le_of_ble_eq_true rfl) (Nat.le_of_ble_eq_true rfl) dX8_copyFrom_39 (by subst hW_2; rfl) ?_
  refine g_aload_n F dX8_copyFrom_42 rfl ?_
  refine g_get (C := RX8) (T := TX8) (N := 5) F 1 0 3 rfl rfl rfl iX8_copyFrom_X8 (by decide) (by decide +kernel) rfl dX8_copyFrom_43 ?_
  refine g_iconst F 0 dX8_copyFrom_46 rfl ?_
  refine g_aload_n F dX8_copyFrom_47 rfl ?_
  refine g_get (C := RX8) (T := TX8) (N := 5) F 0 0 3 rfl rfl rfl iX8_copyFrom_X8 (by decide) (by decide +kernel) rfl dX8_copyFrom_48 ?_
  refine g_iconst F 0 dX8_copyFrom_51 rfl ?_
  refine g_aload_n F dX8_copyFrom_52 rfl ?_
  refine g_get (C := RX8) (T := TX8) (N := 5) F 0 0 0 rfl rfl rfl iX8_copyFrom_X8 (by decide) (by decide +kernel) rfl dX8_copyFrom_53 ?_
  obtain ⟨hb_3, hf⟩ := gb_in hf
  obtain ⟨W_3, hW_3, hf⟩ := Lt_el hf
  refine g_copyi (Lw' := [sWords E aW W_3, sWords E aW2 W2]) F 1 3 0 3 rfl rfl rfl rfl (by decide +kernel) (by decide +kernel) (by decide +kernel) (by decide +kernel) hb_3 rfl (Nat.le_of_ble_eq_true rfl) (Nat.le_of_ble_eq_true rfl) dX8_copyFrom_56 (by subst hW_3; rfl) ?_
  refine g_aload_n F dX8_copyFrom_59 rfl ?_
  refine g_get (C := RX8) (T := TX8) (N := 5) F 1 0 4 rfl rfl rfl iX8_copyFrom_X8 (by decide) (by decide +kernel) rfl dX8_copyFrom_60 ?_
  refine g_iconst F 0 dX8_copyFrom_63 rfl ?_
  refine g_aload_n F dX8_copyFrom_64 rfl ?_
  refine g_get (C := RX8) (T := TX8) (N := 5) F 0 0 4 rfl rfl rfl iX8_copyFrom_X8 (by decide) (by decide +kernel) rfl dX8_copyFrom_65 ?_
  refine g_iconst F 0 dX8_copyFrom_68 rfl ?_
  refine g_aload_n F dX8_copyFrom_69 rfl ?_
  refine g_get (C := RX8) (T := TX8) (N := 5) F 0 0 0 rfl rfl rfl iX8_copyFrom_X8 (by decide) (by decide +kernel) rfl dX8_copyFrom_70 ?_
  refine g_bipush F 12 dX8_copyFrom_73 rfl ?_
  refine g_imul F dX8_copyFrom_75 ?_
  obtain ⟨hb_4, hf⟩ := gb_in hf
  obtain ⟨W_4, hW_4, hf⟩ := Lt_el hf
  refine g_copyi (Lw' := [sWords E aW W_4, sWords E aW2 W2]) F 1 4 0 4 rfl rfl rfl rfl (by decide +kernel) (by decide +kernel) (by decide +kernel) (by decide +kernel) hb_4 rfl (Nat.le_of_ble_eq_true rfl) (Nat.le_of_ble_eq_true rfl) dX8_copyFrom_76 (by subst hW_4; rfl) ?_
  cases hf
  exact g_vret F rfl ⟨rfl, rfl⟩ dX8_copyFrom_79
set_option maxHeartbeats 4000000 in
set_option maxRecDepth 100000 in
theorem ctX8_isFull (l : Launch) (E : gE) (aW : Nat → Nat) (W : tWords) (r : Int32) (hf : fX8_isFull W = some r) : gMet l yX8_isFull wsX8_isFull rmX8_isFull vwCl E [.ref (aW 0)] [sWords E aW W] (fun v w => v = some (.int r) ∧ w = [sWords E aW W] ∧ narrow .boolean (.int r) = .int r) 0 0 := by
  refine g_entry [some (.ref (aW 0))] (by decide) rfl (Nat.le_of_ble_eq_true rfl) rfl ?_
  intro p e s m below meth c A F hnm
  unfold fX8_isFull at hf
  refine g_aload_n F dX8_isFull_0 rfl ?_
  refine g_get (C := RX8) (T := TX8) (N := 5) F 0 0 0 rfl rfl rfl iX8_isFull_X8 (by decide) (by decide +kernel) rfl dX8_isFull_1 ?_
  refine g_bipush F 16 dX8_isFull_4 rfl ?_
  refine g_icmp_lt F 13 dX8_isFull_6 (by decide) (fun hc_1 => ?_) (fun hc_1 => ?_)
  · replace hf := gi_t hc_1 hf
    refine g_iconst F 0 dX8_isFull_13 rfl ?_
    cases hf
    exact g_zret (ty := .boolean) F rfl rfl ⟨rfl, rfl, rfl⟩ dX8_isFull_14
  · replace hf := gi_f hc_1 hf
    refine g_iconst F 1 dX8_isFull_9 rfl ?_
    refine g_goto F 14 dX8_isFull_10 (by decide) ?_
    cases hf
    exact g_zret (ty := .boolean) F rfl rfl ⟨rfl, rfl, rfl⟩ dX8_isFull_14
set_option maxHeartbeats 4000000 in
set_option maxRecDepth 100000 in
theorem ctX7_coinsOf (l : Launch) (E : gE) (aU : Nat → Nat) (x1 : Int32) (U : tUsers) (r : Int32) (hf : fX7_coinsOf x1 U = some r) : gMet l yX7_coinsOf wsX7_coinsOf rmX7_coinsOf vwCl E [.ref (aU 0), .int x1] [sUsers E aU U] (fun v w => v = some (.int r) ∧ w = [sUsers E aU U]) 0 0 := by
  refine g_entry [some (.ref (aU 0)), some (.int x1)] (by decide) rfl (Nat.le_of_ble_eq_true rfl) rfl ?_
  intro p e s m below meth c A F hnm
  unfold fX7_coinsOf at hf
  refine g_iload_n F dX7_coinsOf_0 rfl ?_
  refine g_iflt F 21 dX7_coinsOf_1 (by decide) (fun hc_2 => ?_) (fun hc_2 => ?_)
  · replace hf := gi_t hc_2 hf
    refine g_iconst F 0 dX7_coinsOf_21 rfl ?_
    cases hf
    exact g_iret F rfl ⟨rfl, rfl⟩ dX7_coinsOf_22
  · replace hf := gi_f hc_2 hf
    refine g_iload_n F dX7_coinsOf_4 rfl ?_
    refine g_aload_n F dX7_coinsOf_5 rfl ?_
    refine g_get (C := RX7) (T := TX7) (N := 3) F 0 0 0 rfl rfl rfl iX7_coinsOf_X7 (by decide) (by decide +kernel) rfl dX7_coinsOf_6 ?_
    refine g_icmp_ge F 21 dX7_coinsOf_9 (by decide) (fun hc_1 => ?_) (fun hc_1 => ?_)
    · replace hf := gi_t hc_1 hf
      refine g_iconst F 0 dX7_coinsOf_21 rfl ?_
      cases hf
      exact g_iret F rfl ⟨rfl, rfl⟩ dX7_coinsOf_22
    · replace hf := gi_f hc_1 hf
      refine g_aload_n F dX7_coinsOf_12 rfl ?_
      refine g_get (C := RX7) (T := TX7) (N := 3) F 0 0 2 rfl rfl rfl iX7_coinsOf_X7 (by decide) (by decide +kernel) rfl dX7_coinsOf_13 ?_
      refine g_iload_n F dX7_coinsOf_16 rfl ?_
      obtain ⟨hb_1, hf⟩ := gb_in hf
      refine g_iald F 0 2 (x1.toNatClampNeg) rfl rfl rfl hb_1 dX7_coinsOf_17 ?_
      refine g_goto F 22 dX7_coinsOf_18 (by decide) ?_
      cases hf
      exact g_iret F rfl ⟨rfl, rfl⟩ dX7_coinsOf_22
set_option maxHeartbeats 4000000 in
set_option maxRecDepth 100000 in
theorem ctX8_add (l : Launch) (E : gE) (aW : Nat → Nat) (x1 : Int64) (x3 : Int32) (W : tWords) (r : Int32) (W' : tWords) (hf : fX8_add x1 x3 W = some (r, W')) : gMet l yX8_add wsX8_add rmX8_add vwCl E [.ref (aW 0), .long x1, .int x3] [sWords E aW W] (fun v w => v = some (.int r) ∧ w = [sWords E aW W']) 0 0 := by
  refine g_entry [some (.ref (aW 0)), some (.long x1), none, some (.int x3)] (by decide) rfl (Nat.le_of_ble_eq_true rfl) rfl ?_
  intro p e s m below meth c A F hnm
  unfold fX8_add at hf
  refine g_aload_n F dX8_add_0 rfl ?_
  refine g_get (C := RX8) (T := TX8) (N := 5) F 0 0 0 rfl rfl rfl iX8_add_X8 (by decide) (by decide +kernel) rfl dX8_add_1 ?_
  refine g_bipush F 16 dX8_add_4 rfl ?_
  refine g_icmp_lt F 11 dX8_add_6 (by decide) (fun hc_1 => ?_) (fun hc_1 => ?_)
  · replace hf := gi_t hc_1 hf
    refine g_aload_n F dX8_add_11 rfl ?_
    refine g_get (C := RX8) (T := TX8) (N := 5) F 0 0 1 rfl rfl rfl iX8_add_X8 (by decide) (by decide +kernel) rfl dX8_add_12 ?_
    refine g_aload_n F dX8_add_15 rfl ?_
    refine g_get (C := RX8) (T := TX8) (N := 5) F 0 0 0 rfl rfl rfl iX8_add_X8 (by decide) (by decide +kernel) rfl dX8_add_16 ?_
    refine g_lload_n F dX8_add_19 rfl ?_
    obtain ⟨hb_1, hf⟩ := gb_in hf
    obtain ⟨W_1, hW_1, hf⟩ := Lt_el hf
    refine g_last (Lw' := [sWords E aW W_1]) F 0 1 (W.1.toNatClampNeg) rfl rfl rfl hb_1 dX8_add_20 (by subst hW_1; rfl) ?_
    refine g_aload_n F dX8_add_21 rfl ?_
    refine g_get (C := RX8) (T := TX8) (N := 5) F 0 0 2 rfl rfl rfl iX8_add_X8 (by decide) (by decide +kernel) rfl dX8_add_22 ?_
    refine g_aload_n F dX8_add_25 rfl ?_
    refine g_get (C := RX8) (T := TX8) (N := 5) F 0 0 0 rfl rfl rfl iX8_add_X8 (by decide) (by decide +kernel) rfl dX8_add_26 ?_
    refine g_iload_n F dX8_add_29 rfl ?_
    obtain ⟨hb_2, hf⟩ := gb_in hf
    obtain ⟨W_2, hW_2, hf⟩ := Lt_el hf
    refine g_iast (Lw' := [sWords E aW W_2]) F 0 2 (W_1.1.toNatClampNeg) rfl rfl rfl hb_2 dX8_add_30 (by subst hW_2; rfl) ?_
    refine g_aload_n F dX8_add_31 rfl ?_
    refine g_get (C := RX8) (T := TX8) (N := 5) F 0 0 3 rfl rfl rfl iX8_add_X8 (by decide) (by decide +kernel) rfl dX8_add_32 ?_
    refine g_aload_n F dX8_add_35 rfl ?_
    refine g_get (C := RX8) (T := TX8) (N := 5) F 0 0 0 rfl rfl rfl iX8_add_X8 (by decide) (by decide +kernel) rfl dX8_add_36 ?_
    refine g_iconst F 0 dX8_add_39 rfl ?_
    obtain ⟨hb_3, hf⟩ := gb_in hf
    obtain ⟨W_3, hW_3, hf⟩ := Lt_el hf
    refine g_iast (Lw' := [sWords E aW W_3]) F 0 3 (W_2.1.toNatClampNeg) rfl rfl rfl hb_3 dX8_add_40 (by subst hW_3; rfl) ?_
    refine g_aload_n F dX8_add_41 rfl ?_
    refine g_dup F dX8_add_42 rfl ?_
    refine g_get (C := RX8) (T := TX8) (N := 5) F 0 0 0 rfl rfl rfl iX8_add_X8 (by decide) (by decide +kernel) rfl dX8_add_43 ?_
    refine g_iconst F 1 dX8_add_46 rfl ?_
    refine g_iadd F dX8_add_47 ?_
    refine g_put (C := RX8) (T := TX8) (N := 5) (tys := tyX8) (Lw' := [sWords E aW (W_3.1 + 1, W_3.2.1, W_3.2.2.1, W_3.2.2.2.1, W_3.2.2.2.2)]) F 0 0 0 rfl rfl rfl iX8_add_X8 tyX8_ok nmX8 (by decide) (by decide +kernel) rfl rfl rfl rfl (Nat.le_of_ble_eq_true rfl) dX8_add_48 rfl ?_
    refine g_aload_n F dX8_add_51 rfl ?_
    refine g_get (C := RX8) (T := TX8) (N := 5) F 0 0 0 rfl rfl rfl iX8_add_X8 (by decide) (by decide +kernel) rfl dX8_add_52 ?_
    refine g_iconst F 1 dX8_add_55 rfl ?_
    refine g_isub F dX8_add_56 ?_
    cases hf
    exact g_iret F rfl ⟨rfl, rfl⟩ dX8_add_57
  · replace hf := gi_f hc_1 hf
    refine g_iconst F (-1) dX8_add_9 rfl ?_
    cases hf
    exact g_iret F rfl ⟨rfl, rfl⟩ dX8_add_10
set_option maxHeartbeats 4000000 in
set_option maxRecDepth 100000 in
theorem ctX7_give (l : Launch) (E : gE) (aU : Nat → Nat) (x1 : Int32) (x2 : Int32) (U : tUsers) (U' : tUsers) (hf : fX7_give x1 x2 U = some U') : gMet l yX7_give wsX7_give rmX7_give vwCl E [.ref (aU 0), .int x1, .int x2] [sUsers E aU U] (fun v w => v = none ∧ w = [sUsers E aU U']) 0 0 := by
  refine g_entry [some (.ref (aU 0)), some (.int x1), some (.int x2)] (by decide) rfl (Nat.le_of_ble_eq_true rfl) rfl ?_
  intro p e s m below meth c A F hnm
  unfold fX7_give at hf
  refine g_iload_n F dX7_give_0 rfl ?_
  refine g_iflt F 22 dX7_give_1 (by decide) (fun hc_2 => ?_) (fun hc_2 => ?_)
  · replace hf := gi_t hc_2 hf
    cases hf
    exact g_vret F rfl ⟨rfl, rfl⟩ dX7_give_22
  · replace hf := gi_f hc_2 hf
    refine g_iload_n F dX7_give_4 rfl ?_
    refine g_aload_n F dX7_give_5 rfl ?_
    refine g_get (C := RX7) (T := TX7) (N := 3) F 0 0 0 rfl rfl rfl iX7_give_X7 (by decide) (by decide +kernel) rfl dX7_give_6 ?_
    refine g_icmp_ge F 22 dX7_give_9 (by decide) (fun hc_1 => ?_) (fun hc_1 => ?_)
    · replace hf := gi_t hc_1 hf
      cases hf
      exact g_vret F rfl ⟨rfl, rfl⟩ dX7_give_22
    · replace hf := gi_f hc_1 hf
      refine g_aload_n F dX7_give_12 rfl ?_
      refine g_get (C := RX7) (T := TX7) (N := 3) F 0 0 2 rfl rfl rfl iX7_give_X7 (by decide) (by decide +kernel) rfl dX7_give_13 ?_
      refine g_iload_n F dX7_give_16 rfl ?_
      refine g_dup2 F dX7_give_17 rfl rfl ?_
      obtain ⟨hb_1, hf⟩ := gb_in hf
      refine g_iald F 0 2 (x1.toNatClampNeg) rfl rfl rfl hb_1 dX7_give_18 ?_
      refine g_iload_n F dX7_give_19 rfl ?_
      refine g_iadd F dX7_give_20 ?_
      obtain ⟨hb_2, hf⟩ := gb_in hf
      obtain ⟨U_1, hU_1, hf⟩ := Lt_el hf
      refine g_iast (Lw' := [sUsers E aU U_1]) F 0 2 (x1.toNatClampNeg) rfl rfl rfl hb_2 dX7_give_21 (by subst hU_1; rfl) ?_
      cases hf
      exact g_vret F rfl ⟨rfl, rfl⟩ dX7_give_22
set_option maxHeartbeats 4000000 in
set_option maxRecDepth 100000 in
theorem ctX6_add (l : Launch) (E : gE) (aP : Nat → Nat) (x1 : Int64) (x3 : Int32) (x4 : Int32) (x5 : Int32) (P : tPieces) (r : Int32) (P' : tPieces) (hf : fX6_add x1 x3 x4 x5 P = some (r, P')) : gMet l yX6_add wsX6_add rmX6_add vwCl E [.ref (aP 0), .long x1, .int x3, .int x4, .int x5] [sPieces E aP P] (fun v w => v = some (.int r) ∧ w = [sPieces E aP P']) 0 0 := by
  refine g_entry [some (.ref (aP 0)), some (.long x1), none, some (.int x3), some (.int x4), some (.int x5)] (by decide) rfl (Nat.le_of_ble_eq_true rfl) rfl ?_
  intro p e s m below meth c A F hnm
  unfold fX6_add at hf
  refine g_aload_n F dX6_add_0 rfl ?_
  refine g_get (C := RX6) (T := TX6) (N := 6) F 0 0 0 rfl rfl rfl iX6_add_X6 (by decide) (by decide +kernel) rfl dX6_add_1 ?_
  refine g_bipush F 24 dX6_add_4 rfl ?_
  refine g_icmp_lt F 11 dX6_add_6 (by decide) (fun hc_1 => ?_) (fun hc_1 => ?_)
  · replace hf := gi_t hc_1 hf
    refine g_aload_n F dX6_add_11 rfl ?_
    refine g_get (C := RX6) (T := TX6) (N := 6) F 0 0 1 rfl rfl rfl iX6_add_X6 (by decide) (by decide +kernel) rfl dX6_add_12 ?_
    refine g_aload_n F dX6_add_15 rfl ?_
    refine g_get (C := RX6) (T := TX6) (N := 6) F 0 0 0 rfl rfl rfl iX6_add_X6 (by decide) (by decide +kernel) rfl dX6_add_16 ?_
    refine g_lload_n F dX6_add_19 rfl ?_
    obtain ⟨hb_1, hf⟩ := gb_in hf
    obtain ⟨P_1, hP_1, hf⟩ := Lt_el hf
    refine g_last (Lw' := [sPieces E aP P_1]) F 0 1 (P.1.toNatClampNeg) rfl rfl rfl hb_1 dX6_add_20 (by subst hP_1; rfl) ?_
    refine g_aload_n F dX6_add_21 rfl ?_
    refine g_get (C := RX6) (T := TX6) (N := 6) F 0 0 2 rfl rfl rfl iX6_add_X6 (by decide) (by decide +kernel) rfl dX6_add_22 ?_
    refine g_aload_n F dX6_add_25 rfl ?_
    refine g_get (C := RX6) (T := TX6) (N := 6) F 0 0 0 rfl rfl rfl iX6_add_X6 (by decide) (by decide +kernel) rfl dX6_add_26 ?_
    refine g_iload_n F dX6_add_29 rfl ?_
    obtain ⟨hb_2, hf⟩ := gb_in hf
    obtain ⟨P_2, hP_2, hf⟩ := Lt_el hf
    refine g_iast (Lw' := [sPieces E aP P_2]) F 0 2 (P_1.1.toNatClampNeg) rfl rfl rfl hb_2 dX6_add_30 (by subst hP_2; rfl) ?_
    refine g_aload_n F dX6_add_31 rfl ?_
    refine g_get (C := RX6) (T := TX6) (N := 6) F 0 0 3 rfl rfl rfl iX6_add_X6 (by decide) (by decide +kernel) rfl dX6_add_32 ?_
    refine g_aload_n F dX6_add_35 rfl ?_
    refine g_get (C := RX6) (T := TX6) (N := 6) F 0 0 0 rfl rfl rfl iX6_add_X6 (by decide) (by decide +kernel) rfl dX6_add_36 ?_
    refine g_iload F dX6_add_39 rfl ?_
    obtain ⟨hb_3, hf⟩ := gb_in hf
    obtain ⟨P_3, hP_3, hf⟩ := Lt_el hf
    refine g_iast (Lw' := [sPieces E aP P_3]) F 0 3 (P_2.1.toNatClampNeg) rfl rfl rfl hb_3 dX6_add_41 (by subst hP_3; rfl) ?_
    refine g_aload_n F dX6_add_42 rfl ?_
    refine g_get (C := RX6) (T := TX6) (N := 6) F 0 0 4 rfl rfl rfl iX6_add_X6 (by decide) (by decide +kernel) rfl dX6_add_43 ?_
    refine g_aload_n F dX6_add_46 rfl ?_
    refine g_get (C := RX6) (T := TX6) (N := 6) F 0 0 0 rfl rfl rfl iX6_add_X6 (by decide) (by decide +kernel) rfl dX6_add_47 ?_
    refine g_iconst F 0 dX6_add_50 rfl ?_
    obtain ⟨hb_4, hf⟩ := gb_in hf
    obtain ⟨P_4, hP_4, hf⟩ := Lt_el hf
    refine g_iast (Lw' := [sPieces E aP P_4]) F 0 4 (P_3.1.toNatClampNeg) rfl rfl rfl hb_4 dX6_add_51 (by subst hP_4; rfl) ?_
    refine g_aload_n F dX6_add_52 rfl ?_
    refine g_get (C := RX6) (T := TX6) (N := 6) F 0 0 5 rfl rfl rfl iX6_add_X6 (by decide) (by decide +kernel) rfl dX6_add_53 ?_
    refine g_aload_n F dX6_add_56 rfl ?_
    refine g_get (C := RX6) (T := TX6) (N := 6) F 0 0 0 rfl rfl rfl iX6_add_X6 (by decide) (by decide +kernel) rfl dX6_add_57 ?_
    refine g_iload F dX6_add_60 rfl ?_
    obtain ⟨hb_5, hf⟩ := gb_in hf
    obtain ⟨P_5, hP_5, hf⟩ := Lt_el hf
    refine g_iast (Lw' := [sPieces E aP P_5]) F 0 5 (P_4.1.toNatClampNeg) rfl rfl rfl hb_5 dX6_add_62 (by subst hP_5; rfl) ?_
    refine g_aload_n F dX6_add_63 rfl ?_
    refine g_dup F dX6_add_64 rfl ?_
    refine g_get (C := RX6) (T := TX6) (N := 6) F 0 0 0 rfl rfl rfl iX6_add_X6 (by decide) (by decide +kernel) rfl dX6_add_65 ?_
    refine g_iconst F 1 dX6_add_68 rfl ?_
    refine g_iadd F dX6_add_69 ?_
    refine g_put (C := RX6) (T := TX6) (N := 6) (tys := tyX6) (Lw' := [sPieces E aP (P_5.1 + 1, P_5.2.1, P_5.2.2.1, P_5.2.2.2.1, P_5.2.2.2.2.1, P_5.2.2.2.2.2)]) F 0 0 0 rfl rfl rfl iX6_add_X6 tyX6_ok nmX6 (by decide) (by decide +kernel) rfl rfl rfl rfl (Nat.le_of_ble_eq_true rfl) dX6_add_70 rfl ?_
    refine g_aload_n F dX6_add_73 rfl ?_
    refine g_get (C := RX6) (T := TX6) (N := 6) F 0 0 0 rfl rfl rfl iX6_add_X6 (by decide) (by decide +kernel) rfl dX6_add_74 ?_
    refine g_iconst F 1 dX6_add_77 rfl ?_
    refine g_isub F dX6_add_78 ?_
    cases hf
    exact g_iret F rfl ⟨rfl, rfl⟩ dX6_add_79
  · replace hf := gi_f hc_1 hf
    refine g_iconst F (-1) dX6_add_9 rfl ?_
    cases hf
    exact g_iret F rfl ⟨rfl, rfl⟩ dX6_add_10
set_option maxHeartbeats 4000000 in
set_option maxRecDepth 100000 in
theorem ctX8_addPart (l : Launch) (E : gE) (aW : Nat → Nat) (x1 : Int32) (x2 : Int32) (W : tWords) (W' : tWords) (hf : fX8_addPart x1 x2 W = some W') : gMet l yX8_addPart wsX8_addPart rmX8_addPart vwCl E [.ref (aW 0), .int x1, .int x2] [sWords E aW W] (fun v w => v = none ∧ w = [sWords E aW W']) 0 0 := by
  refine g_entry [some (.ref (aW 0)), some (.int x1), some (.int x2)] (by decide) rfl (Nat.le_of_ble_eq_true rfl) rfl ?_
  intro p e s m below meth c A F hnm
  unfold fX8_addPart at hf
  refine g_iload_n F dX8_addPart_0 rfl ?_
  refine g_iflt F 50 dX8_addPart_1 (by decide) (fun hc_3 => ?_) (fun hc_3 => ?_)
  · replace hf := gi_t hc_3 hf
    cases hf
    exact g_vret F rfl ⟨rfl, rfl⟩ dX8_addPart_50
  · replace hf := gi_f hc_3 hf
    refine g_iload_n F dX8_addPart_4 rfl ?_
    refine g_aload_n F dX8_addPart_5 rfl ?_
    refine g_get (C := RX8) (T := TX8) (N := 5) F 0 0 0 rfl rfl rfl iX8_addPart_X8 (by decide) (by decide +kernel) rfl dX8_addPart_6 ?_
    refine g_icmp_ge F 50 dX8_addPart_9 (by decide) (fun hc_2 => ?_) (fun hc_2 => ?_)
    · replace hf := gi_t hc_2 hf
      cases hf
      exact g_vret F rfl ⟨rfl, rfl⟩ dX8_addPart_50
    · replace hf := gi_f hc_2 hf
      refine g_aload_n F dX8_addPart_12 rfl ?_
      refine g_get (C := RX8) (T := TX8) (N := 5) F 0 0 3 rfl rfl rfl iX8_addPart_X8 (by decide) (by decide +kernel) rfl dX8_addPart_13 ?_
      refine g_iload_n F dX8_addPart_16 rfl ?_
      obtain ⟨hb_1, hf⟩ := gb_in hf
      refine g_iald F 0 3 (x1.toNatClampNeg) rfl rfl rfl hb_1 dX8_addPart_17 ?_
      refine g_bipush F 12 dX8_addPart_18 rfl ?_
      refine g_icmp_ge F 50 dX8_addPart_20 (by decide) (fun hc_1 => ?_) (fun hc_1 => ?_)
      · replace hf := gi_t hc_1 hf
        cases hf
        exact g_vret F rfl ⟨rfl, rfl⟩ dX8_addPart_50
      · replace hf := gi_f hc_1 hf
        refine g_aload_n F dX8_addPart_23 rfl ?_
        refine g_get (C := RX8) (T := TX8) (N := 5) F 0 0 4 rfl rfl rfl iX8_addPart_X8 (by decide) (by decide +kernel) rfl dX8_addPart_24 ?_
        refine g_iload_n F dX8_addPart_27 rfl ?_
        refine g_bipush F 12 dX8_addPart_28 rfl ?_
        refine g_imul F dX8_addPart_30 ?_
        refine g_aload_n F dX8_addPart_31 rfl ?_
        refine g_get (C := RX8) (T := TX8) (N := 5) F 0 0 3 rfl rfl rfl iX8_addPart_X8 (by decide) (by decide +kernel) rfl dX8_addPart_32 ?_
        refine g_iload_n F dX8_addPart_35 rfl ?_
        obtain ⟨hb_2, hf⟩ := gb_in hf
        refine g_iald F 0 3 (x1.toNatClampNeg) rfl rfl rfl hb_2 dX8_addPart_36 ?_
        refine g_iadd F dX8_addPart_37 ?_
        refine g_iload_n F dX8_addPart_38 rfl ?_
        obtain ⟨hb_3, hf⟩ := gb_in hf
        obtain ⟨W_1, hW_1, hf⟩ := Lt_el hf
        refine g_iast (Lw' := [sWords E aW W_1]) F 0 4 (((x1 * 12) + (W.2.2.2.1 (x1.toNatClampNeg))).toNatClampNeg) rfl rfl rfl hb_3 dX8_addPart_39 (by subst hW_1; rfl) ?_
        refine g_aload_n F dX8_addPart_40 rfl ?_
        refine g_get (C := RX8) (T := TX8) (N := 5) F 0 0 3 rfl rfl rfl iX8_addPart_X8 (by decide) (by decide +kernel) rfl dX8_addPart_41 ?_
        refine g_iload_n F dX8_addPart_44 rfl ?_
        refine g_dup2 F dX8_addPart_45 rfl rfl ?_
        obtain ⟨hb_4, hf⟩ := gb_in hf
        refine g_iald F 0 3 (x1.toNatClampNeg) rfl rfl rfl hb_4 dX8_addPart_46 ?_
        refine g_iconst F 1 dX8_addPart_47 rfl ?_
        refine g_iadd F dX8_addPart_48 ?_
        obtain ⟨hb_5, hf⟩ := gb_in hf
        obtain ⟨W_2, hW_2, hf⟩ := Lt_el hf
        refine g_iast (Lw' := [sWords E aW W_2]) F 0 3 (x1.toNatClampNeg) rfl rfl rfl hb_5 dX8_addPart_49 (by subst hW_2; rfl) ?_
        cases hf
        exact g_vret F rfl ⟨rfl, rfl⟩ dX8_addPart_50
set_option maxHeartbeats 4000000 in
set_option maxRecDepth 100000 in
theorem ctX6_beginUse (l : Launch) (E : gE) (aP : Nat → Nat) (x1 : Int32) (P : tPieces) (P' : tPieces) (hf : fX6_beginUse x1 P = some P') : gMet l yX6_beginUse wsX6_beginUse rmX6_beginUse vwCl E [.ref (aP 0), .int x1] [sPieces E aP P] (fun v w => v = none ∧ w = [sPieces E aP P']) 0 0 := by
  refine g_entry [some (.ref (aP 0)), some (.int x1)] (by decide) rfl (Nat.le_of_ble_eq_true rfl) rfl ?_
  intro p e s m below meth c A F hnm
  unfold fX6_beginUse at hf
  refine g_iload_n F dX6_beginUse_0 rfl ?_
  refine g_iflt F 22 dX6_beginUse_1 (by decide) (fun hc_2 => ?_) (fun hc_2 => ?_)
  · replace hf := gi_t hc_2 hf
    cases hf
    exact g_vret F rfl ⟨rfl, rfl⟩ dX6_beginUse_22
  · replace hf := gi_f hc_2 hf
    refine g_iload_n F dX6_beginUse_4 rfl ?_
    refine g_aload_n F dX6_beginUse_5 rfl ?_
    refine g_get (C := RX6) (T := TX6) (N := 6) F 0 0 0 rfl rfl rfl iX6_beginUse_X6 (by decide) (by decide +kernel) rfl dX6_beginUse_6 ?_
    refine g_icmp_ge F 22 dX6_beginUse_9 (by decide) (fun hc_1 => ?_) (fun hc_1 => ?_)
    · replace hf := gi_t hc_1 hf
      cases hf
      exact g_vret F rfl ⟨rfl, rfl⟩ dX6_beginUse_22
    · replace hf := gi_f hc_1 hf
      refine g_aload_n F dX6_beginUse_12 rfl ?_
      refine g_get (C := RX6) (T := TX6) (N := 6) F 0 0 4 rfl rfl rfl iX6_beginUse_X6 (by decide) (by decide +kernel) rfl dX6_beginUse_13 ?_
      refine g_iload_n F dX6_beginUse_16 rfl ?_
      refine g_dup2 F dX6_beginUse_17 rfl rfl ?_
      obtain ⟨hb_1, hf⟩ := gb_in hf
      refine g_iald F 0 4 (x1.toNatClampNeg) rfl rfl rfl hb_1 dX6_beginUse_18 ?_
      refine g_iconst F 1 dX6_beginUse_19 rfl ?_
      refine g_iadd F dX6_beginUse_20 ?_
      obtain ⟨hb_2, hf⟩ := gb_in hf
      obtain ⟨P_1, hP_1, hf⟩ := Lt_el hf
      refine g_iast (Lw' := [sPieces E aP P_1]) F 0 4 (x1.toNatClampNeg) rfl rfl rfl hb_2 dX6_beginUse_21 (by subst hP_1; rfl) ?_
      cases hf
      exact g_vret F rfl ⟨rfl, rfl⟩ dX6_beginUse_22
set_option maxHeartbeats 4000000 in
set_option maxRecDepth 100000 in
theorem ctX8_partAt (l : Launch) (E : gE) (aW : Nat → Nat) (x1 : Int32) (x2 : Int32) (W : tWords) (r : Int32) (hf : fX8_partAt x1 x2 W = some r) : gMet l yX8_partAt wsX8_partAt rmX8_partAt vwCl E [.ref (aW 0), .int x1, .int x2] [sWords E aW W] (fun v w => v = some (.int r) ∧ w = [sWords E aW W]) 0 0 := by
  refine g_entry [some (.ref (aW 0)), some (.int x1), some (.int x2)] (by decide) rfl (Nat.le_of_ble_eq_true rfl) rfl ?_
  intro p e s m below meth c A F hnm
  unfold fX8_partAt at hf
  refine g_iload_n F dX8_partAt_0 rfl ?_
  refine g_iflt F 26 dX8_partAt_1 (by decide) (fun hc_4 => ?_) (fun hc_4 => ?_)
  · replace hf := gi_t hc_4 hf
    refine g_iconst F (-1) dX8_partAt_26 rfl ?_
    cases hf
    exact g_iret F rfl ⟨rfl, rfl⟩ dX8_partAt_27
  · replace hf := gi_f hc_4 hf
    refine g_iload_n F dX8_partAt_4 rfl ?_
    refine g_aload_n F dX8_partAt_5 rfl ?_
    refine g_get (C := RX8) (T := TX8) (N := 5) F 0 0 0 rfl rfl rfl iX8_partAt_X8 (by decide) (by decide +kernel) rfl dX8_partAt_6 ?_
    refine g_icmp_ge F 26 dX8_partAt_9 (by decide) (fun hc_3 => ?_) (fun hc_3 => ?_)
    · replace hf := gi_t hc_3 hf
      refine g_iconst F (-1) dX8_partAt_26 rfl ?_
      cases hf
      exact g_iret F rfl ⟨rfl, rfl⟩ dX8_partAt_27
    · replace hf := gi_f hc_3 hf
      refine g_iload_n F dX8_partAt_12 rfl ?_
      refine g_iflt F 26 dX8_partAt_13 (by decide) (fun hc_2 => ?_) (fun hc_2 => ?_)
      · replace hf := gi_t hc_2 hf
        refine g_iconst F (-1) dX8_partAt_26 rfl ?_
        cases hf
        exact g_iret F rfl ⟨rfl, rfl⟩ dX8_partAt_27
      · replace hf := gi_f hc_2 hf
        refine g_iload_n F dX8_partAt_16 rfl ?_
        refine g_aload_n F dX8_partAt_17 rfl ?_
        refine g_get (C := RX8) (T := TX8) (N := 5) F 0 0 3 rfl rfl rfl iX8_partAt_X8 (by decide) (by decide +kernel) rfl dX8_partAt_18 ?_
        refine g_iload_n F dX8_partAt_21 rfl ?_
        obtain ⟨hb_1, hf⟩ := gb_in hf
        refine g_iald F 0 3 (x1.toNatClampNeg) rfl rfl rfl hb_1 dX8_partAt_22 ?_
        refine g_icmp_lt F 28 dX8_partAt_23 (by decide) (fun hc_1 => ?_) (fun hc_1 => ?_)
        · replace hf := gi_t hc_1 hf
          refine g_aload_n F dX8_partAt_28 rfl ?_
          refine g_get (C := RX8) (T := TX8) (N := 5) F 0 0 4 rfl rfl rfl iX8_partAt_X8 (by decide) (by decide +kernel) rfl dX8_partAt_29 ?_
          refine g_iload_n F dX8_partAt_32 rfl ?_
          refine g_bipush F 12 dX8_partAt_33 rfl ?_
          refine g_imul F dX8_partAt_35 ?_
          refine g_iload_n F dX8_partAt_36 rfl ?_
          refine g_iadd F dX8_partAt_37 ?_
          obtain ⟨hb_2, hf⟩ := gb_in hf
          refine g_iald F 0 4 (((x1 * 12) + x2).toNatClampNeg) rfl rfl rfl hb_2 dX8_partAt_38 ?_
          cases hf
          exact g_iret F rfl ⟨rfl, rfl⟩ dX8_partAt_39
        · replace hf := gi_f hc_1 hf
          refine g_iconst F (-1) dX8_partAt_26 rfl ?_
          cases hf
          exact g_iret F rfl ⟨rfl, rfl⟩ dX8_partAt_27
set_option maxHeartbeats 4000000 in
set_option maxRecDepth 100000 in
theorem ctX6_endUse (l : Launch) (E : gE) (aP : Nat → Nat) (x1 : Int32) (x2 : Int32) (P : tPieces) (P' : tPieces) (hf : fX6_endUse x1 x2 P = some P') : gMet l yX6_endUse wsX6_endUse rmX6_endUse vwCl E [.ref (aP 0), .int x1, .int x2] [sPieces E aP P] (fun v w => v = none ∧ w = [sPieces E aP P']) 0 0 := by
  refine g_entry [some (.ref (aP 0)), some (.int x1), some (.int x2)] (by decide) rfl (Nat.le_of_ble_eq_true rfl) rfl ?_
  intro p e s m below meth c A F hnm
  unfold fX6_endUse at hf
  refine g_iload_n F dX6_endUse_0 rfl ?_
  refine g_iflt F 38 dX6_endUse_1 (by decide) (fun hc_3 => ?_) (fun hc_3 => ?_)
  · replace hf := gi_t hc_3 hf
    cases hf
    exact g_vret F rfl ⟨rfl, rfl⟩ dX6_endUse_38
  · replace hf := gi_f hc_3 hf
    refine g_iload_n F dX6_endUse_4 rfl ?_
    refine g_aload_n F dX6_endUse_5 rfl ?_
    refine g_get (C := RX6) (T := TX6) (N := 6) F 0 0 0 rfl rfl rfl iX6_endUse_X6 (by decide) (by decide +kernel) rfl dX6_endUse_6 ?_
    refine g_icmp_ge F 38 dX6_endUse_9 (by decide) (fun hc_2 => ?_) (fun hc_2 => ?_)
    · replace hf := gi_t hc_2 hf
      cases hf
      exact g_vret F rfl ⟨rfl, rfl⟩ dX6_endUse_38
    · replace hf := gi_f hc_2 hf
      refine g_aload_n F dX6_endUse_12 rfl ?_
      refine g_get (C := RX6) (T := TX6) (N := 6) F 0 0 4 rfl rfl rfl iX6_endUse_X6 (by decide) (by decide +kernel) rfl dX6_endUse_13 ?_
      refine g_iload_n F dX6_endUse_16 rfl ?_
      refine g_dup2 F dX6_endUse_17 rfl rfl ?_
      obtain ⟨hb_1, hf⟩ := gb_in hf
      refine g_iald F 0 4 (x1.toNatClampNeg) rfl rfl rfl hb_1 dX6_endUse_18 ?_
      refine g_iconst F 1 dX6_endUse_19 rfl ?_
      refine g_isub F dX6_endUse_20 ?_
      obtain ⟨hb_2, hf⟩ := gb_in hf
      obtain ⟨P_1, hP_1, hf⟩ := Lt_el hf
      refine g_iast (Lw' := [sPieces E aP P_1]) F 0 4 (x1.toNatClampNeg) rfl rfl rfl hb_2 dX6_endUse_21 (by subst hP_1; rfl) ?_
      refine g_aload_n F dX6_endUse_22 rfl ?_
      refine g_get (C := RX6) (T := TX6) (N := 6) F 0 0 4 rfl rfl rfl iX6_endUse_X6 (by decide) (by decide +kernel) rfl dX6_endUse_23 ?_
      refine g_iload_n F dX6_endUse_26 rfl ?_
      obtain ⟨hb_3, hf⟩ := gb_in hf
      refine g_iald F 0 4 (x1.toNatClampNeg) rfl rfl rfl hb_3 dX6_endUse_27 ?_
      refine g_ifne F 38 dX6_endUse_28 (by decide) (fun hc_1 => ?_) (fun hc_1 => ?_)
      · replace hf := gi_f hc_1 hf
        cases hf
        exact g_vret F rfl ⟨rfl, rfl⟩ dX6_endUse_38
      · replace hf := gi_t hc_1 hf
        refine g_aload_n F dX6_endUse_31 rfl ?_
        refine g_get (C := RX6) (T := TX6) (N := 6) F 0 0 5 rfl rfl rfl iX6_endUse_X6 (by decide) (by decide +kernel) rfl dX6_endUse_32 ?_
        refine g_iload_n F dX6_endUse_35 rfl ?_
        refine g_iload_n F dX6_endUse_36 rfl ?_
        obtain ⟨hb_4, hf⟩ := gb_in hf
        obtain ⟨P_2, hP_2, hf⟩ := Lt_el hf
        refine g_iast (Lw' := [sPieces E aP P_2]) F 0 5 (x1.toNatClampNeg) rfl rfl rfl hb_4 dX6_endUse_37 (by subst hP_2; rfl) ?_
        cases hf
        exact g_vret F rfl ⟨rfl, rfl⟩ dX6_endUse_38
set_option maxHeartbeats 4000000 in
set_option maxRecDepth 100000 in
theorem ctX8_drop (l : Launch) (E : gE) (aW : Nat → Nat) (x1 : Int32) (W : tWords) (W' : tWords) (hf : fX8_drop x1 W = some W') : gMet l yX8_drop wsX8_drop rmX8_drop vwCl E [.ref (aW 0), .int x1] [sWords E aW W] (fun v w => v = none ∧ w = [sWords E aW W']) 0 0 := by
  refine g_entry [some (.ref (aW 0)), some (.int x1), none] (by decide) rfl (Nat.le_of_ble_eq_true rfl) rfl ?_
  intro p e s m below meth c A F hnm
  unfold fX8_drop at hf
  refine g_iload_n F dX8_drop_0 rfl ?_
  refine g_iflt F 12 dX8_drop_1 (by decide) (fun hc_2 => ?_) (fun hc_2 => ?_)
  · replace hf := gi_t hc_2 hf
    cases hf
    exact g_vret F rfl ⟨rfl, rfl⟩ dX8_drop_12
  · replace hf := gi_f hc_2 hf
    refine g_iload_n F dX8_drop_4 rfl ?_
    refine g_aload_n F dX8_drop_5 rfl ?_
    refine g_get (C := RX8) (T := TX8) (N := 5) F 0 0 0 rfl rfl rfl iX8_drop_X8 (by decide) (by decide +kernel) rfl dX8_drop_6 ?_
    refine g_icmp_lt F 13 dX8_drop_9 (by decide) (fun hc_1 => ?_) (fun hc_1 => ?_)
    · replace hf := gi_t hc_1 hf
      refine g_aload_n F dX8_drop_13 rfl ?_
      refine g_dup F dX8_drop_14 rfl ?_
      refine g_get (C := RX8) (T := TX8) (N := 5) F 0 0 0 rfl rfl rfl iX8_drop_X8 (by decide) (by decide +kernel) rfl dX8_drop_15 ?_
      refine g_iconst F 1 dX8_drop_18 rfl ?_
      refine g_isub F dX8_drop_19 ?_
      refine g_put (C := RX8) (T := TX8) (N := 5) (tys := tyX8) (Lw' := [sWords E aW (W.1 - 1, W.2.1, W.2.2.1, W.2.2.2.1, W.2.2.2.2)]) F 0 0 0 rfl rfl rfl iX8_drop_X8 tyX8_ok nmX8 (by decide) (by decide +kernel) rfl rfl rfl rfl (Nat.le_of_ble_eq_true rfl) dX8_drop_20 rfl ?_
      refine g_aload_n F dX8_drop_23 rfl ?_
      refine g_get (C := RX8) (T := TX8) (N := 5) F 0 0 0 rfl rfl rfl iX8_drop_X8 (by decide) (by decide +kernel) rfl dX8_drop_24 ?_
      refine g_iload_n F dX8_drop_27 rfl ?_
      refine g_isub F dX8_drop_28 ?_
      refine g_istore_n (lv' := [some (.ref (aW 0)), some (.int x1), some (.int ((W.1 - 1) - x1))]) F dX8_drop_29 (Nat.le_of_ble_eq_true rfl) rfl rfl ?_
      refine g_aload_n F dX8_drop_30 rfl ?_
      refine g_get (C := RX8) (T := TX8) (N := 5) F 0 0 1 rfl rfl rfl iX8_drop_X8 (by decide) (by decide +kernel) rfl dX8_drop_31 ?_
      refine g_iload_n F dX8_drop_34 rfl ?_
      refine g_iconst F 1 dX8_drop_35 rfl ?_
      refine g_iadd F dX8_drop_36 ?_
      refine g_aload_n F dX8_drop_37 rfl ?_
      refine g_get (C := RX8) (T := TX8) (N := 5) F 0 0 1 rfl rfl rfl iX8_drop_X8 (by decide) (by decide +kernel) rfl dX8_drop_38 ?_
      refine g_iload_n F dX8_drop_41 rfl ?_
      refine g_iload_n F dX8_drop_42 rfl ?_
      obtain ⟨hb_1, hf⟩ := gb_in hf
      obtain ⟨W_1, hW_1, hf⟩ := Lt_el hf
      refine g_copyl (Lw' := [sWords E aW W_1]) F 0 1 0 1 rfl rfl rfl rfl (by decide +kernel) (by decide +kernel) (by decide +kernel) (by decide +kernel) hb_1 rfl (Nat.le_of_ble_eq_true rfl) (Nat.le_of_ble_eq_true rfl) dX8_drop_43 (by subst hW_1; rfl) ?_
      refine g_aload_n F dX8_drop_46 rfl ?_
      refine g_get (C := RX8) (T := TX8) (N := 5) F 0 0 2 rfl rfl rfl iX8_drop_X8 (by decide) (by decide +kernel) rfl dX8_drop_47 ?_
      refine g_iload_n F dX8_drop_50 rfl ?_
      refine g_iconst F 1 dX8_drop_51 rfl ?_
      refine g_iadd F dX8_drop_52 ?_
      refine g_aload_n F dX8_drop_53 rfl ?_
      refine g_get (C := RX8) (T := TX8) (N := 5) F 0 0 2 rfl rfl rfl iX8_drop_X8 (by decide) (by decide +kernel) rfl dX8_drop_54 ?_
      refine g_iload_n F dX8_drop_57 rfl ?_
      refine g_iload_n F dX8_drop_58 rfl ?_
      obtain ⟨hb_2, hf⟩ := gb_in hf
      obtain ⟨W_2, hW_2, hf⟩ := Lt_el hf
      refine g_copyi (Lw' := [sWords E aW W_2]) F 0 2 0 2 rfl rfl rfl rfl (by decide +kernel) (by decide +kernel) (by decide +kernel) (by decide +kernel) hb_2 rfl (Nat.le_of_ble_eq_true rfl) (Nat.le_of_ble_eq_true rfl) dX8_drop_59 (by subst hW_2; rfl) ?_
      refine g_aload_n F dX8_drop_62 rfl ?_
      refine g_get (C := RX8) (T := TX8) (N := 5) F 0 0 3 rfl rfl rfl iX8_drop_X8 (by decide) (by decide +kernel) rfl dX8_drop_63 ?_
      refine g_iload_n F dX8_drop_66 rfl ?_
      refine g_iconst F 1 dX8_drop_67 rfl ?_
      refine g_iadd F dX8_drop_68 ?_
      refine g_aload_n F dX8_drop_69 rfl ?_
      refine g_get (C := RX8) (T := TX8) (N := 5) F 0 0 3 rfl rfl rfl iX8_drop_X8 (by decide) (by decide +kernel) rfl dX8_drop_70 ?_
      refine g_iload_n F dX8_drop_73 rfl ?_
      refine g_iload_n F dX8_drop_74 rfl ?_
      obtain ⟨hb_3, hf⟩ := gb_in hf
      obtain ⟨W_3, hW_3, hf⟩ := Lt_el hf
      refine g_copyi (Lw' := [sWords E aW W_3]) F 0 3 0 3 rfl rfl rfl rfl (by decide +kernel) (by decide +kernel) (by decide +kernel) (by decide +kernel) hb_3 rfl (Nat.le_of_ble_eq_true rfl) (Nat.le_of_ble_eq_true rfl) dX8_drop_75 (by subst hW_3; rfl) ?_
      refine g_aload_n F dX8_drop_78 rfl ?_
      refine g_get (C := RX8) (T := TX8) (N := 5) F 0 0 4 rfl rfl rfl iX8_drop_X8 (by decide) (by decide +kernel) rfl dX8_drop_79 ?_
      refine g_iload_n F dX8_drop_82 rfl ?_
      refine g_iconst F 1 dX8_drop_83 rfl ?_
      refine g_iadd F dX8_drop_84 ?_
      refine g_bipush F 12 dX8_drop_85 rfl ?_
      refine g_imul F dX8_drop_87 ?_
      refine g_aload_n F dX8_drop_88 rfl ?_
      refine g_get (C := RX8) (T := TX8) (N := 5) F 0 0 4 rfl rfl rfl iX8_drop_X8 (by decide) (by decide +kernel) rfl dX8_drop_89 ?_
      refine g_iload_n F dX8_drop_92 rfl ?_
      refine g_bipush F 12 dX8_drop_93 rfl ?_
      refine g_imul F dX8_drop_95 ?_
      refine g_iload_n F dX8_drop_96 rfl ?_
      refine g_bipush F 12 dX8_drop_97 rfl ?_
      refine g_imul F dX8_drop_99 ?_
      obtain ⟨hb_4, hf⟩ := gb_in hf
      obtain ⟨W_4, hW_4, hf⟩ := Lt_el hf
      refine g_copyi (Lw' := [sWords E aW W_4]) F 0 4 0 4 rfl rfl rfl rfl (by decide +kernel) (by decide +kernel) (by decide +kernel) (by decide +kernel) hb_4 rfl (Nat.le_of_ble_eq_true rfl) (Nat.le_of_ble_eq_true rfl) dX8_drop_100 (by subst hW_4; rfl) ?_
      cases hf
      exact g_vret F rfl ⟨rfl, rfl⟩ dX8_drop_103
    · replace hf := gi_f hc_1 hf
      cases hf
      exact g_vret F rfl ⟨rfl, rfl⟩ dX8_drop_12
set_option maxHeartbeats 4000000 in
set_option maxRecDepth 100000 in
theorem ctX8_clearParts (l : Launch) (E : gE) (aW : Nat → Nat) (x1 : Int32) (W : tWords) (W' : tWords) (hf : fX8_clearParts x1 W = some W') : gMet l yX8_clearParts wsX8_clearParts rmX8_clearParts vwCl E [.ref (aW 0), .int x1] [sWords E aW W] (fun v w => v = none ∧ w = [sWords E aW W']) 0 0 := by
  refine g_entry [some (.ref (aW 0)), some (.int x1)] (by decide) rfl (Nat.le_of_ble_eq_true rfl) rfl ?_
  intro p e s m below meth c A F hnm
  unfold fX8_clearParts at hf
  refine g_iload_n F dX8_clearParts_0 rfl ?_
  refine g_iflt F 19 dX8_clearParts_1 (by decide) (fun hc_2 => ?_) (fun hc_2 => ?_)
  · replace hf := gi_t hc_2 hf
    cases hf
    exact g_vret F rfl ⟨rfl, rfl⟩ dX8_clearParts_19
  · replace hf := gi_f hc_2 hf
    refine g_iload_n F dX8_clearParts_4 rfl ?_
    refine g_aload_n F dX8_clearParts_5 rfl ?_
    refine g_get (C := RX8) (T := TX8) (N := 5) F 0 0 0 rfl rfl rfl iX8_clearParts_X8 (by decide) (by decide +kernel) rfl dX8_clearParts_6 ?_
    refine g_icmp_ge F 19 dX8_clearParts_9 (by decide) (fun hc_1 => ?_) (fun hc_1 => ?_)
    · replace hf := gi_t hc_1 hf
      cases hf
      exact g_vret F rfl ⟨rfl, rfl⟩ dX8_clearParts_19
    · replace hf := gi_f hc_1 hf
      refine g_aload_n F dX8_clearParts_12 rfl ?_
      refine g_get (C := RX8) (T := TX8) (N := 5) F 0 0 3 rfl rfl rfl iX8_clearParts_X8 (by decide) (by decide +kernel) rfl dX8_clearParts_13 ?_
      refine g_iload_n F dX8_clearParts_16 rfl ?_
      refine g_iconst F 0 dX8_clearParts_17 rfl ?_
      obtain ⟨hb_1, hf⟩ := gb_in hf
      obtain ⟨W_1, hW_1, hf⟩ := Lt_el hf
      refine g_iast (Lw' := [sWords E aW W_1]) F 0 3 (x1.toNatClampNeg) rfl rfl rfl hb_1 dX8_clearParts_18 (by subst hW_1; rfl) ?_
      cases hf
      exact g_vret F rfl ⟨rfl, rfl⟩ dX8_clearParts_19
set_option maxHeartbeats 4000000 in
set_option maxRecDepth 100000 in
theorem ctX6_goesBack (l : Launch) (E : gE) (aP : Nat → Nat) (x1 : Int32) (x2 : Int32) (x3 : Int32) (P : tPieces) (r : Int32) (hf : fX6_goesBack x1 x2 x3 P = some r) : gMet l yX6_goesBack wsX6_goesBack rmX6_goesBack vwCl E [.ref (aP 0), .int x1, .int x2, .int x3] [sPieces E aP P] (fun v w => v = some (.int r) ∧ w = [sPieces E aP P] ∧ narrow .boolean (.int r) = .int r) 0 0 := by
  refine g_entry [some (.ref (aP 0)), some (.int x1), some (.int x2), some (.int x3)] (by decide) rfl (Nat.le_of_ble_eq_true rfl) rfl ?_
  intro p e s m below meth c A F hnm
  unfold fX6_goesBack at hf
  refine g_aload_n F dX6_goesBack_0 rfl ?_
  refine g_get (C := RX6) (T := TX6) (N := 6) F 0 0 3 rfl rfl rfl iX6_goesBack_X6 (by decide) (by decide +kernel) rfl dX6_goesBack_1 ?_
  refine g_iload_n F dX6_goesBack_4 rfl ?_
  obtain ⟨hb_1, hf⟩ := gb_in hf
  refine g_iald F 0 3 (x1.toNatClampNeg) rfl rfl rfl hb_1 dX6_goesBack_5 ?_
  refine g_iconst F (-1) dX6_goesBack_6 rfl ?_
  refine g_icmp_eq F 35 dX6_goesBack_7 (by decide) (fun hc_3 => ?_) (fun hc_3 => ?_)
  · replace hf := gi_t hc_3 hf
    refine g_iconst F 0 dX6_goesBack_35 rfl ?_
    cases hf
    exact g_zret (ty := .boolean) F rfl rfl ⟨rfl, rfl, rfl⟩ dX6_goesBack_36
  · replace hf := gi_f hc_3 hf
    refine g_aload_n F dX6_goesBack_10 rfl ?_
    refine g_get (C := RX6) (T := TX6) (N := 6) F 0 0 4 rfl rfl rfl iX6_goesBack_X6 (by decide) (by decide +kernel) rfl dX6_goesBack_11 ?_
    refine g_iload_n F dX6_goesBack_14 rfl ?_
    obtain ⟨hb_2, hf⟩ := gb_in hf
    refine g_iald F 0 4 (x1.toNatClampNeg) rfl rfl rfl hb_2 dX6_goesBack_15 ?_
    refine g_ifne F 35 dX6_goesBack_16 (by decide) (fun hc_2 => ?_) (fun hc_2 => ?_)
    · replace hf := gi_f hc_2 hf
      refine g_iconst F 0 dX6_goesBack_35 rfl ?_
      cases hf
      exact g_zret (ty := .boolean) F rfl rfl ⟨rfl, rfl, rfl⟩ dX6_goesBack_36
    · replace hf := gi_t hc_2 hf
      refine g_iload_n F dX6_goesBack_19 rfl ?_
      refine g_aload_n F dX6_goesBack_20 rfl ?_
      refine g_get (C := RX6) (T := TX6) (N := 6) F 0 0 5 rfl rfl rfl iX6_goesBack_X6 (by decide) (by decide +kernel) rfl dX6_goesBack_21 ?_
      refine g_iload_n F dX6_goesBack_24 rfl ?_
      obtain ⟨hb_3, hf⟩ := gb_in hf
      refine g_iald F 0 5 (x1.toNatClampNeg) rfl rfl rfl hb_3 dX6_goesBack_25 ?_
      refine g_isub F dX6_goesBack_26 ?_
      refine g_iload_n F dX6_goesBack_27 rfl ?_
      refine g_icmp_le F 35 dX6_goesBack_28 (by decide) (fun hc_1 => ?_) (fun hc_1 => ?_)
      · replace hf := gi_t hc_1 hf
        refine g_iconst F 0 dX6_goesBack_35 rfl ?_
        cases hf
        exact g_zret (ty := .boolean) F rfl rfl ⟨rfl, rfl, rfl⟩ dX6_goesBack_36
      · replace hf := gi_f hc_1 hf
        refine g_iconst F 1 dX6_goesBack_31 rfl ?_
        refine g_goto F 36 dX6_goesBack_32 (by decide) ?_
        cases hf
        exact g_zret (ty := .boolean) F rfl rfl ⟨rfl, rfl, rfl⟩ dX6_goesBack_36
set_option maxHeartbeats 4000000 in
set_option maxRecDepth 100000 in
theorem ctX6_drop (l : Launch) (E : gE) (aP : Nat → Nat) (x1 : Int32) (P : tPieces) (P' : tPieces) (hf : fX6_drop x1 P = some P') : gMet l yX6_drop wsX6_drop rmX6_drop vwCl E [.ref (aP 0), .int x1] [sPieces E aP P] (fun v w => v = none ∧ w = [sPieces E aP P']) 0 0 := by
  refine g_entry [some (.ref (aP 0)), some (.int x1), none] (by decide) rfl (Nat.le_of_ble_eq_true rfl) rfl ?_
  intro p e s m below meth c A F hnm
  unfold fX6_drop at hf
  refine g_iload_n F dX6_drop_0 rfl ?_
  refine g_iflt F 12 dX6_drop_1 (by decide) (fun hc_2 => ?_) (fun hc_2 => ?_)
  · replace hf := gi_t hc_2 hf
    cases hf
    exact g_vret F rfl ⟨rfl, rfl⟩ dX6_drop_12
  · replace hf := gi_f hc_2 hf
    refine g_iload_n F dX6_drop_4 rfl ?_
    refine g_aload_n F dX6_drop_5 rfl ?_
    refine g_get (C := RX6) (T := TX6) (N := 6) F 0 0 0 rfl rfl rfl iX6_drop_X6 (by decide) (by decide +kernel) rfl dX6_drop_6 ?_
    refine g_icmp_lt F 13 dX6_drop_9 (by decide) (fun hc_1 => ?_) (fun hc_1 => ?_)
    · replace hf := gi_t hc_1 hf
      refine g_aload_n F dX6_drop_13 rfl ?_
      refine g_dup F dX6_drop_14 rfl ?_
      refine g_get (C := RX6) (T := TX6) (N := 6) F 0 0 0 rfl rfl rfl iX6_drop_X6 (by decide) (by decide +kernel) rfl dX6_drop_15 ?_
      refine g_iconst F 1 dX6_drop_18 rfl ?_
      refine g_isub F dX6_drop_19 ?_
      refine g_put (C := RX6) (T := TX6) (N := 6) (tys := tyX6) (Lw' := [sPieces E aP (P.1 - 1, P.2.1, P.2.2.1, P.2.2.2.1, P.2.2.2.2.1, P.2.2.2.2.2)]) F 0 0 0 rfl rfl rfl iX6_drop_X6 tyX6_ok nmX6 (by decide) (by decide +kernel) rfl rfl rfl rfl (Nat.le_of_ble_eq_true rfl) dX6_drop_20 rfl ?_
      refine g_aload_n F dX6_drop_23 rfl ?_
      refine g_get (C := RX6) (T := TX6) (N := 6) F 0 0 0 rfl rfl rfl iX6_drop_X6 (by decide) (by decide +kernel) rfl dX6_drop_24 ?_
      refine g_iload_n F dX6_drop_27 rfl ?_
      refine g_isub F dX6_drop_28 ?_
      refine g_istore_n (lv' := [some (.ref (aP 0)), some (.int x1), some (.int ((P.1 - 1) - x1))]) F dX6_drop_29 (Nat.le_of_ble_eq_true rfl) rfl rfl ?_
      refine g_aload_n F dX6_drop_30 rfl ?_
      refine g_get (C := RX6) (T := TX6) (N := 6) F 0 0 1 rfl rfl rfl iX6_drop_X6 (by decide) (by decide +kernel) rfl dX6_drop_31 ?_
      refine g_iload_n F dX6_drop_34 rfl ?_
      refine g_iconst F 1 dX6_drop_35 rfl ?_
      refine g_iadd F dX6_drop_36 ?_
      refine g_aload_n F dX6_drop_37 rfl ?_
      refine g_get (C := RX6) (T := TX6) (N := 6) F 0 0 1 rfl rfl rfl iX6_drop_X6 (by decide) (by decide +kernel) rfl dX6_drop_38 ?_
      refine g_iload_n F dX6_drop_41 rfl ?_
      refine g_iload_n F dX6_drop_42 rfl ?_
      obtain ⟨hb_1, hf⟩ := gb_in hf
      obtain ⟨P_1, hP_1, hf⟩ := Lt_el hf
      refine g_copyl (Lw' := [sPieces E aP P_1]) F 0 1 0 1 rfl rfl rfl rfl (by decide +kernel) (by decide +kernel) (by decide +kernel) (by decide +kernel) hb_1 rfl (Nat.le_of_ble_eq_true rfl) (Nat.le_of_ble_eq_true rfl) dX6_drop_43 (by subst hP_1; rfl) ?_
      refine g_aload_n F dX6_drop_46 rfl ?_
      refine g_get (C := RX6) (T := TX6) (N := 6) F 0 0 2 rfl rfl rfl iX6_drop_X6 (by decide) (by decide +kernel) rfl dX6_drop_47 ?_
      refine g_iload_n F dX6_drop_50 rfl ?_
      refine g_iconst F 1 dX6_drop_51 rfl ?_
      refine g_iadd F dX6_drop_52 ?_
      refine g_aload_n F dX6_drop_53 rfl ?_
      refine g_get (C := RX6) (T := TX6) (N := 6) F 0 0 2 rfl rfl rfl iX6_drop_X6 (by decide) (by decide +kernel) rfl dX6_drop_54 ?_
      refine g_iload_n F dX6_drop_57 rfl ?_
      refine g_iload_n F dX6_drop_58 rfl ?_
      obtain ⟨hb_2, hf⟩ := gb_in hf
      obtain ⟨P_2, hP_2, hf⟩ := Lt_el hf
      refine g_copyi (Lw' := [sPieces E aP P_2]) F 0 2 0 2 rfl rfl rfl rfl (by decide +kernel) (by decide +kernel) (by decide +kernel) (by decide +kernel) hb_2 rfl (Nat.le_of_ble_eq_true rfl) (Nat.le_of_ble_eq_true rfl) dX6_drop_59 (by subst hP_2; rfl) ?_
      refine g_aload_n F dX6_drop_62 rfl ?_
      refine g_get (C := RX6) (T := TX6) (N := 6) F 0 0 3 rfl rfl rfl iX6_drop_X6 (by decide) (by decide +kernel) rfl dX6_drop_63 ?_
      refine g_iload_n F dX6_drop_66 rfl ?_
      refine g_iconst F 1 dX6_drop_67 rfl ?_
      refine g_iadd F dX6_drop_68 ?_
      refine g_aload_n F dX6_drop_69 rfl ?_
      refine g_get (C := RX6) (T := TX6) (N := 6) F 0 0 3 rfl rfl rfl iX6_drop_X6 (by decide) (by decide +kernel) rfl dX6_drop_70 ?_
      refine g_iload_n F dX6_drop_73 rfl ?_
      refine g_iload_n F dX6_drop_74 rfl ?_
      obtain ⟨hb_3, hf⟩ := gb_in hf
      obtain ⟨P_3, hP_3, hf⟩ := Lt_el hf
      refine g_copyi (Lw' := [sPieces E aP P_3]) F 0 3 0 3 rfl rfl rfl rfl (by decide +kernel) (by decide +kernel) (by decide +kernel) (by decide +kernel) hb_3 rfl (Nat.le_of_ble_eq_true rfl) (Nat.le_of_ble_eq_true rfl) dX6_drop_75 (by subst hP_3; rfl) ?_
      refine g_aload_n F dX6_drop_78 rfl ?_
      refine g_get (C := RX6) (T := TX6) (N := 6) F 0 0 4 rfl rfl rfl iX6_drop_X6 (by decide) (by decide +kernel) rfl dX6_drop_79 ?_
      refine g_iload_n F dX6_drop_82 rfl ?_
      refine g_iconst F 1 dX6_drop_83 rfl ?_
      refine g_iadd F dX6_drop_84 ?_
      refine g_aload_n F dX6_drop_85 rfl ?_
      refine g_get (C := RX6) (T := TX6) (N := 6) F 0 0 4 rfl rfl rfl iX6_drop_X6 (by decide) (by decide +kernel) rfl dX6_drop_86 ?_
      refine g_iload_n F dX6_drop_89 rfl ?_
      refine g_iload_n F dX6_drop_90 rfl ?_
      obtain ⟨hb_4, hf⟩ := gb_in hf
      obtain ⟨P_4, hP_4, hf⟩ := Lt_el hf
      refine g_copyi (Lw' := [sPieces E aP P_4]) F 0 4 0 4 rfl rfl rfl rfl (by decide +kernel) (by decide +kernel) (by decide +kernel) (by decide +kernel) hb_4 rfl (Nat.le_of_ble_eq_true rfl) (Nat.le_of_ble_eq_true rfl) dX6_drop_91 (by subst hP_4; rfl) ?_
      refine g_aload_n F dX6_drop_94 rfl ?_
      refine g_get (C := RX6) (T := TX6) (N := 6) F 0 0 5 rfl rfl rfl iX6_drop_X6 (by decide) (by decide +kernel) rfl dX6_drop_95 ?_
      refine g_iload_n F dX6_drop_98 rfl ?_
      refine g_iconst F 1 dX6_drop_99 rfl ?_
      refine g_iadd F dX6_drop_100 ?_
      refine g_aload_n F dX6_drop_101 rfl ?_
      refine g_get (C := RX6) (T := TX6) (N := 6) F 0 0 5 rfl rfl rfl iX6_drop_X6 (by decide) (by decide +kernel) rfl dX6_drop_102 ?_
      refine g_iload_n F dX6_drop_105 rfl ?_
      refine g_iload_n F dX6_drop_106 rfl ?_
      obtain ⟨hb_5, hf⟩ := gb_in hf
      obtain ⟨P_5, hP_5, hf⟩ := Lt_el hf
      refine g_copyi (Lw' := [sPieces E aP P_5]) F 0 5 0 5 rfl rfl rfl rfl (by decide +kernel) (by decide +kernel) (by decide +kernel) (by decide +kernel) hb_5 rfl (Nat.le_of_ble_eq_true rfl) (Nat.le_of_ble_eq_true rfl) dX6_drop_107 (by subst hP_5; rfl) ?_
      cases hf
      exact g_vret F rfl ⟨rfl, rfl⟩ dX6_drop_110
    · replace hf := gi_f hc_1 hf
      cases hf
      exact g_vret F rfl ⟨rfl, rfl⟩ dX6_drop_12
set_option maxHeartbeats 4000000 in
set_option maxRecDepth 100000 in
theorem ktX8_closeGap_L2 {p : Program} {l : Launch} {e : Env} {s : State} {m : MethodId} {args : Array Value} {below : List Frame} {meth : Method} {c : Code} {E : gE} {A : Nat → Prop} (F : gFx p s m args meth c RX8 wsX8_closeGap cX8_closeGap 3 none vwCl E A) (aW : Nat → Nat) (x1 : Int32) (W' : tWords) {k : tWords → Option (tWords)} (hk : ∀ (W : tWords), k W = some W' → Gj p l e rmX8_closeGap s m args below meth c 0 0 (MQ below (gQ vwCl E A (fun v w => v = none ∧ w = [sWords E aW W'])) args s 0 0 A) vwCl E A [sWords E aW W] [none, none, none] [] 39) : ∀ (n : Nat) (x2 : Int32) (W : tWords), fX8_closeGap_L2 x1 k n x2 W = some W' → Gj p l e rmX8_closeGap s m args below meth c 0 0 (MQ below (gQ vwCl E A (fun v w => v = none ∧ w = [sWords E aW W'])) args s 0 0 A) vwCl E A [sWords E aW W] [some (.ref (aW 0)), some (.int x1), some (.int x2)] [] 2
  | 0, _, _, hf => by cases hf
  | n + 1, x2, W, hf => by
    have ih := ktX8_closeGap_L2 F aW x1 W' hk n
    rw [fX8_closeGap_L2] at hf
    refine g_iload_n F dX8_closeGap_2 rfl ?_
    refine g_aload_n F dX8_closeGap_3 rfl ?_
    refine g_get (C := RX8) (T := TX8) (N := 5) F 0 0 0 rfl rfl rfl iX8_closeGap_X8 (by decide) (by decide +kernel) rfl dX8_closeGap_4 ?_
    refine g_bipush F 12 dX8_closeGap_7 rfl ?_
    refine g_imul F dX8_closeGap_9 ?_
    refine g_icmp_ge F 39 dX8_closeGap_10 (by decide) (fun hc_2 => ?_) (fun hc_2 => ?_)
    · replace hf := gi_t hc_2 hf
      refine g_mask [false, false, false] rfl ?_
      exact hk W hf
    · replace hf := gi_f hc_2 hf
      refine g_aload_n F dX8_closeGap_13 rfl ?_
      refine g_get (C := RX8) (T := TX8) (N := 5) F 0 0 4 rfl rfl rfl iX8_closeGap_X8 (by decide) (by decide +kernel) rfl dX8_closeGap_14 ?_
      refine g_iload_n F dX8_closeGap_17 rfl ?_
      obtain ⟨hb_1, hf⟩ := gb_in hf
      refine g_iald F 0 4 (x2.toNatClampNeg) rfl rfl rfl hb_1 dX8_closeGap_18 ?_
      refine g_iload_n F dX8_closeGap_19 rfl ?_
      refine g_icmp_le F 33 dX8_closeGap_20 (by decide) (fun hc_1 => ?_) (fun hc_1 => ?_)
      · replace hf := gi_t hc_1 hf
        refine g_iinc (lv' := [some (.ref (aW 0)), some (.int x1), some (.int (x2 + 1))]) F (x2 + 1) dX8_closeGap_33 rfl rfl rfl rfl ?_
        refine g_goto F 2 dX8_closeGap_36 (by decide) ?_
        exact ih (x2 + 1) W hf
      · replace hf := gi_f hc_1 hf
        refine g_aload_n F dX8_closeGap_23 rfl ?_
        refine g_get (C := RX8) (T := TX8) (N := 5) F 0 0 4 rfl rfl rfl iX8_closeGap_X8 (by decide) (by decide +kernel) rfl dX8_closeGap_24 ?_
        refine g_iload_n F dX8_closeGap_27 rfl ?_
        refine g_dup2 F dX8_closeGap_28 rfl rfl ?_
        obtain ⟨hb_2, hf⟩ := gb_in hf
        refine g_iald F 0 4 (x2.toNatClampNeg) rfl rfl rfl hb_2 dX8_closeGap_29 ?_
        refine g_iconst F 1 dX8_closeGap_30 rfl ?_
        refine g_isub F dX8_closeGap_31 ?_
        obtain ⟨hb_3, hf⟩ := gb_in hf
        obtain ⟨W_1, hW_1, hf⟩ := Lt_el hf
        refine g_iast (Lw' := [sWords E aW W_1]) F 0 4 (x2.toNatClampNeg) rfl rfl rfl hb_3 dX8_closeGap_32 (by subst hW_1; rfl) ?_
        refine g_iinc (lv' := [some (.ref (aW 0)), some (.int x1), some (.int (x2 + 1))]) F (x2 + 1) dX8_closeGap_33 rfl rfl rfl rfl ?_
        refine g_goto F 2 dX8_closeGap_36 (by decide) ?_
        exact ih (x2 + 1) W_1 hf
set_option maxHeartbeats 4000000 in
set_option maxRecDepth 100000 in
theorem ctX8_closeGap (l : Launch) (E : gE) (aW : Nat → Nat) (x1 : Int32) (W : tWords) (W' : tWords) (hf : fX8_closeGap x1 W = some W') : gMet l yX8_closeGap wsX8_closeGap rmX8_closeGap vwCl E [.ref (aW 0), .int x1] [sWords E aW W] (fun v w => v = none ∧ w = [sWords E aW W']) 0 0 := by
  refine g_entry [some (.ref (aW 0)), some (.int x1), none] (by decide) rfl (Nat.le_of_ble_eq_true rfl) rfl ?_
  intro p e s m below meth c A F hnm
  unfold fX8_closeGap at hf
  refine g_iconst F 0 dX8_closeGap_0 rfl ?_
  refine g_istore_n (lv' := [some (.ref (aW 0)), some (.int x1), some (.int 0)]) F dX8_closeGap_1 (Nat.le_of_ble_eq_true rfl) rfl rfl ?_
  refine ktX8_closeGap_L2 F aW x1 W' (fun W_1 hf => ?_) FU 0 W hf
  cases hf
  exact g_vret F rfl ⟨rfl, rfl⟩ dX8_closeGap_39
set_option maxHeartbeats 4000000 in
set_option maxRecDepth 100000 in
theorem ctX4_join (l : Launch) (E : gE) (x0 : Int64) (x2 : Int32) (x3 : Int64) (r : Int64) (hf : fX4_join x0 x2 x3 = some r) : gMet l yX4_join wsX4_join rmX4_join vwCl E [.long x0, .int x2, .long x3] [] (fun v w => v = some (.long r) ∧ w = []) 0 0 := by
  refine g_entry [some (.long x0), none, some (.int x2), some (.long x3), none] (by decide) rfl (Nat.le_of_ble_eq_true rfl) rfl ?_
  intro p e s m below meth c A F hnm
  unfold fX4_join at hf
  refine g_lload_n F dX4_join_0 rfl ?_
  refine g_lload_n F dX4_join_1 rfl ?_
  refine g_iconst F 5 dX4_join_2 rfl ?_
  refine g_iload_n F dX4_join_3 rfl ?_
  refine g_imul F dX4_join_4 ?_
  refine g_lshl F dX4_join_5 ?_
  refine g_lor F dX4_join_6 ?_
  cases hf
  exact g_lret F rfl ⟨rfl, rfl⟩ dX4_join_7
set_option maxHeartbeats 4000000 in
set_option maxRecDepth 100000 in
theorem ktX8_usesIn_L5 {p : Program} {l : Launch} {e : Env} {s : State} {m : MethodId} {args : Array Value} {below : List Frame} {meth : Method} {c : Code} {E : gE} {A : Nat → Prop} (F : gFx p s m args meth c RX8 wsX8_usesIn cX8_usesIn 5 (some .int) vwCl E A) (aW : Nat → Nat) (x1 : Int32) (x2 : Int32) (W : tWords) (r : Int32) {k : Int32 → Option (Int32)} (hk : ∀ (x3 : Int32), k x3 = some r → Gj p l e rmX8_usesIn s m args below meth c 0 0 (MQ below (gQ vwCl E A (fun v w => v = some (.int r) ∧ w = [sWords E aW W])) args s 0 0 A) vwCl E A [sWords E aW W] [none, none, none, some (.int x3), none] [] 36) : ∀ (n : Nat) (x3 : Int32) (x4 : Int32), fX8_usesIn_L5 x1 x2 W k n x3 x4 = some r → Gj p l e rmX8_usesIn s m args below meth c 0 0 (MQ below (gQ vwCl E A (fun v w => v = some (.int r) ∧ w = [sWords E aW W])) args s 0 0 A) vwCl E A [sWords E aW W] [some (.ref (aW 0)), some (.int x1), some (.int x2), some (.int x3), some (.int x4)] [] 5
  | 0, _, _, hf => by cases hf
  | n + 1, x3, x4, hf => by
    have ih := ktX8_usesIn_L5 F aW x1 x2 W r hk n
    rw [fX8_usesIn_L5] at hf
    refine g_iload F dX8_usesIn_5 rfl ?_
    refine g_aload_n F dX8_usesIn_7 rfl ?_
    refine g_get (C := RX8) (T := TX8) (N := 5) F 0 0 3 rfl rfl rfl iX8_usesIn_X8 (by decide) (by decide +kernel) rfl dX8_usesIn_8 ?_
    refine g_iload_n F dX8_usesIn_11 rfl ?_
    obtain ⟨hb_1, hf⟩ := gb_in hf
    refine g_iald F 0 3 (x1.toNatClampNeg) rfl rfl rfl hb_1 dX8_usesIn_12 ?_
    refine g_icmp_ge F 36 dX8_usesIn_13 (by decide) (fun hc_2 => ?_) (fun hc_2 => ?_)
    · replace hf := gi_t hc_2 hf
      refine g_mask [false, false, false, true, false] rfl ?_
      exact hk x3 hf
    · replace hf := gi_f hc_2 hf
      refine g_aload_n F dX8_usesIn_16 rfl ?_
      refine g_iload_n F dX8_usesIn_17 rfl ?_
      refine g_iload F dX8_usesIn_18 rfl ?_
      obtain ⟨r_1, hg_1, hf⟩ := gb1_el hf
      refine g_callV (C := RX8) (T := TX8) (N := 5) (Lr := []) (As := [.int x1, .int x4]) (rest := []) F 0 0 2 (ctX8_partAt l E aW x1 x4 W r_1 hg_1) gX8_usesIn_X8_partAt rfl rfl rfl h0X8_partAt ⟨Nat.le_of_ble_eq_true rfl, Nat.le_of_ble_eq_true rfl⟩ rfl rfl rfl [0] [] rfl rfl rfl rfl rfl rfl (Nat.le_of_ble_eq_true rfl) dX8_usesIn_20 ⟨(Nat.le_of_ble_eq_true rfl), (Nat.le_of_ble_eq_true rfl)⟩ ?_
      rintro v w ⟨rfl, rfl⟩
      refine g_norm (Lw' := [sWords E aW W]) (st' := [.int r_1]) (pc' := 23) [0] rfl rfl rfl rfl ?_
      refine g_iload_n F dX8_usesIn_23 rfl ?_
      refine g_icmp_ne F 30 dX8_usesIn_24 (by decide) (fun hc_1 => ?_) (fun hc_1 => ?_)
      · replace hf := gi_f hc_1 hf
        refine g_iinc (lv' := [some (.ref (aW 0)), some (.int x1), some (.int x2), some (.int x3), some (.int (x4 + 1))]) F (x4 + 1) dX8_usesIn_30 rfl rfl rfl rfl ?_
        refine g_goto F 5 dX8_usesIn_33 (by decide) ?_
        exact ih x3 (x4 + 1) hf
      · replace hf := gi_t hc_1 hf
        refine g_iinc (lv' := [some (.ref (aW 0)), some (.int x1), some (.int x2), some (.int (x3 + 1)), some (.int x4)]) F (x3 + 1) dX8_usesIn_27 rfl rfl rfl rfl ?_
        refine g_iinc (lv' := [some (.ref (aW 0)), some (.int x1), some (.int x2), some (.int (x3 + 1)), some (.int (x4 + 1))]) F (x4 + 1) dX8_usesIn_30 rfl rfl rfl rfl ?_
        refine g_goto F 5 dX8_usesIn_33 (by decide) ?_
        exact ih (x3 + 1) (x4 + 1) hf
set_option maxHeartbeats 4000000 in
set_option maxRecDepth 100000 in
theorem ctX8_usesIn (l : Launch) (E : gE) (aW : Nat → Nat) (x1 : Int32) (x2 : Int32) (W : tWords) (r : Int32) (hf : fX8_usesIn x1 x2 W = some r) : gMet l yX8_usesIn wsX8_usesIn rmX8_usesIn vwCl E [.ref (aW 0), .int x1, .int x2] [sWords E aW W] (fun v w => v = some (.int r) ∧ w = [sWords E aW W]) 0 0 := by
  refine g_entry [some (.ref (aW 0)), some (.int x1), some (.int x2), none, none] (by decide) rfl (Nat.le_of_ble_eq_true rfl) rfl ?_
  intro p e s m below meth c A F hnm
  unfold fX8_usesIn at hf
  refine g_iconst F 0 dX8_usesIn_0 rfl ?_
  refine g_istore_n (lv' := [some (.ref (aW 0)), some (.int x1), some (.int x2), some (.int 0), none]) F dX8_usesIn_1 (Nat.le_of_ble_eq_true rfl) rfl rfl ?_
  refine g_iconst F 0 dX8_usesIn_2 rfl ?_
  refine g_istore (lv' := [some (.ref (aW 0)), some (.int x1), some (.int x2), some (.int 0), some (.int 0)]) F dX8_usesIn_3 (Nat.le_of_ble_eq_true rfl) rfl rfl ?_
  refine ktX8_usesIn_L5 F aW x1 x2 W r (fun x3_1 hf => ?_) FU 0 0 hf
  refine g_iload_n F dX8_usesIn_36 rfl ?_
  cases hf
  exact g_iret F rfl ⟨rfl, rfl⟩ dX8_usesIn_37
set_option maxHeartbeats 4000000 in
set_option maxRecDepth 100000 in
theorem ctX4_isLetter (l : Launch) (E : gE) (x0 : Int32) (r : Int32) (hf : fX4_isLetter x0 = some r) : gMet l yX4_isLetter wsX4_isLetter rmX4_isLetter vwCl E [.int x0] [] (fun v w => v = some (.int r) ∧ w = [] ∧ narrow .boolean (.int r) = .int r) 0 0 := by
  refine g_entry [some (.int x0)] (by decide) rfl (Nat.le_of_ble_eq_true rfl) rfl ?_
  intro p e s m below meth c A F hnm
  unfold fX4_isLetter at hf
  refine g_iload_n F dX4_isLetter_0 rfl ?_
  refine g_bipush F 97 dX4_isLetter_1 rfl ?_
  refine g_icmp_lt F 16 dX4_isLetter_3 (by decide) (fun hc_2 => ?_) (fun hc_2 => ?_)
  · replace hf := gi_t hc_2 hf
    refine g_iconst F 0 dX4_isLetter_16 rfl ?_
    cases hf
    exact g_zret (ty := .boolean) F rfl rfl ⟨rfl, rfl, rfl⟩ dX4_isLetter_17
  · replace hf := gi_f hc_2 hf
    refine g_iload_n F dX4_isLetter_6 rfl ?_
    refine g_bipush F 122 dX4_isLetter_7 rfl ?_
    refine g_icmp_gt F 16 dX4_isLetter_9 (by decide) (fun hc_1 => ?_) (fun hc_1 => ?_)
    · replace hf := gi_t hc_1 hf
      refine g_iconst F 0 dX4_isLetter_16 rfl ?_
      cases hf
      exact g_zret (ty := .boolean) F rfl rfl ⟨rfl, rfl, rfl⟩ dX4_isLetter_17
    · replace hf := gi_f hc_1 hf
      refine g_iconst F 1 dX4_isLetter_12 rfl ?_
      refine g_goto F 17 dX4_isLetter_13 (by decide) ?_
      cases hf
      exact g_zret (ty := .boolean) F rfl rfl ⟨rfl, rfl, rfl⟩ dX4_isLetter_17
set_option maxHeartbeats 4000000 in
set_option maxRecDepth 100000 in
theorem ktX4_read_L5 {p : Program} {l : Launch} {e : Env} {s : State} {m : MethodId} {args : Array Value} {below : List Frame} {meth : Method} {c : Code} {E : gE} {A : Nat → Prop} (F : gFx p s m args meth c RX4 wsX4_read cX4_read 6 (some .long) vwCl E A) (ap0 : Nat → Nat) (n_p0 : Nat) (x1 : Int32) (x2 : Int32) (p0 : (Nat → Int32)) (r : Int64) {k : Int64 → Option (Int64)} (hk : ∀ (x3 : Int64), k x3 = some r → Gj p l e rmX4_read s m args below meth c 0 0 (MQ below (gQ vwCl E A (fun v w => v = some (.long r) ∧ w = [sArrB E ap0 n_p0 p0])) args s 0 0 A) vwCl E A [sArrB E ap0 n_p0 p0] [none, none, none, some (.long x3), none, none] [] 37) : ∀ (n : Nat) (x3 : Int64) (x5 : Int32), fX4_read_L5 n_p0 x1 x2 p0 k n x3 x5 = some r → Gj p l e rmX4_read s m args below meth c 0 0 (MQ below (gQ vwCl E A (fun v w => v = some (.long r) ∧ w = [sArrB E ap0 n_p0 p0])) args s 0 0 A) vwCl E A [sArrB E ap0 n_p0 p0] [some (.ref (ap0 0)), some (.int x1), some (.int x2), some (.long x3), none, some (.int x5)] [] 5
  | 0, _, _, hf => by cases hf
  | n + 1, x3, x5, hf => by
    have ih := ktX4_read_L5 F ap0 n_p0 x1 x2 p0 r hk n
    rw [fX4_read_L5] at hf
    refine g_iload F dX4_read_5 rfl ?_
    refine g_iload_n F dX4_read_7 rfl ?_
    refine g_icmp_ge F 37 dX4_read_8 (by decide) (fun hc_1 => ?_) (fun hc_1 => ?_)
    · replace hf := gi_t hc_1 hf
      refine g_mask [false, false, false, true, true, false] rfl ?_
      exact hk x3 hf
    · replace hf := gi_f hc_1 hf
      refine g_lload_n F dX4_read_11 rfl ?_
      refine g_aload_n F dX4_read_12 rfl ?_
      refine g_iload F dX4_read_13 rfl ?_
      obtain ⟨hb_1, hf⟩ := gb_in hf
      refine g_bald F 0 0 (x5.toNatClampNeg) rfl rfl rfl hb_1 dX4_read_15 ?_
      refine g_bipush F 97 dX4_read_16 rfl ?_
      refine g_isub F dX4_read_18 ?_
      refine g_iconst F 1 dX4_read_19 rfl ?_
      refine g_iadd F dX4_read_20 ?_
      refine g_i2l F dX4_read_21 ?_
      refine g_iconst F 5 dX4_read_22 rfl ?_
      refine g_iload F dX4_read_23 rfl ?_
      refine g_iload_n F dX4_read_25 rfl ?_
      refine g_isub F dX4_read_26 ?_
      refine g_imul F dX4_read_27 ?_
      refine g_lshl F dX4_read_28 ?_
      refine g_lor F dX4_read_29 ?_
      refine g_lstore_n (lv' := [some (.ref (ap0 0)), some (.int x1), some (.int x2), some (.long (x3 ||| (glshl ((((p0 (x5.toNatClampNeg)) - 97) + 1).toInt64) (5 * (x5 - x1))))), none, some (.int x5)]) F dX4_read_30 (Nat.le_of_ble_eq_true rfl) rfl rfl ?_
      refine g_iinc (lv' := [some (.ref (ap0 0)), some (.int x1), some (.int x2), some (.long (x3 ||| (glshl ((((p0 (x5.toNatClampNeg)) - 97) + 1).toInt64) (5 * (x5 - x1))))), none, some (.int (x5 + 1))]) F (x5 + 1) dX4_read_31 rfl rfl rfl rfl ?_
      refine g_goto F 5 dX4_read_34 (by decide) ?_
      exact ih (x3 ||| (glshl ((((p0 (x5.toNatClampNeg)) - 97) + 1).toInt64) (5 * (x5 - x1)))) (x5 + 1) hf
set_option maxHeartbeats 4000000 in
set_option maxRecDepth 100000 in
theorem ctX4_read (l : Launch) (E : gE) (ap0 : Nat → Nat) (n_p0 : Nat) (x1 : Int32) (x2 : Int32) (p0 : (Nat → Int32)) (r : Int64) (hf : fX4_read n_p0 x1 x2 p0 = some r) : gMet l yX4_read wsX4_read rmX4_read vwCl E [.ref (ap0 0), .int x1, .int x2] [sArrB E ap0 n_p0 p0] (fun v w => v = some (.long r) ∧ w = [sArrB E ap0 n_p0 p0]) 0 0 := by
  refine g_entry [some (.ref (ap0 0)), some (.int x1), some (.int x2), none, none, none] (by decide) rfl (Nat.le_of_ble_eq_true rfl) rfl ?_
  intro p e s m below meth c A F hnm
  unfold fX4_read at hf
  refine g_lconst F 0 dX4_read_0 rfl ?_
  refine g_lstore_n (lv' := [some (.ref (ap0 0)), some (.int x1), some (.int x2), some (.long 0), none, none]) F dX4_read_1 (Nat.le_of_ble_eq_true rfl) rfl rfl ?_
  refine g_iload_n F dX4_read_2 rfl ?_
  refine g_istore (lv' := [some (.ref (ap0 0)), some (.int x1), some (.int x2), some (.long 0), none, some (.int x1)]) F dX4_read_3 (Nat.le_of_ble_eq_true rfl) rfl rfl ?_
  refine ktX4_read_L5 F ap0 n_p0 x1 x2 p0 r (fun x3_1 hf => ?_) FU 0 x1 hf
  refine g_lload_n F dX4_read_37 rfl ?_
  cases hf
  exact g_lret F rfl ⟨rfl, rfl⟩ dX4_read_38
set_option maxHeartbeats 4000000 in
set_option maxRecDepth 100000 in
theorem ctX4_letterAt (l : Launch) (E : gE) (x0 : Int64) (x2 : Int32) (r : Int32) (hf : fX4_letterAt x0 x2 = some r) : gMet l yX4_letterAt wsX4_letterAt rmX4_letterAt vwCl E [.long x0, .int x2] [] (fun v w => v = some (.int r) ∧ w = []) 0 0 := by
  refine g_entry [some (.long x0), none, some (.int x2), none] (by decide) rfl (Nat.le_of_ble_eq_true rfl) rfl ?_
  intro p e s m below meth c A F hnm
  unfold fX4_letterAt at hf
  refine g_iload_n F dX4_letterAt_0 rfl ?_
  refine g_iflt F 10 dX4_letterAt_1 (by decide) (fun hc_3 => ?_) (fun hc_3 => ?_)
  · replace hf := gi_t hc_3 hf
    refine g_iconst F (-1) dX4_letterAt_10 rfl ?_
    cases hf
    exact g_iret F rfl ⟨rfl, rfl⟩ dX4_letterAt_11
  · replace hf := gi_f hc_3 hf
    refine g_iload_n F dX4_letterAt_4 rfl ?_
    refine g_bipush F 12 dX4_letterAt_5 rfl ?_
    refine g_icmp_lt F 12 dX4_letterAt_7 (by decide) (fun hc_2 => ?_) (fun hc_2 => ?_)
    · replace hf := gi_t hc_2 hf
      refine g_lload_n F dX4_letterAt_12 rfl ?_
      refine g_iconst F 5 dX4_letterAt_13 rfl ?_
      refine g_iload_n F dX4_letterAt_14 rfl ?_
      refine g_imul F dX4_letterAt_15 ?_
      refine g_lushr F dX4_letterAt_16 ?_
      refine g_l2i F dX4_letterAt_17 ?_
      refine g_bipush F 31 dX4_letterAt_18 rfl ?_
      refine g_iand F dX4_letterAt_20 ?_
      refine g_istore_n (lv' := [some (.long x0), none, some (.int x2), some (.int (((glush x0 (5 * x2)).toInt32) &&& 31))]) F dX4_letterAt_21 (Nat.le_of_ble_eq_true rfl) rfl rfl ?_
      refine g_iload_n F dX4_letterAt_22 rfl ?_
      refine g_ifne F 30 dX4_letterAt_23 (by decide) (fun hc_1 => ?_) (fun hc_1 => ?_)
      · replace hf := gi_f hc_1 hf
        refine g_iload_n F dX4_letterAt_30 rfl ?_
        refine g_iconst F 1 dX4_letterAt_31 rfl ?_
        refine g_isub F dX4_letterAt_32 ?_
        cases hf
        exact g_iret F rfl ⟨rfl, rfl⟩ dX4_letterAt_33
      · replace hf := gi_t hc_1 hf
        refine g_iconst F (-1) dX4_letterAt_26 rfl ?_
        refine g_goto F 33 dX4_letterAt_27 (by decide) ?_
        cases hf
        exact g_iret F rfl ⟨rfl, rfl⟩ dX4_letterAt_33
    · replace hf := gi_f hc_2 hf
      refine g_iconst F (-1) dX4_letterAt_10 rfl ?_
      cases hf
      exact g_iret F rfl ⟨rfl, rfl⟩ dX4_letterAt_11
set_option maxHeartbeats 4000000 in
set_option maxRecDepth 100000 in
theorem ctX7_isFull (l : Launch) (E : gE) (aU : Nat → Nat) (U : tUsers) (r : Int32) (hf : fX7_isFull U = some r) : gMet l yX7_isFull wsX7_isFull rmX7_isFull vwCl E [.ref (aU 0)] [sUsers E aU U] (fun v w => v = some (.int r) ∧ w = [sUsers E aU U] ∧ narrow .boolean (.int r) = .int r) 0 0 := by
  refine g_entry [some (.ref (aU 0))] (by decide) rfl (Nat.le_of_ble_eq_true rfl) rfl ?_
  intro p e s m below meth c A F hnm
  unfold fX7_isFull at hf
  refine g_aload_n F dX7_isFull_0 rfl ?_
  refine g_get (C := RX7) (T := TX7) (N := 3) F 0 0 0 rfl rfl rfl iX7_isFull_X7 (by decide) (by decide +kernel) rfl dX7_isFull_1 ?_
  refine g_iconst F 4 dX7_isFull_4 rfl ?_
  refine g_icmp_lt F 12 dX7_isFull_5 (by decide) (fun hc_1 => ?_) (fun hc_1 => ?_)
  · replace hf := gi_t hc_1 hf
    refine g_iconst F 0 dX7_isFull_12 rfl ?_
    cases hf
    exact g_zret (ty := .boolean) F rfl rfl ⟨rfl, rfl, rfl⟩ dX7_isFull_13
  · replace hf := gi_f hc_1 hf
    refine g_iconst F 1 dX7_isFull_8 rfl ?_
    refine g_goto F 13 dX7_isFull_9 (by decide) ?_
    cases hf
    exact g_zret (ty := .boolean) F rfl rfl ⟨rfl, rfl, rfl⟩ dX7_isFull_13
set_option maxHeartbeats 4000000 in
set_option maxRecDepth 100000 in
theorem ktX7_numberOf_L2 {p : Program} {l : Launch} {e : Env} {s : State} {m : MethodId} {args : Array Value} {below : List Frame} {meth : Method} {c : Code} {E : gE} {A : Nat → Prop} (F : gFx p s m args meth c RX7 wsX7_numberOf cX7_numberOf 4 (some .int) vwCl E A) (aU : Nat → Nat) (x1 : Int64) (U : tUsers) (r : Int32) {k : Option (Int32)} (hk : k = some r → Gj p l e rmX7_numberOf s m args below meth c 0 0 (MQ below (gQ vwCl E A (fun v w => v = some (.int r) ∧ w = [sUsers E aU U])) args s 0 0 A) vwCl E A [sUsers E aU U] [none, none, none, none] [] 29) : ∀ (n : Nat) (x3 : Int32), fX7_numberOf_L2 x1 U k n x3 = some r → Gj p l e rmX7_numberOf s m args below meth c 0 0 (MQ below (gQ vwCl E A (fun v w => v = some (.int r) ∧ w = [sUsers E aU U])) args s 0 0 A) vwCl E A [sUsers E aU U] [some (.ref (aU 0)), some (.long x1), none, some (.int x3)] [] 2
  | 0, _, hf => by cases hf
  | n + 1, x3, hf => by
    have ih := ktX7_numberOf_L2 F aU x1 U r hk n
    rw [fX7_numberOf_L2] at hf
    refine g_iload_n F dX7_numberOf_2 rfl ?_
    refine g_aload_n F dX7_numberOf_3 rfl ?_
    refine g_get (C := RX7) (T := TX7) (N := 3) F 0 0 0 rfl rfl rfl iX7_numberOf_X7 (by decide) (by decide +kernel) rfl dX7_numberOf_4 ?_
    refine g_icmp_ge F 29 dX7_numberOf_7 (by decide) (fun hc_2 => ?_) (fun hc_2 => ?_)
    · replace hf := gi_t hc_2 hf
      refine g_mask [false, false, true, false] rfl ?_
      exact hk hf
    · replace hf := gi_f hc_2 hf
      refine g_aload_n F dX7_numberOf_10 rfl ?_
      refine g_get (C := RX7) (T := TX7) (N := 3) F 0 0 1 rfl rfl rfl iX7_numberOf_X7 (by decide) (by decide +kernel) rfl dX7_numberOf_11 ?_
      refine g_iload_n F dX7_numberOf_14 rfl ?_
      obtain ⟨hb_1, hf⟩ := gb_in hf
      refine g_lald F 0 1 (x3.toNatClampNeg) rfl rfl rfl hb_1 dX7_numberOf_15 ?_
      refine g_lload_n F dX7_numberOf_16 rfl ?_
      refine g_lcmp F dX7_numberOf_17 ?_
      refine g_ifne F 23 dX7_numberOf_18 (by decide) (fun hc_1 => ?_) (fun hc_1 => ?_)
      · replace hf := gi_f hc_1 hf
        refine g_iinc (lv' := [some (.ref (aU 0)), some (.long x1), none, some (.int (x3 + 1))]) F (x3 + 1) dX7_numberOf_23 rfl rfl rfl rfl ?_
        refine g_goto F 2 dX7_numberOf_26 (by decide) ?_
        exact ih (x3 + 1) hf
      · replace hf := gi_t hc_1 hf
        refine g_iload_n F dX7_numberOf_21 rfl ?_
        cases hf
        exact g_iret F rfl ⟨rfl, rfl⟩ dX7_numberOf_22
set_option maxHeartbeats 4000000 in
set_option maxRecDepth 100000 in
theorem ctX7_numberOf (l : Launch) (E : gE) (aU : Nat → Nat) (x1 : Int64) (U : tUsers) (r : Int32) (hf : fX7_numberOf x1 U = some r) : gMet l yX7_numberOf wsX7_numberOf rmX7_numberOf vwCl E [.ref (aU 0), .long x1] [sUsers E aU U] (fun v w => v = some (.int r) ∧ w = [sUsers E aU U]) 0 0 := by
  refine g_entry [some (.ref (aU 0)), some (.long x1), none, none] (by decide) rfl (Nat.le_of_ble_eq_true rfl) rfl ?_
  intro p e s m below meth c A F hnm
  unfold fX7_numberOf at hf
  refine g_iconst F 0 dX7_numberOf_0 rfl ?_
  refine g_istore_n (lv' := [some (.ref (aU 0)), some (.long x1), none, some (.int 0)]) F dX7_numberOf_1 (Nat.le_of_ble_eq_true rfl) rfl rfl ?_
  refine ktX7_numberOf_L2 F aU x1 U r (fun hf => ?_) FU 0 hf
  refine g_iconst F (-1) dX7_numberOf_29 rfl ?_
  cases hf
  exact g_iret F rfl ⟨rfl, rfl⟩ dX7_numberOf_30
set_option maxHeartbeats 4000000 in
set_option maxRecDepth 100000 in
theorem ctX7_add (l : Launch) (E : gE) (aU : Nat → Nat) (x1 : Int64) (x3 : Int32) (U : tUsers) (U' : tUsers) (hf : fX7_add x1 x3 U = some U') : gMet l yX7_add wsX7_add rmX7_add vwCl E [.ref (aU 0), .long x1, .int x3] [sUsers E aU U] (fun v w => v = none ∧ w = [sUsers E aU U']) 0 0 := by
  refine g_entry [some (.ref (aU 0)), some (.long x1), none, some (.int x3)] (by decide) rfl (Nat.le_of_ble_eq_true rfl) rfl ?_
  intro p e s m below meth c A F hnm
  unfold fX7_add at hf
  refine g_aload_n F dX7_add_0 rfl ?_
  refine g_get (C := RX7) (T := TX7) (N := 3) F 0 0 0 rfl rfl rfl iX7_add_X7 (by decide) (by decide +kernel) rfl dX7_add_1 ?_
  refine g_iconst F 4 dX7_add_4 rfl ?_
  refine g_icmp_lt F 9 dX7_add_5 (by decide) (fun hc_1 => ?_) (fun hc_1 => ?_)
  · replace hf := gi_t hc_1 hf
    refine g_aload_n F dX7_add_9 rfl ?_
    refine g_get (C := RX7) (T := TX7) (N := 3) F 0 0 1 rfl rfl rfl iX7_add_X7 (by decide) (by decide +kernel) rfl dX7_add_10 ?_
    refine g_aload_n F dX7_add_13 rfl ?_
    refine g_get (C := RX7) (T := TX7) (N := 3) F 0 0 0 rfl rfl rfl iX7_add_X7 (by decide) (by decide +kernel) rfl dX7_add_14 ?_
    refine g_lload_n F dX7_add_17 rfl ?_
    obtain ⟨hb_1, hf⟩ := gb_in hf
    obtain ⟨U_1, hU_1, hf⟩ := Lt_el hf
    refine g_last (Lw' := [sUsers E aU U_1]) F 0 1 (U.1.toNatClampNeg) rfl rfl rfl hb_1 dX7_add_18 (by subst hU_1; rfl) ?_
    refine g_aload_n F dX7_add_19 rfl ?_
    refine g_get (C := RX7) (T := TX7) (N := 3) F 0 0 2 rfl rfl rfl iX7_add_X7 (by decide) (by decide +kernel) rfl dX7_add_20 ?_
    refine g_aload_n F dX7_add_23 rfl ?_
    refine g_get (C := RX7) (T := TX7) (N := 3) F 0 0 0 rfl rfl rfl iX7_add_X7 (by decide) (by decide +kernel) rfl dX7_add_24 ?_
    refine g_iload_n F dX7_add_27 rfl ?_
    obtain ⟨hb_2, hf⟩ := gb_in hf
    obtain ⟨U_2, hU_2, hf⟩ := Lt_el hf
    refine g_iast (Lw' := [sUsers E aU U_2]) F 0 2 (U_1.1.toNatClampNeg) rfl rfl rfl hb_2 dX7_add_28 (by subst hU_2; rfl) ?_
    refine g_aload_n F dX7_add_29 rfl ?_
    refine g_dup F dX7_add_30 rfl ?_
    refine g_get (C := RX7) (T := TX7) (N := 3) F 0 0 0 rfl rfl rfl iX7_add_X7 (by decide) (by decide +kernel) rfl dX7_add_31 ?_
    refine g_iconst F 1 dX7_add_34 rfl ?_
    refine g_iadd F dX7_add_35 ?_
    refine g_put (C := RX7) (T := TX7) (N := 3) (tys := tyX7) (Lw' := [sUsers E aU (U_2.1 + 1, U_2.2.1, U_2.2.2)]) F 0 0 0 rfl rfl rfl iX7_add_X7 tyX7_ok nmX7 (by decide) (by decide +kernel) rfl rfl rfl rfl (Nat.le_of_ble_eq_true rfl) dX7_add_36 rfl ?_
    cases hf
    exact g_vret F rfl ⟨rfl, rfl⟩ dX7_add_39
  · replace hf := gi_f hc_1 hf
    cases hf
    exact g_vret F rfl ⟨rfl, rfl⟩ dX7_add_8
set_option maxHeartbeats 4000000 in
set_option maxRecDepth 100000 in
theorem ctX6_isFull (l : Launch) (E : gE) (aP : Nat → Nat) (P : tPieces) (r : Int32) (hf : fX6_isFull P = some r) : gMet l yX6_isFull wsX6_isFull rmX6_isFull vwCl E [.ref (aP 0)] [sPieces E aP P] (fun v w => v = some (.int r) ∧ w = [sPieces E aP P] ∧ narrow .boolean (.int r) = .int r) 0 0 := by
  refine g_entry [some (.ref (aP 0))] (by decide) rfl (Nat.le_of_ble_eq_true rfl) rfl ?_
  intro p e s m below meth c A F hnm
  unfold fX6_isFull at hf
  refine g_aload_n F dX6_isFull_0 rfl ?_
  refine g_get (C := RX6) (T := TX6) (N := 6) F 0 0 0 rfl rfl rfl iX6_isFull_X6 (by decide) (by decide +kernel) rfl dX6_isFull_1 ?_
  refine g_bipush F 24 dX6_isFull_4 rfl ?_
  refine g_icmp_lt F 13 dX6_isFull_6 (by decide) (fun hc_1 => ?_) (fun hc_1 => ?_)
  · replace hf := gi_t hc_1 hf
    refine g_iconst F 0 dX6_isFull_13 rfl ?_
    cases hf
    exact g_zret (ty := .boolean) F rfl rfl ⟨rfl, rfl, rfl⟩ dX6_isFull_14
  · replace hf := gi_f hc_1 hf
    refine g_iconst F 1 dX6_isFull_9 rfl ?_
    refine g_goto F 14 dX6_isFull_10 (by decide) ?_
    cases hf
    exact g_zret (ty := .boolean) F rfl rfl ⟨rfl, rfl, rfl⟩ dX6_isFull_14
set_option maxHeartbeats 4000000 in
set_option maxRecDepth 100000 in
theorem ktX6_ownedBy_L4 {p : Program} {l : Launch} {e : Env} {s : State} {m : MethodId} {args : Array Value} {below : List Frame} {meth : Method} {c : Code} {E : gE} {A : Nat → Prop} (F : gFx p s m args meth c RX6 wsX6_ownedBy cX6_ownedBy 4 (some .int) vwCl E A) (aP : Nat → Nat) (x1 : Int32) (P : tPieces) (r : Int32) {k : Int32 → Option (Int32)} (hk : ∀ (x2 : Int32), k x2 = some r → Gj p l e rmX6_ownedBy s m args below meth c 0 0 (MQ below (gQ vwCl E A (fun v w => v = some (.int r) ∧ w = [sPieces E aP P])) args s 0 0 A) vwCl E A [sPieces E aP P] [none, none, some (.int x2), none] [] 31) : ∀ (n : Nat) (x2 : Int32) (x3 : Int32), fX6_ownedBy_L4 x1 P k n x2 x3 = some r → Gj p l e rmX6_ownedBy s m args below meth c 0 0 (MQ below (gQ vwCl E A (fun v w => v = some (.int r) ∧ w = [sPieces E aP P])) args s 0 0 A) vwCl E A [sPieces E aP P] [some (.ref (aP 0)), some (.int x1), some (.int x2), some (.int x3)] [] 4
  | 0, _, _, hf => by cases hf
  | n + 1, x2, x3, hf => by
    have ih := ktX6_ownedBy_L4 F aP x1 P r hk n
    rw [fX6_ownedBy_L4] at hf
    refine g_iload_n F dX6_ownedBy_4 rfl ?_
    refine g_aload_n F dX6_ownedBy_5 rfl ?_
    refine g_get (C := RX6) (T := TX6) (N := 6) F 0 0 0 rfl rfl rfl iX6_ownedBy_X6 (by decide) (by decide +kernel) rfl dX6_ownedBy_6 ?_
    refine g_icmp_ge F 31 dX6_ownedBy_9 (by decide) (fun hc_2 => ?_) (fun hc_2 => ?_)
    · replace hf := gi_t hc_2 hf
      refine g_mask [false, false, true, false] rfl ?_
      exact hk x2 hf
    · replace hf := gi_f hc_2 hf
      refine g_aload_n F dX6_ownedBy_12 rfl ?_
      refine g_get (C := RX6) (T := TX6) (N := 6) F 0 0 3 rfl rfl rfl iX6_ownedBy_X6 (by decide) (by decide +kernel) rfl dX6_ownedBy_13 ?_
      refine g_iload_n F dX6_ownedBy_16 rfl ?_
      obtain ⟨hb_1, hf⟩ := gb_in hf
      refine g_iald F 0 3 (x3.toNatClampNeg) rfl rfl rfl hb_1 dX6_ownedBy_17 ?_
      refine g_iload_n F dX6_ownedBy_18 rfl ?_
      refine g_icmp_ne F 25 dX6_ownedBy_19 (by decide) (fun hc_1 => ?_) (fun hc_1 => ?_)
      · replace hf := gi_f hc_1 hf
        refine g_iinc (lv' := [some (.ref (aP 0)), some (.int x1), some (.int x2), some (.int (x3 + 1))]) F (x3 + 1) dX6_ownedBy_25 rfl rfl rfl rfl ?_
        refine g_goto F 4 dX6_ownedBy_28 (by decide) ?_
        exact ih x2 (x3 + 1) hf
      · replace hf := gi_t hc_1 hf
        refine g_iinc (lv' := [some (.ref (aP 0)), some (.int x1), some (.int (x2 + 1)), some (.int x3)]) F (x2 + 1) dX6_ownedBy_22 rfl rfl rfl rfl ?_
        refine g_iinc (lv' := [some (.ref (aP 0)), some (.int x1), some (.int (x2 + 1)), some (.int (x3 + 1))]) F (x3 + 1) dX6_ownedBy_25 rfl rfl rfl rfl ?_
        refine g_goto F 4 dX6_ownedBy_28 (by decide) ?_
        exact ih (x2 + 1) (x3 + 1) hf
set_option maxHeartbeats 4000000 in
set_option maxRecDepth 100000 in
theorem ctX6_ownedBy (l : Launch) (E : gE) (aP : Nat → Nat) (x1 : Int32) (P : tPieces) (r : Int32) (hf : fX6_ownedBy x1 P = some r) : gMet l yX6_ownedBy wsX6_ownedBy rmX6_ownedBy vwCl E [.ref (aP 0), .int x1] [sPieces E aP P] (fun v w => v = some (.int r) ∧ w = [sPieces E aP P]) 0 0 := by
  refine g_entry [some (.ref (aP 0)), some (.int x1), none, none] (by decide) rfl (Nat.le_of_ble_eq_true rfl) rfl ?_
  intro p e s m below meth c A F hnm
  unfold fX6_ownedBy at hf
  refine g_iconst F 0 dX6_ownedBy_0 rfl ?_
  refine g_istore_n (lv' := [some (.ref (aP 0)), some (.int x1), some (.int 0), none]) F dX6_ownedBy_1 (Nat.le_of_ble_eq_true rfl) rfl rfl ?_
  refine g_iconst F 0 dX6_ownedBy_2 rfl ?_
  refine g_istore_n (lv' := [some (.ref (aP 0)), some (.int x1), some (.int 0), some (.int 0)]) F dX6_ownedBy_3 (Nat.le_of_ble_eq_true rfl) rfl rfl ?_
  refine ktX6_ownedBy_L4 F aP x1 P r (fun x2_1 hf => ?_) FU 0 0 hf
  refine g_iload_n F dX6_ownedBy_31 rfl ?_
  cases hf
  exact g_iret F rfl ⟨rfl, rfl⟩ dX6_ownedBy_32
set_option maxHeartbeats 4000000 in
set_option maxRecDepth 100000 in
theorem ktX6_pricesPaidBy_L4 {p : Program} {l : Launch} {e : Env} {s : State} {m : MethodId} {args : Array Value} {below : List Frame} {meth : Method} {c : Code} {E : gE} {A : Nat → Prop} (F : gFx p s m args meth c RX6 wsX6_pricesPaidBy cX6_pricesPaidBy 4 (some .int) vwCl E A) (aP : Nat → Nat) (x1 : Int32) (P : tPieces) (r : Int32) {k : Int32 → Option (Int32)} (hk : ∀ (x2 : Int32), k x2 = some r → Gj p l e rmX6_pricesPaidBy s m args below meth c 0 0 (MQ below (gQ vwCl E A (fun v w => v = some (.int r) ∧ w = [sPieces E aP P])) args s 0 0 A) vwCl E A [sPieces E aP P] [none, none, some (.int x2), none] [] 37) : ∀ (n : Nat) (x2 : Int32) (x3 : Int32), fX6_pricesPaidBy_L4 x1 P k n x2 x3 = some r → Gj p l e rmX6_pricesPaidBy s m args below meth c 0 0 (MQ below (gQ vwCl E A (fun v w => v = some (.int r) ∧ w = [sPieces E aP P])) args s 0 0 A) vwCl E A [sPieces E aP P] [some (.ref (aP 0)), some (.int x1), some (.int x2), some (.int x3)] [] 4
  | 0, _, _, hf => by cases hf
  | n + 1, x2, x3, hf => by
    have ih := ktX6_pricesPaidBy_L4 F aP x1 P r hk n
    rw [fX6_pricesPaidBy_L4] at hf
    refine g_iload_n F dX6_pricesPaidBy_4 rfl ?_
    refine g_aload_n F dX6_pricesPaidBy_5 rfl ?_
    refine g_get (C := RX6) (T := TX6) (N := 6) F 0 0 0 rfl rfl rfl iX6_pricesPaidBy_X6 (by decide) (by decide +kernel) rfl dX6_pricesPaidBy_6 ?_
    refine g_icmp_ge F 37 dX6_pricesPaidBy_9 (by decide) (fun hc_2 => ?_) (fun hc_2 => ?_)
    · replace hf := gi_t hc_2 hf
      refine g_mask [false, false, true, false] rfl ?_
      exact hk x2 hf
    · replace hf := gi_f hc_2 hf
      refine g_aload_n F dX6_pricesPaidBy_12 rfl ?_
      refine g_get (C := RX6) (T := TX6) (N := 6) F 0 0 3 rfl rfl rfl iX6_pricesPaidBy_X6 (by decide) (by decide +kernel) rfl dX6_pricesPaidBy_13 ?_
      refine g_iload_n F dX6_pricesPaidBy_16 rfl ?_
      obtain ⟨hb_1, hf⟩ := gb_in hf
      refine g_iald F 0 3 (x3.toNatClampNeg) rfl rfl rfl hb_1 dX6_pricesPaidBy_17 ?_
      refine g_iload_n F dX6_pricesPaidBy_18 rfl ?_
      refine g_icmp_ne F 31 dX6_pricesPaidBy_19 (by decide) (fun hc_1 => ?_) (fun hc_1 => ?_)
      · replace hf := gi_f hc_1 hf
        refine g_iinc (lv' := [some (.ref (aP 0)), some (.int x1), some (.int x2), some (.int (x3 + 1))]) F (x3 + 1) dX6_pricesPaidBy_31 rfl rfl rfl rfl ?_
        refine g_goto F 4 dX6_pricesPaidBy_34 (by decide) ?_
        exact ih x2 (x3 + 1) hf
      · replace hf := gi_t hc_1 hf
        refine g_iload_n F dX6_pricesPaidBy_22 rfl ?_
        refine g_aload_n F dX6_pricesPaidBy_23 rfl ?_
        refine g_get (C := RX6) (T := TX6) (N := 6) F 0 0 2 rfl rfl rfl iX6_pricesPaidBy_X6 (by decide) (by decide +kernel) rfl dX6_pricesPaidBy_24 ?_
        refine g_iload_n F dX6_pricesPaidBy_27 rfl ?_
        obtain ⟨hb_2, hf⟩ := gb_in hf
        refine g_iald F 0 2 (x3.toNatClampNeg) rfl rfl rfl hb_2 dX6_pricesPaidBy_28 ?_
        refine g_iadd F dX6_pricesPaidBy_29 ?_
        refine g_istore_n (lv' := [some (.ref (aP 0)), some (.int x1), some (.int (x2 + (P.2.2.1 (x3.toNatClampNeg)))), some (.int x3)]) F dX6_pricesPaidBy_30 (Nat.le_of_ble_eq_true rfl) rfl rfl ?_
        refine g_iinc (lv' := [some (.ref (aP 0)), some (.int x1), some (.int (x2 + (P.2.2.1 (x3.toNatClampNeg)))), some (.int (x3 + 1))]) F (x3 + 1) dX6_pricesPaidBy_31 rfl rfl rfl rfl ?_
        refine g_goto F 4 dX6_pricesPaidBy_34 (by decide) ?_
        exact ih (x2 + (P.2.2.1 (x3.toNatClampNeg))) (x3 + 1) hf
set_option maxHeartbeats 4000000 in
set_option maxRecDepth 100000 in
theorem ctX6_pricesPaidBy (l : Launch) (E : gE) (aP : Nat → Nat) (x1 : Int32) (P : tPieces) (r : Int32) (hf : fX6_pricesPaidBy x1 P = some r) : gMet l yX6_pricesPaidBy wsX6_pricesPaidBy rmX6_pricesPaidBy vwCl E [.ref (aP 0), .int x1] [sPieces E aP P] (fun v w => v = some (.int r) ∧ w = [sPieces E aP P]) 0 0 := by
  refine g_entry [some (.ref (aP 0)), some (.int x1), none, none] (by decide) rfl (Nat.le_of_ble_eq_true rfl) rfl ?_
  intro p e s m below meth c A F hnm
  unfold fX6_pricesPaidBy at hf
  refine g_iconst F 0 dX6_pricesPaidBy_0 rfl ?_
  refine g_istore_n (lv' := [some (.ref (aP 0)), some (.int x1), some (.int 0), none]) F dX6_pricesPaidBy_1 (Nat.le_of_ble_eq_true rfl) rfl rfl ?_
  refine g_iconst F 0 dX6_pricesPaidBy_2 rfl ?_
  refine g_istore_n (lv' := [some (.ref (aP 0)), some (.int x1), some (.int 0), some (.int 0)]) F dX6_pricesPaidBy_3 (Nat.le_of_ble_eq_true rfl) rfl rfl ?_
  refine ktX6_pricesPaidBy_L4 F aP x1 P r (fun x2_1 hf => ?_) FU 0 0 hf
  refine g_iload_n F dX6_pricesPaidBy_37 rfl ?_
  cases hf
  exact g_iret F rfl ⟨rfl, rfl⟩ dX6_pricesPaidBy_38
set_option maxHeartbeats 4000000 in
set_option maxRecDepth 100000 in
theorem ktX6_mostUsed_L6 {p : Program} {l : Launch} {e : Env} {s : State} {m : MethodId} {args : Array Value} {below : List Frame} {meth : Method} {c : Code} {E : gE} {A : Nat → Prop} (F : gFx p s m args meth c RX6 wsX6_mostUsed cX6_mostUsed 4 (some .int) vwCl E A) (aP : Nat → Nat) (P : tPieces) (r : Int32) {k : Int32 → Option (Int32)} (hk : ∀ (x1 : Int32), k x1 = some r → Gj p l e rmX6_mostUsed s m args below meth c 0 0 (MQ below (gQ vwCl E A (fun v w => v = some (.int r) ∧ w = [sPieces E aP P])) args s 0 0 A) vwCl E A [sPieces E aP P] [none, some (.int x1), none, none] [] 39) : ∀ (n : Nat) (x1 : Int32) (x2 : Int32) (x3 : Int32), fX6_mostUsed_L6 P k n x1 x2 x3 = some r → Gj p l e rmX6_mostUsed s m args below meth c 0 0 (MQ below (gQ vwCl E A (fun v w => v = some (.int r) ∧ w = [sPieces E aP P])) args s 0 0 A) vwCl E A [sPieces E aP P] [some (.ref (aP 0)), some (.int x1), some (.int x2), some (.int x3)] [] 6
  | 0, _, _, _, hf => by cases hf
  | n + 1, x1, x2, x3, hf => by
    have ih := ktX6_mostUsed_L6 F aP P r hk n
    rw [fX6_mostUsed_L6] at hf
    refine g_iload_n F dX6_mostUsed_6 rfl ?_
    refine g_aload_n F dX6_mostUsed_7 rfl ?_
    refine g_get (C := RX6) (T := TX6) (N := 6) F 0 0 0 rfl rfl rfl iX6_mostUsed_X6 (by decide) (by decide +kernel) rfl dX6_mostUsed_8 ?_
    refine g_icmp_ge F 39 dX6_mostUsed_11 (by decide) (fun hc_2 => ?_) (fun hc_2 => ?_)
    · replace hf := gi_t hc_2 hf
      refine g_mask [false, true, false, false] rfl ?_
      exact hk x1 hf
    · replace hf := gi_f hc_2 hf
      refine g_aload_n F dX6_mostUsed_14 rfl ?_
      refine g_get (C := RX6) (T := TX6) (N := 6) F 0 0 4 rfl rfl rfl iX6_mostUsed_X6 (by decide) (by decide +kernel) rfl dX6_mostUsed_15 ?_
      refine g_iload_n F dX6_mostUsed_18 rfl ?_
      obtain ⟨hb_1, hf⟩ := gb_in hf
      refine g_iald F 0 4 (x3.toNatClampNeg) rfl rfl rfl hb_1 dX6_mostUsed_19 ?_
      refine g_iload_n F dX6_mostUsed_20 rfl ?_
      refine g_icmp_le F 33 dX6_mostUsed_21 (by decide) (fun hc_1 => ?_) (fun hc_1 => ?_)
      · replace hf := gi_t hc_1 hf
        refine g_iinc (lv' := [some (.ref (aP 0)), some (.int x1), some (.int x2), some (.int (x3 + 1))]) F (x3 + 1) dX6_mostUsed_33 rfl rfl rfl rfl ?_
        refine g_goto F 6 dX6_mostUsed_36 (by decide) ?_
        exact ih x1 x2 (x3 + 1) hf
      · replace hf := gi_f hc_1 hf
        refine g_aload_n F dX6_mostUsed_24 rfl ?_
        refine g_get (C := RX6) (T := TX6) (N := 6) F 0 0 4 rfl rfl rfl iX6_mostUsed_X6 (by decide) (by decide +kernel) rfl dX6_mostUsed_25 ?_
        refine g_iload_n F dX6_mostUsed_28 rfl ?_
        obtain ⟨hb_2, hf⟩ := gb_in hf
        refine g_iald F 0 4 (x3.toNatClampNeg) rfl rfl rfl hb_2 dX6_mostUsed_29 ?_
        refine g_istore_n (lv' := [some (.ref (aP 0)), some (.int x1), some (.int (P.2.2.2.2.1 (x3.toNatClampNeg))), some (.int x3)]) F dX6_mostUsed_30 (Nat.le_of_ble_eq_true rfl) rfl rfl ?_
        refine g_iload_n F dX6_mostUsed_31 rfl ?_
        refine g_istore_n (lv' := [some (.ref (aP 0)), some (.int x3), some (.int (P.2.2.2.2.1 (x3.toNatClampNeg))), some (.int x3)]) F dX6_mostUsed_32 (Nat.le_of_ble_eq_true rfl) rfl rfl ?_
        refine g_iinc (lv' := [some (.ref (aP 0)), some (.int x3), some (.int (P.2.2.2.2.1 (x3.toNatClampNeg))), some (.int (x3 + 1))]) F (x3 + 1) dX6_mostUsed_33 rfl rfl rfl rfl ?_
        refine g_goto F 6 dX6_mostUsed_36 (by decide) ?_
        exact ih x3 (P.2.2.2.2.1 (x3.toNatClampNeg)) (x3 + 1) hf
set_option maxHeartbeats 4000000 in
set_option maxRecDepth 100000 in
theorem ctX6_mostUsed (l : Launch) (E : gE) (aP : Nat → Nat) (P : tPieces) (r : Int32) (hf : fX6_mostUsed P = some r) : gMet l yX6_mostUsed wsX6_mostUsed rmX6_mostUsed vwCl E [.ref (aP 0)] [sPieces E aP P] (fun v w => v = some (.int r) ∧ w = [sPieces E aP P]) 0 0 := by
  refine g_entry [some (.ref (aP 0)), none, none, none] (by decide) rfl (Nat.le_of_ble_eq_true rfl) rfl ?_
  intro p e s m below meth c A F hnm
  unfold fX6_mostUsed at hf
  refine g_iconst F (-1) dX6_mostUsed_0 rfl ?_
  refine g_istore_n (lv' := [some (.ref (aP 0)), some (.int (-1)), none, none]) F dX6_mostUsed_1 (Nat.le_of_ble_eq_true rfl) rfl rfl ?_
  refine g_iconst F (-1) dX6_mostUsed_2 rfl ?_
  refine g_istore_n (lv' := [some (.ref (aP 0)), some (.int (-1)), some (.int (-1)), none]) F dX6_mostUsed_3 (Nat.le_of_ble_eq_true rfl) rfl rfl ?_
  refine g_iconst F 0 dX6_mostUsed_4 rfl ?_
  refine g_istore_n (lv' := [some (.ref (aP 0)), some (.int (-1)), some (.int (-1)), some (.int 0)]) F dX6_mostUsed_5 (Nat.le_of_ble_eq_true rfl) rfl rfl ?_
  refine ktX6_mostUsed_L6 F aP P r (fun x1_1 hf => ?_) FU (-1) (-1) 0 hf
  refine g_iload_n F dX6_mostUsed_39 rfl ?_
  cases hf
  exact g_iret F rfl ⟨rfl, rfl⟩ dX6_mostUsed_40
set_option maxHeartbeats 4000000 in
set_option maxRecDepth 100000 in
theorem ktX8_numberOf_L2 {p : Program} {l : Launch} {e : Env} {s : State} {m : MethodId} {args : Array Value} {below : List Frame} {meth : Method} {c : Code} {E : gE} {A : Nat → Prop} (F : gFx p s m args meth c RX8 wsX8_numberOf cX8_numberOf 4 (some .int) vwCl E A) (aW : Nat → Nat) (x1 : Int64) (W : tWords) (r : Int32) {k : Option (Int32)} (hk : k = some r → Gj p l e rmX8_numberOf s m args below meth c 0 0 (MQ below (gQ vwCl E A (fun v w => v = some (.int r) ∧ w = [sWords E aW W])) args s 0 0 A) vwCl E A [sWords E aW W] [none, none, none, none] [] 29) : ∀ (n : Nat) (x3 : Int32), fX8_numberOf_L2 x1 W k n x3 = some r → Gj p l e rmX8_numberOf s m args below meth c 0 0 (MQ below (gQ vwCl E A (fun v w => v = some (.int r) ∧ w = [sWords E aW W])) args s 0 0 A) vwCl E A [sWords E aW W] [some (.ref (aW 0)), some (.long x1), none, some (.int x3)] [] 2
  | 0, _, hf => by cases hf
  | n + 1, x3, hf => by
    have ih := ktX8_numberOf_L2 F aW x1 W r hk n
    rw [fX8_numberOf_L2] at hf
    refine g_iload_n F dX8_numberOf_2 rfl ?_
    refine g_aload_n F dX8_numberOf_3 rfl ?_
    refine g_get (C := RX8) (T := TX8) (N := 5) F 0 0 0 rfl rfl rfl iX8_numberOf_X8 (by decide) (by decide +kernel) rfl dX8_numberOf_4 ?_
    refine g_icmp_ge F 29 dX8_numberOf_7 (by decide) (fun hc_2 => ?_) (fun hc_2 => ?_)
    · replace hf := gi_t hc_2 hf
      refine g_mask [false, false, true, false] rfl ?_
      exact hk hf
    · replace hf := gi_f hc_2 hf
      refine g_aload_n F dX8_numberOf_10 rfl ?_
      refine g_get (C := RX8) (T := TX8) (N := 5) F 0 0 1 rfl rfl rfl iX8_numberOf_X8 (by decide) (by decide +kernel) rfl dX8_numberOf_11 ?_
      refine g_iload_n F dX8_numberOf_14 rfl ?_
      obtain ⟨hb_1, hf⟩ := gb_in hf
      refine g_lald F 0 1 (x3.toNatClampNeg) rfl rfl rfl hb_1 dX8_numberOf_15 ?_
      refine g_lload_n F dX8_numberOf_16 rfl ?_
      refine g_lcmp F dX8_numberOf_17 ?_
      refine g_ifne F 23 dX8_numberOf_18 (by decide) (fun hc_1 => ?_) (fun hc_1 => ?_)
      · replace hf := gi_f hc_1 hf
        refine g_iinc (lv' := [some (.ref (aW 0)), some (.long x1), none, some (.int (x3 + 1))]) F (x3 + 1) dX8_numberOf_23 rfl rfl rfl rfl ?_
        refine g_goto F 2 dX8_numberOf_26 (by decide) ?_
        exact ih (x3 + 1) hf
      · replace hf := gi_t hc_1 hf
        refine g_iload_n F dX8_numberOf_21 rfl ?_
        cases hf
        exact g_iret F rfl ⟨rfl, rfl⟩ dX8_numberOf_22
set_option maxHeartbeats 4000000 in
set_option maxRecDepth 100000 in
theorem ctX8_numberOf (l : Launch) (E : gE) (aW : Nat → Nat) (x1 : Int64) (W : tWords) (r : Int32) (hf : fX8_numberOf x1 W = some r) : gMet l yX8_numberOf wsX8_numberOf rmX8_numberOf vwCl E [.ref (aW 0), .long x1] [sWords E aW W] (fun v w => v = some (.int r) ∧ w = [sWords E aW W]) 0 0 := by
  refine g_entry [some (.ref (aW 0)), some (.long x1), none, none] (by decide) rfl (Nat.le_of_ble_eq_true rfl) rfl ?_
  intro p e s m below meth c A F hnm
  unfold fX8_numberOf at hf
  refine g_iconst F 0 dX8_numberOf_0 rfl ?_
  refine g_istore_n (lv' := [some (.ref (aW 0)), some (.long x1), none, some (.int 0)]) F dX8_numberOf_1 (Nat.le_of_ble_eq_true rfl) rfl rfl ?_
  refine ktX8_numberOf_L2 F aW x1 W r (fun hf => ?_) FU 0 hf
  refine g_iconst F (-1) dX8_numberOf_29 rfl ?_
  cases hf
  exact g_iret F rfl ⟨rfl, rfl⟩ dX8_numberOf_30
set_option maxHeartbeats 4000000 in
set_option maxRecDepth 100000 in
theorem ktX8_countOf_L4 {p : Program} {l : Launch} {e : Env} {s : State} {m : MethodId} {args : Array Value} {below : List Frame} {meth : Method} {c : Code} {E : gE} {A : Nat → Prop} (F : gFx p s m args meth c RX8 wsX8_countOf cX8_countOf 4 (some .int) vwCl E A) (aW : Nat → Nat) (x1 : Int32) (W : tWords) (r : Int32) {k : Int32 → Option (Int32)} (hk : ∀ (x2 : Int32), k x2 = some r → Gj p l e rmX8_countOf s m args below meth c 0 0 (MQ below (gQ vwCl E A (fun v w => v = some (.int r) ∧ w = [sWords E aW W])) args s 0 0 A) vwCl E A [sWords E aW W] [none, none, some (.int x2), none] [] 31) : ∀ (n : Nat) (x2 : Int32) (x3 : Int32), fX8_countOf_L4 x1 W k n x2 x3 = some r → Gj p l e rmX8_countOf s m args below meth c 0 0 (MQ below (gQ vwCl E A (fun v w => v = some (.int r) ∧ w = [sWords E aW W])) args s 0 0 A) vwCl E A [sWords E aW W] [some (.ref (aW 0)), some (.int x1), some (.int x2), some (.int x3)] [] 4
  | 0, _, _, hf => by cases hf
  | n + 1, x2, x3, hf => by
    have ih := ktX8_countOf_L4 F aW x1 W r hk n
    rw [fX8_countOf_L4] at hf
    refine g_iload_n F dX8_countOf_4 rfl ?_
    refine g_aload_n F dX8_countOf_5 rfl ?_
    refine g_get (C := RX8) (T := TX8) (N := 5) F 0 0 0 rfl rfl rfl iX8_countOf_X8 (by decide) (by decide +kernel) rfl dX8_countOf_6 ?_
    refine g_icmp_ge F 31 dX8_countOf_9 (by decide) (fun hc_2 => ?_) (fun hc_2 => ?_)
    · replace hf := gi_t hc_2 hf
      refine g_mask [false, false, true, false] rfl ?_
      exact hk x2 hf
    · replace hf := gi_f hc_2 hf
      refine g_aload_n F dX8_countOf_12 rfl ?_
      refine g_get (C := RX8) (T := TX8) (N := 5) F 0 0 2 rfl rfl rfl iX8_countOf_X8 (by decide) (by decide +kernel) rfl dX8_countOf_13 ?_
      refine g_iload_n F dX8_countOf_16 rfl ?_
      obtain ⟨hb_1, hf⟩ := gb_in hf
      refine g_iald F 0 2 (x3.toNatClampNeg) rfl rfl rfl hb_1 dX8_countOf_17 ?_
      refine g_iload_n F dX8_countOf_18 rfl ?_
      refine g_icmp_ne F 25 dX8_countOf_19 (by decide) (fun hc_1 => ?_) (fun hc_1 => ?_)
      · replace hf := gi_f hc_1 hf
        refine g_iinc (lv' := [some (.ref (aW 0)), some (.int x1), some (.int x2), some (.int (x3 + 1))]) F (x3 + 1) dX8_countOf_25 rfl rfl rfl rfl ?_
        refine g_goto F 4 dX8_countOf_28 (by decide) ?_
        exact ih x2 (x3 + 1) hf
      · replace hf := gi_t hc_1 hf
        refine g_iinc (lv' := [some (.ref (aW 0)), some (.int x1), some (.int (x2 + 1)), some (.int x3)]) F (x2 + 1) dX8_countOf_22 rfl rfl rfl rfl ?_
        refine g_iinc (lv' := [some (.ref (aW 0)), some (.int x1), some (.int (x2 + 1)), some (.int (x3 + 1))]) F (x3 + 1) dX8_countOf_25 rfl rfl rfl rfl ?_
        refine g_goto F 4 dX8_countOf_28 (by decide) ?_
        exact ih (x2 + 1) (x3 + 1) hf
set_option maxHeartbeats 4000000 in
set_option maxRecDepth 100000 in
theorem ctX8_countOf (l : Launch) (E : gE) (aW : Nat → Nat) (x1 : Int32) (W : tWords) (r : Int32) (hf : fX8_countOf x1 W = some r) : gMet l yX8_countOf wsX8_countOf rmX8_countOf vwCl E [.ref (aW 0), .int x1] [sWords E aW W] (fun v w => v = some (.int r) ∧ w = [sWords E aW W]) 0 0 := by
  refine g_entry [some (.ref (aW 0)), some (.int x1), none, none] (by decide) rfl (Nat.le_of_ble_eq_true rfl) rfl ?_
  intro p e s m below meth c A F hnm
  unfold fX8_countOf at hf
  refine g_iconst F 0 dX8_countOf_0 rfl ?_
  refine g_istore_n (lv' := [some (.ref (aW 0)), some (.int x1), some (.int 0), none]) F dX8_countOf_1 (Nat.le_of_ble_eq_true rfl) rfl rfl ?_
  refine g_iconst F 0 dX8_countOf_2 rfl ?_
  refine g_istore_n (lv' := [some (.ref (aW 0)), some (.int x1), some (.int 0), some (.int 0)]) F dX8_countOf_3 (Nat.le_of_ble_eq_true rfl) rfl rfl ?_
  refine ktX8_countOf_L4 F aW x1 W r (fun x2_1 hf => ?_) FU 0 0 hf
  refine g_iload_n F dX8_countOf_31 rfl ?_
  cases hf
  exact g_iret F rfl ⟨rfl, rfl⟩ dX8_countOf_32
