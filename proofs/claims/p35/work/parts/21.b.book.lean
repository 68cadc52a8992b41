abbrev rmX1_depositsFor : Room := { frames := 0, cells := 0, slots := 0, locals := 0 }
theorem iX1_depositsFor_X1 : ∀ w ∈ u_ws RX1 TX1 8, w ∈ wsX1_depositsFor := by decide +kernel
theorem h0X1_depositsFor : yX1_depositsFor.cls = RX1 ∧ yX1_depositsFor.cls ≠ "java/lang/invoke/MethodHandle" ∧ yX1_depositsFor.cls ≠ "java/lang/invoke/VarHandle" ∧ (parseMethodDescriptor yX1_depositsFor.desc).map (fun d => d.parameters.length) = some 1 := by decide +kernel
abbrev rmX2_longestAt : Room := { frames := 1, cells := 0, slots := 0, locals := 30 }
theorem iX2_longestAt_X2 : ∀ w ∈ u_ws RX2 TX2 12, w ∈ wsX2_longestAt := by decide +kernel
theorem h0X2_longestAt : yX2_longestAt.cls = RX2 ∧ yX2_longestAt.cls ≠ "java/lang/invoke/MethodHandle" ∧ yX2_longestAt.cls ≠ "java/lang/invoke/VarHandle" ∧ (parseMethodDescriptor yX2_longestAt.desc).map (fun d => d.parameters.length) = some 1 := by decide +kernel
abbrev rmX1_newPrice : Room := { frames := 0, cells := 0, slots := 0, locals := 0 }
theorem iX1_newPrice_X1 : ∀ w ∈ u_ws RX1 TX1 8, w ∈ wsX1_newPrice := by decide +kernel
theorem h0X1_newPrice : yX1_newPrice.cls = RX1 ∧ yX1_newPrice.cls ≠ "java/lang/invoke/MethodHandle" ∧ yX1_newPrice.cls ≠ "java/lang/invoke/VarHandle" ∧ (parseMethodDescriptor yX1_newPrice.desc).map (fun d => d.parameters.length) = some 1 := by decide +kernel
abbrev rmX2_lookUp : Room := { frames := 2, cells := 0, slots := 0, locals := 51 }
theorem iX2_lookUp_X1 : ∀ w ∈ u_ws RX1 TX1 8, w ∈ wsX2_lookUp := by decide +kernel
theorem iX2_lookUp_X2 : ∀ w ∈ u_ws RX2 TX2 12, w ∈ wsX2_lookUp := by decide +kernel
theorem h0X2_lookUp : yX2_lookUp.cls = RX2 ∧ yX2_lookUp.cls ≠ "java/lang/invoke/MethodHandle" ∧ yX2_lookUp.cls ≠ "java/lang/invoke/VarHandle" ∧ (parseMethodDescriptor yX2_lookUp.desc).map (fun d => d.parameters.length) = some 3 := by decide +kernel
abbrev rmX2_tryFirst : Room := { frames := 0, cells := 0, slots := 0, locals := 0 }
theorem iX2_tryFirst_X2 : ∀ w ∈ u_ws RX2 TX2 12, w ∈ wsX2_tryFirst := by decide +kernel
theorem h0X2_tryFirst : yX2_tryFirst.cls = RX2 ∧ yX2_tryFirst.cls ≠ "java/lang/invoke/MethodHandle" ∧ yX2_tryFirst.cls ≠ "java/lang/invoke/VarHandle" ∧ (parseMethodDescriptor yX2_tryFirst.desc).map (fun d => d.parameters.length) = some 2 := by decide +kernel
abbrev rmX2_solve : Room := { frames := 2, cells := 0, slots := 0, locals := 51 }
theorem iX2_solve_X2 : ∀ w ∈ u_ws RX2 TX2 12, w ∈ wsX2_solve := by decide +kernel
theorem h0X2_solve : yX2_solve.cls = RX2 ∧ yX2_solve.cls ≠ "java/lang/invoke/MethodHandle" ∧ yX2_solve.cls ≠ "java/lang/invoke/VarHandle" ∧ (parseMethodDescriptor yX2_solve.desc).map (fun d => d.parameters.length) = some 0 := by decide +kernel
abbrev rmX2_collectParts : Room := { frames := 1, cells := 0, slots := 0, locals := 23 }
theorem iX2_collectParts_X2 : ∀ w ∈ u_ws RX2 TX2 12, w ∈ wsX2_collectParts := by decide +kernel
theorem h0X2_collectParts : yX2_collectParts.cls = RX2 ∧ yX2_collectParts.cls ≠ "java/lang/invoke/MethodHandle" ∧ yX2_collectParts.cls ≠ "java/lang/invoke/VarHandle" ∧ (parseMethodDescriptor yX2_collectParts.desc).map (fun d => d.parameters.length) = some 0 := by decide +kernel
abbrev rmX2_cutKnown : Room := { frames := 3, cells := 0, slots := 0, locals := 77 }
theorem h0X2_cutKnown : yX2_cutKnown.cls = RX2 ∧ yX2_cutKnown.cls ≠ "java/lang/invoke/MethodHandle" ∧ yX2_cutKnown.cls ≠ "java/lang/invoke/VarHandle" ∧ (parseMethodDescriptor yX2_cutKnown.desc).map (fun d => d.parameters.length) = some 2 := by decide +kernel
abbrev rmX2_setSurcharge : Room := { frames := 1, cells := 0, slots := 0, locals := 23 }
theorem iX2_setSurcharge_X2 : ∀ w ∈ u_ws RX2 TX2 12, w ∈ wsX2_setSurcharge := by decide +kernel
theorem h0X2_setSurcharge : yX2_setSurcharge.cls = RX2 ∧ yX2_setSurcharge.cls ≠ "java/lang/invoke/MethodHandle" ∧ yX2_setSurcharge.cls ≠ "java/lang/invoke/VarHandle" ∧ (parseMethodDescriptor yX2_setSurcharge.desc).map (fun d => d.parameters.length) = some 3 := by decide +kernel
abbrev rmX2_gainOf : Room := { frames := 3, cells := 0, slots := 0, locals := 73 }
theorem iX2_gainOf_X2 : ∀ w ∈ u_ws RX2 TX2 12, w ∈ wsX2_gainOf := by decide +kernel
theorem h0X2_gainOf : yX2_gainOf.cls = RX2 ∧ yX2_gainOf.cls ≠ "java/lang/invoke/MethodHandle" ∧ yX2_gainOf.cls ≠ "java/lang/invoke/VarHandle" ∧ (parseMethodDescriptor yX2_gainOf.desc).map (fun d => d.parameters.length) = some 2 := by decide +kernel
abbrev rmJ7_fill_53178 : Room := { frames := 0, cells := 0, slots := 0, locals := 0 }
theorem h0J7_fill_53178 : yJ7_fill_53178.cls ≠ "java/lang/invoke/MethodHandle" ∧ yJ7_fill_53178.cls ≠ "java/lang/invoke/VarHandle" ∧ (parseMethodDescriptor yJ7_fill_53178.desc).map (fun d => d.parameters.length) = some 2 := by decide +kernel
abbrev rmX1_clear : Room := { frames := 1, cells := 0, slots := 0, locals := 23 }
theorem iX1_clear_X1 : ∀ w ∈ u_ws RX1 TX1 8, w ∈ wsX1_clear := by decide +kernel
theorem iX1_clear_X6 : ∀ w ∈ u_ws RX6 TX6 6, w ∈ wsX1_clear := by decide +kernel
theorem iX1_clear_X7 : ∀ w ∈ u_ws RX7 TX7 3, w ∈ wsX1_clear := by decide +kernel
theorem iX1_clear_X8 : ∀ w ∈ u_ws RX8 TX8 5, w ∈ wsX1_clear := by decide +kernel
theorem h0X1_clear : yX1_clear.cls = RX1 ∧ yX1_clear.cls ≠ "java/lang/invoke/MethodHandle" ∧ yX1_clear.cls ≠ "java/lang/invoke/VarHandle" ∧ (parseMethodDescriptor yX1_clear.desc).map (fun d => d.parameters.length) = some 0 := by decide +kernel
abbrev rmX1_copyFrom : Room := { frames := 2, cells := 0, slots := 0, locals := 51 }
theorem iX1_copyFrom_X1 : ∀ w ∈ u_ws RX1 TX1 8, w ∈ wsX1_copyFrom := by decide +kernel
theorem h0X1_copyFrom : yX1_copyFrom.cls = RX1 ∧ yX1_copyFrom.cls ≠ "java/lang/invoke/MethodHandle" ∧ yX1_copyFrom.cls ≠ "java/lang/invoke/VarHandle" ∧ (parseMethodDescriptor yX1_copyFrom.desc).map (fun d => d.parameters.length) = some 1 := by decide +kernel
abbrev rmX1_heldFor : Room := { frames := 1, cells := 0, slots := 0, locals := 21 }
theorem iX1_heldFor_X1 : ∀ w ∈ u_ws RX1 TX1 8, w ∈ wsX1_heldFor := by decide +kernel
theorem iX1_heldFor_X8 : ∀ w ∈ u_ws RX8 TX8 5, w ∈ wsX1_heldFor := by decide +kernel
theorem h0X1_heldFor : yX1_heldFor.cls = RX1 ∧ yX1_heldFor.cls ≠ "java/lang/invoke/MethodHandle" ∧ yX1_heldFor.cls ≠ "java/lang/invoke/VarHandle" ∧ (parseMethodDescriptor yX1_heldFor.desc).map (fun d => d.parameters.length) = some 1 := by decide +kernel
abbrev rmX1_costOf : Room := { frames := 1, cells := 0, slots := 0, locals := 21 }
theorem iX1_costOf_X2 : ∀ w ∈ u_ws RX2 TX2 12, w ∈ wsX1_costOf := by decide +kernel
theorem h0X1_costOf : yX1_costOf.cls = RX1 ∧ yX1_costOf.cls ≠ "java/lang/invoke/MethodHandle" ∧ yX1_costOf.cls ≠ "java/lang/invoke/VarHandle" ∧ (parseMethodDescriptor yX1_costOf.desc).map (fun d => d.parameters.length) = some 1 := by decide +kernel
abbrev rmX1_refusal : Room := { frames := 2, cells := 0, slots := 0, locals := 42 }
theorem iX1_refusal_X1 : ∀ w ∈ u_ws RX1 TX1 8, w ∈ wsX1_refusal := by decide +kernel
theorem iX1_refusal_X2 : ∀ w ∈ u_ws RX2 TX2 12, w ∈ wsX1_refusal := by decide +kernel
theorem iX1_refusal_X6 : ∀ w ∈ u_ws RX6 TX6 6, w ∈ wsX1_refusal := by decide +kernel
theorem h0X1_refusal : yX1_refusal.cls = RX1 ∧ yX1_refusal.cls ≠ "java/lang/invoke/MethodHandle" ∧ yX1_refusal.cls ≠ "java/lang/invoke/VarHandle" ∧ (parseMethodDescriptor yX1_refusal.desc).map (fun d => d.parameters.length) = some 2 := by decide +kernel
abbrev rmX1_buyPiece : Room := { frames := 1, cells := 0, slots := 0, locals := 25 }
theorem iX1_buyPiece_X1 : ∀ w ∈ u_ws RX1 TX1 8, w ∈ wsX1_buyPiece := by decide +kernel
theorem h0X1_buyPiece : yX1_buyPiece.cls = RX1 ∧ yX1_buyPiece.cls ≠ "java/lang/invoke/MethodHandle" ∧ yX1_buyPiece.cls ≠ "java/lang/invoke/VarHandle" ∧ (parseMethodDescriptor yX1_buyPiece.desc).map (fun d => d.parameters.length) = some 2 := by decide +kernel
abbrev rmX1_storeCutting : Room := { frames := 2, cells := 0, slots := 0, locals := 49 }
theorem iX1_storeCutting_X1 : ∀ w ∈ u_ws RX1 TX1 8, w ∈ wsX1_storeCutting := by decide +kernel
theorem iX1_storeCutting_X2 : ∀ w ∈ u_ws RX2 TX2 12, w ∈ wsX1_storeCutting := by decide +kernel
theorem h0X1_storeCutting : yX1_storeCutting.cls = RX1 ∧ yX1_storeCutting.cls ≠ "java/lang/invoke/MethodHandle" ∧ yX1_storeCutting.cls ≠ "java/lang/invoke/VarHandle" ∧ (parseMethodDescriptor yX1_storeCutting.desc).map (fun d => d.parameters.length) = some 3 := by decide +kernel
abbrev rmX1_giveBack : Room := { frames := 1, cells := 0, slots := 0, locals := 22 }
theorem iX1_giveBack_X1 : ∀ w ∈ u_ws RX1 TX1 8, w ∈ wsX1_giveBack := by decide +kernel
theorem h0X1_giveBack : yX1_giveBack.cls = RX1 ∧ yX1_giveBack.cls ≠ "java/lang/invoke/MethodHandle" ∧ yX1_giveBack.cls ≠ "java/lang/invoke/VarHandle" ∧ (parseMethodDescriptor yX1_giveBack.desc).map (fun d => d.parameters.length) = some 2 := by decide +kernel
abbrev rmX1_endWord : Room := { frames := 2, cells := 0, slots := 0, locals := 52 }
theorem iX1_endWord_X1 : ∀ w ∈ u_ws RX1 TX1 8, w ∈ wsX1_endWord := by decide +kernel
theorem iX1_endWord_X8 : ∀ w ∈ u_ws RX8 TX8 5, w ∈ wsX1_endWord := by decide +kernel
theorem h0X1_endWord : yX1_endWord.cls = RX1 ∧ yX1_endWord.cls ≠ "java/lang/invoke/MethodHandle" ∧ yX1_endWord.cls ≠ "java/lang/invoke/VarHandle" ∧ (parseMethodDescriptor yX1_endWord.desc).map (fun d => d.parameters.length) = some 1 := by decide +kernel
abbrev rmX1_cutAnew : Room := { frames := 4, cells := 0, slots := 0, locals := 100 }
theorem iX1_cutAnew_X1 : ∀ w ∈ u_ws RX1 TX1 8, w ∈ wsX1_cutAnew := by decide +kernel
theorem iX1_cutAnew_X2 : ∀ w ∈ u_ws RX2 TX2 12, w ∈ wsX1_cutAnew := by decide +kernel
theorem iX1_cutAnew_X8 : ∀ w ∈ u_ws RX8 TX8 5, w ∈ wsX1_cutAnew := by decide +kernel
theorem h0X1_cutAnew : yX1_cutAnew.cls = RX1 ∧ yX1_cutAnew.cls ≠ "java/lang/invoke/MethodHandle" ∧ yX1_cutAnew.cls ≠ "java/lang/invoke/VarHandle" ∧ (parseMethodDescriptor yX1_cutAnew.desc).map (fun d => d.parameters.length) = some 2 := by decide +kernel
abbrev rmX1_sendBack : Room := { frames := 2, cells := 0, slots := 0, locals := 52 }
theorem iX1_sendBack_X1 : ∀ w ∈ u_ws RX1 TX1 8, w ∈ wsX1_sendBack := by decide +kernel
theorem iX1_sendBack_X6 : ∀ w ∈ u_ws RX6 TX6 6, w ∈ wsX1_sendBack := by decide +kernel
theorem h0X1_sendBack : yX1_sendBack.cls = RX1 ∧ yX1_sendBack.cls ≠ "java/lang/invoke/MethodHandle" ∧ yX1_sendBack.cls ≠ "java/lang/invoke/VarHandle" ∧ (parseMethodDescriptor yX1_sendBack.desc).map (fun d => d.parameters.length) = some 1 := by decide +kernel
abbrev rmX1_passTick : Room := { frames := 3, cells := 0, slots := 0, locals := 74 }
theorem iX1_passTick_X1 : ∀ w ∈ u_ws RX1 TX1 8, w ∈ wsX1_passTick := by decide +kernel
theorem iX1_passTick_X6 : ∀ w ∈ u_ws RX6 TX6 6, w ∈ wsX1_passTick := by decide +kernel
theorem h0X1_passTick : yX1_passTick.cls = RX1 ∧ yX1_passTick.cls ≠ "java/lang/invoke/MethodHandle" ∧ yX1_passTick.cls ≠ "java/lang/invoke/VarHandle" ∧ (parseMethodDescriptor yX1_passTick.desc).map (fun d => d.parameters.length) = some 0 := by decide +kernel
abbrev rmX1_madeUp : Room := { frames := 1, cells := 0, slots := 0, locals := 24 }
theorem iX1_madeUp_X1 : ∀ w ∈ u_ws RX1 TX1 8, w ∈ wsX1_madeUp := by decide +kernel
theorem iX1_madeUp_X6 : ∀ w ∈ u_ws RX6 TX6 6, w ∈ wsX1_madeUp := by decide +kernel
theorem iX1_madeUp_X8 : ∀ w ∈ u_ws RX8 TX8 5, w ∈ wsX1_madeUp := by decide +kernel
theorem h0X1_madeUp : yX1_madeUp.cls = RX1 ∧ yX1_madeUp.cls ≠ "java/lang/invoke/MethodHandle" ∧ yX1_madeUp.cls ≠ "java/lang/invoke/VarHandle" ∧ (parseMethodDescriptor yX1_madeUp.desc).map (fun d => d.parameters.length) = some 1 := by decide +kernel
abbrev rmX1_wordsAreMadeUp : Room := { frames := 2, cells := 0, slots := 0, locals := 50 }
theorem iX1_wordsAreMadeUp_X1 : ∀ w ∈ u_ws RX1 TX1 8, w ∈ wsX1_wordsAreMadeUp := by decide +kernel
theorem iX1_wordsAreMadeUp_X8 : ∀ w ∈ u_ws RX8 TX8 5, w ∈ wsX1_wordsAreMadeUp := by decide +kernel
theorem h0X1_wordsAreMadeUp : yX1_wordsAreMadeUp.cls = RX1 ∧ yX1_wordsAreMadeUp.cls ≠ "java/lang/invoke/MethodHandle" ∧ yX1_wordsAreMadeUp.cls ≠ "java/lang/invoke/VarHandle" ∧ (parseMethodDescriptor yX1_wordsAreMadeUp.desc).map (fun d => d.parameters.length) = some 0 := by decide +kernel
abbrev rmX1_usesAreTrue : Room := { frames := 2, cells := 0, slots := 0, locals := 46 }
theorem iX1_usesAreTrue_X1 : ∀ w ∈ u_ws RX1 TX1 8, w ∈ wsX1_usesAreTrue := by decide +kernel
theorem iX1_usesAreTrue_X6 : ∀ w ∈ u_ws RX6 TX6 6, w ∈ wsX1_usesAreTrue := by decide +kernel
theorem iX1_usesAreTrue_X8 : ∀ w ∈ u_ws RX8 TX8 5, w ∈ wsX1_usesAreTrue := by decide +kernel
theorem h0X1_usesAreTrue : yX1_usesAreTrue.cls = RX1 ∧ yX1_usesAreTrue.cls ≠ "java/lang/invoke/MethodHandle" ∧ yX1_usesAreTrue.cls ≠ "java/lang/invoke/VarHandle" ∧ (parseMethodDescriptor yX1_usesAreTrue.desc).map (fun d => d.parameters.length) = some 0 := by decide +kernel
abbrev rmX1_fundIsTrue : Room := { frames := 2, cells := 0, slots := 0, locals := 44 }
theorem iX1_fundIsTrue_X1 : ∀ w ∈ u_ws RX1 TX1 8, w ∈ wsX1_fundIsTrue := by decide +kernel
theorem iX1_fundIsTrue_X7 : ∀ w ∈ u_ws RX7 TX7 3, w ∈ wsX1_fundIsTrue := by decide +kernel
theorem h0X1_fundIsTrue : yX1_fundIsTrue.cls = RX1 ∧ yX1_fundIsTrue.cls ≠ "java/lang/invoke/MethodHandle" ∧ yX1_fundIsTrue.cls ≠ "java/lang/invoke/VarHandle" ∧ (parseMethodDescriptor yX1_fundIsTrue.desc).map (fun d => d.parameters.length) = some 0 := by decide +kernel
abbrev rmX2_occursBefore : Room := { frames := 0, cells := 0, slots := 0, locals := 0 }
theorem iX2_occursBefore_X2 : ∀ w ∈ u_ws RX2 TX2 12, w ∈ wsX2_occursBefore := by decide +kernel
theorem h0X2_occursBefore : yX2_occursBefore.cls = RX2 ∧ yX2_occursBefore.cls ≠ "java/lang/invoke/MethodHandle" ∧ yX2_occursBefore.cls ≠ "java/lang/invoke/VarHandle" ∧ (parseMethodDescriptor yX2_occursBefore.desc).map (fun d => d.parameters.length) = some 1 := by decide +kernel
abbrev rmX2_countNew : Room := { frames := 1, cells := 0, slots := 0, locals := 23 }
theorem iX2_countNew_X1 : ∀ w ∈ u_ws RX1 TX1 8, w ∈ wsX2_countNew := by decide +kernel
theorem iX2_countNew_X2 : ∀ w ∈ u_ws RX2 TX2 12, w ∈ wsX2_countNew := by decide +kernel
theorem h0X2_countNew : yX2_countNew.cls = RX2 ∧ yX2_countNew.cls ≠ "java/lang/invoke/MethodHandle" ∧ yX2_countNew.cls ≠ "java/lang/invoke/VarHandle" ∧ (parseMethodDescriptor yX2_countNew.desc).map (fun d => d.parameters.length) = some 1 := by decide +kernel
abbrev rmX2_cutCheapest : Room := { frames := 3, cells := 0, slots := 0, locals := 77 }
theorem h0X2_cutCheapest : yX2_cutCheapest.cls = RX2 ∧ yX2_cutCheapest.cls ≠ "java/lang/invoke/MethodHandle" ∧ yX2_cutCheapest.cls ≠ "java/lang/invoke/VarHandle" ∧ (parseMethodDescriptor yX2_cutCheapest.desc).map (fun d => d.parameters.length) = some 2 := by decide +kernel
abbrev rmX2_countWays : Room := { frames := 3, cells := 0, slots := 0, locals := 77 }
theorem iX2_countWays_X2 : ∀ w ∈ u_ws RX2 TX2 12, w ∈ wsX2_countWays := by decide +kernel
theorem h0X2_countWays : yX2_countWays.cls = RX2 ∧ yX2_countWays.cls ≠ "java/lang/invoke/MethodHandle" ∧ yX2_countWays.cls ≠ "java/lang/invoke/VarHandle" ∧ (parseMethodDescriptor yX2_countWays.desc).map (fun d => d.parameters.length) = some 2 := by decide +kernel
def fX1_depositsFor (x1 : Int32) (settings : (Nat → Int32)) : Option (Int32) := some ((settings 2) * x1)
def fX2_longestAt (x1 : Int32) (C : tCut) : Option (Int32) := Lt (if (C.2.2.2.2.2.1 - x1) < 6 then (C.2.2.2.2.2.1 - x1) else 6) fun (z_1 : Int32) => some z_1
def fX1_newPrice (x1 : Int32) (settings : (Nat → Int32)) : Option (Int32) := some ((settings 0) + ((settings 1) * x1))
def fX2_lookUp_L37 (x4 : Int32) (x5 : Int32) (C : tCut) (settings : (Nat → Int32)) (P : tPieces) (k : tCutR → Option (tCut × tCutR)) : Nat → Int32 → tCutR → Option (tCut × tCutR)
  | 0, _, _ => none
  | n + 1, x6, S => gb1 (fX2_longestAt x5 C) fun (r_1 : Int32) => if r_1 < x6 then (k S) else (gb1 (fX4_section C.2.2.2.2.1 x5 x6) fun (r_2 : Int64) => gb1 (fX6_numberOf r_2 P) fun (r_3 : Int32) => if r_3 = (-1) then (if x5 < 0 ∨ 12 ≤ x5.toNatClampNeg then none else Lt (fun (t0_1 : Int32) => (if x6 < 0 ∨ 7 ≤ x6.toNatClampNeg then none else Lt (upd2 S (x5.toNatClampNeg) (x6.toNatClampNeg) t0_1) fun (S_1 : tCutR) => fX2_lookUp_L37 x4 x5 C settings P k n (x6 + 1) S_1)) fun (j_1 : Int32 → Option (tCut × tCutR)) => if x4 = 0 then (j_1 1000000) else (gb1 (fX1_newPrice x6 settings) fun (r_4 : Int32) => j_1 r_4)) else (if x5 < 0 ∨ 12 ≤ x5.toNatClampNeg then none else if x6 < 0 ∨ 7 ≤ x6.toNatClampNeg then none else Lt (upd2 S (x5.toNatClampNeg) (x6.toNatClampNeg) 0) fun (S_2 : tCutR) => fX2_lookUp_L37 x4 x5 C settings P k n (x6 + 1) S_2))
def fX2_lookUp_L25 (x4 : Int32) (C : tCut) (settings : (Nat → Int32)) (P : tPieces) (k : tCutR → Option (tCut × tCutR)) : Nat → Int32 → tCutR → Option (tCut × tCutR)
  | 0, _, _ => none
  | n + 1, x5, S => if C.2.2.2.2.2.1 ≤ x5 then (k S) else (fX2_lookUp_L37 x4 x5 C settings P (fun (S_1 : tCutR) => (fX2_lookUp_L25 x4 C settings P k n (x5 + 1) S_1)) FU 1 S)
def fX2_lookUp (x2 : Int64) (x4 : Int32) (C : tCut) (S : tCutR) (settings : (Nat → Int32)) (P : tPieces) : Option (tCut × tCutR) := gb1 (fX4_lengthOf x2) fun (r_1 : Int32) => gb1 (fX1_depositsFor 1 settings) fun (r_2 : Int32) => fX2_lookUp_L25 x4 (C.1, C.2.1, C.2.2.1, C.2.2.2.1, x2, r_1, r_2, C.2.2.2.2.2.2.2.1, C.2.2.2.2.2.2.2.2.1, C.2.2.2.2.2.2.2.2.2.1, C.2.2.2.2.2.2.2.2.2.2) settings P (fun (S_1 : tCutR) => (some ((C.1, C.2.1, C.2.2.1, C.2.2.2.1, x2, r_1, r_2, C.2.2.2.2.2.2.2.1, C.2.2.2.2.2.2.2.2.1, C.2.2.2.2.2.2.2.2.2.1, C.2.2.2.2.2.2.2.2.2.2), S_1))) FU 0 S
def fX2_tryFirst (x1 : Int32) (x2 : Int32) (C : tCut) (S : tCutR) : Option (tCut) := if x1 < 0 ∨ 12 ≤ x1.toNatClampNeg then none else if x2 < 0 ∨ 7 ≤ x2.toNatClampNeg then none else if (x1 + x2) < 0 ∨ 13 ≤ (x1 + x2).toNatClampNeg then none else if (x1 + x2) < 0 ∨ 13 ≤ (x1 + x2).toNatClampNeg then none else if 1000000 ≤ ((C.2.2.2.2.2.2.1 + (S (x1.toNatClampNeg) (x2.toNatClampNeg))) + (C.2.2.2.2.2.2.2.1 ((x1 + x2).toNatClampNeg))) then (some C) else (if x1 < 0 ∨ 13 ≤ x1.toNatClampNeg then none else if ((C.2.2.2.2.2.2.1 + (S (x1.toNatClampNeg) (x2.toNatClampNeg))) + (C.2.2.2.2.2.2.2.1 ((x1 + x2).toNatClampNeg))) ≤ (C.2.2.2.2.2.2.2.1 (x1.toNatClampNeg)) then (if x1 < 0 ∨ 13 ≤ x1.toNatClampNeg then none else Lt ((if x1 < 0 ∨ 13 ≤ x1.toNatClampNeg then none else Lt (C.1, C.2.1, C.2.2.1, C.2.2.2.1, C.2.2.2.2.1, C.2.2.2.2.2.1, C.2.2.2.2.2.2.1, upd C.2.2.2.2.2.2.2.1 (x1.toNatClampNeg) ((C.2.2.2.2.2.2.1 + (S (x1.toNatClampNeg) (x2.toNatClampNeg))) + (C.2.2.2.2.2.2.2.1 ((x1 + x2).toNatClampNeg))), C.2.2.2.2.2.2.2.2.1, C.2.2.2.2.2.2.2.2.2.1, C.2.2.2.2.2.2.2.2.2.2) fun (C_1 : tCut) => if x1 < 0 ∨ 13 ≤ x1.toNatClampNeg then none else Lt (C_1.1, C_1.2.1, C_1.2.2.1, C_1.2.2.2.1, C_1.2.2.2.2.1, C_1.2.2.2.2.2.1, C_1.2.2.2.2.2.2.1, C_1.2.2.2.2.2.2.2.1, upd C_1.2.2.2.2.2.2.2.2.1 (x1.toNatClampNeg) (1 + (C.2.2.2.2.2.2.2.2.1 ((x1 + x2).toNatClampNeg))), C_1.2.2.2.2.2.2.2.2.2.1, C_1.2.2.2.2.2.2.2.2.2.2) fun (C_2 : tCut) => if x1 < 0 ∨ 13 ≤ x1.toNatClampNeg then none else Lt (C_2.1, C_2.2.1, C_2.2.2.1, C_2.2.2.2.1, C_2.2.2.2.2.1, C_2.2.2.2.2.2.1, C_2.2.2.2.2.2.2.1, C_2.2.2.2.2.2.2.2.1, C_2.2.2.2.2.2.2.2.2.1, upd C_2.2.2.2.2.2.2.2.2.2.1 (x1.toNatClampNeg) x2, C_2.2.2.2.2.2.2.2.2.2.2) fun (C_3 : tCut) => some C_3) : Option (tCut)) fun (j_1 : Option (tCut)) => if ((C.2.2.2.2.2.2.1 + (S (x1.toNatClampNeg) (x2.toNatClampNeg))) + (C.2.2.2.2.2.2.2.1 ((x1 + x2).toNatClampNeg))) < (C.2.2.2.2.2.2.2.1 (x1.toNatClampNeg)) then (j_1) else (if x1 < 0 ∨ 13 ≤ x1.toNatClampNeg then none else if (C.2.2.2.2.2.2.2.2.1 (x1.toNatClampNeg)) ≤ (1 + (C.2.2.2.2.2.2.2.2.1 ((x1 + x2).toNatClampNeg))) then (some C) else (j_1))) else (some C))
def fX2_solve_L59 (x1 : Int32) (S : tCutR) (k : tCut → Option (tCut)) : Nat → Int32 → tCut → Option (tCut)
  | 0, _, _ => none
  | n + 1, x2, C => if x2 < 1 then (k C) else (gb1 (fX2_tryFirst x1 x2 C S) fun (C_1 : tCut) => fX2_solve_L59 x1 S k n (x2 + (-1)) C_1)
def fX2_solve_L27 (S : tCutR) (k : tCut → Option (tCut)) : Nat → Int32 → tCut → Option (tCut)
  | 0, _, _ => none
  | n + 1, x1, C => if x1 < 0 then (k C) else (if x1 < 0 ∨ 13 ≤ x1.toNatClampNeg then none else Lt (C.1, C.2.1, C.2.2.1, C.2.2.2.1, C.2.2.2.2.1, C.2.2.2.2.2.1, C.2.2.2.2.2.2.1, upd C.2.2.2.2.2.2.2.1 (x1.toNatClampNeg) 1000000, C.2.2.2.2.2.2.2.2.1, C.2.2.2.2.2.2.2.2.2.1, C.2.2.2.2.2.2.2.2.2.2) fun (C_1 : tCut) => if x1 < 0 ∨ 13 ≤ x1.toNatClampNeg then none else Lt (C_1.1, C_1.2.1, C_1.2.2.1, C_1.2.2.2.1, C_1.2.2.2.2.1, C_1.2.2.2.2.2.1, C_1.2.2.2.2.2.2.1, C_1.2.2.2.2.2.2.2.1, upd C_1.2.2.2.2.2.2.2.2.1 (x1.toNatClampNeg) 0, C_1.2.2.2.2.2.2.2.2.2.1, C_1.2.2.2.2.2.2.2.2.2.2) fun (C_2 : tCut) => if x1 < 0 ∨ 13 ≤ x1.toNatClampNeg then none else Lt (C_2.1, C_2.2.1, C_2.2.2.1, C_2.2.2.2.1, C_2.2.2.2.2.1, C_2.2.2.2.2.2.1, C_2.2.2.2.2.2.2.1, C_2.2.2.2.2.2.2.2.1, C_2.2.2.2.2.2.2.2.2.1, upd C_2.2.2.2.2.2.2.2.2.2.1 (x1.toNatClampNeg) 0, C_2.2.2.2.2.2.2.2.2.2.2) fun (C_3 : tCut) => gb1 (fX2_longestAt x1 C_3) fun (r_1 : Int32) => fX2_solve_L59 x1 S (fun (C_4 : tCut) => (fX2_solve_L27 S k n (x1 + (-1)) C_4)) FU r_1 C_3)
def fX2_solve (C : tCut) (S : tCutR) : Option (tCut) := if C.2.2.2.2.2.1 < 0 ∨ 13 ≤ C.2.2.2.2.2.1.toNatClampNeg then none else Lt (C.1, C.2.1, C.2.2.1, C.2.2.2.1, C.2.2.2.2.1, C.2.2.2.2.2.1, C.2.2.2.2.2.2.1, upd C.2.2.2.2.2.2.2.1 (C.2.2.2.2.2.1.toNatClampNeg) 0, C.2.2.2.2.2.2.2.2.1, C.2.2.2.2.2.2.2.2.2.1, C.2.2.2.2.2.2.2.2.2.2) fun (C_1 : tCut) => if C_1.2.2.2.2.2.1 < 0 ∨ 13 ≤ C_1.2.2.2.2.2.1.toNatClampNeg then none else Lt (C_1.1, C_1.2.1, C_1.2.2.1, C_1.2.2.2.1, C_1.2.2.2.2.1, C_1.2.2.2.2.2.1, C_1.2.2.2.2.2.2.1, C_1.2.2.2.2.2.2.2.1, upd C_1.2.2.2.2.2.2.2.2.1 (C_1.2.2.2.2.2.1.toNatClampNeg) 0, C_1.2.2.2.2.2.2.2.2.2.1, C_1.2.2.2.2.2.2.2.2.2.2) fun (C_2 : tCut) => fX2_solve_L27 S (fun (C_3 : tCut) => (some C_3)) FU (C_2.2.2.2.2.2.1 - 1) C_2
def fX2_collectParts_L7 (k : tCut → Option (tCut)) : Nat → Int32 → tCut → Option (tCut)
  | 0, _, _ => none
  | n + 1, x1, C => if C.2.2.2.2.2.1 ≤ x1 then (k C) else (if 12 ≤ C.1 then (k C) else (if x1 < 0 ∨ 13 ≤ x1.toNatClampNeg then none else if (C.2.2.2.2.2.2.2.2.2.1 (x1.toNatClampNeg)) ≤ 0 then (k C) else (if x1 < 0 ∨ 13 ≤ x1.toNatClampNeg then none else gb1 (fX4_section C.2.2.2.2.1 x1 (C.2.2.2.2.2.2.2.2.2.1 (x1.toNatClampNeg))) fun (r_1 : Int64) => if C.1 < 0 ∨ 12 ≤ C.1.toNatClampNeg then none else Lt (C.1, vp_updL C.2.1 (C.1.toNatClampNeg) r_1, C.2.2.1, C.2.2.2.1, C.2.2.2.2.1, C.2.2.2.2.2.1, C.2.2.2.2.2.2.1, C.2.2.2.2.2.2.2.1, C.2.2.2.2.2.2.2.2.1, C.2.2.2.2.2.2.2.2.2.1, C.2.2.2.2.2.2.2.2.2.2) fun (C_1 : tCut) => if x1 < 0 ∨ 13 ≤ x1.toNatClampNeg then none else fX2_collectParts_L7 k n (x1 + (C_1.2.2.2.2.2.2.2.2.2.1 (x1.toNatClampNeg))) (C_1.1 + 1, C_1.2.1, C_1.2.2.1, C_1.2.2.2.1, C_1.2.2.2.2.1, C_1.2.2.2.2.2.1, C_1.2.2.2.2.2.2.1, C_1.2.2.2.2.2.2.2.1, C_1.2.2.2.2.2.2.2.2.1, C_1.2.2.2.2.2.2.2.2.2.1, C_1.2.2.2.2.2.2.2.2.2.2))))
def fX2_collectParts (C : tCut) : Option (tCut) := fX2_collectParts_L7 (fun (C_1 : tCut) => (some C_1)) FU 0 (0, C.2.1, C.2.2.1, C.2.2.2.1, C.2.2.2.2.1, C.2.2.2.2.2.1, C.2.2.2.2.2.2.1, C.2.2.2.2.2.2.2.1, C.2.2.2.2.2.2.2.2.1, C.2.2.2.2.2.2.2.2.2.1, C.2.2.2.2.2.2.2.2.2.2)
def fX2_cutKnown (x2 : Int64) (C : tCut) (S : tCutR) (settings : (Nat → Int32)) (P : tPieces) : Option (tCut × tCutR) := gb2 (fX2_lookUp x2 0 C S settings P) fun (C_1 : tCut) (S_1 : tCutR) => gb1 (fX2_solve C_1 S_1) fun (C_2 : tCut) => gb1 (fX2_collectParts C_2) fun (C_3 : tCut) => some (C_3, S_1)
def fX2_setSurcharge_L6 (x1 : Int64) (x3 : Int32) (x4 : Int32) (C : tCut) (k : Int32 → tCutR → Option (Int32 × tCutR)) : Nat → Int32 → Int32 → tCutR → Option (Int32 × tCutR)
  | 0, _, _, _ => none
  | n + 1, x5, x6, S => if C.2.2.2.2.2.1 < (x6 + x3) then (k x5 S) else (gb1 (fX4_section C.2.2.2.2.1 x6 x3) fun (r_1 : Int64) => if (lg_cmp r_1 x1) = 0 then (if x6 < 0 ∨ 12 ≤ x6.toNatClampNeg then none else if x3 < 0 ∨ 7 ≤ x3.toNatClampNeg then none else Lt (upd2 S (x6.toNatClampNeg) (x3.toNatClampNeg) x4) fun (S_1 : tCutR) => fX2_setSurcharge_L6 x1 x3 x4 C k n 1 (x6 + 1) S_1) else (fX2_setSurcharge_L6 x1 x3 x4 C k n x5 (x6 + 1) S))
def fX2_setSurcharge (x1 : Int64) (x3 : Int32) (x4 : Int32) (C : tCut) (S : tCutR) : Option (Int32 × tCutR) := fX2_setSurcharge_L6 x1 x3 x4 C (fun (x5_1 : Int32) (S_1 : tCutR) => (if x5_1 &&& 1 = x5_1 then (some (x5_1, S_1)) else none)) FU 0 0 S
def fX2_gainOf (x1 : Int64) (x3 : Int32) (C : tCut) (S : tCutR) : Option (Int32 × tCut × tCutR) := gb2 (fX2_setSurcharge x1 x3 0 C S) fun (r_1 : Int32) (S_1 : tCutR) => if r_1 = 0 then (some (0, C, S_1)) else (gb1 (fX2_solve C S_1) fun (C_1 : tCut) => gb2 (fX2_setSurcharge x1 x3 1000000 C_1 S_1) fun (r_2 : Int32) (S_2 : tCutR) => some (C_1.1 - (C_1.2.2.2.2.2.2.2.2.1 0), C_1, S_2))
def fJ7_fill_53178_L5 (n_p0 : Nat) (x1 : Int32) (x3 : Int32) (k : (Nat → Int32) → Option ((Nat → Int32))) : Nat → Int32 → (Nat → Int32) → Option ((Nat → Int32))
  | 0, _, _ => none
  | n + 1, x2, p0 => if x3 ≤ x2 then (k p0) else (if x2 < 0 ∨ n_p0 ≤ x2.toNatClampNeg then none else Lt (upd p0 (x2.toNatClampNeg) x1) fun (p0_1 : (Nat → Int32)) => fJ7_fill_53178_L5 n_p0 x1 x3 k n (x2 + 1) p0_1)
def fJ7_fill_53178 (n_p0 : Nat) (x1 : Int32) (p0 : (Nat → Int32)) : Option ((Nat → Int32)) := fJ7_fill_53178_L5 n_p0 x1 (Int32.ofNat n_p0) (fun (p0_1 : (Nat → Int32)) => (some p0_1)) FU 0 p0
def fX1_clear (B_time : Int32) (B_chest : Int32) (B_fund : Int32) (sums : (Nat → Int32)) (U : tUsers) (P : tPieces) (W : tWords) : Option (Int32 × Int32 × Int32 × (Nat → Int32) × tUsers × tPieces × tWords) := gb1 (fJ7_fill_53178 6 0 sums) fun (sums_1 : (Nat → Int32)) => some (0, 0, 0, sums_1, (0, U.2.1, U.2.2), (0, P.2.1, P.2.2.1, P.2.2.2.1, P.2.2.2.2.1, P.2.2.2.2.2), (0, W.2.1, W.2.2.1, W.2.2.2.1, W.2.2.2.2))
def fX1_copyFrom (B_time : Int32) (B_chest : Int32) (B_fund : Int32) (settings : (Nat → Int32)) (sums : (Nat → Int32)) (U : tUsers) (P : tPieces) (W : tWords) (B2_time : Int32) (B2_chest : Int32) (B2_fund : Int32) (settings2 : (Nat → Int32)) (sums2 : (Nat → Int32)) (U2 : tUsers) (P2 : tPieces) (W2 : tWords) : Option (Int32 × Int32 × Int32 × (Nat → Int32) × (Nat → Int32) × tUsers × tPieces × tWords) := if (0 : Int32) < 0 ∨ (0 : Int32) < 0 ∨ (5 : Int32) < 0 ∨ 5 < 0 + 5 ∨ 5 < 0 + 5 then none else Lt (va_cpy settings2 settings 0 0 5) fun (settings_1 : (Nat → Int32)) => if (0 : Int32) < 0 ∨ (0 : Int32) < 0 ∨ (6 : Int32) < 0 ∨ 6 < 0 + 6 ∨ 6 < 0 + 6 then none else Lt (va_cpy sums2 sums 0 0 6) fun (sums_1 : (Nat → Int32)) => gb1 (fX7_copyFrom U U2) fun (U_1 : tUsers) => gb1 (fX6_copyFrom P P2) fun (P_1 : tPieces) => gb1 (fX8_copyFrom W W2) fun (W_1 : tWords) => some (B2_time, B2_chest, B2_fund, settings_1, sums_1, U_1, P_1, W_1)
def fX1_heldFor_L4 (x1 : Int32) (W : tWords) (k : Int32 → Option (Int32)) : Nat → Int32 → Int32 → Option (Int32)
  | 0, _, _ => none
  | n + 1, x2, x3 => if W.1 ≤ x3 then (k x2) else (if x3 < 0 ∨ 16 ≤ x3.toNatClampNeg then none else if (W.2.2.1 (x3.toNatClampNeg)) = x1 then (if x3 < 0 ∨ 16 ≤ x3.toNatClampNeg then none else fX1_heldFor_L4 x1 W k n (x2 + (W.2.2.2.1 (x3.toNatClampNeg))) (x3 + 1)) else (fX1_heldFor_L4 x1 W k n x2 (x3 + 1)))
def fX1_heldFor (x1 : Int32) (settings : (Nat → Int32)) (W : tWords) : Option (Int32) := fX1_heldFor_L4 x1 W (fun (x2_1 : Int32) => (gb1 (fX1_depositsFor x2_1 settings) fun (r_1 : Int32) => some r_1)) FU 0 0
def fX1_costOf (settings : (Nat → Int32)) (C : tCut) : Option (Int32) := gb1 (fX1_depositsFor C.1 settings) fun (r_1 : Int32) => some (C.2.2.2.1 + r_1)
def fX1_refusal (x1 : Int32) (settings : (Nat → Int32)) (U : tUsers) (P : tPieces) (W : tWords) (C : tCut) : Option (Int32) := gb1 (fX8_isFull W) fun (r_1 : Int32) => if r_1 = 0 then (if (P.1 + C.2.2.1) ≤ 24 then (gb1 (fX7_coinsOf x1 U) fun (r_2 : Int32) => gb1 (fX1_costOf settings C) fun (r_3 : Int32) => if r_3 ≤ r_2 then (some 0) else (some 4)) else (some 3)) else (some 2)
def fX1_buyPiece (x1 : Int32) (x2 : Int64) (B_time : Int32) (B_chest : Int32) (settings : (Nat → Int32)) (sums : (Nat → Int32)) (U : tUsers) (P : tPieces) : Option (Int32 × Int32 × (Nat → Int32) × tUsers × tPieces) := gb1 (fX4_lengthOf x2) fun (r_1 : Int32) => gb1 (fX1_newPrice r_1 settings) fun (r_2 : Int32) => gb1 (fX7_give x1 (-r_2) U) fun (U_1 : tUsers) => Lt (upd sums 0 ((sums 0) + r_2)) fun (sums_1 : (Nat → Int32)) => Lt (upd sums_1 4 ((sums_1 4) + 1)) fun (sums_2 : (Nat → Int32)) => gb2 (fX6_add x2 r_2 x1 B_time P) fun (r_3 : Int32) (P_1 : tPieces) => some (r_3, B_chest + r_2, sums_2, U_1, P_1)
def fX1_storeCutting_L14 (x1 : Int32) (x5 : Int32) (B_time : Int32) (settings : (Nat → Int32)) (C : tCut) (k : Int32 → (Nat → Int32) → tUsers → tPieces → tWords → Option (Int32 × Int32 × Int32 × (Nat → Int32) × tUsers × tPieces × tWords)) : Nat → Int32 → Int32 → (Nat → Int32) → tUsers → tPieces → tWords → Option (Int32 × Int32 × Int32 × (Nat → Int32) × tUsers × tPieces × tWords)
  | 0, _, _, _, _, _, _ => none
  | n + 1, x6, B_chest, sums, U, P, W => if C.1 ≤ x6 then (k B_chest sums U P W) else (if x6 < 0 ∨ 12 ≤ x6.toNatClampNeg then none else gb1 (fX6_numberOf (C.2.1 (x6.toNatClampNeg)) P) fun (r_1 : Int32) => Lt (fun (x7_1 : Int32) (B_chest_1 : Int32) (sums_1 : (Nat → Int32)) (U_1 : tUsers) (P_1 : tPieces) => (gb1 (fX8_addPart x5 x7_1 W) fun (W_1 : tWords) => gb1 (fX6_beginUse x7_1 P_1) fun (P_2 : tPieces) => fX1_storeCutting_L14 x1 x5 B_time settings C k n (x6 + 1) B_chest_1 sums_1 U_1 P_2 W_1)) fun (j_1 : Int32 → Int32 → (Nat → Int32) → tUsers → tPieces → Option (Int32 × Int32 × Int32 × (Nat → Int32) × tUsers × tPieces × tWords)) => if r_1 = (-1) then (if x6 < 0 ∨ 12 ≤ x6.toNatClampNeg then none else gb5 (fX1_buyPiece x1 (C.2.1 (x6.toNatClampNeg)) B_time B_chest settings sums U P) fun (r_2 : Int32) (B_chest_2 : Int32) (sums_2 : (Nat → Int32)) (U_2 : tUsers) (P_3 : tPieces) => j_1 r_2 B_chest_2 sums_2 U_2 P_3) else (j_1 r_1 B_chest sums U P))
def fX1_storeCutting (x1 : Int32) (x2 : Int64) (B_time : Int32) (B_chest : Int32) (B_fund : Int32) (settings : (Nat → Int32)) (sums : (Nat → Int32)) (U : tUsers) (P : tPieces) (W : tWords) (C : tCut) : Option (Int32 × Int32 × Int32 × (Nat → Int32) × tUsers × tPieces × tWords) := gb2 (fX8_add x2 x1 W) fun (r_1 : Int32) (W_1 : tWords) => fX1_storeCutting_L14 x1 r_1 B_time settings C (fun (B_chest_1 : Int32) (sums_1 : (Nat → Int32)) (U_1 : tUsers) (P_1 : tPieces) (W_2 : tWords) => (gb1 (fX1_depositsFor C.1 settings) fun (r_2 : Int32) => gb1 (fX7_give x1 (-r_2) U_1) fun (U_2 : tUsers) => Lt (upd sums_1 2 ((sums_1 2) + r_2)) fun (sums_2 : (Nat → Int32)) => some (r_1, B_chest_1, B_fund + r_2, sums_2, U_2, P_1, W_2))) FU 0 B_chest sums U P W_1
def fX1_giveBack (x1 : Int32) (x2 : Int32) (B_fund : Int32) (sums : (Nat → Int32)) (U : tUsers) : Option (Int32 × (Nat → Int32) × tUsers) := gb1 (fX7_give x1 x2 U) fun (U_1 : tUsers) => Lt (upd sums 3 ((sums 3) + x2)) fun (sums_1 : (Nat → Int32)) => some (B_fund - x2, sums_1, U_1)
def fX1_endWord_L2 (x1 : Int32) (B_time : Int32) (W : tWords) (k : tPieces → Option (Int32 × (Nat → Int32) × tUsers × tPieces × tWords)) : Nat → Int32 → tPieces → Option (Int32 × (Nat → Int32) × tUsers × tPieces × tWords)
  | 0, _, _ => none
  | n + 1, x2, P => if x1 < 0 ∨ 16 ≤ x1.toNatClampNeg then none else if (W.2.2.2.1 (x1.toNatClampNeg)) ≤ x2 then (k P) else (gb1 (fX8_partAt x1 x2 W) fun (r_1 : Int32) => gb1 (fX6_endUse r_1 B_time P) fun (P_1 : tPieces) => fX1_endWord_L2 x1 B_time W k n (x2 + 1) P_1)
def fX1_endWord (x1 : Int32) (B_time : Int32) (B_fund : Int32) (settings : (Nat → Int32)) (sums : (Nat → Int32)) (U : tUsers) (P : tPieces) (W : tWords) : Option (Int32 × (Nat → Int32) × tUsers × tPieces × tWords) := fX1_endWord_L2 x1 B_time W (fun (P_1 : tPieces) => (if x1 < 0 ∨ 16 ≤ x1.toNatClampNeg then none else if x1 < 0 ∨ 16 ≤ x1.toNatClampNeg then none else gb1 (fX1_depositsFor (W.2.2.2.1 (x1.toNatClampNeg)) settings) fun (r_1 : Int32) => gb3 (fX1_giveBack (W.2.2.1 (x1.toNatClampNeg)) r_1 B_fund sums U) fun (B_fund_1 : Int32) (sums_1 : (Nat → Int32)) (U_1 : tUsers) => gb1 (fX8_drop x1 W) fun (W_1 : tWords) => some (B_fund_1, sums_1, U_1, P_1, W_1))) FU 0 P
def fX1_cutAnew_L16 (x1 : Int32) (C : tCut) (k : tPieces → Option (Int32 × Int32 × (Nat → Int32) × tUsers × tPieces × tWords × tCut × tCutR)) : Nat → Int32 → tPieces → Option (Int32 × Int32 × (Nat → Int32) × tUsers × tPieces × tWords × tCut × tCutR)
  | 0, _, _ => none
  | n + 1, x3, P => if C.1 ≤ x3 then (k P) else (if x3 < 0 ∨ 12 ≤ x3.toNatClampNeg then none else gb1 (fX6_numberOf (C.2.1 (x3.toNatClampNeg)) P) fun (r_1 : Int32) => gb1 (fX6_beginUse r_1 P) fun (P_1 : tPieces) => fX1_cutAnew_L16 x1 C k n (x3 + 1) P_1)
def fX1_cutAnew_L63 (x1 : Int32) (x3 : Int32) (B_time : Int32) (W : tWords) (k : tPieces → Option (Int32 × Int32 × (Nat → Int32) × tUsers × tPieces × tWords × tCut × tCutR)) : Nat → Int32 → tPieces → Option (Int32 × Int32 × (Nat → Int32) × tUsers × tPieces × tWords × tCut × tCutR)
  | 0, _, _ => none
  | n + 1, x4, P => if x3 ≤ x4 then (k P) else (gb1 (fX8_partAt x1 x4 W) fun (r_1 : Int32) => gb1 (fX6_endUse r_1 B_time P) fun (P_1 : tPieces) => fX1_cutAnew_L63 x1 x3 B_time W k n (x4 + 1) P_1)
def fX1_cutAnew_L107 (x1 : Int32) (x3 : Int32) (P : tPieces) (C : tCut) (k : tWords → Option (Int32 × Int32 × (Nat → Int32) × tUsers × tPieces × tWords × tCut × tCutR)) : Nat → Int32 → tWords → Option (Int32 × Int32 × (Nat → Int32) × tUsers × tPieces × tWords × tCut × tCutR)
  | 0, _, _ => none
  | n + 1, x4, W => if C.1 ≤ x4 then (k W) else (if x4 < 0 ∨ 12 ≤ x4.toNatClampNeg then none else gb1 (fX6_numberOf (C.2.1 (x4.toNatClampNeg)) P) fun (r_1 : Int32) => gb1 (fX8_addPart x1 r_1 W) fun (W_1 : tWords) => fX1_cutAnew_L107 x1 x3 P C k n (x4 + 1) W_1)
def fX1_cutAnew (x1 : Int32) (B_time : Int32) (B_fund : Int32) (settings : (Nat → Int32)) (sums : (Nat → Int32)) (U : tUsers) (P : tPieces) (W : tWords) (C : tCut) (S : tCutR) : Option (Int32 × Int32 × (Nat → Int32) × tUsers × tPieces × tWords × tCut × tCutR) := if x1 < 0 ∨ 16 ≤ x1.toNatClampNeg then none else gb2 (fX2_cutKnown (W.2.1 (x1.toNatClampNeg)) C S settings P) fun (C_1 : tCut) (S_1 : tCutR) => fX1_cutAnew_L16 x1 C_1 (fun (P_1 : tPieces) => (if x1 < 0 ∨ 16 ≤ x1.toNatClampNeg then none else fX1_cutAnew_L63 x1 (W.2.2.2.1 (x1.toNatClampNeg)) B_time W (fun (P_2 : tPieces) => (gb1 (fX8_clearParts x1 W) fun (W_1 : tWords) => fX1_cutAnew_L107 x1 (W.2.2.2.1 (x1.toNatClampNeg)) P_2 C_1 (fun (W_2 : tWords) => (gb1 (fX1_depositsFor ((W.2.2.2.1 (x1.toNatClampNeg)) - C_1.1) settings) fun (r_1 : Int32) => if x1 < 0 ∨ 16 ≤ x1.toNatClampNeg then none else gb3 (fX1_giveBack (W_2.2.2.1 (x1.toNatClampNeg)) r_1 B_fund sums U) fun (B_fund_1 : Int32) (sums_1 : (Nat → Int32)) (U_1 : tUsers) => some (r_1, B_fund_1, sums_1, U_1, P_2, W_2, C_1, S_1))) FU 0 W_1)) FU 0 P_1)) FU 0 P
def fX1_sendBack (x1 : Int32) (B_chest : Int32) (settings : (Nat → Int32)) (sums : (Nat → Int32)) (U : tUsers) (P : tPieces) (W : tWords) : Option (Int32 × (Nat → Int32) × tUsers × tPieces × tWords) := if x1 < 0 ∨ 24 ≤ x1.toNatClampNeg then none else if x1 < 0 ∨ 24 ≤ x1.toNatClampNeg then none else gb1 (fX7_give (P.2.2.2.1 (x1.toNatClampNeg)) (((P.2.2.1 (x1.toNatClampNeg)) * (settings 4)) / 100) U) fun (U_1 : tUsers) => Lt (B_chest - (((P.2.2.1 (x1.toNatClampNeg)) * (settings 4)) / 100)) fun (B_chest_1 : Int32) => Lt (upd sums 1 ((sums 1) + (((P.2.2.1 (x1.toNatClampNeg)) * (settings 4)) / 100))) fun (sums_1 : (Nat → Int32)) => Lt (upd sums_1 5 ((sums_1 5) + 1)) fun (sums_2 : (Nat → Int32)) => gb1 (fX6_drop x1 P) fun (P_1 : tPieces) => gb1 (fX8_closeGap x1 W) fun (W_1 : tWords) => some (B_chest_1, sums_2, U_1, P_1, W_1)
def fX1_passTick_L22 (x1 : Int32) (B_time : Int32) (settings : (Nat → Int32)) (k : Int32 → (Nat → Int32) → tUsers → tPieces → tWords → Option (Int32 × Int32 × Int32 × (Nat → Int32) × tUsers × tPieces × tWords)) : Nat → Int32 → Int32 → Int32 → (Nat → Int32) → tUsers → tPieces → tWords → Option (Int32 × Int32 × Int32 × (Nat → Int32) × tUsers × tPieces × tWords)
  | 0, _, _, _, _, _, _, _ => none
  | n + 1, x2, x3, B_chest, sums, U, P, W => if x1 ≤ x3 then (k B_chest sums U P W) else (if P.1 ≤ x2 then (k B_chest sums U P W) else (gb1 (fX6_goesBack x2 B_time (settings 3) P) fun (r_1 : Int32) => if r_1 = 0 then (fX1_passTick_L22 x1 B_time settings k n (x2 + 1) (x3 + 1) B_chest sums U P W) else (gb5 (fX1_sendBack x2 B_chest settings sums U P W) fun (B_chest_1 : Int32) (sums_1 : (Nat → Int32)) (U_1 : tUsers) (P_1 : tPieces) (W_1 : tWords) => fX1_passTick_L22 x1 B_time settings k n x2 (x3 + 1) B_chest_1 sums_1 U_1 P_1 W_1)))
def fX1_passTick (B_time : Int32) (B_chest : Int32) (settings : (Nat → Int32)) (sums : (Nat → Int32)) (U : tUsers) (P : tPieces) (W : tWords) : Option (Int32 × Int32 × Int32 × (Nat → Int32) × tUsers × tPieces × tWords) := fX1_passTick_L22 P.1 (B_time + 1) settings (fun (B_chest_1 : Int32) (sums_1 : (Nat → Int32)) (U_1 : tUsers) (P_1 : tPieces) (W_1 : tWords) => (some (P.1 - P_1.1, B_time + 1, B_chest_1, sums_1, U_1, P_1, W_1))) FU 0 0 B_chest sums U P W
def fX1_madeUp_L8 (x1 : Int32) (P : tPieces) (W : tWords) (k : Int64 → Option (Int64)) : Nat → Int64 → Int32 → Int32 → Option (Int64)
  | 0, _, _, _ => none
  | n + 1, x2, x4, x5 => if x1 < 0 ∨ 16 ≤ x1.toNatClampNeg then none else if (W.2.2.2.1 (x1.toNatClampNeg)) ≤ x5 then (k x2) else (gb1 (fX8_partAt x1 x5 W) fun (r_1 : Int32) => if r_1 < 0 then (some 0) else (if r_1 < P.1 then (if r_1 < 0 ∨ 24 ≤ r_1.toNatClampNeg then none else gb1 (fX4_join x2 x4 (P.2.1 (r_1.toNatClampNeg))) fun (r_2 : Int64) => if r_1 < 0 ∨ 24 ≤ r_1.toNatClampNeg then none else gb1 (fX4_lengthOf (P.2.1 (r_1.toNatClampNeg))) fun (r_3 : Int32) => fX1_madeUp_L8 x1 P W k n r_2 (x4 + r_3) (x5 + 1)) else (some 0)))
def fX1_madeUp (x1 : Int32) (P : tPieces) (W : tWords) : Option (Int64) := fX1_madeUp_L8 x1 P W (fun (x2_1 : Int64) => (some x2_1)) FU 0 0 0
def fX1_wordsAreMadeUp_L2 (P : tPieces) (W : tWords) (k : Option (Int32)) : Nat → Int32 → Option (Int32)
  | 0, _ => none
  | n + 1, x1 => if W.1 ≤ x1 then (k) else (gb1 (fX1_madeUp x1 P W) fun (r_1 : Int64) => if x1 < 0 ∨ 16 ≤ x1.toNatClampNeg then none else if (lg_cmp r_1 (W.2.1 (x1.toNatClampNeg))) = 0 then (fX1_wordsAreMadeUp_L2 P W k n (x1 + 1)) else (some 0))
def fX1_wordsAreMadeUp (P : tPieces) (W : tWords) : Option (Int32) := fX1_wordsAreMadeUp_L2 P W (some 1) FU 0
def fX1_usesAreTrue_L17 (x1 : Int32) (W : tWords) (k : Int32 → Option (Int32)) : Nat → Int32 → Int32 → Option (Int32)
  | 0, _, _ => none
  | n + 1, x2, x3 => if W.1 ≤ x3 then (k x2) else (gb1 (fX8_usesIn x3 x1 W) fun (r_1 : Int32) => fX1_usesAreTrue_L17 x1 W k n (x2 + r_1) (x3 + 1))
def fX1_usesAreTrue_L2 (P : tPieces) (W : tWords) (k : Option (Int32)) : Nat → Int32 → Option (Int32)
  | 0, _ => none
  | n + 1, x1 => if P.1 ≤ x1 then (k) else (fX1_usesAreTrue_L17 x1 W (fun (x2_1 : Int32) => (if x1 < 0 ∨ 24 ≤ x1.toNatClampNeg then none else if x2_1 = (P.2.2.2.2.1 (x1.toNatClampNeg)) then (fX1_usesAreTrue_L2 P W k n (x1 + 1)) else (some 0))) FU 0 0)
def fX1_usesAreTrue (P : tPieces) (W : tWords) : Option (Int32) := fX1_usesAreTrue_L2 P W (some 1) FU 0
def fX1_fundIsTrue_L4 (settings : (Nat → Int32)) (U : tUsers) (W : tWords) (k : Int32 → Option (Int32)) : Nat → Int32 → Int32 → Option (Int32)
  | 0, _, _ => none
  | n + 1, x1, x2 => if U.1 ≤ x2 then (k x1) else (gb1 (fX1_heldFor x2 settings W) fun (r_1 : Int32) => fX1_fundIsTrue_L4 settings U W k n (x1 + r_1) (x2 + 1))
def fX1_fundIsTrue (B_fund : Int32) (settings : (Nat → Int32)) (U : tUsers) (W : tWords) : Option (Int32) := fX1_fundIsTrue_L4 settings U W (fun (x1_1 : Int32) => (if B_fund = x1_1 then (some 1) else (some 0))) FU 0 0
def fX2_occursBefore_L2 (x1 : Int32) (C : tCut) (k : Option (Int32)) : Nat → Int32 → Option (Int32)
  | 0, _ => none
  | n + 1, x2 => if x1 ≤ x2 then (k) else (if x2 < 0 ∨ 12 ≤ x2.toNatClampNeg then none else if x1 < 0 ∨ 12 ≤ x1.toNatClampNeg then none else if (lg_cmp (C.2.1 (x2.toNatClampNeg)) (C.2.1 (x1.toNatClampNeg))) = 0 then (some 1) else (fX2_occursBefore_L2 x1 C k n (x2 + 1)))
def fX2_occursBefore (x1 : Int32) (C : tCut) : Option (Int32) := fX2_occursBefore_L2 x1 C (some 0) FU 0
def fX2_countNew_L12 (settings : (Nat → Int32)) (P : tPieces) (k : tCut → Option (tCut)) : Nat → Int32 → tCut → Option (tCut)
  | 0, _, _ => none
  | n + 1, x2, C => if C.1 ≤ x2 then (k C) else (if x2 < 0 ∨ 12 ≤ x2.toNatClampNeg then none else gb1 (fX6_numberOf (C.2.1 (x2.toNatClampNeg)) P) fun (r_1 : Int32) => if r_1 = (-1) then (gb1 (fX2_occursBefore x2 C) fun (r_2 : Int32) => if r_2 = 0 then (if x2 < 0 ∨ 12 ≤ x2.toNatClampNeg then none else gb1 (fX4_lengthOf (C.2.1 (x2.toNatClampNeg))) fun (r_3 : Int32) => gb1 (fX1_newPrice r_3 settings) fun (r_4 : Int32) => fX2_countNew_L12 settings P k n (x2 + 1) (C.1, C.2.1, C.2.2.1 + 1, C.2.2.2.1 + r_4, C.2.2.2.2.1, C.2.2.2.2.2.1, C.2.2.2.2.2.2.1, C.2.2.2.2.2.2.2.1, C.2.2.2.2.2.2.2.2.1, C.2.2.2.2.2.2.2.2.2.1, C.2.2.2.2.2.2.2.2.2.2)) else (fX2_countNew_L12 settings P k n (x2 + 1) C)) else (fX2_countNew_L12 settings P k n (x2 + 1) C))
def fX2_countNew (C : tCut) (settings : (Nat → Int32)) (P : tPieces) : Option (tCut) := fX2_countNew_L12 settings P (fun (C_1 : tCut) => (some C_1)) FU 0 (C.1, C.2.1, 0, 0, C.2.2.2.2.1, C.2.2.2.2.2.1, C.2.2.2.2.2.2.1, C.2.2.2.2.2.2.2.1, C.2.2.2.2.2.2.2.2.1, C.2.2.2.2.2.2.2.2.2.1, C.2.2.2.2.2.2.2.2.2.2)
def fX2_cutCheapest (x2 : Int64) (C : tCut) (S : tCutR) (settings : (Nat → Int32)) (P : tPieces) : Option (tCut × tCutR) := gb2 (fX2_lookUp x2 1 C S settings P) fun (C_1 : tCut) (S_1 : tCutR) => gb1 (fX2_solve C_1 S_1) fun (C_2 : tCut) => gb1 (fX2_collectParts C_2) fun (C_3 : tCut) => gb1 (fX2_countNew C_3 settings P) fun (C_4 : tCut) => some (C_4, S_1)
def fX2_countWays_L41 (x4 : Int32) (S : tCutR) (k : tCut → Option (Int32 × tCut × tCutR)) : Nat → Int32 → tCut → Option (Int32 × tCut × tCutR)
  | 0, _, _ => none
  | n + 1, x5, C => gb1 (fX2_longestAt x4 C) fun (r_1 : Int32) => if r_1 < x5 then (k C) else (if x4 < 0 ∨ 12 ≤ x4.toNatClampNeg then none else if x5 < 0 ∨ 7 ≤ x5.toNatClampNeg then none else if 1000000 ≤ (S (x4.toNatClampNeg) (x5.toNatClampNeg)) then (fX2_countWays_L41 x4 S k n (x5 + 1) C) else (if x4 < 0 ∨ 13 ≤ x4.toNatClampNeg then none else if (x4 + x5) < 0 ∨ 13 ≤ (x4 + x5).toNatClampNeg then none else if x4 < 0 ∨ 13 ≤ x4.toNatClampNeg then none else Lt (C.1, C.2.1, C.2.2.1, C.2.2.2.1, C.2.2.2.2.1, C.2.2.2.2.2.1, C.2.2.2.2.2.2.1, C.2.2.2.2.2.2.2.1, C.2.2.2.2.2.2.2.2.1, C.2.2.2.2.2.2.2.2.2.1, upd C.2.2.2.2.2.2.2.2.2.2 (x4.toNatClampNeg) ((C.2.2.2.2.2.2.2.2.2.2 (x4.toNatClampNeg)) + (C.2.2.2.2.2.2.2.2.2.2 ((x4 + x5).toNatClampNeg)))) fun (C_1 : tCut) => fX2_countWays_L41 x4 S k n (x5 + 1) C_1))
def fX2_countWays_L25 (S : tCutR) (k : tCut → Option (Int32 × tCut × tCutR)) : Nat → Int32 → tCut → Option (Int32 × tCut × tCutR)
  | 0, _, _ => none
  | n + 1, x4, C => if x4 < 0 then (k C) else (if x4 < 0 ∨ 13 ≤ x4.toNatClampNeg then none else Lt (C.1, C.2.1, C.2.2.1, C.2.2.2.1, C.2.2.2.2.1, C.2.2.2.2.2.1, C.2.2.2.2.2.2.1, C.2.2.2.2.2.2.2.1, C.2.2.2.2.2.2.2.2.1, C.2.2.2.2.2.2.2.2.2.1, upd C.2.2.2.2.2.2.2.2.2.2 (x4.toNatClampNeg) 0) fun (C_1 : tCut) => fX2_countWays_L41 x4 S (fun (C_2 : tCut) => (fX2_countWays_L25 S k n (x4 + (-1)) C_2)) FU 1 C_1)
def fX2_countWays (x2 : Int64) (C : tCut) (S : tCutR) (settings : (Nat → Int32)) (P : tPieces) : Option (Int32 × tCut × tCutR) := gb2 (fX2_lookUp x2 0 C S settings P) fun (C_1 : tCut) (S_1 : tCutR) => if C_1.2.2.2.2.2.1 < 0 ∨ 13 ≤ C_1.2.2.2.2.2.1.toNatClampNeg then none else Lt (C_1.1, C_1.2.1, C_1.2.2.1, C_1.2.2.2.1, C_1.2.2.2.2.1, C_1.2.2.2.2.2.1, C_1.2.2.2.2.2.2.1, C_1.2.2.2.2.2.2.2.1, C_1.2.2.2.2.2.2.2.2.1, C_1.2.2.2.2.2.2.2.2.2.1, upd C_1.2.2.2.2.2.2.2.2.2.2 (C_1.2.2.2.2.2.1.toNatClampNeg) 1) fun (C_2 : tCut) => fX2_countWays_L25 S_1 (fun (C_3 : tCut) => (some (C_3.2.2.2.2.2.2.2.2.2.2 0, C_3, S_1))) FU (C_2.2.2.2.2.2.1 - 1) C_2
set_option maxHeartbeats 4000000 in
set_option maxRecDepth 100000 in
theorem ctX1_depositsFor (l : Launch) (E : gE) (aB asettings asums aU aP aW : Nat → Nat) (x1 : Int32) (B_time : Int32) (B_chest : Int32) (B_fund : Int32) (settings : (Nat → Int32)) (r : Int32) (hf : fX1_depositsFor x1 settings = some r) : gMet l yX1_depositsFor wsX1_depositsFor rmX1_depositsFor vwCl E [.ref (aB 0), .int x1] [sBook E aB asettings asums aU aP aW B_time B_chest B_fund, sArrI E asettings 5 settings] (fun v w => v = some (.int r) ∧ w = [sBook E aB asettings asums aU aP aW B_time B_chest B_fund, sArrI E asettings 5 settings]) 0 0 := by
  refine g_entry [some (.ref (aB 0)), some (.int x1)] (by decide) rfl (Nat.le_of_ble_eq_true rfl) rfl ?_
  intro p e s m below meth c A F hnm
  unfold fX1_depositsFor at hf
  refine g_aload_n F dX1_depositsFor_0 rfl ?_
  refine g_get (C := RX1) (T := TX1) (N := 8) F 0 0 0 rfl rfl rfl iX1_depositsFor_X1 (by decide) (by decide +kernel) rfl dX1_depositsFor_1 ?_
  refine g_iconst F 2 dX1_depositsFor_4 rfl ?_
  refine g_iald F 1 0 2 (by decide) rfl rfl (by decide) dX1_depositsFor_5 ?_
  refine g_iload_n F dX1_depositsFor_6 rfl ?_
  refine g_imul F dX1_depositsFor_7 ?_
  cases hf
  exact g_iret F rfl ⟨rfl, rfl⟩ dX1_depositsFor_8
set_option maxHeartbeats 4000000 in
set_option maxRecDepth 100000 in
theorem ctX2_longestAt (l : Launch) (E : gE) (aC aS : Nat → Nat) (x1 : Int32) (C : tCut) (r : Int32) (hf : fX2_longestAt x1 C = some r) : gMet l yX2_longestAt wsX2_longestAt rmX2_longestAt vwCl E [.ref (aC 0), .int x1] [sCut E aC aS C] (fun v w => v = some (.int r) ∧ w = [sCut E aC aS C]) 0 0 := by
  refine g_entry [some (.ref (aC 0)), some (.int x1)] (by decide) rfl (Nat.le_of_ble_eq_true rfl) rfl ?_
  intro p e s m below meth c A F hnm
  unfold fX2_longestAt at hf
  refine g_bipush F 6 dX2_longestAt_0 rfl ?_
  refine g_aload_n F dX2_longestAt_2 rfl ?_
  refine g_get (C := RX2) (T := TX2) (N := 12) F 0 0 5 rfl rfl rfl iX2_longestAt_X2 (by decide) (by decide +kernel) rfl dX2_longestAt_3 ?_
  refine g_iload_n F dX2_longestAt_6 rfl ?_
  refine g_isub F dX2_longestAt_7 ?_
  refine g_mmin F (by decide +kernel) (by decide +kernel) (by decide +kernel) (by decide +kernel) rfl (Nat.le_of_ble_eq_true rfl) (Nat.le_of_ble_eq_true rfl) (Nat.le_of_ble_eq_true rfl) (Nat.le_of_ble_eq_true rfl) dX2_longestAt_8 ?_
  obtain ⟨z_1, hz_1, hf⟩ := Lt_el hf
  rw [← hz_1]
  cases hf
  exact g_iret F rfl ⟨rfl, rfl⟩ dX2_longestAt_11
set_option maxHeartbeats 4000000 in
set_option maxRecDepth 100000 in
theorem ctX1_newPrice (l : Launch) (E : gE) (aB asettings asums aU aP aW : Nat → Nat) (x1 : Int32) (B_time : Int32) (B_chest : Int32) (B_fund : Int32) (settings : (Nat → Int32)) (r : Int32) (hf : fX1_newPrice x1 settings = some r) : gMet l yX1_newPrice wsX1_newPrice rmX1_newPrice vwCl E [.ref (aB 0), .int x1] [sBook E aB asettings asums aU aP aW B_time B_chest B_fund, sArrI E asettings 5 settings] (fun v w => v = some (.int r) ∧ w = [sBook E aB asettings asums aU aP aW B_time B_chest B_fund, sArrI E asettings 5 settings]) 0 0 := by
  refine g_entry [some (.ref (aB 0)), some (.int x1)] (by decide) rfl (Nat.le_of_ble_eq_true rfl) rfl ?_
  intro p e s m below meth c A F hnm
  unfold fX1_newPrice at hf
  refine g_aload_n F dX1_newPrice_0 rfl ?_
  refine g_get (C := RX1) (T := TX1) (N := 8) F 0 0 0 rfl rfl rfl iX1_newPrice_X1 (by decide) (by decide +kernel) rfl dX1_newPrice_1 ?_
  refine g_iconst F 0 dX1_newPrice_4 rfl ?_
  refine g_iald F 1 0 0 (by decide) rfl rfl (by decide) dX1_newPrice_5 ?_
  refine g_aload_n F dX1_newPrice_6 rfl ?_
  refine g_get (C := RX1) (T := TX1) (N := 8) F 0 0 0 rfl rfl rfl iX1_newPrice_X1 (by decide) (by decide +kernel) rfl dX1_newPrice_7 ?_
  refine g_iconst F 1 dX1_newPrice_10 rfl ?_
  refine g_iald F 1 0 1 (by decide) rfl rfl (by decide) dX1_newPrice_11 ?_
  refine g_iload_n F dX1_newPrice_12 rfl ?_
  refine g_imul F dX1_newPrice_13 ?_
  refine g_iadd F dX1_newPrice_14 ?_
  cases hf
  exact g_iret F rfl ⟨rfl, rfl⟩ dX1_newPrice_15
set_option maxHeartbeats 4000000 in
set_option maxRecDepth 100000 in
theorem ktX2_lookUp_L37 {p : Program} {l : Launch} {e : Env} {s : State} {m : MethodId} {args : Array Value} {below : List Frame} {meth : Method} {c : Code} {E : gE} {A : Nat → Prop} (F : gFx p s m args meth c RX2 wsX2_lookUp cX2_lookUp 7 none vwCl E A) (aC aS aB asettings asums aU aP aW : Nat → Nat) (x4 : Int32) (x5 : Int32) (C : tCut) (settings : (Nat → Int32)) (P : tPieces) (B_time : Int32) (B_chest : Int32) (B_fund : Int32) (C' : tCut) (S' : tCutR) {k : tCutR → Option (tCut × tCutR)} (hk : ∀ (S : tCutR), k S = some (C', S') → Gj p l e rmX2_lookUp s m args below meth c 0 0 (MQ below (gQ vwCl E A (fun v w => v = none ∧ w = [sCut E aC aS C', sCutR E aS S', sBook E aB asettings asums aU aP aW B_time B_chest B_fund, sArrI E asettings 5 settings, sPieces E aP P])) args s 0 0 A) vwCl E A [sCut E aC aS C, sCutR E aS S, sBook E aB asettings asums aU aP aW B_time B_chest B_fund, sArrI E asettings 5 settings, sPieces E aP P] [some (.ref (aC 0)), some (.ref (aB 0)), none, none, some (.int x4), some (.int x5), none] [] 116) : ∀ (n : Nat) (x6 : Int32) (S : tCutR), fX2_lookUp_L37 x4 x5 C settings P k n x6 S = some (C', S') → Gj p l e rmX2_lookUp s m args below meth c 0 0 (MQ below (gQ vwCl E A (fun v w => v = none ∧ w = [sCut E aC aS C', sCutR E aS S', sBook E aB asettings asums aU aP aW B_time B_chest B_fund, sArrI E asettings 5 settings, sPieces E aP P])) args s 0 0 A) vwCl E A [sCut E aC aS C, sCutR E aS S, sBook E aB asettings asums aU aP aW B_time B_chest B_fund, sArrI E asettings 5 settings, sPieces E aP P] [some (.ref (aC 0)), some (.ref (aB 0)), none, none, some (.int x4), some (.int x5), some (.int x6)] [] 37
  | 0, _, _, hf => by cases hf
  | n + 1, x6, S, hf => by
    have ih := ktX2_lookUp_L37 F aC aS aB asettings asums aU aP aW x4 x5 C settings P B_time B_chest B_fund C' S' hk n
    rw [fX2_lookUp_L37] at hf
    refine g_iload F dX2_lookUp_37 rfl ?_
    refine g_aload_n F dX2_lookUp_39 rfl ?_
    refine g_iload F dX2_lookUp_40 rfl ?_
    obtain ⟨r_1, hg_1, hf⟩ := gb1_el hf
    refine g_callV (C := RX2) (T := TX2) (N := 12) (Lr := [sCutR E aS S, sBook E aB asettings asums aU aP aW B_time B_chest B_fund, sArrI E asettings 5 settings, sPieces E aP P]) (As := [.int x5]) (rest := [.int x6]) F 0 0 1 (ctX2_longestAt l E aC aS x5 C r_1 hg_1) gX2_lookUp_X2_longestAt rfl rfl rfl h0X2_longestAt ⟨Nat.le_of_ble_eq_true rfl, Nat.le_of_ble_eq_true rfl⟩ rfl rfl rfl [0] [1, 2, 3, 4] rfl rfl rfl rfl rfl rfl (Nat.le_of_ble_eq_true rfl) dX2_lookUp_42 ⟨(Nat.le_of_ble_eq_true rfl), (Nat.le_of_ble_eq_true rfl)⟩ ?_
    rintro v w ⟨rfl, rfl⟩
    refine g_norm (Lw' := [sCut E aC aS C, sCutR E aS S, sBook E aB asettings asums aU aP aW B_time B_chest B_fund, sArrI E asettings 5 settings, sPieces E aP P]) (st' := [.int r_1, .int x6]) (pc' := 45) [0, 1, 2, 3, 4] rfl rfl rfl rfl ?_
    refine g_icmp_gt F 116 dX2_lookUp_45 (by decide) (fun hc_3 => ?_) (fun hc_3 => ?_)
    · replace hf := gi_t hc_3 hf
      refine g_mask [true, true, true, true, true, true, false] rfl ?_
      exact hk S hf
    · replace hf := gi_f hc_3 hf
      refine g_aload_n F dX2_lookUp_48 rfl ?_
      refine g_get (C := RX1) (T := TX1) (N := 8) F 2 0 3 rfl rfl rfl iX2_lookUp_X1 (by decide) (by decide +kernel) rfl dX2_lookUp_49 ?_
      refine g_aload_n F dX2_lookUp_52 rfl ?_
      refine g_get (C := RX2) (T := TX2) (N := 12) F 0 0 4 rfl rfl rfl iX2_lookUp_X2 (by decide) (by decide +kernel) rfl dX2_lookUp_53 ?_
      refine g_iload F dX2_lookUp_56 rfl ?_
      refine g_iload F dX2_lookUp_58 rfl ?_
      obtain ⟨r_2, hg_2, hf⟩ := gb1_el hf
      refine g_callS (Lr := [sCut E aC aS C, sCutR E aS S, sBook E aB asettings asums aU aP aW B_time B_chest B_fund, sArrI E asettings 5 settings, sPieces E aP P]) (As := [.long C.2.2.2.2.1, .int x5, .int x6]) (rest := [.ref (aP 0)]) F 3 (ctX4_section l E C.2.2.2.2.1 x5 x6 r_2 hg_2) (va_cwS 3 F.2.2.2.2.2.1 gX2_lookUp_X4_section rfl rfl rfl h0X4_section ⟨Nat.le_of_ble_eq_true rfl, Nat.le_of_ble_eq_true rfl⟩) [] [0, 1, 2, 3, 4] rfl rfl rfl rfl rfl rfl (Nat.le_of_ble_eq_true rfl) dX2_lookUp_60 ⟨(Nat.le_of_ble_eq_true rfl), (Nat.le_of_ble_eq_true rfl)⟩ ?_
      rintro v w ⟨rfl, rfl⟩
      refine g_norm (Lw' := [sCut E aC aS C, sCutR E aS S, sBook E aB asettings asums aU aP aW B_time B_chest B_fund, sArrI E asettings 5 settings, sPieces E aP P]) (st' := [.long r_2, .ref (aP 0)]) (pc' := 63) [0, 1, 2, 3, 4] rfl rfl rfl rfl ?_
      obtain ⟨r_3, hg_3, hf⟩ := gb1_el hf
      refine g_callV (C := RX6) (T := TX6) (N := 6) (Lr := [sCut E aC aS C, sCutR E aS S, sBook E aB asettings asums aU aP aW B_time B_chest B_fund, sArrI E asettings 5 settings]) (As := [.long r_2]) (rest := []) F 4 0 1 (ctX6_numberOf l E aP r_2 P r_3 hg_3) gX2_lookUp_X6_numberOf rfl rfl rfl h0X6_numberOf ⟨Nat.le_of_ble_eq_true rfl, Nat.le_of_ble_eq_true rfl⟩ rfl rfl rfl [4] [0, 1, 2, 3] rfl rfl rfl rfl rfl rfl (Nat.le_of_ble_eq_true rfl) dX2_lookUp_63 ⟨(Nat.le_of_ble_eq_true rfl), (Nat.le_of_ble_eq_true rfl)⟩ ?_
      rintro v w ⟨rfl, rfl⟩
      refine g_norm (Lw' := [sCut E aC aS C, sCutR E aS S, sBook E aB asettings asums aU aP aW B_time B_chest B_fund, sArrI E asettings 5 settings, sPieces E aP P]) (st' := [.int r_3]) (pc' := 66) [1, 2, 3, 4, 0] rfl rfl rfl rfl ?_
      refine g_iconst F (-1) dX2_lookUp_66 rfl ?_
      refine g_icmp_eq F 84 dX2_lookUp_67 (by decide) (fun hc_2 => ?_) (fun hc_2 => ?_)
      · replace hf := gi_t hc_2 hf
        refine g_aload_n F dX2_lookUp_84 rfl ?_
        refine g_get (C := RX2) (T := TX2) (N := 12) F 0 0 7 rfl rfl rfl iX2_lookUp_X2 (by decide) (by decide +kernel) rfl dX2_lookUp_85 ?_
        refine g_iload F dX2_lookUp_88 rfl ?_
        obtain ⟨hb_1, hf⟩ := gb_in hf
        have hlt_1 := Nat.not_le.mp (fun z9 => hb_1 (Or.inr z9))
        refine g_aald (b := aS (x5.toNatClampNeg)) F 0 2 5 rfl rfl rfl hb_1 (if_pos hlt_1) rfl dX2_lookUp_90 ?_
        refine g_iload F dX2_lookUp_91 rfl ?_
        refine g_iload F dX2_lookUp_93 rfl ?_
        obtain ⟨j_1, hj_1, hf⟩ := Lt_el hf
        have hj_1 : ∀ (t0_1 : Int32), j_1 t0_1 = some (C', S') → Gj p l e rmX2_lookUp s m args below meth c 0 0 (MQ below (gQ vwCl E A (fun v w => v = none ∧ w = [sCut E aC aS C', sCutR E aS S', sBook E aB asettings asums aU aP aW B_time B_chest B_fund, sArrI E asettings 5 settings, sPieces E aP P])) args s 0 0 A) vwCl E A [sCut E aC aS C, sCutR E aS S, sBook E aB asettings asums aU aP aW B_time B_chest B_fund, sArrI E asettings 5 settings, sPieces E aP P] [some (.ref (aC 0)), some (.ref (aB 0)), none, none, some (.int x4), some (.int x5), some (.int x6)] [.int t0_1, .int x6, .ref (aS (x5.toNatClampNeg))] 109 := by
          intro t0_1 hf
          rw [hj_1] at hf
          obtain ⟨hb_2, hf⟩ := gb_in hf
          obtain ⟨S_1, hS_1, hf⟩ := Lt_el hf
          refine g_iast (Lw' := [sCut E aC aS C, sCutR E aS S_1, sBook E aB asettings asums aU aP aW B_time B_chest B_fund, sArrI E asettings 5 settings, sPieces E aP P]) F 1 (x5.toNatClampNeg) (x6.toNatClampNeg) rfl rfl (sCutR_at _ _ _ hlt_1) hb_2 dX2_lookUp_109 (by subst hS_1; rw [sCutR_set]; rfl) ?_
          refine g_iinc (lv' := [some (.ref (aC 0)), some (.ref (aB 0)), none, none, some (.int x4), some (.int x5), some (.int (x6 + 1))]) F (x6 + 1) dX2_lookUp_110 rfl rfl rfl rfl ?_
          refine g_goto F 37 dX2_lookUp_113 (by decide) ?_
          exact ih (x6 + 1) S_1 hf
        refine g_ifeq F 107 dX2_lookUp_95 (by decide) (fun hc_1 => ?_) (fun hc_1 => ?_)
        · replace hf := gi_t hc_1 hf
          refine g_ldc F 1000000 (by decide +kernel) dX2_lookUp_107 ?_
          exact hj_1 1000000 hf
        · replace hf := gi_f hc_1 hf
          refine g_aload_n F dX2_lookUp_98 rfl ?_
          refine g_iload F dX2_lookUp_99 rfl ?_
          obtain ⟨r_4, hg_4, hf⟩ := gb1_el hf
          refine g_callV (C := RX1) (T := TX1) (N := 8) (Lr := [sCut E aC aS C, sCutR E aS S, sPieces E aP P]) (As := [.int x6]) (rest := [.int x6, .ref (aS (x5.toNatClampNeg))]) F 2 0 1 (ctX1_newPrice l E aB asettings asums aU aP aW x6 B_time B_chest B_fund settings r_4 hg_4) gX2_lookUp_X1_newPrice rfl rfl rfl h0X1_newPrice ⟨Nat.le_of_ble_eq_true rfl, Nat.le_of_ble_eq_true rfl⟩ rfl rfl rfl [2, 3] [0, 1, 4] rfl rfl rfl rfl rfl rfl (Nat.le_of_ble_eq_true rfl) dX2_lookUp_101 ⟨(Nat.le_of_ble_eq_true rfl), (Nat.le_of_ble_eq_true rfl)⟩ ?_
          rintro v w ⟨rfl, rfl⟩
          refine g_norm (Lw' := [sCut E aC aS C, sCutR E aS S, sBook E aB asettings asums aU aP aW B_time B_chest B_fund, sArrI E asettings 5 settings, sPieces E aP P]) (st' := [.int r_4, .int x6, .ref (aS (x5.toNatClampNeg))]) (pc' := 104) [2, 3, 0, 1, 4] rfl rfl rfl rfl ?_
          refine g_goto F 109 dX2_lookUp_104 (by decide) ?_
          exact hj_1 r_4 hf
      · replace hf := gi_f hc_2 hf
        refine g_aload_n F dX2_lookUp_70 rfl ?_
        refine g_get (C := RX2) (T := TX2) (N := 12) F 0 0 7 rfl rfl rfl iX2_lookUp_X2 (by decide) (by decide +kernel) rfl dX2_lookUp_71 ?_
        refine g_iload F dX2_lookUp_74 rfl ?_
        obtain ⟨hb_3, hf⟩ := gb_in hf
        have hlt_2 := Nat.not_le.mp (fun z9 => hb_3 (Or.inr z9))
        refine g_aald (b := aS (x5.toNatClampNeg)) F 0 2 5 rfl rfl rfl hb_3 (if_pos hlt_2) rfl dX2_lookUp_76 ?_
        refine g_iload F dX2_lookUp_77 rfl ?_
        refine g_iconst F 0 dX2_lookUp_79 rfl ?_
        obtain ⟨hb_4, hf⟩ := gb_in hf
        obtain ⟨S_2, hS_2, hf⟩ := Lt_el hf
        refine g_iast (Lw' := [sCut E aC aS C, sCutR E aS S_2, sBook E aB asettings asums aU aP aW B_time B_chest B_fund, sArrI E asettings 5 settings, sPieces E aP P]) F 1 (x5.toNatClampNeg) (x6.toNatClampNeg) rfl rfl (sCutR_at _ _ _ hlt_2) hb_4 dX2_lookUp_80 (by subst hS_2; rw [sCutR_set]; rfl) ?_
        refine g_goto F 110 dX2_lookUp_81 (by decide) ?_
        refine g_iinc (lv' := [some (.ref (aC 0)), some (.ref (aB 0)), none, none, some (.int x4), some (.int x5), some (.int (x6 + 1))]) F (x6 + 1) dX2_lookUp_110 rfl rfl rfl rfl ?_
        refine g_goto F 37 dX2_lookUp_113 (by decide) ?_
        exact ih (x6 + 1) S_2 hf
set_option maxHeartbeats 4000000 in
set_option maxRecDepth 100000 in
theorem ktX2_lookUp_L25 {p : Program} {l : Launch} {e : Env} {s : State} {m : MethodId} {args : Array Value} {below : List Frame} {meth : Method} {c : Code} {E : gE} {A : Nat → Prop} (F : gFx p s m args meth c RX2 wsX2_lookUp cX2_lookUp 7 none vwCl E A) (aC aS aB asettings asums aU aP aW : Nat → Nat) (x4 : Int32) (C : tCut) (settings : (Nat → Int32)) (P : tPieces) (B_time : Int32) (B_chest : Int32) (B_fund : Int32) (C' : tCut) (S' : tCutR) {k : tCutR → Option (tCut × tCutR)} (hk : ∀ (S : tCutR), k S = some (C', S') → Gj p l e rmX2_lookUp s m args below meth c 0 0 (MQ below (gQ vwCl E A (fun v w => v = none ∧ w = [sCut E aC aS C', sCutR E aS S', sBook E aB asettings asums aU aP aW B_time B_chest B_fund, sArrI E asettings 5 settings, sPieces E aP P])) args s 0 0 A) vwCl E A [sCut E aC aS C, sCutR E aS S, sBook E aB asettings asums aU aP aW B_time B_chest B_fund, sArrI E asettings 5 settings, sPieces E aP P] [none, none, none, none, none, none, none] [] 122) : ∀ (n : Nat) (x5 : Int32) (S : tCutR), fX2_lookUp_L25 x4 C settings P k n x5 S = some (C', S') → Gj p l e rmX2_lookUp s m args below meth c 0 0 (MQ below (gQ vwCl E A (fun v w => v = none ∧ w = [sCut E aC aS C', sCutR E aS S', sBook E aB asettings asums aU aP aW B_time B_chest B_fund, sArrI E asettings 5 settings, sPieces E aP P])) args s 0 0 A) vwCl E A [sCut E aC aS C, sCutR E aS S, sBook E aB asettings asums aU aP aW B_time B_chest B_fund, sArrI E asettings 5 settings, sPieces E aP P] [some (.ref (aC 0)), some (.ref (aB 0)), none, none, some (.int x4), some (.int x5), none] [] 25
  | 0, _, _, hf => by cases hf
  | n + 1, x5, S, hf => by
    have ih := ktX2_lookUp_L25 F aC aS aB asettings asums aU aP aW x4 C settings P B_time B_chest B_fund C' S' hk n
    rw [fX2_lookUp_L25] at hf
    refine g_iload F dX2_lookUp_25 rfl ?_
    refine g_aload_n F dX2_lookUp_27 rfl ?_
    refine g_get (C := RX2) (T := TX2) (N := 12) F 0 0 5 rfl rfl rfl iX2_lookUp_X2 (by decide) (by decide +kernel) rfl dX2_lookUp_28 ?_
    refine g_icmp_ge F 122 dX2_lookUp_31 (by decide) (fun hc_1 => ?_) (fun hc_1 => ?_)
    · replace hf := gi_t hc_1 hf
      refine g_mask [false, false, true, true, false, false, true] rfl ?_
      exact hk S hf
    · replace hf := gi_f hc_1 hf
      refine g_iconst F 1 dX2_lookUp_34 rfl ?_
      refine g_istore (lv' := [some (.ref (aC 0)), some (.ref (aB 0)), none, none, some (.int x4), some (.int x5), some (.int 1)]) F dX2_lookUp_35 (Nat.le_of_ble_eq_true rfl) rfl rfl ?_
      refine ktX2_lookUp_L37 F aC aS aB asettings asums aU aP aW x4 x5 C settings P B_time B_chest B_fund C' S' (fun S_1 hf => ?_) FU 1 S hf
      refine g_iinc (lv' := [some (.ref (aC 0)), some (.ref (aB 0)), none, none, some (.int x4), some (.int (x5 + 1)), none]) F (x5 + 1) dX2_lookUp_116 rfl rfl rfl rfl ?_
      refine g_goto F 25 dX2_lookUp_119 (by decide) ?_
      exact ih (x5 + 1) S_1 hf
set_option maxHeartbeats 4000000 in
set_option maxRecDepth 100000 in
theorem ctX2_lookUp (l : Launch) (E : gE) (aC aS aB asettings asums aU aP aW : Nat → Nat) (x2 : Int64) (x4 : Int32) (C : tCut) (S : tCutR) (B_time : Int32) (B_chest : Int32) (B_fund : Int32) (settings : (Nat → Int32)) (P : tPieces) (C' : tCut) (S' : tCutR) (hf : fX2_lookUp x2 x4 C S settings P = some (C', S')) : gMet l yX2_lookUp wsX2_lookUp rmX2_lookUp vwCl E [.ref (aC 0), .ref (aB 0), .long x2, .int x4] [sCut E aC aS C, sCutR E aS S, sBook E aB asettings asums aU aP aW B_time B_chest B_fund, sArrI E asettings 5 settings, sPieces E aP P] (fun v w => v = none ∧ w = [sCut E aC aS C', sCutR E aS S', sBook E aB asettings asums aU aP aW B_time B_chest B_fund, sArrI E asettings 5 settings, sPieces E aP P]) 0 0 := by
  refine g_entry [some (.ref (aC 0)), some (.ref (aB 0)), some (.long x2), none, some (.int x4), none, none] (by decide) rfl (Nat.le_of_ble_eq_true rfl) rfl ?_
  intro p e s m below meth c A F hnm
  unfold fX2_lookUp at hf
  refine g_aload_n F dX2_lookUp_0 rfl ?_
  refine g_lload_n F dX2_lookUp_1 rfl ?_
  refine g_put (C := RX2) (T := TX2) (N := 12) (tys := tyX2) (Lw' := [sCut E aC aS (C.1, C.2.1, C.2.2.1, C.2.2.2.1, x2, C.2.2.2.2.2.1, C.2.2.2.2.2.2.1, C.2.2.2.2.2.2.2.1, C.2.2.2.2.2.2.2.2.1, C.2.2.2.2.2.2.2.2.2.1, C.2.2.2.2.2.2.2.2.2.2), sCutR E aS S, sBook E aB asettings asums aU aP aW B_time B_chest B_fund, sArrI E asettings 5 settings, sPieces E aP P]) F 0 0 4 rfl rfl rfl iX2_lookUp_X2 tyX2_ok nmX2 (by decide) (by decide +kernel) rfl rfl rfl rfl (Nat.le_of_ble_eq_true rfl) dX2_lookUp_2 rfl ?_
  refine g_aload_n F dX2_lookUp_5 rfl ?_
  refine g_lload_n F dX2_lookUp_6 rfl ?_
  obtain ⟨r_1, hg_1, hf⟩ := gb1_el hf
  refine g_callS (Lr := [sCut E aC aS (C.1, C.2.1, C.2.2.1, C.2.2.2.1, x2, C.2.2.2.2.2.1, C.2.2.2.2.2.2.1, C.2.2.2.2.2.2.2.1, C.2.2.2.2.2.2.2.2.1, C.2.2.2.2.2.2.2.2.2.1, C.2.2.2.2.2.2.2.2.2.2), sCutR E aS S, sBook E aB asettings asums aU aP aW B_time B_chest B_fund, sArrI E asettings 5 settings, sPieces E aP P]) (As := [.long x2]) (rest := [.ref (aC 0)]) F 1 (ctX4_lengthOf l E x2 r_1 hg_1) (va_cwS 1 F.2.2.2.2.2.1 gX2_lookUp_X4_lengthOf rfl rfl rfl h0X4_lengthOf ⟨Nat.le_of_ble_eq_true rfl, Nat.le_of_ble_eq_true rfl⟩) [] [0, 1, 2, 3, 4] rfl rfl rfl rfl rfl rfl (Nat.le_of_ble_eq_true rfl) dX2_lookUp_7 ⟨(Nat.le_of_ble_eq_true rfl), (Nat.le_of_ble_eq_true rfl)⟩ ?_
  rintro v w ⟨rfl, rfl⟩
  refine g_norm (Lw' := [sCut E aC aS (C.1, C.2.1, C.2.2.1, C.2.2.2.1, x2, C.2.2.2.2.2.1, C.2.2.2.2.2.2.1, C.2.2.2.2.2.2.2.1, C.2.2.2.2.2.2.2.2.1, C.2.2.2.2.2.2.2.2.2.1, C.2.2.2.2.2.2.2.2.2.2), sCutR E aS S, sBook E aB asettings asums aU aP aW B_time B_chest B_fund, sArrI E asettings 5 settings, sPieces E aP P]) (st' := [.int r_1, .ref (aC 0)]) (pc' := 10) [0, 1, 2, 3, 4] rfl rfl rfl rfl ?_
  refine g_put (C := RX2) (T := TX2) (N := 12) (tys := tyX2) (Lw' := [sCut E aC aS (C.1, C.2.1, C.2.2.1, C.2.2.2.1, x2, r_1, C.2.2.2.2.2.2.1, C.2.2.2.2.2.2.2.1, C.2.2.2.2.2.2.2.2.1, C.2.2.2.2.2.2.2.2.2.1, C.2.2.2.2.2.2.2.2.2.2), sCutR E aS S, sBook E aB asettings asums aU aP aW B_time B_chest B_fund, sArrI E asettings 5 settings, sPieces E aP P]) F 0 0 5 rfl rfl rfl iX2_lookUp_X2 tyX2_ok nmX2 (by decide) (by decide +kernel) rfl rfl rfl rfl (Nat.le_of_ble_eq_true rfl) dX2_lookUp_10 rfl ?_
  refine g_aload_n F dX2_lookUp_13 rfl ?_
  refine g_aload_n F dX2_lookUp_14 rfl ?_
  refine g_iconst F 1 dX2_lookUp_15 rfl ?_
  obtain ⟨r_2, hg_2, hf⟩ := gb1_el hf
  refine g_callV (C := RX1) (T := TX1) (N := 8) (Lr := [sCut E aC aS (C.1, C.2.1, C.2.2.1, C.2.2.2.1, x2, r_1, C.2.2.2.2.2.2.1, C.2.2.2.2.2.2.2.1, C.2.2.2.2.2.2.2.2.1, C.2.2.2.2.2.2.2.2.2.1, C.2.2.2.2.2.2.2.2.2.2), sCutR E aS S, sPieces E aP P]) (As := [.int 1]) (rest := [.ref (aC 0)]) F 2 0 1 (ctX1_depositsFor l E aB asettings asums aU aP aW 1 B_time B_chest B_fund settings r_2 hg_2) gX2_lookUp_X1_depositsFor rfl rfl rfl h0X1_depositsFor ⟨Nat.le_of_ble_eq_true rfl, Nat.le_of_ble_eq_true rfl⟩ rfl rfl rfl [2, 3] [0, 1, 4] rfl rfl rfl rfl rfl rfl (Nat.le_of_ble_eq_true rfl) dX2_lookUp_16 ⟨(Nat.le_of_ble_eq_true rfl), (Nat.le_of_ble_eq_true rfl)⟩ ?_
  rintro v w ⟨rfl, rfl⟩
  refine g_norm (Lw' := [sCut E aC aS (C.1, C.2.1, C.2.2.1, C.2.2.2.1, x2, r_1, C.2.2.2.2.2.2.1, C.2.2.2.2.2.2.2.1, C.2.2.2.2.2.2.2.2.1, C.2.2.2.2.2.2.2.2.2.1, C.2.2.2.2.2.2.2.2.2.2), sCutR E aS S, sBook E aB asettings asums aU aP aW B_time B_chest B_fund, sArrI E asettings 5 settings, sPieces E aP P]) (st' := [.int r_2, .ref (aC 0)]) (pc' := 19) [2, 3, 0, 1, 4] rfl rfl rfl rfl ?_
  refine g_put (C := RX2) (T := TX2) (N := 12) (tys := tyX2) (Lw' := [sCut E aC aS (C.1, C.2.1, C.2.2.1, C.2.2.2.1, x2, r_1, r_2, C.2.2.2.2.2.2.2.1, C.2.2.2.2.2.2.2.2.1, C.2.2.2.2.2.2.2.2.2.1, C.2.2.2.2.2.2.2.2.2.2), sCutR E aS S, sBook E aB asettings asums aU aP aW B_time B_chest B_fund, sArrI E asettings 5 settings, sPieces E aP P]) F 0 0 6 rfl rfl rfl iX2_lookUp_X2 tyX2_ok nmX2 (by decide) (by decide +kernel) rfl rfl rfl rfl (Nat.le_of_ble_eq_true rfl) dX2_lookUp_19 rfl ?_
  refine g_iconst F 0 dX2_lookUp_22 rfl ?_
  refine g_istore (lv' := [some (.ref (aC 0)), some (.ref (aB 0)), some (.long x2), none, some (.int x4), some (.int 0), none]) F dX2_lookUp_23 (Nat.le_of_ble_eq_true rfl) rfl rfl ?_
  refine g_mask [true, true, false, true, true, true, true] rfl ?_
  refine ktX2_lookUp_L25 F aC aS aB asettings asums aU aP aW x4 (C.1, C.2.1, C.2.2.1, C.2.2.2.1, x2, r_1, r_2, C.2.2.2.2.2.2.2.1, C.2.2.2.2.2.2.2.2.1, C.2.2.2.2.2.2.2.2.2.1, C.2.2.2.2.2.2.2.2.2.2) settings P B_time B_chest B_fund C' S' (fun S_1 hf => ?_) FU 0 S hf
  cases hf
  exact g_vret F rfl ⟨rfl, rfl⟩ dX2_lookUp_122
set_option maxHeartbeats 4000000 in
set_option maxRecDepth 100000 in
theorem ctX2_tryFirst (l : Launch) (E : gE) (aC aS : Nat → Nat) (x1 : Int32) (x2 : Int32) (C : tCut) (S : tCutR) (C' : tCut) (hf : fX2_tryFirst x1 x2 C S = some C') : gMet l yX2_tryFirst wsX2_tryFirst rmX2_tryFirst vwCl E [.ref (aC 0), .int x1, .int x2] [sCut E aC aS C, sCutR E aS S] (fun v w => v = none ∧ w = [sCut E aC aS C', sCutR E aS S]) 0 0 := by
  refine g_entry [some (.ref (aC 0)), some (.int x1), some (.int x2), none, none] (by decide) rfl (Nat.le_of_ble_eq_true rfl) rfl ?_
  intro p e s m below meth c A F hnm
  unfold fX2_tryFirst at hf
  refine g_aload_n F dX2_tryFirst_0 rfl ?_
  refine g_get (C := RX2) (T := TX2) (N := 12) F 0 0 6 rfl rfl rfl iX2_tryFirst_X2 (by decide) (by decide +kernel) rfl dX2_tryFirst_1 ?_
  refine g_aload_n F dX2_tryFirst_4 rfl ?_
  refine g_get (C := RX2) (T := TX2) (N := 12) F 0 0 7 rfl rfl rfl iX2_tryFirst_X2 (by decide) (by decide +kernel) rfl dX2_tryFirst_5 ?_
  refine g_iload_n F dX2_tryFirst_8 rfl ?_
  obtain ⟨hb_1, hf⟩ := gb_in hf
  have hlt_1 := Nat.not_le.mp (fun z9 => hb_1 (Or.inr z9))
  refine g_aald (b := aS (x1.toNatClampNeg)) F 0 2 5 rfl rfl rfl hb_1 (if_pos hlt_1) rfl dX2_tryFirst_9 ?_
  refine g_iload_n F dX2_tryFirst_10 rfl ?_
  obtain ⟨hb_2, hf⟩ := gb_in hf
  refine g_iald F 1 (x1.toNatClampNeg) (x2.toNatClampNeg) rfl rfl (sCutR_at _ _ _ hlt_1) hb_2 dX2_tryFirst_11 ?_
  refine g_iadd F dX2_tryFirst_12 ?_
  refine g_aload_n F dX2_tryFirst_13 rfl ?_
  refine g_get (C := RX2) (T := TX2) (N := 12) F 0 0 8 rfl rfl rfl iX2_tryFirst_X2 (by decide) (by decide +kernel) rfl dX2_tryFirst_14 ?_
  refine g_iload_n F dX2_tryFirst_17 rfl ?_
  refine g_iload_n F dX2_tryFirst_18 rfl ?_
  refine g_iadd F dX2_tryFirst_19 ?_
  obtain ⟨hb_3, hf⟩ := gb_in hf
  refine g_iald F 0 3 ((x1 + x2).toNatClampNeg) rfl rfl rfl hb_3 dX2_tryFirst_20 ?_
  refine g_iadd F dX2_tryFirst_21 ?_
  refine g_istore_n (lv' := [some (.ref (aC 0)), some (.int x1), some (.int x2), some (.int ((C.2.2.2.2.2.2.1 + (S (x1.toNatClampNeg) (x2.toNatClampNeg))) + (C.2.2.2.2.2.2.2.1 ((x1 + x2).toNatClampNeg)))), none]) F dX2_tryFirst_22 (Nat.le_of_ble_eq_true rfl) rfl rfl ?_
  refine g_iconst F 1 dX2_tryFirst_23 rfl ?_
  refine g_aload_n F dX2_tryFirst_24 rfl ?_
  refine g_get (C := RX2) (T := TX2) (N := 12) F 0 0 9 rfl rfl rfl iX2_tryFirst_X2 (by decide) (by decide +kernel) rfl dX2_tryFirst_25 ?_
  refine g_iload_n F dX2_tryFirst_28 rfl ?_
  refine g_iload_n F dX2_tryFirst_29 rfl ?_
  refine g_iadd F dX2_tryFirst_30 ?_
  obtain ⟨hb_4, hf⟩ := gb_in hf
  refine g_iald F 0 4 ((x1 + x2).toNatClampNeg) rfl rfl rfl hb_4 dX2_tryFirst_31 ?_
  refine g_iadd F dX2_tryFirst_32 ?_
  refine g_istore (lv' := [some (.ref (aC 0)), some (.int x1), some (.int x2), some (.int ((C.2.2.2.2.2.2.1 + (S (x1.toNatClampNeg) (x2.toNatClampNeg))) + (C.2.2.2.2.2.2.2.1 ((x1 + x2).toNatClampNeg)))), some (.int (1 + (C.2.2.2.2.2.2.2.2.1 ((x1 + x2).toNatClampNeg))))]) F dX2_tryFirst_33 (Nat.le_of_ble_eq_true rfl) rfl rfl ?_
  refine g_iload_n F dX2_tryFirst_35 rfl ?_
  refine g_ldc F 1000000 (by decide +kernel) dX2_tryFirst_36 ?_
  refine g_icmp_ge F 51 dX2_tryFirst_38 (by decide) (fun hc_4 => ?_) (fun hc_4 => ?_)
  · replace hf := gi_t hc_4 hf
    cases hf
    exact g_vret F rfl ⟨rfl, rfl⟩ dX2_tryFirst_51
  · replace hf := gi_f hc_4 hf
    refine g_iload_n F dX2_tryFirst_41 rfl ?_
    refine g_aload_n F dX2_tryFirst_42 rfl ?_
    refine g_get (C := RX2) (T := TX2) (N := 12) F 0 0 8 rfl rfl rfl iX2_tryFirst_X2 (by decide) (by decide +kernel) rfl dX2_tryFirst_43 ?_
    refine g_iload_n F dX2_tryFirst_46 rfl ?_
    obtain ⟨hb_5, hf⟩ := gb_in hf
    refine g_iald F 0 3 (x1.toNatClampNeg) rfl rfl rfl hb_5 dX2_tryFirst_47 ?_
    refine g_icmp_le F 52 dX2_tryFirst_48 (by decide) (fun hc_3 => ?_) (fun hc_3 => ?_)
    · replace hf := gi_t hc_3 hf
      refine g_iload_n F dX2_tryFirst_52 rfl ?_
      refine g_aload_n F dX2_tryFirst_53 rfl ?_
      refine g_get (C := RX2) (T := TX2) (N := 12) F 0 0 8 rfl rfl rfl iX2_tryFirst_X2 (by decide) (by decide +kernel) rfl dX2_tryFirst_54 ?_
      refine g_iload_n F dX2_tryFirst_57 rfl ?_
      obtain ⟨hb_6, hf⟩ := gb_in hf
      refine g_iald F 0 3 (x1.toNatClampNeg) rfl rfl rfl hb_6 dX2_tryFirst_58 ?_
      obtain ⟨j_1, hj_1, hf⟩ := Lt_el hf
      have hj_1 : j_1 = some C' → Gj p l e rmX2_tryFirst s m ([.ref (aC 0), .int x1, .int x2] : List Value).toArray below meth c 0 0 (MQ below (gQ vwCl E A (fun v w => v = none ∧ w = [sCut E aC aS C', sCutR E aS S])) ([.ref (aC 0), .int x1, .int x2] : List Value).toArray s 0 0 A) vwCl E A [sCut E aC aS C, sCutR E aS S] [some (.ref (aC 0)), some (.int x1), some (.int x2), some (.int ((C.2.2.2.2.2.2.1 + (S (x1.toNatClampNeg) (x2.toNatClampNeg))) + (C.2.2.2.2.2.2.2.1 ((x1 + x2).toNatClampNeg)))), some (.int (1 + (C.2.2.2.2.2.2.2.2.1 ((x1 + x2).toNatClampNeg))))] [] 73 := by
        intro hf
        rw [hj_1] at hf
        refine g_aload_n F dX2_tryFirst_73 rfl ?_
        refine g_get (C := RX2) (T := TX2) (N := 12) F 0 0 8 rfl rfl rfl iX2_tryFirst_X2 (by decide) (by decide +kernel) rfl dX2_tryFirst_74 ?_
        refine g_iload_n F dX2_tryFirst_77 rfl ?_
        refine g_iload_n F dX2_tryFirst_78 rfl ?_
        obtain ⟨hb_7, hf⟩ := gb_in hf
        obtain ⟨C_1, hC_1, hf⟩ := Lt_el hf
        refine g_iast (Lw' := [sCut E aC aS C_1, sCutR E aS S]) F 0 3 (x1.toNatClampNeg) rfl rfl rfl hb_7 dX2_tryFirst_79 (by subst hC_1; rfl) ?_
        refine g_aload_n F dX2_tryFirst_80 rfl ?_
        refine g_get (C := RX2) (T := TX2) (N := 12) F 0 0 9 rfl rfl rfl iX2_tryFirst_X2 (by decide) (by decide +kernel) rfl dX2_tryFirst_81 ?_
        refine g_iload_n F dX2_tryFirst_84 rfl ?_
        refine g_iload F dX2_tryFirst_85 rfl ?_
        obtain ⟨hb_8, hf⟩ := gb_in hf
        obtain ⟨C_2, hC_2, hf⟩ := Lt_el hf
        refine g_iast (Lw' := [sCut E aC aS C_2, sCutR E aS S]) F 0 4 (x1.toNatClampNeg) rfl rfl rfl hb_8 dX2_tryFirst_87 (by subst hC_2; rfl) ?_
        refine g_aload_n F dX2_tryFirst_88 rfl ?_
        refine g_get (C := RX2) (T := TX2) (N := 12) F 0 0 10 rfl rfl rfl iX2_tryFirst_X2 (by decide) (by decide +kernel) rfl dX2_tryFirst_89 ?_
        refine g_iload_n F dX2_tryFirst_92 rfl ?_
        refine g_iload_n F dX2_tryFirst_93 rfl ?_
        obtain ⟨hb_9, hf⟩ := gb_in hf
        obtain ⟨C_3, hC_3, hf⟩ := Lt_el hf
        refine g_iast (Lw' := [sCut E aC aS C_3, sCutR E aS S]) F 0 5 (x1.toNatClampNeg) rfl rfl rfl hb_9 dX2_tryFirst_94 (by subst hC_3; rfl) ?_
        cases hf
        exact g_vret F rfl ⟨rfl, rfl⟩ dX2_tryFirst_95
      refine g_icmp_lt F 73 dX2_tryFirst_59 (by decide) (fun hc_2 => ?_) (fun hc_2 => ?_)
      · replace hf := gi_t hc_2 hf
        exact hj_1 hf
      · replace hf := gi_f hc_2 hf
        refine g_iload F dX2_tryFirst_62 rfl ?_
        refine g_aload_n F dX2_tryFirst_64 rfl ?_
        refine g_get (C := RX2) (T := TX2) (N := 12) F 0 0 9 rfl rfl rfl iX2_tryFirst_X2 (by decide) (by decide +kernel) rfl dX2_tryFirst_65 ?_
        refine g_iload_n F dX2_tryFirst_68 rfl ?_
        obtain ⟨hb_10, hf⟩ := gb_in hf
        refine g_iald F 0 4 (x1.toNatClampNeg) rfl rfl rfl hb_10 dX2_tryFirst_69 ?_
        refine g_icmp_ge F 95 dX2_tryFirst_70 (by decide) (fun hc_1 => ?_) (fun hc_1 => ?_)
        · replace hf := gi_t hc_1 hf
          cases hf
          exact g_vret F rfl ⟨rfl, rfl⟩ dX2_tryFirst_95
        · replace hf := gi_f hc_1 hf
          exact hj_1 hf
    · replace hf := gi_f hc_3 hf
      cases hf
      exact g_vret F rfl ⟨rfl, rfl⟩ dX2_tryFirst_51
set_option maxHeartbeats 4000000 in
set_option maxRecDepth 100000 in
theorem ktX2_solve_L59 {p : Program} {l : Launch} {e : Env} {s : State} {m : MethodId} {args : Array Value} {below : List Frame} {meth : Method} {c : Code} {E : gE} {A : Nat → Prop} (F : gFx p s m args meth c RX2 wsX2_solve cX2_solve 3 none vwCl E A) (aC aS : Nat → Nat) (x1 : Int32) (S : tCutR) (C' : tCut) {k : tCut → Option (tCut)} (hk : ∀ (C : tCut), k C = some C' → Gj p l e rmX2_solve s m args below meth c 0 0 (MQ below (gQ vwCl E A (fun v w => v = none ∧ w = [sCut E aC aS C', sCutR E aS S])) args s 0 0 A) vwCl E A [sCut E aC aS C, sCutR E aS S] [some (.ref (aC 0)), some (.int x1), none] [] 76) : ∀ (n : Nat) (x2 : Int32) (C : tCut), fX2_solve_L59 x1 S k n x2 C = some C' → Gj p l e rmX2_solve s m args below meth c 0 0 (MQ below (gQ vwCl E A (fun v w => v = none ∧ w = [sCut E aC aS C', sCutR E aS S])) args s 0 0 A) vwCl E A [sCut E aC aS C, sCutR E aS S] [some (.ref (aC 0)), some (.int x1), some (.int x2)] [] 59
  | 0, _, _, hf => by cases hf
  | n + 1, x2, C, hf => by
    have ih := ktX2_solve_L59 F aC aS x1 S C' hk n
    rw [fX2_solve_L59] at hf
    refine g_iload_n F dX2_solve_59 rfl ?_
    refine g_iconst F 1 dX2_solve_60 rfl ?_
    refine g_icmp_lt F 76 dX2_solve_61 (by decide) (fun hc_1 => ?_) (fun hc_1 => ?_)
    · replace hf := gi_t hc_1 hf
      refine g_mask [true, true, false] rfl ?_
      exact hk C hf
    · replace hf := gi_f hc_1 hf
      refine g_aload_n F dX2_solve_64 rfl ?_
      refine g_iload_n F dX2_solve_65 rfl ?_
      refine g_iload_n F dX2_solve_66 rfl ?_
      obtain ⟨C_1, hg_1, hf⟩ := gb1_el hf
      refine g_callV (C := RX2) (T := TX2) (N := 12) (Lr := []) (As := [.int x1, .int x2]) (rest := []) F 0 0 2 (ctX2_tryFirst l E aC aS x1 x2 C S C_1 hg_1) gX2_solve_X2_tryFirst rfl rfl rfl h0X2_tryFirst ⟨Nat.le_of_ble_eq_true rfl, Nat.le_of_ble_eq_true rfl⟩ rfl rfl rfl [0, 1] [] rfl rfl rfl rfl rfl rfl (Nat.le_of_ble_eq_true rfl) dX2_solve_67 ⟨(Nat.le_of_ble_eq_true rfl), (Nat.le_of_ble_eq_true rfl)⟩ ?_
      rintro v w ⟨rfl, rfl⟩
      refine g_norm (Lw' := [sCut E aC aS C_1, sCutR E aS S]) (st' := []) (pc' := 70) [0, 1] rfl rfl rfl rfl ?_
      refine g_iinc (lv' := [some (.ref (aC 0)), some (.int x1), some (.int (x2 + (-1)))]) F (x2 + (-1)) dX2_solve_70 rfl rfl rfl rfl ?_
      refine g_goto F 59 dX2_solve_73 (by decide) ?_
      exact ih (x2 + (-1)) C_1 hf
set_option maxHeartbeats 4000000 in
set_option maxRecDepth 100000 in
theorem ktX2_solve_L27 {p : Program} {l : Launch} {e : Env} {s : State} {m : MethodId} {args : Array Value} {below : List Frame} {meth : Method} {c : Code} {E : gE} {A : Nat → Prop} (F : gFx p s m args meth c RX2 wsX2_solve cX2_solve 3 none vwCl E A) (aC aS : Nat → Nat) (S : tCutR) (C' : tCut) {k : tCut → Option (tCut)} (hk : ∀ (C : tCut), k C = some C' → Gj p l e rmX2_solve s m args below meth c 0 0 (MQ below (gQ vwCl E A (fun v w => v = none ∧ w = [sCut E aC aS C', sCutR E aS S])) args s 0 0 A) vwCl E A [sCut E aC aS C, sCutR E aS S] [none, none, none] [] 82) : ∀ (n : Nat) (x1 : Int32) (C : tCut), fX2_solve_L27 S k n x1 C = some C' → Gj p l e rmX2_solve s m args below meth c 0 0 (MQ below (gQ vwCl E A (fun v w => v = none ∧ w = [sCut E aC aS C', sCutR E aS S])) args s 0 0 A) vwCl E A [sCut E aC aS C, sCutR E aS S] [some (.ref (aC 0)), some (.int x1), none] [] 27
  | 0, _, _, hf => by cases hf
  | n + 1, x1, C, hf => by
    have ih := ktX2_solve_L27 F aC aS S C' hk n
    rw [fX2_solve_L27] at hf
    refine g_iload_n F dX2_solve_27 rfl ?_
    refine g_iflt F 82 dX2_solve_28 (by decide) (fun hc_1 => ?_) (fun hc_1 => ?_)
    · replace hf := gi_t hc_1 hf
      refine g_mask [false, false, true] rfl ?_
      exact hk C hf
    · replace hf := gi_f hc_1 hf
      refine g_aload_n F dX2_solve_31 rfl ?_
      refine g_get (C := RX2) (T := TX2) (N := 12) F 0 0 8 rfl rfl rfl iX2_solve_X2 (by decide) (by decide +kernel) rfl dX2_solve_32 ?_
      refine g_iload_n F dX2_solve_35 rfl ?_
      refine g_ldc F 1000000 (by decide +kernel) dX2_solve_36 ?_
      obtain ⟨hb_1, hf⟩ := gb_in hf
      obtain ⟨C_1, hC_1, hf⟩ := Lt_el hf
      refine g_iast (Lw' := [sCut E aC aS C_1, sCutR E aS S]) F 0 3 (x1.toNatClampNeg) rfl rfl rfl hb_1 dX2_solve_38 (by subst hC_1; rfl) ?_
      refine g_aload_n F dX2_solve_39 rfl ?_
      refine g_get (C := RX2) (T := TX2) (N := 12) F 0 0 9 rfl rfl rfl iX2_solve_X2 (by decide) (by decide +kernel) rfl dX2_solve_40 ?_
      refine g_iload_n F dX2_solve_43 rfl ?_
      refine g_iconst F 0 dX2_solve_44 rfl ?_
      obtain ⟨hb_2, hf⟩ := gb_in hf
      obtain ⟨C_2, hC_2, hf⟩ := Lt_el hf
      refine g_iast (Lw' := [sCut E aC aS C_2, sCutR E aS S]) F 0 4 (x1.toNatClampNeg) rfl rfl rfl hb_2 dX2_solve_45 (by subst hC_2; rfl) ?_
      refine g_aload_n F dX2_solve_46 rfl ?_
      refine g_get (C := RX2) (T := TX2) (N := 12) F 0 0 10 rfl rfl rfl iX2_solve_X2 (by decide) (by decide +kernel) rfl dX2_solve_47 ?_
      refine g_iload_n F dX2_solve_50 rfl ?_
      refine g_iconst F 0 dX2_solve_51 rfl ?_
      obtain ⟨hb_3, hf⟩ := gb_in hf
      obtain ⟨C_3, hC_3, hf⟩ := Lt_el hf
      refine g_iast (Lw' := [sCut E aC aS C_3, sCutR E aS S]) F 0 5 (x1.toNatClampNeg) rfl rfl rfl hb_3 dX2_solve_52 (by subst hC_3; rfl) ?_
      refine g_aload_n F dX2_solve_53 rfl ?_
      refine g_iload_n F dX2_solve_54 rfl ?_
      obtain ⟨r_1, hg_1, hf⟩ := gb1_el hf
      refine g_callV (C := RX2) (T := TX2) (N := 12) (Lr := [sCutR E aS S]) (As := [.int x1]) (rest := []) F 0 0 1 (ctX2_longestAt l E aC aS x1 C_3 r_1 hg_1) gX2_solve_X2_longestAt rfl rfl rfl h0X2_longestAt ⟨Nat.le_of_ble_eq_true rfl, Nat.le_of_ble_eq_true rfl⟩ rfl rfl rfl [0] [1] rfl rfl rfl rfl rfl rfl (Nat.le_of_ble_eq_true rfl) dX2_solve_55 ⟨(Nat.le_of_ble_eq_true rfl), (Nat.le_of_ble_eq_true rfl)⟩ ?_
      rintro v w ⟨rfl, rfl⟩
      refine g_norm (Lw' := [sCut E aC aS C_3, sCutR E aS S]) (st' := [.int r_1]) (pc' := 58) [0, 1] rfl rfl rfl rfl ?_
      refine g_istore_n (lv' := [some (.ref (aC 0)), some (.int x1), some (.int r_1)]) F dX2_solve_58 (Nat.le_of_ble_eq_true rfl) rfl rfl ?_
      refine ktX2_solve_L59 F aC aS x1 S C' (fun C_4 hf => ?_) FU r_1 C_3 hf
      refine g_iinc (lv' := [some (.ref (aC 0)), some (.int (x1 + (-1))), none]) F (x1 + (-1)) dX2_solve_76 rfl rfl rfl rfl ?_
      refine g_goto F 27 dX2_solve_79 (by decide) ?_
      exact ih (x1 + (-1)) C_4 hf
set_option maxHeartbeats 4000000 in
set_option maxRecDepth 100000 in
theorem ctX2_solve (l : Launch) (E : gE) (aC aS : Nat → Nat) (C : tCut) (S : tCutR) (C' : tCut) (hf : fX2_solve C S = some C') : gMet l yX2_solve wsX2_solve rmX2_solve vwCl E [.ref (aC 0)] [sCut E aC aS C, sCutR E aS S] (fun v w => v = none ∧ w = [sCut E aC aS C', sCutR E aS S]) 0 0 := by
  refine g_entry [some (.ref (aC 0)), none, none] (by decide) rfl (Nat.le_of_ble_eq_true rfl) rfl ?_
  intro p e s m below meth c A F hnm
  unfold fX2_solve at hf
  refine g_aload_n F dX2_solve_0 rfl ?_
  refine g_get (C := RX2) (T := TX2) (N := 12) F 0 0 8 rfl rfl rfl iX2_solve_X2 (by decide) (by decide +kernel) rfl dX2_solve_1 ?_
  refine g_aload_n F dX2_solve_4 rfl ?_
  refine g_get (C := RX2) (T := TX2) (N := 12) F 0 0 5 rfl rfl rfl iX2_solve_X2 (by decide) (by decide +kernel) rfl dX2_solve_5 ?_
  refine g_iconst F 0 dX2_solve_8 rfl ?_
  obtain ⟨hb_1, hf⟩ := gb_in hf
  obtain ⟨C_1, hC_1, hf⟩ := Lt_el hf
  refine g_iast (Lw' := [sCut E aC aS C_1, sCutR E aS S]) F 0 3 (C.2.2.2.2.2.1.toNatClampNeg) rfl rfl rfl hb_1 dX2_solve_9 (by subst hC_1; rfl) ?_
  refine g_aload_n F dX2_solve_10 rfl ?_
  refine g_get (C := RX2) (T := TX2) (N := 12) F 0 0 9 rfl rfl rfl iX2_solve_X2 (by decide) (by decide +kernel) rfl dX2_solve_11 ?_
  refine g_aload_n F dX2_solve_14 rfl ?_
  refine g_get (C := RX2) (T := TX2) (N := 12) F 0 0 5 rfl rfl rfl iX2_solve_X2 (by decide) (by decide +kernel) rfl dX2_solve_15 ?_
  refine g_iconst F 0 dX2_solve_18 rfl ?_
  obtain ⟨hb_2, hf⟩ := gb_in hf
  obtain ⟨C_2, hC_2, hf⟩ := Lt_el hf
  refine g_iast (Lw' := [sCut E aC aS C_2, sCutR E aS S]) F 0 4 (C_1.2.2.2.2.2.1.toNatClampNeg) rfl rfl rfl hb_2 dX2_solve_19 (by subst hC_2; rfl) ?_
  refine g_aload_n F dX2_solve_20 rfl ?_
  refine g_get (C := RX2) (T := TX2) (N := 12) F 0 0 5 rfl rfl rfl iX2_solve_X2 (by decide) (by decide +kernel) rfl dX2_solve_21 ?_
  refine g_iconst F 1 dX2_solve_24 rfl ?_
  refine g_isub F dX2_solve_25 ?_
  refine g_istore_n (lv' := [some (.ref (aC 0)), some (.int (C_2.2.2.2.2.2.1 - 1)), none]) F dX2_solve_26 (Nat.le_of_ble_eq_true rfl) rfl rfl ?_
  refine ktX2_solve_L27 F aC aS S C' (fun C_3 hf => ?_) FU (C_2.2.2.2.2.2.1 - 1) C_2 hf
  cases hf
  exact g_vret F rfl ⟨rfl, rfl⟩ dX2_solve_82
set_option maxHeartbeats 4000000 in
set_option maxRecDepth 100000 in
theorem ktX2_collectParts_L7 {p : Program} {l : Launch} {e : Env} {s : State} {m : MethodId} {args : Array Value} {below : List Frame} {meth : Method} {c : Code} {E : gE} {A : Nat → Prop} (F : gFx p s m args meth c RX2 wsX2_collectParts cX2_collectParts 2 none vwCl E A) (aC aS : Nat → Nat) (C' : tCut) {k : tCut → Option (tCut)} (hk : ∀ (C : tCut), k C = some C' → Gj p l e rmX2_collectParts s m args below meth c 0 0 (MQ below (gQ vwCl E A (fun v w => v = none ∧ w = [sCut E aC aS C'])) args s 0 0 A) vwCl E A [sCut E aC aS C] [none, none] [] 78) : ∀ (n : Nat) (x1 : Int32) (C : tCut), fX2_collectParts_L7 k n x1 C = some C' → Gj p l e rmX2_collectParts s m args below meth c 0 0 (MQ below (gQ vwCl E A (fun v w => v = none ∧ w = [sCut E aC aS C'])) args s 0 0 A) vwCl E A [sCut E aC aS C] [some (.ref (aC 0)), some (.int x1)] [] 7
  | 0, _, _, hf => by cases hf
  | n + 1, x1, C, hf => by
    have ih := ktX2_collectParts_L7 F aC aS C' hk n
    rw [fX2_collectParts_L7] at hf
    refine g_iload_n F dX2_collectParts_7 rfl ?_
    refine g_aload_n F dX2_collectParts_8 rfl ?_
    refine g_get (C := RX2) (T := TX2) (N := 12) F 0 0 5 rfl rfl rfl iX2_collectParts_X2 (by decide) (by decide +kernel) rfl dX2_collectParts_9 ?_
    refine g_icmp_ge F 78 dX2_collectParts_12 (by decide) (fun hc_3 => ?_) (fun hc_3 => ?_)
    · replace hf := gi_t hc_3 hf
      refine g_mask [false, false] rfl ?_
      exact hk C hf
    · replace hf := gi_f hc_3 hf
      refine g_aload_n F dX2_collectParts_15 rfl ?_
      refine g_get (C := RX2) (T := TX2) (N := 12) F 0 0 0 rfl rfl rfl iX2_collectParts_X2 (by decide) (by decide +kernel) rfl dX2_collectParts_16 ?_
      refine g_bipush F 12 dX2_collectParts_19 rfl ?_
      refine g_icmp_ge F 78 dX2_collectParts_21 (by decide) (fun hc_2 => ?_) (fun hc_2 => ?_)
      · replace hf := gi_t hc_2 hf
        refine g_mask [false, false] rfl ?_
        exact hk C hf
      · replace hf := gi_f hc_2 hf
        refine g_aload_n F dX2_collectParts_24 rfl ?_
        refine g_get (C := RX2) (T := TX2) (N := 12) F 0 0 10 rfl rfl rfl iX2_collectParts_X2 (by decide) (by decide +kernel) rfl dX2_collectParts_25 ?_
        refine g_iload_n F dX2_collectParts_28 rfl ?_
        obtain ⟨hb_1, hf⟩ := gb_in hf
        refine g_iald F 0 5 (x1.toNatClampNeg) rfl rfl rfl hb_1 dX2_collectParts_29 ?_
        refine g_ifle F 78 dX2_collectParts_30 (by decide) (fun hc_1 => ?_) (fun hc_1 => ?_)
        · replace hf := gi_t hc_1 hf
          refine g_mask [false, false] rfl ?_
          exact hk C hf
        · replace hf := gi_f hc_1 hf
          refine g_aload_n F dX2_collectParts_33 rfl ?_
          refine g_get (C := RX2) (T := TX2) (N := 12) F 0 0 1 rfl rfl rfl iX2_collectParts_X2 (by decide) (by decide +kernel) rfl dX2_collectParts_34 ?_
          refine g_aload_n F dX2_collectParts_37 rfl ?_
          refine g_get (C := RX2) (T := TX2) (N := 12) F 0 0 0 rfl rfl rfl iX2_collectParts_X2 (by decide) (by decide +kernel) rfl dX2_collectParts_38 ?_
          refine g_aload_n F dX2_collectParts_41 rfl ?_
          refine g_get (C := RX2) (T := TX2) (N := 12) F 0 0 4 rfl rfl rfl iX2_collectParts_X2 (by decide) (by decide +kernel) rfl dX2_collectParts_42 ?_
          refine g_iload_n F dX2_collectParts_45 rfl ?_
          refine g_aload_n F dX2_collectParts_46 rfl ?_
          refine g_get (C := RX2) (T := TX2) (N := 12) F 0 0 10 rfl rfl rfl iX2_collectParts_X2 (by decide) (by decide +kernel) rfl dX2_collectParts_47 ?_
          refine g_iload_n F dX2_collectParts_50 rfl ?_
          obtain ⟨hb_2, hf⟩ := gb_in hf
          refine g_iald F 0 5 (x1.toNatClampNeg) rfl rfl rfl hb_2 dX2_collectParts_51 ?_
          obtain ⟨r_1, hg_1, hf⟩ := gb1_el hf
          refine g_callS (Lr := [sCut E aC aS C]) (As := [.long C.2.2.2.2.1, .int x1, .int (C.2.2.2.2.2.2.2.2.2.1 (x1.toNatClampNeg))]) (rest := [.int C.1, .ref (aC 1)]) F 3 (ctX4_section l E C.2.2.2.2.1 x1 (C.2.2.2.2.2.2.2.2.2.1 (x1.toNatClampNeg)) r_1 hg_1) (va_cwS 3 F.2.2.2.2.2.1 gX2_collectParts_X4_section rfl rfl rfl h0X4_section ⟨Nat.le_of_ble_eq_true rfl, Nat.le_of_ble_eq_true rfl⟩) [] [0] rfl rfl rfl rfl rfl rfl (Nat.le_of_ble_eq_true rfl) dX2_collectParts_52 ⟨(Nat.le_of_ble_eq_true rfl), (Nat.le_of_ble_eq_true rfl)⟩ ?_
          rintro v w ⟨rfl, rfl⟩
          refine g_norm (Lw' := [sCut E aC aS C]) (st' := [.long r_1, .int C.1, .ref (aC 1)]) (pc' := 55) [0] rfl rfl rfl rfl ?_
          obtain ⟨hb_3, hf⟩ := gb_in hf
          obtain ⟨C_1, hC_1, hf⟩ := Lt_el hf
          refine g_last (Lw' := [sCut E aC aS C_1]) F 0 1 (C.1.toNatClampNeg) rfl rfl rfl hb_3 dX2_collectParts_55 (by subst hC_1; rfl) ?_
          refine g_iload_n F dX2_collectParts_56 rfl ?_
          refine g_aload_n F dX2_collectParts_57 rfl ?_
          refine g_get (C := RX2) (T := TX2) (N := 12) F 0 0 10 rfl rfl rfl iX2_collectParts_X2 (by decide) (by decide +kernel) rfl dX2_collectParts_58 ?_
          refine g_iload_n F dX2_collectParts_61 rfl ?_
          obtain ⟨hb_4, hf⟩ := gb_in hf
          refine g_iald F 0 5 (x1.toNatClampNeg) rfl rfl rfl hb_4 dX2_collectParts_62 ?_
          refine g_iadd F dX2_collectParts_63 ?_
          refine g_istore_n (lv' := [some (.ref (aC 0)), some (.int (x1 + (C_1.2.2.2.2.2.2.2.2.2.1 (x1.toNatClampNeg))))]) F dX2_collectParts_64 (Nat.le_of_ble_eq_true rfl) rfl rfl ?_
          refine g_aload_n F dX2_collectParts_65 rfl ?_
          refine g_dup F dX2_collectParts_66 rfl ?_
          refine g_get (C := RX2) (T := TX2) (N := 12) F 0 0 0 rfl rfl rfl iX2_collectParts_X2 (by decide) (by decide +kernel) rfl dX2_collectParts_67 ?_
          refine g_iconst F 1 dX2_collectParts_70 rfl ?_
          refine g_iadd F dX2_collectParts_71 ?_
          refine g_put (C := RX2) (T := TX2) (N := 12) (tys := tyX2) (Lw' := [sCut E aC aS (C_1.1 + 1, C_1.2.1, C_1.2.2.1, C_1.2.2.2.1, C_1.2.2.2.2.1, C_1.2.2.2.2.2.1, C_1.2.2.2.2.2.2.1, C_1.2.2.2.2.2.2.2.1, C_1.2.2.2.2.2.2.2.2.1, C_1.2.2.2.2.2.2.2.2.2.1, C_1.2.2.2.2.2.2.2.2.2.2)]) F 0 0 0 rfl rfl rfl iX2_collectParts_X2 tyX2_ok nmX2 (by decide) (by decide +kernel) rfl rfl rfl rfl (Nat.le_of_ble_eq_true rfl) dX2_collectParts_72 rfl ?_
          refine g_goto F 7 dX2_collectParts_75 (by decide) ?_
          exact ih (x1 + (C_1.2.2.2.2.2.2.2.2.2.1 (x1.toNatClampNeg))) (C_1.1 + 1, C_1.2.1, C_1.2.2.1, C_1.2.2.2.1, C_1.2.2.2.2.1, C_1.2.2.2.2.2.1, C_1.2.2.2.2.2.2.1, C_1.2.2.2.2.2.2.2.1, C_1.2.2.2.2.2.2.2.2.1, C_1.2.2.2.2.2.2.2.2.2.1, C_1.2.2.2.2.2.2.2.2.2.2) hf
set_option maxHeartbeats 4000000 in
set_option maxRecDepth 100000 in
theorem ctX2_collectParts (l : Launch) (E : gE) (aC aS : Nat → Nat) (C : tCut) (C' : tCut) (hf : fX2_collectParts C = some C') : gMet l yX2_collectParts wsX2_collectParts rmX2_collectParts vwCl E [.ref (aC 0)] [sCut E aC aS C] (fun v w => v = none ∧ w = [sCut E aC aS C']) 0 0 := by
  refine g_entry [some (.ref (aC 0)), none] (by decide) rfl (Nat.le_of_ble_eq_true rfl) rfl ?_
  intro p e s m below meth c A F hnm
  unfold fX2_collectParts at hf
  refine g_aload_n F dX2_collectParts_0 rfl ?_
  refine g_iconst F 0 dX2_collectParts_1 rfl ?_
  refine g_put (C := RX2) (T := TX2) (N := 12) (tys := tyX2) (Lw' := [sCut E aC aS (0, C.2.1, C.2.2.1, C.2.2.2.1, C.2.2.2.2.1, C.2.2.2.2.2.1, C.2.2.2.2.2.2.1, C.2.2.2.2.2.2.2.1, C.2.2.2.2.2.2.2.2.1, C.2.2.2.2.2.2.2.2.2.1, C.2.2.2.2.2.2.2.2.2.2)]) F 0 0 0 rfl rfl rfl iX2_collectParts_X2 tyX2_ok nmX2 (by decide) (by decide +kernel) rfl rfl rfl rfl (Nat.le_of_ble_eq_true rfl) dX2_collectParts_2 rfl ?_
  refine g_iconst F 0 dX2_collectParts_5 rfl ?_
  refine g_istore_n (lv' := [some (.ref (aC 0)), some (.int 0)]) F dX2_collectParts_6 (Nat.le_of_ble_eq_true rfl) rfl rfl ?_
  refine ktX2_collectParts_L7 F aC aS C' (fun C_1 hf => ?_) FU 0 (0, C.2.1, C.2.2.1, C.2.2.2.1, C.2.2.2.2.1, C.2.2.2.2.2.1, C.2.2.2.2.2.2.1, C.2.2.2.2.2.2.2.1, C.2.2.2.2.2.2.2.2.1, C.2.2.2.2.2.2.2.2.2.1, C.2.2.2.2.2.2.2.2.2.2) hf
  cases hf
  exact g_vret F rfl ⟨rfl, rfl⟩ dX2_collectParts_78
set_option maxHeartbeats 4000000 in
set_option maxRecDepth 100000 in
theorem ctX2_cutKnown (l : Launch) (E : gE) (aC aS aB asettings asums aU aP aW : Nat → Nat) (x2 : Int64) (C : tCut) (S : tCutR) (B_time : Int32) (B_chest : Int32) (B_fund : Int32) (settings : (Nat → Int32)) (P : tPieces) (C' : tCut) (S' : tCutR) (hf : fX2_cutKnown x2 C S settings P = some (C', S')) : gMet l yX2_cutKnown wsX2_cutKnown rmX2_cutKnown vwCl E [.ref (aC 0), .ref (aB 0), .long x2] [sCut E aC aS C, sCutR E aS S, sBook E aB asettings asums aU aP aW B_time B_chest B_fund, sArrI E asettings 5 settings, sPieces E aP P] (fun v w => v = none ∧ w = [sCut E aC aS C', sCutR E aS S', sBook E aB asettings asums aU aP aW B_time B_chest B_fund, sArrI E asettings 5 settings, sPieces E aP P]) 0 0 := by
  refine g_entry [some (.ref (aC 0)), some (.ref (aB 0)), some (.long x2), none] (by decide) rfl (Nat.le_of_ble_eq_true rfl) rfl ?_
  intro p e s m below meth c A F hnm
  unfold fX2_cutKnown at hf
  refine g_aload_n F dX2_cutKnown_0 rfl ?_
  refine g_aload_n F dX2_cutKnown_1 rfl ?_
  refine g_lload_n F dX2_cutKnown_2 rfl ?_
  refine g_iconst F 0 dX2_cutKnown_3 rfl ?_
  obtain ⟨C_1, S_1, hg_1, hf⟩ := gb2_el hf
  refine g_callV (C := RX2) (T := TX2) (N := 12) (Lr := []) (As := [.ref (aB 0), .long x2, .int 0]) (rest := []) F 0 0 3 (ctX2_lookUp l E aC aS aB asettings asums aU aP aW x2 0 C S B_time B_chest B_fund settings P C_1 S_1 hg_1) gX2_cutKnown_X2_lookUp rfl rfl rfl h0X2_lookUp ⟨Nat.le_of_ble_eq_true rfl, Nat.le_of_ble_eq_true rfl⟩ rfl rfl rfl [0, 1, 2, 3, 4] [] rfl rfl rfl rfl rfl rfl (Nat.le_of_ble_eq_true rfl) dX2_cutKnown_4 ⟨(Nat.le_of_ble_eq_true rfl), (Nat.le_of_ble_eq_true rfl)⟩ ?_
  rintro v w ⟨rfl, rfl⟩
  refine g_norm (Lw' := [sCut E aC aS C_1, sCutR E aS S_1, sBook E aB asettings asums aU aP aW B_time B_chest B_fund, sArrI E asettings 5 settings, sPieces E aP P]) (st' := []) (pc' := 7) [0, 1, 2, 3, 4] rfl rfl rfl rfl ?_
  refine g_aload_n F dX2_cutKnown_7 rfl ?_
  obtain ⟨C_2, hg_2, hf⟩ := gb1_el hf
  refine g_callV (C := RX2) (T := TX2) (N := 12) (Lr := [sBook E aB asettings asums aU aP aW B_time B_chest B_fund, sArrI E asettings 5 settings, sPieces E aP P]) (As := []) (rest := []) F 0 0 0 (ctX2_solve l E aC aS C_1 S_1 C_2 hg_2) gX2_cutKnown_X2_solve rfl rfl rfl h0X2_solve ⟨Nat.le_of_ble_eq_true rfl, Nat.le_of_ble_eq_true rfl⟩ rfl rfl rfl [0, 1] [2, 3, 4] rfl rfl rfl rfl rfl rfl (Nat.le_of_ble_eq_true rfl) dX2_cutKnown_8 ⟨(Nat.le_of_ble_eq_true rfl), (Nat.le_of_ble_eq_true rfl)⟩ ?_
  rintro v w ⟨rfl, rfl⟩
  refine g_norm (Lw' := [sCut E aC aS C_2, sCutR E aS S_1, sBook E aB asettings asums aU aP aW B_time B_chest B_fund, sArrI E asettings 5 settings, sPieces E aP P]) (st' := []) (pc' := 11) [0, 1, 2, 3, 4] rfl rfl rfl rfl ?_
  refine g_aload_n F dX2_cutKnown_11 rfl ?_
  obtain ⟨C_3, hg_3, hf⟩ := gb1_el hf
  refine g_callV (C := RX2) (T := TX2) (N := 12) (Lr := [sCutR E aS S_1, sBook E aB asettings asums aU aP aW B_time B_chest B_fund, sArrI E asettings 5 settings, sPieces E aP P]) (As := []) (rest := []) F 0 0 0 (ctX2_collectParts l E aC aS C_2 C_3 hg_3) gX2_cutKnown_X2_collectParts rfl rfl rfl h0X2_collectParts ⟨Nat.le_of_ble_eq_true rfl, Nat.le_of_ble_eq_true rfl⟩ rfl rfl rfl [0] [1, 2, 3, 4] rfl rfl rfl rfl rfl rfl (Nat.le_of_ble_eq_true rfl) dX2_cutKnown_12 ⟨(Nat.le_of_ble_eq_true rfl), (Nat.le_of_ble_eq_true rfl)⟩ ?_
  rintro v w ⟨rfl, rfl⟩
  refine g_norm (Lw' := [sCut E aC aS C_3, sCutR E aS S_1, sBook E aB asettings asums aU aP aW B_time B_chest B_fund, sArrI E asettings 5 settings, sPieces E aP P]) (st' := []) (pc' := 15) [0, 1, 2, 3, 4] rfl rfl rfl rfl ?_
  cases hf
  exact g_vret F rfl ⟨rfl, rfl⟩ dX2_cutKnown_15
set_option maxHeartbeats 4000000 in
set_option maxRecDepth 100000 in
theorem ktX2_setSurcharge_L6 {p : Program} {l : Launch} {e : Env} {s : State} {m : MethodId} {args : Array Value} {below : List Frame} {meth : Method} {c : Code} {E : gE} {A : Nat → Prop} (F : gFx p s m args meth c RX2 wsX2_setSurcharge cX2_setSurcharge 7 (some .boolean) vwCl E A) (aC aS : Nat → Nat) (x1 : Int64) (x3 : Int32) (x4 : Int32) (C : tCut) (r : Int32) (S' : tCutR) {k : Int32 → tCutR → Option (Int32 × tCutR)} (hk : ∀ (x5 : Int32) (S : tCutR), k x5 S = some (r, S') → Gj p l e rmX2_setSurcharge s m args below meth c 0 0 (MQ below (gQ vwCl E A (fun v w => v = some (.int r) ∧ w = [sCut E aC aS C, sCutR E aS S'] ∧ narrow .boolean (.int r) = .int r)) args s 0 0 A) vwCl E A [sCut E aC aS C, sCutR E aS S] [none, none, none, none, none, some (.int x5), none] [] 52) : ∀ (n : Nat) (x5 : Int32) (x6 : Int32) (S : tCutR), fX2_setSurcharge_L6 x1 x3 x4 C k n x5 x6 S = some (r, S') → Gj p l e rmX2_setSurcharge s m args below meth c 0 0 (MQ below (gQ vwCl E A (fun v w => v = some (.int r) ∧ w = [sCut E aC aS C, sCutR E aS S'] ∧ narrow .boolean (.int r) = .int r)) args s 0 0 A) vwCl E A [sCut E aC aS C, sCutR E aS S] [some (.ref (aC 0)), some (.long x1), none, some (.int x3), some (.int x4), some (.int x5), some (.int x6)] [] 6
  | 0, _, _, _, hf => by cases hf
  | n + 1, x5, x6, S, hf => by
    have ih := ktX2_setSurcharge_L6 F aC aS x1 x3 x4 C r S' hk n
    rw [fX2_setSurcharge_L6] at hf
    refine g_iload F dX2_setSurcharge_6 rfl ?_
    refine g_iload_n F dX2_setSurcharge_8 rfl ?_
    refine g_iadd F dX2_setSurcharge_9 ?_
    refine g_aload_n F dX2_setSurcharge_10 rfl ?_
    refine g_get (C := RX2) (T := TX2) (N := 12) F 0 0 5 rfl rfl rfl iX2_setSurcharge_X2 (by decide) (by decide +kernel) rfl dX2_setSurcharge_11 ?_
    refine g_icmp_gt F 52 dX2_setSurcharge_14 (by decide) (fun hc_2 => ?_) (fun hc_2 => ?_)
    · replace hf := gi_t hc_2 hf
      refine g_mask [false, false, true, false, false, true, false] rfl ?_
      exact hk x5 S hf
    · replace hf := gi_f hc_2 hf
      refine g_aload_n F dX2_setSurcharge_17 rfl ?_
      refine g_get (C := RX2) (T := TX2) (N := 12) F 0 0 4 rfl rfl rfl iX2_setSurcharge_X2 (by decide) (by decide +kernel) rfl dX2_setSurcharge_18 ?_
      refine g_iload F dX2_setSurcharge_21 rfl ?_
      refine g_iload_n F dX2_setSurcharge_23 rfl ?_
      obtain ⟨r_1, hg_1, hf⟩ := gb1_el hf
      refine g_callS (Lr := [sCut E aC aS C, sCutR E aS S]) (As := [.long C.2.2.2.2.1, .int x6, .int x3]) (rest := []) F 3 (ctX4_section l E C.2.2.2.2.1 x6 x3 r_1 hg_1) (va_cwS 3 F.2.2.2.2.2.1 gX2_setSurcharge_X4_section rfl rfl rfl h0X4_section ⟨Nat.le_of_ble_eq_true rfl, Nat.le_of_ble_eq_true rfl⟩) [] [0, 1] rfl rfl rfl rfl rfl rfl (Nat.le_of_ble_eq_true rfl) dX2_setSurcharge_24 ⟨(Nat.le_of_ble_eq_true rfl), (Nat.le_of_ble_eq_true rfl)⟩ ?_
      rintro v w ⟨rfl, rfl⟩
      refine g_norm (Lw' := [sCut E aC aS C, sCutR E aS S]) (st' := [.long r_1]) (pc' := 27) [0, 1] rfl rfl rfl rfl ?_
      refine g_lload_n F dX2_setSurcharge_27 rfl ?_
      refine g_lcmp F dX2_setSurcharge_28 ?_
      refine g_ifne F 46 dX2_setSurcharge_29 (by decide) (fun hc_1 => ?_) (fun hc_1 => ?_)
      · replace hf := gi_f hc_1 hf
        refine g_iinc (lv' := [some (.ref (aC 0)), some (.long x1), none, some (.int x3), some (.int x4), some (.int x5), some (.int (x6 + 1))]) F (x6 + 1) dX2_setSurcharge_46 rfl rfl rfl rfl ?_
        refine g_goto F 6 dX2_setSurcharge_49 (by decide) ?_
        exact ih x5 (x6 + 1) S hf
      · replace hf := gi_t hc_1 hf
        refine g_aload_n F dX2_setSurcharge_32 rfl ?_
        refine g_get (C := RX2) (T := TX2) (N := 12) F 0 0 7 rfl rfl rfl iX2_setSurcharge_X2 (by decide) (by decide +kernel) rfl dX2_setSurcharge_33 ?_
        refine g_iload F dX2_setSurcharge_36 rfl ?_
        obtain ⟨hb_1, hf⟩ := gb_in hf
        have hlt_1 := Nat.not_le.mp (fun z9 => hb_1 (Or.inr z9))
        refine g_aald (b := aS (x6.toNatClampNeg)) F 0 2 5 rfl rfl rfl hb_1 (if_pos hlt_1) rfl dX2_setSurcharge_38 ?_
        refine g_iload_n F dX2_setSurcharge_39 rfl ?_
        refine g_iload F dX2_setSurcharge_40 rfl ?_
        obtain ⟨hb_2, hf⟩ := gb_in hf
        obtain ⟨S_1, hS_1, hf⟩ := Lt_el hf
        refine g_iast (Lw' := [sCut E aC aS C, sCutR E aS S_1]) F 1 (x6.toNatClampNeg) (x3.toNatClampNeg) rfl rfl (sCutR_at _ _ _ hlt_1) hb_2 dX2_setSurcharge_42 (by subst hS_1; rw [sCutR_set]; rfl) ?_
        refine g_iconst F 1 dX2_setSurcharge_43 rfl ?_
        refine g_istore (lv' := [some (.ref (aC 0)), some (.long x1), none, some (.int x3), some (.int x4), some (.int 1), some (.int x6)]) F dX2_setSurcharge_44 (Nat.le_of_ble_eq_true rfl) rfl rfl ?_
        refine g_iinc (lv' := [some (.ref (aC 0)), some (.long x1), none, some (.int x3), some (.int x4), some (.int 1), some (.int (x6 + 1))]) F (x6 + 1) dX2_setSurcharge_46 rfl rfl rfl rfl ?_
        refine g_goto F 6 dX2_setSurcharge_49 (by decide) ?_
        exact ih 1 (x6 + 1) S_1 hf
set_option maxHeartbeats 4000000 in
set_option maxRecDepth 100000 in
theorem ctX2_setSurcharge (l : Launch) (E : gE) (aC aS : Nat → Nat) (x1 : Int64) (x3 : Int32) (x4 : Int32) (C : tCut) (S : tCutR) (r : Int32) (S' : tCutR) (hf : fX2_setSurcharge x1 x3 x4 C S = some (r, S')) : gMet l yX2_setSurcharge wsX2_setSurcharge rmX2_setSurcharge vwCl E [.ref (aC 0), .long x1, .int x3, .int x4] [sCut E aC aS C, sCutR E aS S] (fun v w => v = some (.int r) ∧ w = [sCut E aC aS C, sCutR E aS S'] ∧ narrow .boolean (.int r) = .int r) 0 0 := by
  refine g_entry [some (.ref (aC 0)), some (.long x1), none, some (.int x3), some (.int x4), none, none] (by decide) rfl (Nat.le_of_ble_eq_true rfl) rfl ?_
  intro p e s m below meth c A F hnm
  unfold fX2_setSurcharge at hf
  refine g_iconst F 0 dX2_setSurcharge_0 rfl ?_
  refine g_istore (lv' := [some (.ref (aC 0)), some (.long x1), none, some (.int x3), some (.int x4), some (.int 0), none]) F dX2_setSurcharge_1 (Nat.le_of_ble_eq_true rfl) rfl rfl ?_
  refine g_iconst F 0 dX2_setSurcharge_3 rfl ?_
  refine g_istore (lv' := [some (.ref (aC 0)), some (.long x1), none, some (.int x3), some (.int x4), some (.int 0), some (.int 0)]) F dX2_setSurcharge_4 (Nat.le_of_ble_eq_true rfl) rfl rfl ?_
  refine ktX2_setSurcharge_L6 F aC aS x1 x3 x4 C r S' (fun x5_1 S_1 hf => ?_) FU 0 0 S hf
  refine g_iload F dX2_setSurcharge_52 rfl ?_
  obtain ⟨hz_1, hf⟩ := gb_if hf
  cases hf
  exact g_zret (ty := .boolean) F rfl (congrArg Value.int hz_1) ⟨rfl, rfl, (congrArg Value.int hz_1)⟩ dX2_setSurcharge_54
set_option maxHeartbeats 4000000 in
set_option maxRecDepth 100000 in
theorem ctX2_gainOf (l : Launch) (E : gE) (aC aS : Nat → Nat) (x1 : Int64) (x3 : Int32) (C : tCut) (S : tCutR) (r : Int32) (C' : tCut) (S' : tCutR) (hf : fX2_gainOf x1 x3 C S = some (r, C', S')) : gMet l yX2_gainOf wsX2_gainOf rmX2_gainOf vwCl E [.ref (aC 0), .long x1, .int x3] [sCut E aC aS C, sCutR E aS S] (fun v w => v = some (.int r) ∧ w = [sCut E aC aS C', sCutR E aS S']) 0 0 := by
  refine g_entry [some (.ref (aC 0)), some (.long x1), none, some (.int x3)] (by decide) rfl (Nat.le_of_ble_eq_true rfl) rfl ?_
  intro p e s m below meth c A F hnm
  unfold fX2_gainOf at hf
  refine g_aload_n F dX2_gainOf_0 rfl ?_
  refine g_lload_n F dX2_gainOf_1 rfl ?_
  refine g_iload_n F dX2_gainOf_2 rfl ?_
  refine g_iconst F 0 dX2_gainOf_3 rfl ?_
  obtain ⟨r_1, S_1, hg_1, hf⟩ := gb2_el hf
  refine g_callV (C := RX2) (T := TX2) (N := 12) (Lr := []) (As := [.long x1, .int x3, .int 0]) (rest := []) F 0 0 3 (ctX2_setSurcharge l E aC aS x1 x3 0 C S r_1 S_1 hg_1) gX2_gainOf_X2_setSurcharge rfl rfl rfl h0X2_setSurcharge ⟨Nat.le_of_ble_eq_true rfl, Nat.le_of_ble_eq_true rfl⟩ rfl rfl rfl [0, 1] [] rfl rfl rfl rfl rfl rfl (Nat.le_of_ble_eq_true rfl) dX2_gainOf_4 ⟨(Nat.le_of_ble_eq_true rfl), (Nat.le_of_ble_eq_true rfl)⟩ ?_
  rintro v w ⟨rfl, rfl, hz_1⟩
  refine g_norm (Lw' := [sCut E aC aS C, sCutR E aS S_1]) (st' := [.int r_1]) (pc' := 7) [0, 1] rfl rfl rfl rfl ?_
  refine g_ifne F 12 dX2_gainOf_7 (by decide) (fun hc_1 => ?_) (fun hc_1 => ?_)
  · replace hf := gi_f hc_1 hf
    refine g_aload_n F dX2_gainOf_12 rfl ?_
    obtain ⟨C_1, hg_2, hf⟩ := gb1_el hf
    refine g_callV (C := RX2) (T := TX2) (N := 12) (Lr := []) (As := []) (rest := []) F 0 0 0 (ctX2_solve l E aC aS C S_1 C_1 hg_2) gX2_gainOf_X2_solve rfl rfl rfl h0X2_solve ⟨Nat.le_of_ble_eq_true rfl, Nat.le_of_ble_eq_true rfl⟩ rfl rfl rfl [0, 1] [] rfl rfl rfl rfl rfl rfl (Nat.le_of_ble_eq_true rfl) dX2_gainOf_13 ⟨(Nat.le_of_ble_eq_true rfl), (Nat.le_of_ble_eq_true rfl)⟩ ?_
    rintro v w ⟨rfl, rfl⟩
    refine g_norm (Lw' := [sCut E aC aS C_1, sCutR E aS S_1]) (st' := []) (pc' := 16) [0, 1] rfl rfl rfl rfl ?_
    refine g_aload_n F dX2_gainOf_16 rfl ?_
    refine g_lload_n F dX2_gainOf_17 rfl ?_
    refine g_iload_n F dX2_gainOf_18 rfl ?_
    refine g_ldc F 1000000 (by decide +kernel) dX2_gainOf_19 ?_
    obtain ⟨r_2, S_2, hg_3, hf⟩ := gb2_el hf
    refine g_callV (C := RX2) (T := TX2) (N := 12) (Lr := []) (As := [.long x1, .int x3, .int 1000000]) (rest := []) F 0 0 3 (ctX2_setSurcharge l E aC aS x1 x3 1000000 C_1 S_1 r_2 S_2 hg_3) gX2_gainOf_X2_setSurcharge rfl rfl rfl h0X2_setSurcharge ⟨Nat.le_of_ble_eq_true rfl, Nat.le_of_ble_eq_true rfl⟩ rfl rfl rfl [0, 1] [] rfl rfl rfl rfl rfl rfl (Nat.le_of_ble_eq_true rfl) dX2_gainOf_21 ⟨(Nat.le_of_ble_eq_true rfl), (Nat.le_of_ble_eq_true rfl)⟩ ?_
    rintro v w ⟨rfl, rfl, hz_2⟩
    refine g_norm (Lw' := [sCut E aC aS C_1, sCutR E aS S_2]) (st' := [.int r_2]) (pc' := 24) [0, 1] rfl rfl rfl rfl ?_
    refine g_pop F dX2_gainOf_24 rfl ?_
    refine g_aload_n F dX2_gainOf_25 rfl ?_
    refine g_get (C := RX2) (T := TX2) (N := 12) F 0 0 0 rfl rfl rfl iX2_gainOf_X2 (by decide) (by decide +kernel) rfl dX2_gainOf_26 ?_
    refine g_aload_n F dX2_gainOf_29 rfl ?_
    refine g_get (C := RX2) (T := TX2) (N := 12) F 0 0 9 rfl rfl rfl iX2_gainOf_X2 (by decide) (by decide +kernel) rfl dX2_gainOf_30 ?_
    refine g_iconst F 0 dX2_gainOf_33 rfl ?_
    refine g_iald F 0 4 0 (by decide) rfl rfl (by decide) dX2_gainOf_34 ?_
    refine g_isub F dX2_gainOf_35 ?_
    cases hf
    exact g_iret F rfl ⟨rfl, rfl⟩ dX2_gainOf_36
  · replace hf := gi_t hc_1 hf
    refine g_iconst F 0 dX2_gainOf_10 rfl ?_
    cases hf
    exact g_iret F rfl ⟨rfl, rfl⟩ dX2_gainOf_11
set_option maxHeartbeats 4000000 in
set_option maxRecDepth 100000 in
theorem ktJ7_fill_53178_L5 {p : Program} {l : Launch} {e : Env} {s : State} {m : MethodId} {args : Array Value} {below : List Frame} {meth : Method} {c : Code} {E : gE} {A : Nat → Prop} (F : gFx p s m args meth c RJ7 wsJ7_fill_53178 cJ7_fill_53178 4 none vwCl E A) (ap0 : Nat → Nat) (n_p0 : Nat) (x1 : Int32) (x3 : Int32) (p0' : (Nat → Int32)) {k : (Nat → Int32) → Option ((Nat → Int32))} (hk : ∀ (p0 : (Nat → Int32)), k p0 = some p0' → Gj p l e rmJ7_fill_53178 s m args below meth c 0 0 (MQ below (gQ vwCl E A (fun v w => v = none ∧ w = [sArrI E ap0 n_p0 p0'])) args s 0 0 A) vwCl E A [sArrI E ap0 n_p0 p0] [none, none, none, none] [] 20) : ∀ (n : Nat) (x2 : Int32) (p0 : (Nat → Int32)), fJ7_fill_53178_L5 n_p0 x1 x3 k n x2 p0 = some p0' → Gj p l e rmJ7_fill_53178 s m args below meth c 0 0 (MQ below (gQ vwCl E A (fun v w => v = none ∧ w = [sArrI E ap0 n_p0 p0'])) args s 0 0 A) vwCl E A [sArrI E ap0 n_p0 p0] [some (.ref (ap0 0)), some (.int x1), some (.int x2), some (.int x3)] [] 5
  | 0, _, _, hf => by cases hf
  | n + 1, x2, p0, hf => by
    have ih := ktJ7_fill_53178_L5 F ap0 n_p0 x1 x3 p0' hk n
    rw [fJ7_fill_53178_L5] at hf
    refine g_iload_n F dJ7_fill_53178_5 rfl ?_
    refine g_iload_n F dJ7_fill_53178_6 rfl ?_
    refine g_icmp_ge F 20 dJ7_fill_53178_7 (by decide) (fun hc_1 => ?_) (fun hc_1 => ?_)
    · replace hf := gi_t hc_1 hf
      refine g_mask [false, false, false, false] rfl ?_
      exact hk p0 hf
    · replace hf := gi_f hc_1 hf
      refine g_aload_n F dJ7_fill_53178_10 rfl ?_
      refine g_iload_n F dJ7_fill_53178_11 rfl ?_
      refine g_iload_n F dJ7_fill_53178_12 rfl ?_
      obtain ⟨hb_1, hf⟩ := gb_in hf
      obtain ⟨p0_1, hp0_1, hf⟩ := Lt_el hf
      refine g_iast (Lw' := [sArrI E ap0 n_p0 p0_1]) F 0 0 (x2.toNatClampNeg) rfl rfl rfl hb_1 dJ7_fill_53178_13 (by subst hp0_1; rfl) ?_
      refine g_iinc (lv' := [some (.ref (ap0 0)), some (.int x1), some (.int (x2 + 1)), some (.int x3)]) F (x2 + 1) dJ7_fill_53178_14 rfl rfl rfl rfl ?_
      refine g_goto F 5 dJ7_fill_53178_17 (by decide) ?_
      exact ih (x2 + 1) p0_1 hf
set_option maxHeartbeats 4000000 in
set_option maxRecDepth 100000 in
theorem ctJ7_fill_53178 (l : Launch) (E : gE) (ap0 : Nat → Nat) (n_p0 : Nat) (x1 : Int32) (p0 : (Nat → Int32)) (p0' : (Nat → Int32)) (hf : fJ7_fill_53178 n_p0 x1 p0 = some p0') : gMet l yJ7_fill_53178 wsJ7_fill_53178 rmJ7_fill_53178 vwCl E [.ref (ap0 0), .int x1] [sArrI E ap0 n_p0 p0] (fun v w => v = none ∧ w = [sArrI E ap0 n_p0 p0']) 0 0 := by
  refine g_entry [some (.ref (ap0 0)), some (.int x1), none, none] (by decide) rfl (Nat.le_of_ble_eq_true rfl) rfl ?_
  intro p e s m below meth c A F hnm
  unfold fJ7_fill_53178 at hf
  refine g_iconst F 0 dJ7_fill_53178_0 rfl ?_
  refine g_istore_n (lv' := [some (.ref (ap0 0)), some (.int x1), some (.int 0), none]) F dJ7_fill_53178_1 (Nat.le_of_ble_eq_true rfl) rfl rfl ?_
  refine g_aload_n F dJ7_fill_53178_2 rfl ?_
  refine g_alen F 0 0 1 rfl rfl rfl rfl dJ7_fill_53178_3 ?_
  refine g_istore_n (lv' := [some (.ref (ap0 0)), some (.int x1), some (.int 0), some (.int (Int32.ofNat n_p0))]) F dJ7_fill_53178_4 (Nat.le_of_ble_eq_true rfl) rfl rfl ?_
  refine ktJ7_fill_53178_L5 F ap0 n_p0 x1 (Int32.ofNat n_p0) p0' (fun p0_1 hf => ?_) FU 0 p0 hf
  cases hf
  exact g_vret F rfl ⟨rfl, rfl⟩ dJ7_fill_53178_20
set_option maxHeartbeats 4000000 in
set_option maxRecDepth 100000 in
theorem ctX1_clear (l : Launch) (E : gE) (aB asettings asums aU aP aW : Nat → Nat) (B_time : Int32) (B_chest : Int32) (B_fund : Int32) (sums : (Nat → Int32)) (U : tUsers) (P : tPieces) (W : tWords) (B_time' : Int32) (B_chest' : Int32) (B_fund' : Int32) (sums' : (Nat → Int32)) (U' : tUsers) (P' : tPieces) (W' : tWords) (hf : fX1_clear B_time B_chest B_fund sums U P W = some (B_time', B_chest', B_fund', sums', U', P', W')) : gMet l yX1_clear wsX1_clear rmX1_clear vwCl E [.ref (aB 0)] [sBook E aB asettings asums aU aP aW B_time B_chest B_fund, sArrI E asums 6 sums, sUsers E aU U, sPieces E aP P, sWords E aW W] (fun v w => v = none ∧ w = [sBook E aB asettings asums aU aP aW B_time' B_chest' B_fund', sArrI E asums 6 sums', sUsers E aU U', sPieces E aP P', sWords E aW W']) 0 0 := by
  refine g_entry [some (.ref (aB 0))] (by decide) rfl (Nat.le_of_ble_eq_true rfl) rfl ?_
  intro p e s m below meth c A F hnm
  unfold fX1_clear at hf
  refine g_aload_n F dX1_clear_0 rfl ?_
  refine g_get (C := RX1) (T := TX1) (N := 8) F 0 0 1 rfl rfl rfl iX1_clear_X1 (by decide) (by decide +kernel) rfl dX1_clear_1 ?_
  refine g_iconst F 0 dX1_clear_4 rfl ?_
  obtain ⟨sums_1, hg_1, hf⟩ := gb1_el hf
  refine g_callS (Lr := [sBook E aB asettings asums aU aP aW B_time B_chest B_fund, sUsers E aU U, sPieces E aP P, sWords E aW W]) (As := [.ref (asums 0), .int 0]) (rest := []) F 2 (ctJ7_fill_53178 l E asums 6 0 sums sums_1 hg_1) (va_cwS 2 F.2.2.2.2.2.1 gX1_clear_J7_fill_53178 rfl rfl rfl h0J7_fill_53178 ⟨Nat.le_of_ble_eq_true rfl, Nat.le_of_ble_eq_true rfl⟩) [1] [0, 2, 3, 4] rfl rfl rfl rfl rfl rfl (Nat.le_of_ble_eq_true rfl) dX1_clear_5 ⟨(Nat.le_of_ble_eq_true rfl), (Nat.le_of_ble_eq_true rfl)⟩ ?_
  rintro v w ⟨rfl, rfl⟩
  refine g_norm (Lw' := [sBook E aB asettings asums aU aP aW B_time B_chest B_fund, sArrI E asums 6 sums_1, sUsers E aU U, sPieces E aP P, sWords E aW W]) (st' := []) (pc' := 8) [1, 0, 2, 3, 4] rfl rfl rfl rfl ?_
  refine g_aload_n F dX1_clear_8 rfl ?_
  refine g_get (C := RX1) (T := TX1) (N := 8) F 0 0 2 rfl rfl rfl iX1_clear_X1 (by decide) (by decide +kernel) rfl dX1_clear_9 ?_
  refine g_iconst F 0 dX1_clear_12 rfl ?_
  refine g_put (C := RX7) (T := TX7) (N := 3) (tys := tyX7) (Lw' := [sBook E aB asettings asums aU aP aW B_time B_chest B_fund, sArrI E asums 6 sums_1, sUsers E aU (0, U.2.1, U.2.2), sPieces E aP P, sWords E aW W]) F 2 0 0 rfl rfl rfl iX1_clear_X7 tyX7_ok nmX7 (by decide) (by decide +kernel) rfl rfl rfl rfl (Nat.le_of_ble_eq_true rfl) dX1_clear_13 rfl ?_
  refine g_aload_n F dX1_clear_16 rfl ?_
  refine g_get (C := RX1) (T := TX1) (N := 8) F 0 0 3 rfl rfl rfl iX1_clear_X1 (by decide) (by decide +kernel) rfl dX1_clear_17 ?_
  refine g_iconst F 0 dX1_clear_20 rfl ?_
  refine g_put (C := RX6) (T := TX6) (N := 6) (tys := tyX6) (Lw' := [sBook E aB asettings asums aU aP aW B_time B_chest B_fund, sArrI E asums 6 sums_1, sUsers E aU (0, U.2.1, U.2.2), sPieces E aP (0, P.2.1, P.2.2.1, P.2.2.2.1, P.2.2.2.2.1, P.2.2.2.2.2), sWords E aW W]) F 3 0 0 rfl rfl rfl iX1_clear_X6 tyX6_ok nmX6 (by decide) (by decide +kernel) rfl rfl rfl rfl (Nat.le_of_ble_eq_true rfl) dX1_clear_21 rfl ?_
  refine g_aload_n F dX1_clear_24 rfl ?_
  refine g_get (C := RX1) (T := TX1) (N := 8) F 0 0 4 rfl rfl rfl iX1_clear_X1 (by decide) (by decide +kernel) rfl dX1_clear_25 ?_
  refine g_iconst F 0 dX1_clear_28 rfl ?_
  refine g_put (C := RX8) (T := TX8) (N := 5) (tys := tyX8) (Lw' := [sBook E aB asettings asums aU aP aW B_time B_chest B_fund, sArrI E asums 6 sums_1, sUsers E aU (0, U.2.1, U.2.2), sPieces E aP (0, P.2.1, P.2.2.1, P.2.2.2.1, P.2.2.2.2.1, P.2.2.2.2.2), sWords E aW (0, W.2.1, W.2.2.1, W.2.2.2.1, W.2.2.2.2)]) F 4 0 0 rfl rfl rfl iX1_clear_X8 tyX8_ok nmX8 (by decide) (by decide +kernel) rfl rfl rfl rfl (Nat.le_of_ble_eq_true rfl) dX1_clear_29 rfl ?_
  refine g_aload_n F dX1_clear_32 rfl ?_
  refine g_iconst F 0 dX1_clear_33 rfl ?_
  refine g_put (C := RX1) (T := TX1) (N := 8) (tys := tyX1) (Lw' := [sBook E aB asettings asums aU aP aW 0 B_chest B_fund, sArrI E asums 6 sums_1, sUsers E aU (0, U.2.1, U.2.2), sPieces E aP (0, P.2.1, P.2.2.1, P.2.2.2.1, P.2.2.2.2.1, P.2.2.2.2.2), sWords E aW (0, W.2.1, W.2.2.1, W.2.2.2.1, W.2.2.2.2)]) F 0 0 5 rfl rfl rfl iX1_clear_X1 tyX1_ok nmX1 (by decide) (by decide +kernel) rfl rfl rfl rfl (Nat.le_of_ble_eq_true rfl) dX1_clear_34 rfl ?_
  refine g_aload_n F dX1_clear_37 rfl ?_
  refine g_iconst F 0 dX1_clear_38 rfl ?_
  refine g_put (C := RX1) (T := TX1) (N := 8) (tys := tyX1) (Lw' := [sBook E aB asettings asums aU aP aW 0 0 B_fund, sArrI E asums 6 sums_1, sUsers E aU (0, U.2.1, U.2.2), sPieces E aP (0, P.2.1, P.2.2.1, P.2.2.2.1, P.2.2.2.2.1, P.2.2.2.2.2), sWords E aW (0, W.2.1, W.2.2.1, W.2.2.2.1, W.2.2.2.2)]) F 0 0 6 rfl rfl rfl iX1_clear_X1 tyX1_ok nmX1 (by decide) (by decide +kernel) rfl rfl rfl rfl (Nat.le_of_ble_eq_true rfl) dX1_clear_39 rfl ?_
  refine g_aload_n F dX1_clear_42 rfl ?_
  refine g_iconst F 0 dX1_clear_43 rfl ?_
  refine g_put (C := RX1) (T := TX1) (N := 8) (tys := tyX1) (Lw' := [sBook E aB asettings asums aU aP aW 0 0 0, sArrI E asums 6 sums_1, sUsers E aU (0, U.2.1, U.2.2), sPieces E aP (0, P.2.1, P.2.2.1, P.2.2.2.1, P.2.2.2.2.1, P.2.2.2.2.2), sWords E aW (0, W.2.1, W.2.2.1, W.2.2.2.1, W.2.2.2.2)]) F 0 0 7 rfl rfl rfl iX1_clear_X1 tyX1_ok nmX1 (by decide) (by decide +kernel) rfl rfl rfl rfl (Nat.le_of_ble_eq_true rfl) dX1_clear_44 rfl ?_
  cases hf
  exact g_vret F rfl ⟨rfl, rfl⟩ dX1_clear_47
set_option maxHeartbeats 4000000 in
set_option maxRecDepth 100000 in
theorem ctX1_copyFrom (l : Launch) (E : gE) (aB asettings asums aU aP aW aB2 asettings2 asums2 aU2 aP2 aW2 : Nat → Nat) (B_time : Int32) (B_chest : Int32) (B_fund : Int32) (settings : (Nat → Int32)) (sums : (Nat → Int32)) (U : tUsers) (P : tPieces) (W : tWords) (B2_time : Int32) (B2_chest : Int32) (B2_fund : Int32) (settings2 : (Nat → Int32)) (sums2 : (Nat → Int32)) (U2 : tUsers) (P2 : tPieces) (W2 : tWords) (B_time' : Int32) (B_chest' : Int32) (B_fund' : Int32) (settings' : (Nat → Int32)) (sums' : (Nat → Int32)) (U' : tUsers) (P' : tPieces) (W' : tWords) (hf : fX1_copyFrom B_time B_chest B_fund settings sums U P W B2_time B2_chest B2_fund settings2 sums2 U2 P2 W2 = some (B_time', B_chest', B_fund', settings', sums', U', P', W')) : gMet l yX1_copyFrom wsX1_copyFrom rmX1_copyFrom vwCl E [.ref (aB 0), .ref (aB2 0)] [sBook E aB asettings asums aU aP aW B_time B_chest B_fund, sArrI E asettings 5 settings, sArrI E asums 6 sums, sUsers E aU U, sPieces E aP P, sWords E aW W, sBook E aB2 asettings2 asums2 aU2 aP2 aW2 B2_time B2_chest B2_fund, sArrI E asettings2 5 settings2, sArrI E asums2 6 sums2, sUsers E aU2 U2, sPieces E aP2 P2, sWords E aW2 W2] (fun v w => v = none ∧ w = [sBook E aB asettings asums aU aP aW B_time' B_chest' B_fund', sArrI E asettings 5 settings', sArrI E asums 6 sums', sUsers E aU U', sPieces E aP P', sWords E aW W', sBook E aB2 asettings2 asums2 aU2 aP2 aW2 B2_time B2_chest B2_fund, sArrI E asettings2 5 settings2, sArrI E asums2 6 sums2, sUsers E aU2 U2, sPieces E aP2 P2, sWords E aW2 W2]) 0 0 := by
  refine g_entry [some (.ref (aB 0)), some (.ref (aB2 0))] (by decide) rfl (Nat.le_of_ble_eq_true rfl) rfl ?_
  intro p e s m below meth c A F hnm
  unfold fX1_copyFrom at hf
  refine g_aload_n F dX1_copyFrom_0 rfl ?_
  refine g_get (C := RX1) (T := TX1) (N := 8) F 6 0 0 rfl rfl rfl iX1_copyFrom_X1 (by decide) (by decide +kernel) rfl dX1_copyFrom_1 ?_
  refine g_iconst F 0 dX1_copyFrom_4 rfl ?_
  refine g_aload_n F dX1_copyFrom_5 rfl ?_
  refine g_get (C := RX1) (T := TX1) (N := 8) F 0 0 0 rfl rfl rfl iX1_copyFrom_X1 (by decide) (by decide +kernel) rfl dX1_copyFrom_6 ?_
  refine g_iconst F 0 dX1_copyFrom_9 rfl ?_
  refine g_iconst F 5 dX1_copyFrom_10 rfl ?_
  obtain ⟨hb_1, hf⟩ := gb_in hf
  obtain ⟨settings_1, hsettings_1, hf⟩ := Lt_el hf
  refine g_copyi (Lw' := [sBook E aB asettings asums aU aP aW B_time B_chest B_fund, sArrI E asettings 5 settings_1, sArrI E asums 6 sums, sUsers E aU U, sPieces E aP P, sWords E aW W, sBook E aB2 asettings2 asums2 aU2 aP2 aW2 B2_time B2_chest B2_fund, sArrI E asettings2 5 settings2, sArrI E asums2 6 sums2, sUsers E aU2 U2, sPieces E aP2 P2, sWords E aW2 W2]) F 7 0 1 0 rfl rfl rfl rfl (by decide +kernel) (by decide +kernel) (by decide +kernel) (by decide +kernel) hb_1 rfl (Nat.le_of_ble_eq_true rfl) (Nat.le_of_ble_eq_true rfl) dX1_copyFrom_11 (by subst hsettings_1; rfl) ?_
  refine g_aload_n F dX1_copyFrom_14 rfl ?_
  refine g_get (C := RX1) (T := TX1) (N := 8) F 6 0 1 rfl rfl rfl iX1_copyFrom_X1 (by decide) (by decide +kernel) rfl dX1_copyFrom_15 ?_
  refine g_iconst F 0 dX1_copyFrom_18 rfl ?_
  refine g_aload_n F dX1_copyFrom_19 rfl ?_
  refine g_get (C := RX1) (T := TX1) (N := 8) F 0 0 1 rfl rfl rfl iX1_copyFrom_X1 (by decide) (by decide +kernel) rfl dX1_copyFrom_20 ?_
  refine g_iconst F 0 dX1_copyFrom_23 rfl ?_
  refine g_bipush F 6 dX1_copyFrom_24 rfl ?_
  obtain ⟨hb_2, hf⟩ := gb_in hf
  obtain ⟨sums_1, hsums_1, hf⟩ := Lt_el hf
  refine g_copyi (Lw' := [sBook E aB asettings asums aU aP aW B_time B_chest B_fund, sArrI E asettings 5 settings_1, sArrI E asums 6 sums_1, sUsers E aU U, sPieces E aP P, sWords E aW W, sBook E aB2 asettings2 asums2 aU2 aP2 aW2 B2_time B2_chest B2_fund, sArrI E asettings2 5 settings2, sArrI E asums2 6 sums2, sUsers E aU2 U2, sPieces E aP2 P2, sWords E aW2 W2]) F 8 0 2 0 rfl rfl rfl rfl (by decide +kernel) (by decide +kernel) (by decide +kernel) (by decide +kernel) hb_2 rfl (Nat.le_of_ble_eq_true rfl) (Nat.le_of_ble_eq_true rfl) dX1_copyFrom_26 (by subst hsums_1; rfl) ?_
  refine g_aload_n F dX1_copyFrom_29 rfl ?_
  refine g_get (C := RX1) (T := TX1) (N := 8) F 0 0 2 rfl rfl rfl iX1_copyFrom_X1 (by decide) (by decide +kernel) rfl dX1_copyFrom_30 ?_
  refine g_aload_n F dX1_copyFrom_33 rfl ?_
  refine g_get (C := RX1) (T := TX1) (N := 8) F 6 0 2 rfl rfl rfl iX1_copyFrom_X1 (by decide) (by decide +kernel) rfl dX1_copyFrom_34 ?_
  obtain ⟨U_1, hg_1, hf⟩ := gb1_el hf
  refine g_callV (C := RX7) (T := TX7) (N := 3) (Lr := [sBook E aB asettings asums aU aP aW B_time B_chest B_fund, sArrI E asettings 5 settings_1, sArrI E asums 6 sums_1, sPieces E aP P, sWords E aW W, sBook E aB2 asettings2 asums2 aU2 aP2 aW2 B2_time B2_chest B2_fund, sArrI E asettings2 5 settings2, sArrI E asums2 6 sums2, sPieces E aP2 P2, sWords E aW2 W2]) (As := [.ref (aU2 0)]) (rest := []) F 3 0 1 (ctX7_copyFrom l E aU aU2 U U2 U_1 hg_1) gX1_copyFrom_X7_copyFrom rfl rfl rfl h0X7_copyFrom ⟨Nat.le_of_ble_eq_true rfl, Nat.le_of_ble_eq_true rfl⟩ rfl rfl rfl [3, 9] [0, 1, 2, 4, 5, 6, 7, 8, 10, 11] rfl rfl rfl rfl rfl rfl (Nat.le_of_ble_eq_true rfl) dX1_copyFrom_37 ⟨(Nat.le_of_ble_eq_true rfl), (Nat.le_of_ble_eq_true rfl)⟩ ?_
  rintro v w ⟨rfl, rfl⟩
  refine g_norm (Lw' := [sBook E aB asettings asums aU aP aW B_time B_chest B_fund, sArrI E asettings 5 settings_1, sArrI E asums 6 sums_1, sUsers E aU U_1, sPieces E aP P, sWords E aW W, sBook E aB2 asettings2 asums2 aU2 aP2 aW2 B2_time B2_chest B2_fund, sArrI E asettings2 5 settings2, sArrI E asums2 6 sums2, sUsers E aU2 U2, sPieces E aP2 P2, sWords E aW2 W2]) (st' := []) (pc' := 40) [2, 3, 4, 0, 5, 6, 7, 8, 9, 1, 10, 11] rfl rfl rfl rfl ?_
  refine g_aload_n F dX1_copyFrom_40 rfl ?_
  refine g_get (C := RX1) (T := TX1) (N := 8) F 0 0 3 rfl rfl rfl iX1_copyFrom_X1 (by decide) (by decide +kernel) rfl dX1_copyFrom_41 ?_
  refine g_aload_n F dX1_copyFrom_44 rfl ?_
  refine g_get (C := RX1) (T := TX1) (N := 8) F 6 0 3 rfl rfl rfl iX1_copyFrom_X1 (by decide) (by decide +kernel) rfl dX1_copyFrom_45 ?_
  obtain ⟨P_1, hg_2, hf⟩ := gb1_el hf
  refine g_callV (C := RX6) (T := TX6) (N := 6) (Lr := [sBook E aB asettings asums aU aP aW B_time B_chest B_fund, sArrI E asettings 5 settings_1, sArrI E asums 6 sums_1, sUsers E aU U_1, sWords E aW W, sBook E aB2 asettings2 asums2 aU2 aP2 aW2 B2_time B2_chest B2_fund, sArrI E asettings2 5 settings2, sArrI E asums2 6 sums2, sUsers E aU2 U2, sWords E aW2 W2]) (As := [.ref (aP2 0)]) (rest := []) F 4 0 1 (ctX6_copyFrom l E aP aP2 P P2 P_1 hg_2) gX1_copyFrom_X6_copyFrom rfl rfl rfl h0X6_copyFrom ⟨Nat.le_of_ble_eq_true rfl, Nat.le_of_ble_eq_true rfl⟩ rfl rfl rfl [4, 10] [0, 1, 2, 3, 5, 6, 7, 8, 9, 11] rfl rfl rfl rfl rfl rfl (Nat.le_of_ble_eq_true rfl) dX1_copyFrom_48 ⟨(Nat.le_of_ble_eq_true rfl), (Nat.le_of_ble_eq_true rfl)⟩ ?_
  rintro v w ⟨rfl, rfl⟩
  refine g_norm (Lw' := [sBook E aB asettings asums aU aP aW B_time B_chest B_fund, sArrI E asettings 5 settings_1, sArrI E asums 6 sums_1, sUsers E aU U_1, sPieces E aP P_1, sWords E aW W, sBook E aB2 asettings2 asums2 aU2 aP2 aW2 B2_time B2_chest B2_fund, sArrI E asettings2 5 settings2, sArrI E asums2 6 sums2, sUsers E aU2 U2, sPieces E aP2 P2, sWords E aW2 W2]) (st' := []) (pc' := 51) [2, 3, 4, 5, 0, 6, 7, 8, 9, 10, 1, 11] rfl rfl rfl rfl ?_
  refine g_aload_n F dX1_copyFrom_51 rfl ?_
  refine g_get (C := RX1) (T := TX1) (N := 8) F 0 0 4 rfl rfl rfl iX1_copyFrom_X1 (by decide) (by decide +kernel) rfl dX1_copyFrom_52 ?_
  refine g_aload_n F dX1_copyFrom_55 rfl ?_
  refine g_get (C := RX1) (T := TX1) (N := 8) F 6 0 4 rfl rfl rfl iX1_copyFrom_X1 (by decide) (by decide +kernel) rfl dX1_copyFrom_56 ?_
  obtain ⟨W_1, hg_3, hf⟩ := gb1_el hf
  refine g_callV (C := RX8) (T := TX8) (N := 5) (Lr := [sBook E aB asettings asums aU aP aW B_time B_chest B_fund, sArrI E asettings 5 settings_1, sArrI E asums 6 sums_1, sUsers E aU U_1, sPieces E aP P_1, sBook E aB2 asettings2 asums2 aU2 aP2 aW2 B2_time B2_chest B2_fund, sArrI E asettings2 5 settings2, sArrI E asums2 6 sums2, sUsers E aU2 U2, sPieces E aP2 P2]) (As := [.ref (aW2 0)]) (rest := []) F 5 0 1 (ctX8_copyFrom l E aW aW2 W W2 W_1 hg_3) gX1_copyFrom_X8_copyFrom rfl rfl rfl h0X8_copyFrom ⟨Nat.le_of_ble_eq_true rfl, Nat.le_of_ble_eq_true rfl⟩ rfl rfl rfl [5, 11] [0, 1, 2, 3, 4, 6, 7, 8, 9, 10] rfl rfl rfl rfl rfl rfl (Nat.le_of_ble_eq_true rfl) dX1_copyFrom_59 ⟨(Nat.le_of_ble_eq_true rfl), (Nat.le_of_ble_eq_true rfl)⟩ ?_
  rintro v w ⟨rfl, rfl⟩
  refine g_norm (Lw' := [sBook E aB asettings asums aU aP aW B_time B_chest B_fund, sArrI E asettings 5 settings_1, sArrI E asums 6 sums_1, sUsers E aU U_1, sPieces E aP P_1, sWords E aW W_1, sBook E aB2 asettings2 asums2 aU2 aP2 aW2 B2_time B2_chest B2_fund, sArrI E asettings2 5 settings2, sArrI E asums2 6 sums2, sUsers E aU2 U2, sPieces E aP2 P2, sWords E aW2 W2]) (st' := []) (pc' := 62) [2, 3, 4, 5, 6, 0, 7, 8, 9, 10, 11, 1] rfl rfl rfl rfl ?_
  refine g_aload_n F dX1_copyFrom_62 rfl ?_
  refine g_aload_n F dX1_copyFrom_63 rfl ?_
  refine g_get (C := RX1) (T := TX1) (N := 8) F 6 0 5 rfl rfl rfl iX1_copyFrom_X1 (by decide) (by decide +kernel) rfl dX1_copyFrom_64 ?_
  refine g_put (C := RX1) (T := TX1) (N := 8) (tys := tyX1) (Lw' := [sBook E aB asettings asums aU aP aW B2_time B_chest B_fund, sArrI E asettings 5 settings_1, sArrI E asums 6 sums_1, sUsers E aU U_1, sPieces E aP P_1, sWords E aW W_1, sBook E aB2 asettings2 asums2 aU2 aP2 aW2 B2_time B2_chest B2_fund, sArrI E asettings2 5 settings2, sArrI E asums2 6 sums2, sUsers E aU2 U2, sPieces E aP2 P2, sWords E aW2 W2]) F 0 0 5 rfl rfl rfl iX1_copyFrom_X1 tyX1_ok nmX1 (by decide) (by decide +kernel) rfl rfl rfl rfl (Nat.le_of_ble_eq_true rfl) dX1_copyFrom_67 rfl ?_
  refine g_aload_n F dX1_copyFrom_70 rfl ?_
  refine g_aload_n F dX1_copyFrom_71 rfl ?_
  refine g_get (C := RX1) (T := TX1) (N := 8) F 6 0 6 rfl rfl rfl iX1_copyFrom_X1 (by decide) (by decide +kernel) rfl dX1_copyFrom_72 ?_
  refine g_put (C := RX1) (T := TX1) (N := 8) (tys := tyX1) (Lw' := [sBook E aB asettings asums aU aP aW B2_time B2_chest B_fund, sArrI E asettings 5 settings_1, sArrI E asums 6 sums_1, sUsers E aU U_1, sPieces E aP P_1, sWords E aW W_1, sBook E aB2 asettings2 asums2 aU2 aP2 aW2 B2_time B2_chest B2_fund, sArrI E asettings2 5 settings2, sArrI E asums2 6 sums2, sUsers E aU2 U2, sPieces E aP2 P2, sWords E aW2 W2]) F 0 0 6 rfl rfl rfl iX1_copyFrom_X1 tyX1_ok nmX1 (by decide) (by decide +kernel) rfl rfl rfl rfl (Nat.le_of_ble_eq_true rfl) dX1_copyFrom_75 rfl ?_
  refine g_aload_n F dX1_copyFrom_78 rfl ?_
  refine g_aload_n F dX1_copyFrom_79 rfl ?_
  refine g_get (C := RX1) (T := TX1) (N := 8) F 6 0 7 rfl rfl rfl iX1_copyFrom_X1 (by decide) (by decide +kernel) rfl dX1_copyFrom_80 ?_
  refine g_put (C := RX1) (T := TX1) (N := 8) (tys := tyX1) (Lw' := [sBook E aB asettings asums aU aP aW B2_time B2_chest B2_fund, sArrI E asettings 5 settings_1, sArrI E asums 6 sums_1, sUsers E aU U_1, sPieces E aP P_1, sWords E aW W_1, sBook E aB2 asettings2 asums2 aU2 aP2 aW2 B2_time B2_chest B2_fund, sArrI E asettings2 5 settings2, sArrI E asums2 6 sums2, sUsers E aU2 U2, sPieces E aP2 P2, sWords E aW2 W2]) F 0 0 7 rfl rfl rfl iX1_copyFrom_X1 tyX1_ok nmX1 (by decide) (by decide +kernel) rfl rfl rfl rfl (Nat.le_of_ble_eq_true rfl) dX1_copyFrom_83 rfl ?_
  cases hf
  exact g_vret F rfl ⟨rfl, rfl⟩ dX1_copyFrom_86
set_option maxHeartbeats 4000000 in
set_option maxRecDepth 100000 in
theorem ktX1_heldFor_L4 {p : Program} {l : Launch} {e : Env} {s : State} {m : MethodId} {args : Array Value} {below : List Frame} {meth : Method} {c : Code} {E : gE} {A : Nat → Prop} (F : gFx p s m args meth c RX1 wsX1_heldFor cX1_heldFor 4 (some .int) vwCl E A) (aB asettings asums aU aP aW : Nat → Nat) (x1 : Int32) (W : tWords) (B_time : Int32) (B_chest : Int32) (B_fund : Int32) (settings : (Nat → Int32)) (r : Int32) {k : Int32 → Option (Int32)} (hk : ∀ (x2 : Int32), k x2 = some r → Gj p l e rmX1_heldFor s m args below meth c 0 0 (MQ below (gQ vwCl E A (fun v w => v = some (.int r) ∧ w = [sBook E aB asettings asums aU aP aW B_time B_chest B_fund, sArrI E asettings 5 settings, sWords E aW W])) args s 0 0 A) vwCl E A [sBook E aB asettings asums aU aP aW B_time B_chest B_fund, sArrI E asettings 5 settings, sWords E aW W] [some (.ref (aB 0)), none, some (.int x2), none] [] 46) : ∀ (n : Nat) (x2 : Int32) (x3 : Int32), fX1_heldFor_L4 x1 W k n x2 x3 = some r → Gj p l e rmX1_heldFor s m args below meth c 0 0 (MQ below (gQ vwCl E A (fun v w => v = some (.int r) ∧ w = [sBook E aB asettings asums aU aP aW B_time B_chest B_fund, sArrI E asettings 5 settings, sWords E aW W])) args s 0 0 A) vwCl E A [sBook E aB asettings asums aU aP aW B_time B_chest B_fund, sArrI E asettings 5 settings, sWords E aW W] [some (.ref (aB 0)), some (.int x1), some (.int x2), some (.int x3)] [] 4
  | 0, _, _, hf => by cases hf
  | n + 1, x2, x3, hf => by
    have ih := ktX1_heldFor_L4 F aB asettings asums aU aP aW x1 W B_time B_chest B_fund settings r hk n
    rw [fX1_heldFor_L4] at hf
    refine g_iload_n F dX1_heldFor_4 rfl ?_
    refine g_aload_n F dX1_heldFor_5 rfl ?_
    refine g_get (C := RX1) (T := TX1) (N := 8) F 0 0 4 rfl rfl rfl iX1_heldFor_X1 (by decide) (by decide +kernel) rfl dX1_heldFor_6 ?_
    refine g_get (C := RX8) (T := TX8) (N := 5) F 2 0 0 rfl rfl rfl iX1_heldFor_X8 (by decide) (by decide +kernel) rfl dX1_heldFor_9 ?_
    refine g_icmp_ge F 46 dX1_heldFor_12 (by decide) (fun hc_2 => ?_) (fun hc_2 => ?_)
    · replace hf := gi_t hc_2 hf
      refine g_mask [true, false, true, false] rfl ?_
      exact hk x2 hf
    · replace hf := gi_f hc_2 hf
      refine g_aload_n F dX1_heldFor_15 rfl ?_
      refine g_get (C := RX1) (T := TX1) (N := 8) F 0 0 4 rfl rfl rfl iX1_heldFor_X1 (by decide) (by decide +kernel) rfl dX1_heldFor_16 ?_
      refine g_get (C := RX8) (T := TX8) (N := 5) F 2 0 2 rfl rfl rfl iX1_heldFor_X8 (by decide) (by decide +kernel) rfl dX1_heldFor_19 ?_
      refine g_iload_n F dX1_heldFor_22 rfl ?_
      obtain ⟨hb_1, hf⟩ := gb_in hf
      refine g_iald F 2 2 (x3.toNatClampNeg) rfl rfl rfl hb_1 dX1_heldFor_23 ?_
      refine g_iload_n F dX1_heldFor_24 rfl ?_
      refine g_icmp_ne F 40 dX1_heldFor_25 (by decide) (fun hc_1 => ?_) (fun hc_1 => ?_)
      · replace hf := gi_f hc_1 hf
        refine g_iinc (lv' := [some (.ref (aB 0)), some (.int x1), some (.int x2), some (.int (x3 + 1))]) F (x3 + 1) dX1_heldFor_40 rfl rfl rfl rfl ?_
        refine g_goto F 4 dX1_heldFor_43 (by decide) ?_
        exact ih x2 (x3 + 1) hf
      · replace hf := gi_t hc_1 hf
        refine g_iload_n F dX1_heldFor_28 rfl ?_
        refine g_aload_n F dX1_heldFor_29 rfl ?_
        refine g_get (C := RX1) (T := TX1) (N := 8) F 0 0 4 rfl rfl rfl iX1_heldFor_X1 (by decide) (by decide +kernel) rfl dX1_heldFor_30 ?_
        refine g_get (C := RX8) (T := TX8) (N := 5) F 2 0 3 rfl rfl rfl iX1_heldFor_X8 (by decide) (by decide +kernel) rfl dX1_heldFor_33 ?_
        refine g_iload_n F dX1_heldFor_36 rfl ?_
        obtain ⟨hb_2, hf⟩ := gb_in hf
        refine g_iald F 2 3 (x3.toNatClampNeg) rfl rfl rfl hb_2 dX1_heldFor_37 ?_
        refine g_iadd F dX1_heldFor_38 ?_
        refine g_istore_n (lv' := [some (.ref (aB 0)), some (.int x1), some (.int (x2 + (W.2.2.2.1 (x3.toNatClampNeg)))), some (.int x3)]) F dX1_heldFor_39 (Nat.le_of_ble_eq_true rfl) rfl rfl ?_
        refine g_iinc (lv' := [some (.ref (aB 0)), some (.int x1), some (.int (x2 + (W.2.2.2.1 (x3.toNatClampNeg)))), some (.int (x3 + 1))]) F (x3 + 1) dX1_heldFor_40 rfl rfl rfl rfl ?_
        refine g_goto F 4 dX1_heldFor_43 (by decide) ?_
        exact ih (x2 + (W.2.2.2.1 (x3.toNatClampNeg))) (x3 + 1) hf
set_option maxHeartbeats 4000000 in
set_option maxRecDepth 100000 in
theorem ctX1_heldFor (l : Launch) (E : gE) (aB asettings asums aU aP aW : Nat → Nat) (x1 : Int32) (B_time : Int32) (B_chest : Int32) (B_fund : Int32) (settings : (Nat → Int32)) (W : tWords) (r : Int32) (hf : fX1_heldFor x1 settings W = some r) : gMet l yX1_heldFor wsX1_heldFor rmX1_heldFor vwCl E [.ref (aB 0), .int x1] [sBook E aB asettings asums aU aP aW B_time B_chest B_fund, sArrI E asettings 5 settings, sWords E aW W] (fun v w => v = some (.int r) ∧ w = [sBook E aB asettings asums aU aP aW B_time B_chest B_fund, sArrI E asettings 5 settings, sWords E aW W]) 0 0 := by
  refine g_entry [some (.ref (aB 0)), some (.int x1), none, none] (by decide) rfl (Nat.le_of_ble_eq_true rfl) rfl ?_
  intro p e s m below meth c A F hnm
  unfold fX1_heldFor at hf
  refine g_iconst F 0 dX1_heldFor_0 rfl ?_
  refine g_istore_n (lv' := [some (.ref (aB 0)), some (.int x1), some (.int 0), none]) F dX1_heldFor_1 (Nat.le_of_ble_eq_true rfl) rfl rfl ?_
  refine g_iconst F 0 dX1_heldFor_2 rfl ?_
  refine g_istore_n (lv' := [some (.ref (aB 0)), some (.int x1), some (.int 0), some (.int 0)]) F dX1_heldFor_3 (Nat.le_of_ble_eq_true rfl) rfl rfl ?_
  refine ktX1_heldFor_L4 F aB asettings asums aU aP aW x1 W B_time B_chest B_fund settings r (fun x2_1 hf => ?_) FU 0 0 hf
  refine g_aload_n F dX1_heldFor_46 rfl ?_
  refine g_iload_n F dX1_heldFor_47 rfl ?_
  obtain ⟨r_1, hg_1, hf⟩ := gb1_el hf
  refine g_callV (C := RX1) (T := TX1) (N := 8) (Lr := [sWords E aW W]) (As := [.int x2_1]) (rest := []) F 0 0 1 (ctX1_depositsFor l E aB asettings asums aU aP aW x2_1 B_time B_chest B_fund settings r_1 hg_1) gX1_heldFor_X1_depositsFor rfl rfl rfl h0X1_depositsFor ⟨Nat.le_of_ble_eq_true rfl, Nat.le_of_ble_eq_true rfl⟩ rfl rfl rfl [0, 1] [2] rfl rfl rfl rfl rfl rfl (Nat.le_of_ble_eq_true rfl) dX1_heldFor_48 ⟨(Nat.le_of_ble_eq_true rfl), (Nat.le_of_ble_eq_true rfl)⟩ ?_
  rintro v w ⟨rfl, rfl⟩
  refine g_norm (Lw' := [sBook E aB asettings asums aU aP aW B_time B_chest B_fund, sArrI E asettings 5 settings, sWords E aW W]) (st' := [.int r_1]) (pc' := 51) [0, 1, 2] rfl rfl rfl rfl ?_
  cases hf
  exact g_iret F rfl ⟨rfl, rfl⟩ dX1_heldFor_51
set_option maxHeartbeats 4000000 in
set_option maxRecDepth 100000 in
theorem ctX1_costOf (l : Launch) (E : gE) (aB asettings asums aU aP aW aC aS : Nat → Nat) (B_time : Int32) (B_chest : Int32) (B_fund : Int32) (settings : (Nat → Int32)) (C : tCut) (r : Int32) (hf : fX1_costOf settings C = some r) : gMet l yX1_costOf wsX1_costOf rmX1_costOf vwCl E [.ref (aB 0), .ref (aC 0)] [sBook E aB asettings asums aU aP aW B_time B_chest B_fund, sArrI E asettings 5 settings, sCut E aC aS C] (fun v w => v = some (.int r) ∧ w = [sBook E aB asettings asums aU aP aW B_time B_chest B_fund, sArrI E asettings 5 settings, sCut E aC aS C]) 0 0 := by
  refine g_entry [some (.ref (aB 0)), some (.ref (aC 0))] (by decide) rfl (Nat.le_of_ble_eq_true rfl) rfl ?_
  intro p e s m below meth c A F hnm
  unfold fX1_costOf at hf
  refine g_aload_n F dX1_costOf_0 rfl ?_
  refine g_get (C := RX2) (T := TX2) (N := 12) F 2 0 3 rfl rfl rfl iX1_costOf_X2 (by decide) (by decide +kernel) rfl dX1_costOf_1 ?_
  refine g_aload_n F dX1_costOf_4 rfl ?_
  refine g_aload_n F dX1_costOf_5 rfl ?_
  refine g_get (C := RX2) (T := TX2) (N := 12) F 2 0 0 rfl rfl rfl iX1_costOf_X2 (by decide) (by decide +kernel) rfl dX1_costOf_6 ?_
  obtain ⟨r_1, hg_1, hf⟩ := gb1_el hf
  refine g_callV (C := RX1) (T := TX1) (N := 8) (Lr := [sCut E aC aS C]) (As := [.int C.1]) (rest := [.int C.2.2.2.1]) F 0 0 1 (ctX1_depositsFor l E aB asettings asums aU aP aW C.1 B_time B_chest B_fund settings r_1 hg_1) gX1_costOf_X1_depositsFor rfl rfl rfl h0X1_depositsFor ⟨Nat.le_of_ble_eq_true rfl, Nat.le_of_ble_eq_true rfl⟩ rfl rfl rfl [0, 1] [2] rfl rfl rfl rfl rfl rfl (Nat.le_of_ble_eq_true rfl) dX1_costOf_9 ⟨(Nat.le_of_ble_eq_true rfl), (Nat.le_of_ble_eq_true rfl)⟩ ?_
  rintro v w ⟨rfl, rfl⟩
  refine g_norm (Lw' := [sBook E aB asettings asums aU aP aW B_time B_chest B_fund, sArrI E asettings 5 settings, sCut E aC aS C]) (st' := [.int r_1, .int C.2.2.2.1]) (pc' := 12) [0, 1, 2] rfl rfl rfl rfl ?_
  refine g_iadd F dX1_costOf_12 ?_
  cases hf
  exact g_iret F rfl ⟨rfl, rfl⟩ dX1_costOf_13
set_option maxHeartbeats 4000000 in
set_option maxRecDepth 100000 in
theorem ctX1_refusal (l : Launch) (E : gE) (aB asettings asums aU aP aW aC aS : Nat → Nat) (x1 : Int32) (B_time : Int32) (B_chest : Int32) (B_fund : Int32) (settings : (Nat → Int32)) (U : tUsers) (P : tPieces) (W : tWords) (C : tCut) (r : Int32) (hf : fX1_refusal x1 settings U P W C = some r) : gMet l yX1_refusal wsX1_refusal rmX1_refusal vwCl E [.ref (aB 0), .int x1, .ref (aC 0)] [sBook E aB asettings asums aU aP aW B_time B_chest B_fund, sArrI E asettings 5 settings, sUsers E aU U, sPieces E aP P, sWords E aW W, sCut E aC aS C] (fun v w => v = some (.int r) ∧ w = [sBook E aB asettings asums aU aP aW B_time B_chest B_fund, sArrI E asettings 5 settings, sUsers E aU U, sPieces E aP P, sWords E aW W, sCut E aC aS C]) 0 0 := by
  refine g_entry [some (.ref (aB 0)), some (.int x1), some (.ref (aC 0))] (by decide) rfl (Nat.le_of_ble_eq_true rfl) rfl ?_
  intro p e s m below meth c A F hnm
  unfold fX1_refusal at hf
  refine g_aload_n F dX1_refusal_0 rfl ?_
  refine g_get (C := RX1) (T := TX1) (N := 8) F 0 0 4 rfl rfl rfl iX1_refusal_X1 (by decide) (by decide +kernel) rfl dX1_refusal_1 ?_
  obtain ⟨r_1, hg_1, hf⟩ := gb1_el hf
  refine g_callV (C := RX8) (T := TX8) (N := 5) (Lr := [sBook E aB asettings asums aU aP aW B_time B_chest B_fund, sArrI E asettings 5 settings, sUsers E aU U, sPieces E aP P, sCut E aC aS C]) (As := []) (rest := []) F 4 0 0 (ctX8_isFull l E aW W r_1 hg_1) gX1_refusal_X8_isFull rfl rfl rfl h0X8_isFull ⟨Nat.le_of_ble_eq_true rfl, Nat.le_of_ble_eq_true rfl⟩ rfl rfl rfl [4] [0, 1, 2, 3, 5] rfl rfl rfl rfl rfl rfl (Nat.le_of_ble_eq_true rfl) dX1_refusal_4 ⟨(Nat.le_of_ble_eq_true rfl), (Nat.le_of_ble_eq_true rfl)⟩ ?_
  rintro v w ⟨rfl, rfl, hz_1⟩
  refine g_norm (Lw' := [sBook E aB asettings asums aU aP aW B_time B_chest B_fund, sArrI E asettings 5 settings, sUsers E aU U, sPieces E aP P, sWords E aW W, sCut E aC aS C]) (st' := [.int r_1]) (pc' := 7) [1, 2, 3, 4, 0, 5] rfl rfl rfl rfl ?_
  refine g_ifeq F 12 dX1_refusal_7 (by decide) (fun hc_3 => ?_) (fun hc_3 => ?_)
  · replace hf := gi_t hc_3 hf
    refine g_aload_n F dX1_refusal_12 rfl ?_
    refine g_get (C := RX1) (T := TX1) (N := 8) F 0 0 3 rfl rfl rfl iX1_refusal_X1 (by decide) (by decide +kernel) rfl dX1_refusal_13 ?_
    refine g_get (C := RX6) (T := TX6) (N := 6) F 3 0 0 rfl rfl rfl iX1_refusal_X6 (by decide) (by decide +kernel) rfl dX1_refusal_16 ?_
    refine g_aload_n F dX1_refusal_19 rfl ?_
    refine g_get (C := RX2) (T := TX2) (N := 12) F 5 0 2 rfl rfl rfl iX1_refusal_X2 (by decide) (by decide +kernel) rfl dX1_refusal_20 ?_
    refine g_iadd F dX1_refusal_23 ?_
    refine g_bipush F 24 dX1_refusal_24 rfl ?_
    refine g_icmp_le F 31 dX1_refusal_26 (by decide) (fun hc_2 => ?_) (fun hc_2 => ?_)
    · replace hf := gi_t hc_2 hf
      refine g_aload_n F dX1_refusal_31 rfl ?_
      refine g_get (C := RX1) (T := TX1) (N := 8) F 0 0 2 rfl rfl rfl iX1_refusal_X1 (by decide) (by decide +kernel) rfl dX1_refusal_32 ?_
      refine g_iload_n F dX1_refusal_35 rfl ?_
      obtain ⟨r_2, hg_2, hf⟩ := gb1_el hf
      refine g_callV (C := RX7) (T := TX7) (N := 3) (Lr := [sBook E aB asettings asums aU aP aW B_time B_chest B_fund, sArrI E asettings 5 settings, sPieces E aP P, sWords E aW W, sCut E aC aS C]) (As := [.int x1]) (rest := []) F 2 0 1 (ctX7_coinsOf l E aU x1 U r_2 hg_2) gX1_refusal_X7_coinsOf rfl rfl rfl h0X7_coinsOf ⟨Nat.le_of_ble_eq_true rfl, Nat.le_of_ble_eq_true rfl⟩ rfl rfl rfl [2] [0, 1, 3, 4, 5] rfl rfl rfl rfl rfl rfl (Nat.le_of_ble_eq_true rfl) dX1_refusal_36 ⟨(Nat.le_of_ble_eq_true rfl), (Nat.le_of_ble_eq_true rfl)⟩ ?_
      rintro v w ⟨rfl, rfl⟩
      refine g_norm (Lw' := [sBook E aB asettings asums aU aP aW B_time B_chest B_fund, sArrI E asettings 5 settings, sUsers E aU U, sPieces E aP P, sWords E aW W, sCut E aC aS C]) (st' := [.int r_2]) (pc' := 39) [1, 2, 0, 3, 4, 5] rfl rfl rfl rfl ?_
      refine g_aload_n F dX1_refusal_39 rfl ?_
      refine g_aload_n F dX1_refusal_40 rfl ?_
      obtain ⟨r_3, hg_3, hf⟩ := gb1_el hf
      refine g_callV (C := RX1) (T := TX1) (N := 8) (Lr := [sUsers E aU U, sPieces E aP P, sWords E aW W]) (As := [.ref (aC 0)]) (rest := [.int r_2]) F 0 0 1 (ctX1_costOf l E aB asettings asums aU aP aW aC aS B_time B_chest B_fund settings C r_3 hg_3) gX1_refusal_X1_costOf rfl rfl rfl h0X1_costOf ⟨Nat.le_of_ble_eq_true rfl, Nat.le_of_ble_eq_true rfl⟩ rfl rfl rfl [0, 1, 5] [2, 3, 4] rfl rfl rfl rfl rfl rfl (Nat.le_of_ble_eq_true rfl) dX1_refusal_41 ⟨(Nat.le_of_ble_eq_true rfl), (Nat.le_of_ble_eq_true rfl)⟩ ?_
      rintro v w ⟨rfl, rfl⟩
      refine g_norm (Lw' := [sBook E aB asettings asums aU aP aW B_time B_chest B_fund, sArrI E asettings 5 settings, sUsers E aU U, sPieces E aP P, sWords E aW W, sCut E aC aS C]) (st' := [.int r_3, .int r_2]) (pc' := 44) [0, 1, 3, 4, 5, 2] rfl rfl rfl rfl ?_
      refine g_icmp_ge F 51 dX1_refusal_44 (by decide) (fun hc_1 => ?_) (fun hc_1 => ?_)
      · replace hf := gi_t hc_1 hf
        refine g_iconst F 0 dX1_refusal_51 rfl ?_
        cases hf
        exact g_iret F rfl ⟨rfl, rfl⟩ dX1_refusal_52
      · replace hf := gi_f hc_1 hf
        refine g_iconst F 4 dX1_refusal_47 rfl ?_
        refine g_goto F 52 dX1_refusal_48 (by decide) ?_
        cases hf
        exact g_iret F rfl ⟨rfl, rfl⟩ dX1_refusal_52
    · replace hf := gi_f hc_2 hf
      refine g_iconst F 3 dX1_refusal_29 rfl ?_
      cases hf
      exact g_iret F rfl ⟨rfl, rfl⟩ dX1_refusal_30
  · replace hf := gi_f hc_3 hf
    refine g_iconst F 2 dX1_refusal_10 rfl ?_
    cases hf
    exact g_iret F rfl ⟨rfl, rfl⟩ dX1_refusal_11
set_option maxHeartbeats 4000000 in
set_option maxRecDepth 100000 in
theorem ctX1_buyPiece (l : Launch) (E : gE) (aB asettings asums aU aP aW : Nat → Nat) (x1 : Int32) (x2 : Int64) (B_time : Int32) (B_chest : Int32) (B_fund : Int32) (settings : (Nat → Int32)) (sums : (Nat → Int32)) (U : tUsers) (P : tPieces) (r : Int32) (B_chest' : Int32) (sums' : (Nat → Int32)) (U' : tUsers) (P' : tPieces) (hf : fX1_buyPiece x1 x2 B_time B_chest settings sums U P = some (r, B_chest', sums', U', P')) : gMet l yX1_buyPiece wsX1_buyPiece rmX1_buyPiece vwCl E [.ref (aB 0), .int x1, .long x2] [sBook E aB asettings asums aU aP aW B_time B_chest B_fund, sArrI E asettings 5 settings, sArrI E asums 6 sums, sUsers E aU U, sPieces E aP P] (fun v w => v = some (.int r) ∧ w = [sBook E aB asettings asums aU aP aW B_time B_chest' B_fund, sArrI E asettings 5 settings, sArrI E asums 6 sums', sUsers E aU U', sPieces E aP P']) 0 0 := by
  refine g_entry [some (.ref (aB 0)), some (.int x1), some (.long x2), none, none] (by decide) rfl (Nat.le_of_ble_eq_true rfl) rfl ?_
  intro p e s m below meth c A F hnm
  unfold fX1_buyPiece at hf
  refine g_aload_n F dX1_buyPiece_0 rfl ?_
  refine g_lload_n F dX1_buyPiece_1 rfl ?_
  obtain ⟨r_1, hg_1, hf⟩ := gb1_el hf
  refine g_callS (Lr := [sBook E aB asettings asums aU aP aW B_time B_chest B_fund, sArrI E asettings 5 settings, sArrI E asums 6 sums, sUsers E aU U, sPieces E aP P]) (As := [.long x2]) (rest := [.ref (aB 0)]) F 1 (ctX4_lengthOf l E x2 r_1 hg_1) (va_cwS 1 F.2.2.2.2.2.1 gX1_buyPiece_X4_lengthOf rfl rfl rfl h0X4_lengthOf ⟨Nat.le_of_ble_eq_true rfl, Nat.le_of_ble_eq_true rfl⟩) [] [0, 1, 2, 3, 4] rfl rfl rfl rfl rfl rfl (Nat.le_of_ble_eq_true rfl) dX1_buyPiece_2 ⟨(Nat.le_of_ble_eq_true rfl), (Nat.le_of_ble_eq_true rfl)⟩ ?_
  rintro v w ⟨rfl, rfl⟩
  refine g_norm (Lw' := [sBook E aB asettings asums aU aP aW B_time B_chest B_fund, sArrI E asettings 5 settings, sArrI E asums 6 sums, sUsers E aU U, sPieces E aP P]) (st' := [.int r_1, .ref (aB 0)]) (pc' := 5) [0, 1, 2, 3, 4] rfl rfl rfl rfl ?_
  obtain ⟨r_2, hg_2, hf⟩ := gb1_el hf
  refine g_callV (C := RX1) (T := TX1) (N := 8) (Lr := [sArrI E asums 6 sums, sUsers E aU U, sPieces E aP P]) (As := [.int r_1]) (rest := []) F 0 0 1 (ctX1_newPrice l E aB asettings asums aU aP aW r_1 B_time B_chest B_fund settings r_2 hg_2) gX1_buyPiece_X1_newPrice rfl rfl rfl h0X1_newPrice ⟨Nat.le_of_ble_eq_true rfl, Nat.le_of_ble_eq_true rfl⟩ rfl rfl rfl [0, 1] [2, 3, 4] rfl rfl rfl rfl rfl rfl (Nat.le_of_ble_eq_true rfl) dX1_buyPiece_5 ⟨(Nat.le_of_ble_eq_true rfl), (Nat.le_of_ble_eq_true rfl)⟩ ?_
  rintro v w ⟨rfl, rfl⟩
  refine g_norm (Lw' := [sBook E aB asettings asums aU aP aW B_time B_chest B_fund, sArrI E asettings 5 settings, sArrI E asums 6 sums, sUsers E aU U, sPieces E aP P]) (st' := [.int r_2]) (pc' := 8) [0, 1, 2, 3, 4] rfl rfl rfl rfl ?_
  refine g_istore (lv' := [some (.ref (aB 0)), some (.int x1), some (.long x2), none, some (.int r_2)]) F dX1_buyPiece_8 (Nat.le_of_ble_eq_true rfl) rfl rfl ?_
  refine g_aload_n F dX1_buyPiece_10 rfl ?_
  refine g_get (C := RX1) (T := TX1) (N := 8) F 0 0 2 rfl rfl rfl iX1_buyPiece_X1 (by decide) (by decide +kernel) rfl dX1_buyPiece_11 ?_
  refine g_iload_n F dX1_buyPiece_14 rfl ?_
  refine g_iload F dX1_buyPiece_15 rfl ?_
  refine g_ineg F dX1_buyPiece_17 ?_
  obtain ⟨U_1, hg_3, hf⟩ := gb1_el hf
  refine g_callV (C := RX7) (T := TX7) (N := 3) (Lr := [sBook E aB asettings asums aU aP aW B_time B_chest B_fund, sArrI E asettings 5 settings, sArrI E asums 6 sums, sPieces E aP P]) (As := [.int x1, .int (-r_2)]) (rest := []) F 3 0 2 (ctX7_give l E aU x1 (-r_2) U U_1 hg_3) gX1_buyPiece_X7_give rfl rfl rfl h0X7_give ⟨Nat.le_of_ble_eq_true rfl, Nat.le_of_ble_eq_true rfl⟩ rfl rfl rfl [3] [0, 1, 2, 4] rfl rfl rfl rfl rfl rfl (Nat.le_of_ble_eq_true rfl) dX1_buyPiece_18 ⟨(Nat.le_of_ble_eq_true rfl), (Nat.le_of_ble_eq_true rfl)⟩ ?_
  rintro v w ⟨rfl, rfl⟩
  refine g_norm (Lw' := [sBook E aB asettings asums aU aP aW B_time B_chest B_fund, sArrI E asettings 5 settings, sArrI E asums 6 sums, sUsers E aU U_1, sPieces E aP P]) (st' := []) (pc' := 21) [1, 2, 3, 0, 4] rfl rfl rfl rfl ?_
  refine g_aload_n F dX1_buyPiece_21 rfl ?_
  refine g_dup F dX1_buyPiece_22 rfl ?_
  refine g_get (C := RX1) (T := TX1) (N := 8) F 0 0 6 rfl rfl rfl iX1_buyPiece_X1 (by decide) (by decide +kernel) rfl dX1_buyPiece_23 ?_
  refine g_iload F dX1_buyPiece_26 rfl ?_
  refine g_iadd F dX1_buyPiece_28 ?_
  refine g_put (C := RX1) (T := TX1) (N := 8) (tys := tyX1) (Lw' := [sBook E aB asettings asums aU aP aW B_time (B_chest + r_2) B_fund, sArrI E asettings 5 settings, sArrI E asums 6 sums, sUsers E aU U_1, sPieces E aP P]) F 0 0 6 rfl rfl rfl iX1_buyPiece_X1 tyX1_ok nmX1 (by decide) (by decide +kernel) rfl rfl rfl rfl (Nat.le_of_ble_eq_true rfl) dX1_buyPiece_29 rfl ?_
  refine g_aload_n F dX1_buyPiece_32 rfl ?_
  refine g_get (C := RX1) (T := TX1) (N := 8) F 0 0 1 rfl rfl rfl iX1_buyPiece_X1 (by decide) (by decide +kernel) rfl dX1_buyPiece_33 ?_
  refine g_iconst F 0 dX1_buyPiece_36 rfl ?_
  refine g_dup2 F dX1_buyPiece_37 rfl rfl ?_
  refine g_iald F 2 0 0 (by decide) rfl rfl (by decide) dX1_buyPiece_38 ?_
  refine g_iload F dX1_buyPiece_39 rfl ?_
  refine g_iadd F dX1_buyPiece_41 ?_
  obtain ⟨sums_1, hsums_1, hf⟩ := Lt_el hf
  refine g_iast (Lw' := [sBook E aB asettings asums aU aP aW B_time (B_chest + r_2) B_fund, sArrI E asettings 5 settings, sArrI E asums 6 sums_1, sUsers E aU U_1, sPieces E aP P]) F 2 0 0 (by decide) rfl rfl (by decide) dX1_buyPiece_42 (by subst hsums_1; rfl) ?_
  refine g_aload_n F dX1_buyPiece_43 rfl ?_
  refine g_get (C := RX1) (T := TX1) (N := 8) F 0 0 1 rfl rfl rfl iX1_buyPiece_X1 (by decide) (by decide +kernel) rfl dX1_buyPiece_44 ?_
  refine g_iconst F 4 dX1_buyPiece_47 rfl ?_
  refine g_dup2 F dX1_buyPiece_48 rfl rfl ?_
  refine g_iald F 2 0 4 (by decide) rfl rfl (by decide) dX1_buyPiece_49 ?_
  refine g_iconst F 1 dX1_buyPiece_50 rfl ?_
  refine g_iadd F dX1_buyPiece_51 ?_
  obtain ⟨sums_2, hsums_2, hf⟩ := Lt_el hf
  refine g_iast (Lw' := [sBook E aB asettings asums aU aP aW B_time (B_chest + r_2) B_fund, sArrI E asettings 5 settings, sArrI E asums 6 sums_2, sUsers E aU U_1, sPieces E aP P]) F 2 0 4 (by decide) rfl rfl (by decide) dX1_buyPiece_52 (by subst hsums_2; rfl) ?_
  refine g_aload_n F dX1_buyPiece_53 rfl ?_
  refine g_get (C := RX1) (T := TX1) (N := 8) F 0 0 3 rfl rfl rfl iX1_buyPiece_X1 (by decide) (by decide +kernel) rfl dX1_buyPiece_54 ?_
  refine g_lload_n F dX1_buyPiece_57 rfl ?_
  refine g_iload F dX1_buyPiece_58 rfl ?_
  refine g_iload_n F dX1_buyPiece_60 rfl ?_
  refine g_aload_n F dX1_buyPiece_61 rfl ?_
  refine g_get (C := RX1) (T := TX1) (N := 8) F 0 0 5 rfl rfl rfl iX1_buyPiece_X1 (by decide) (by decide +kernel) rfl dX1_buyPiece_62 ?_
  obtain ⟨r_3, P_1, hg_4, hf⟩ := gb2_el hf
  refine g_callV (C := RX6) (T := TX6) (N := 6) (Lr := [sBook E aB asettings asums aU aP aW B_time (B_chest + r_2) B_fund, sArrI E asettings 5 settings, sArrI E asums 6 sums_2, sUsers E aU U_1]) (As := [.long x2, .int r_2, .int x1, .int B_time]) (rest := []) F 4 0 4 (ctX6_add l E aP x2 r_2 x1 B_time P r_3 P_1 hg_4) gX1_buyPiece_X6_add rfl rfl rfl h0X6_add ⟨Nat.le_of_ble_eq_true rfl, Nat.le_of_ble_eq_true rfl⟩ rfl rfl rfl [4] [0, 1, 2, 3] rfl rfl rfl rfl rfl rfl (Nat.le_of_ble_eq_true rfl) dX1_buyPiece_65 ⟨(Nat.le_of_ble_eq_true rfl), (Nat.le_of_ble_eq_true rfl)⟩ ?_
  rintro v w ⟨rfl, rfl⟩
  refine g_norm (Lw' := [sBook E aB asettings asums aU aP aW B_time (B_chest + r_2) B_fund, sArrI E asettings 5 settings, sArrI E asums 6 sums_2, sUsers E aU U_1, sPieces E aP P_1]) (st' := [.int r_3]) (pc' := 68) [1, 2, 3, 4, 0] rfl rfl rfl rfl ?_
  cases hf
  exact g_iret F rfl ⟨rfl, rfl⟩ dX1_buyPiece_68
set_option maxHeartbeats 4000000 in
set_option maxRecDepth 100000 in
theorem ktX1_storeCutting_L14 {p : Program} {l : Launch} {e : Env} {s : State} {m : MethodId} {args : Array Value} {below : List Frame} {meth : Method} {c : Code} {E : gE} {A : Nat → Prop} (F : gFx p s m args meth c RX1 wsX1_storeCutting cX1_storeCutting 8 (some .int) vwCl E A) (aB asettings asums aU aP aW aC aS : Nat → Nat) (x1 : Int32) (x5 : Int32) (B_time : Int32) (settings : (Nat → Int32)) (C : tCut) (B_fund : Int32) (r : Int32) (B_chest' : Int32) (B_fund' : Int32) (sums' : (Nat → Int32)) (U' : tUsers) (P' : tPieces) (W' : tWords) {k : Int32 → (Nat → Int32) → tUsers → tPieces → tWords → Option (Int32 × Int32 × Int32 × (Nat → Int32) × tUsers × tPieces × tWords)} (hk : ∀ (B_chest : Int32) (sums : (Nat → Int32)) (U : tUsers) (P : tPieces) (W : tWords), k B_chest sums U P W = some (r, B_chest', B_fund', sums', U', P', W') → Gj p l e rmX1_storeCutting s m args below meth c 0 0 (MQ below (gQ vwCl E A (fun v w => v = some (.int r) ∧ w = [sBook E aB asettings asums aU aP aW B_time B_chest' B_fund', sArrI E asettings 5 settings, sArrI E asums 6 sums', sUsers E aU U', sPieces E aP P', sWords E aW W', sCut E aC aS C])) args s 0 0 A) vwCl E A [sBook E aB asettings asums aU aP aW B_time B_chest B_fund, sArrI E asettings 5 settings, sArrI E asums 6 sums, sUsers E aU U, sPieces E aP P, sWords E aW W, sCut E aC aS C] [some (.ref (aB 0)), some (.int x1), none, none, some (.ref (aC 0)), some (.int x5), none, none] [] 88) : ∀ (n : Nat) (x6 : Int32) (B_chest : Int32) (sums : (Nat → Int32)) (U : tUsers) (P : tPieces) (W : tWords), fX1_storeCutting_L14 x1 x5 B_time settings C k n x6 B_chest sums U P W = some (r, B_chest', B_fund', sums', U', P', W') → Gj p l e rmX1_storeCutting s m args below meth c 0 0 (MQ below (gQ vwCl E A (fun v w => v = some (.int r) ∧ w = [sBook E aB asettings asums aU aP aW B_time B_chest' B_fund', sArrI E asettings 5 settings, sArrI E asums 6 sums', sUsers E aU U', sPieces E aP P', sWords E aW W', sCut E aC aS C])) args s 0 0 A) vwCl E A [sBook E aB asettings asums aU aP aW B_time B_chest B_fund, sArrI E asettings 5 settings, sArrI E asums 6 sums, sUsers E aU U, sPieces E aP P, sWords E aW W, sCut E aC aS C] [some (.ref (aB 0)), some (.int x1), none, none, some (.ref (aC 0)), some (.int x5), some (.int x6), none] [] 14
  | 0, _, _, _, _, _, _, hf => by cases hf
  | n + 1, x6, B_chest, sums, U, P, W, hf => by
    have ih := ktX1_storeCutting_L14 F aB asettings asums aU aP aW aC aS x1 x5 B_time settings C B_fund r B_chest' B_fund' sums' U' P' W' hk n
    rw [fX1_storeCutting_L14] at hf
    refine g_iload F dX1_storeCutting_14 rfl ?_
    refine g_aload F dX1_storeCutting_16 rfl ?_
    refine g_get (C := RX2) (T := TX2) (N := 12) F 6 0 0 rfl rfl rfl iX1_storeCutting_X2 (by decide) (by decide +kernel) rfl dX1_storeCutting_18 ?_
    refine g_icmp_ge F 88 dX1_storeCutting_21 (by decide) (fun hc_2 => ?_) (fun hc_2 => ?_)
    · replace hf := gi_t hc_2 hf
      refine g_mask [true, true, true, true, true, true, false, true] rfl ?_
      exact hk B_chest sums U P W hf
    · replace hf := gi_f hc_2 hf
      refine g_aload_n F dX1_storeCutting_24 rfl ?_
      refine g_get (C := RX1) (T := TX1) (N := 8) F 0 0 3 rfl rfl rfl iX1_storeCutting_X1 (by decide) (by decide +kernel) rfl dX1_storeCutting_25 ?_
      refine g_aload F dX1_storeCutting_28 rfl ?_
      refine g_get (C := RX2) (T := TX2) (N := 12) F 6 0 1 rfl rfl rfl iX1_storeCutting_X2 (by decide) (by decide +kernel) rfl dX1_storeCutting_30 ?_
      refine g_iload F dX1_storeCutting_33 rfl ?_
      obtain ⟨hb_1, hf⟩ := gb_in hf
      refine g_lald F 6 1 (x6.toNatClampNeg) rfl rfl rfl hb_1 dX1_storeCutting_35 ?_
      obtain ⟨r_1, hg_1, hf⟩ := gb1_el hf
      refine g_callV (C := RX6) (T := TX6) (N := 6) (Lr := [sBook E aB asettings asums aU aP aW B_time B_chest B_fund, sArrI E asettings 5 settings, sArrI E asums 6 sums, sUsers E aU U, sWords E aW W, sCut E aC aS C]) (As := [.long (C.2.1 (x6.toNatClampNeg))]) (rest := []) F 4 0 1 (ctX6_numberOf l E aP (C.2.1 (x6.toNatClampNeg)) P r_1 hg_1) gX1_storeCutting_X6_numberOf rfl rfl rfl h0X6_numberOf ⟨Nat.le_of_ble_eq_true rfl, Nat.le_of_ble_eq_true rfl⟩ rfl rfl rfl [4] [0, 1, 2, 3, 5, 6] rfl rfl rfl rfl rfl rfl (Nat.le_of_ble_eq_true rfl) dX1_storeCutting_36 ⟨(Nat.le_of_ble_eq_true rfl), (Nat.le_of_ble_eq_true rfl)⟩ ?_
      rintro v w ⟨rfl, rfl⟩
      refine g_norm (Lw' := [sBook E aB asettings asums aU aP aW B_time B_chest B_fund, sArrI E asettings 5 settings, sArrI E asums 6 sums, sUsers E aU U, sPieces E aP P, sWords E aW W, sCut E aC aS C]) (st' := [.int r_1]) (pc' := 39) [1, 2, 3, 4, 0, 5, 6] rfl rfl rfl rfl ?_
      refine g_istore (lv' := [some (.ref (aB 0)), some (.int x1), none, none, some (.ref (aC 0)), some (.int x5), some (.int x6), some (.int r_1)]) F dX1_storeCutting_39 (Nat.le_of_ble_eq_true rfl) rfl rfl ?_
      refine g_iload F dX1_storeCutting_41 rfl ?_
      refine g_iconst F (-1) dX1_storeCutting_43 rfl ?_
      obtain ⟨j_1, hj_1, hf⟩ := Lt_el hf
      have hj_1 : ∀ (x7_1 : Int32) (B_chest_1 : Int32) (sums_1 : (Nat → Int32)) (U_1 : tUsers) (P_1 : tPieces), j_1 x7_1 B_chest_1 sums_1 U_1 P_1 = some (r, B_chest', B_fund', sums', U', P', W') → Gj p l e rmX1_storeCutting s m args below meth c 0 0 (MQ below (gQ vwCl E A (fun v w => v = some (.int r) ∧ w = [sBook E aB asettings asums aU aP aW B_time B_chest' B_fund', sArrI E asettings 5 settings, sArrI E asums 6 sums', sUsers E aU U', sPieces E aP P', sWords E aW W', sCut E aC aS C])) args s 0 0 A) vwCl E A [sBook E aB asettings asums aU aP aW B_time B_chest_1 B_fund, sArrI E asettings 5 settings, sArrI E asums 6 sums_1, sUsers E aU U_1, sPieces E aP P_1, sWords E aW W, sCut E aC aS C] [some (.ref (aB 0)), some (.int x1), none, none, some (.ref (aC 0)), some (.int x5), some (.int x6), some (.int x7_1)] [] 62 := by
        intro x7_1 B_chest_1 sums_1 U_1 P_1 hf
        rw [hj_1] at hf
        refine g_aload_n F dX1_storeCutting_62 rfl ?_
        refine g_get (C := RX1) (T := TX1) (N := 8) F 0 0 4 rfl rfl rfl iX1_storeCutting_X1 (by decide) (by decide +kernel) rfl dX1_storeCutting_63 ?_
        refine g_iload F dX1_storeCutting_66 rfl ?_
        refine g_iload F dX1_storeCutting_68 rfl ?_
        obtain ⟨W_1, hg_2, hf⟩ := gb1_el hf
        refine g_callV (C := RX8) (T := TX8) (N := 5) (Lr := [sBook E aB asettings asums aU aP aW B_time B_chest_1 B_fund, sArrI E asettings 5 settings, sArrI E asums 6 sums_1, sUsers E aU U_1, sPieces E aP P_1, sCut E aC aS C]) (As := [.int x5, .int x7_1]) (rest := []) F 5 0 2 (ctX8_addPart l E aW x5 x7_1 W W_1 hg_2) gX1_storeCutting_X8_addPart rfl rfl rfl h0X8_addPart ⟨Nat.le_of_ble_eq_true rfl, Nat.le_of_ble_eq_true rfl⟩ rfl rfl rfl [5] [0, 1, 2, 3, 4, 6] rfl rfl rfl rfl rfl rfl (Nat.le_of_ble_eq_true rfl) dX1_storeCutting_70 ⟨(Nat.le_of_ble_eq_true rfl), (Nat.le_of_ble_eq_true rfl)⟩ ?_
        rintro v w ⟨rfl, rfl⟩
        refine g_norm (Lw' := [sBook E aB asettings asums aU aP aW B_time B_chest_1 B_fund, sArrI E asettings 5 settings, sArrI E asums 6 sums_1, sUsers E aU U_1, sPieces E aP P_1, sWords E aW W_1, sCut E aC aS C]) (st' := []) (pc' := 73) [1, 2, 3, 4, 5, 0, 6] rfl rfl rfl rfl ?_
        refine g_aload_n F dX1_storeCutting_73 rfl ?_
        refine g_get (C := RX1) (T := TX1) (N := 8) F 0 0 3 rfl rfl rfl iX1_storeCutting_X1 (by decide) (by decide +kernel) rfl dX1_storeCutting_74 ?_
        refine g_iload F dX1_storeCutting_77 rfl ?_
        obtain ⟨P_2, hg_3, hf⟩ := gb1_el hf
        refine g_callV (C := RX6) (T := TX6) (N := 6) (Lr := [sBook E aB asettings asums aU aP aW B_time B_chest_1 B_fund, sArrI E asettings 5 settings, sArrI E asums 6 sums_1, sUsers E aU U_1, sWords E aW W_1, sCut E aC aS C]) (As := [.int x7_1]) (rest := []) F 4 0 1 (ctX6_beginUse l E aP x7_1 P_1 P_2 hg_3) gX1_storeCutting_X6_beginUse rfl rfl rfl h0X6_beginUse ⟨Nat.le_of_ble_eq_true rfl, Nat.le_of_ble_eq_true rfl⟩ rfl rfl rfl [4] [0, 1, 2, 3, 5, 6] rfl rfl rfl rfl rfl rfl (Nat.le_of_ble_eq_true rfl) dX1_storeCutting_79 ⟨(Nat.le_of_ble_eq_true rfl), (Nat.le_of_ble_eq_true rfl)⟩ ?_
        rintro v w ⟨rfl, rfl⟩
        refine g_norm (Lw' := [sBook E aB asettings asums aU aP aW B_time B_chest_1 B_fund, sArrI E asettings 5 settings, sArrI E asums 6 sums_1, sUsers E aU U_1, sPieces E aP P_2, sWords E aW W_1, sCut E aC aS C]) (st' := []) (pc' := 82) [1, 2, 3, 4, 0, 5, 6] rfl rfl rfl rfl ?_
        refine g_iinc (lv' := [some (.ref (aB 0)), some (.int x1), none, none, some (.ref (aC 0)), some (.int x5), some (.int (x6 + 1)), some (.int x7_1)]) F (x6 + 1) dX1_storeCutting_82 rfl rfl rfl rfl ?_
        refine g_goto F 14 dX1_storeCutting_85 (by decide) ?_
        refine g_mask [true, true, true, true, true, true, true, false] rfl ?_
        exact ih (x6 + 1) B_chest_1 sums_1 U_1 P_2 W_1 hf
      refine g_icmp_ne F 62 dX1_storeCutting_44 (by decide) (fun hc_1 => ?_) (fun hc_1 => ?_)
      · replace hf := gi_f hc_1 hf
        exact hj_1 r_1 B_chest sums U P hf
      · replace hf := gi_t hc_1 hf
        refine g_aload_n F dX1_storeCutting_47 rfl ?_
        refine g_iload_n F dX1_storeCutting_48 rfl ?_
        refine g_aload F dX1_storeCutting_49 rfl ?_
        refine g_get (C := RX2) (T := TX2) (N := 12) F 6 0 1 rfl rfl rfl iX1_storeCutting_X2 (by decide) (by decide +kernel) rfl dX1_storeCutting_51 ?_
        refine g_iload F dX1_storeCutting_54 rfl ?_
        obtain ⟨hb_2, hf⟩ := gb_in hf
        refine g_lald F 6 1 (x6.toNatClampNeg) rfl rfl rfl hb_2 dX1_storeCutting_56 ?_
        obtain ⟨r_2, B_chest_2, sums_2, U_2, P_3, hg_4, hf⟩ := gb5_el hf
        refine g_callV (C := RX1) (T := TX1) (N := 8) (Lr := [sWords E aW W, sCut E aC aS C]) (As := [.int x1, .long (C.2.1 (x6.toNatClampNeg))]) (rest := []) F 0 0 2 (ctX1_buyPiece l E aB asettings asums aU aP aW x1 (C.2.1 (x6.toNatClampNeg)) B_time B_chest B_fund settings sums U P r_2 B_chest_2 sums_2 U_2 P_3 hg_4) gX1_storeCutting_X1_buyPiece rfl rfl rfl h0X1_buyPiece ⟨Nat.le_of_ble_eq_true rfl, Nat.le_of_ble_eq_true rfl⟩ rfl rfl rfl [0, 1, 2, 3, 4] [5, 6] rfl rfl rfl rfl rfl rfl (Nat.le_of_ble_eq_true rfl) dX1_storeCutting_57 ⟨(Nat.le_of_ble_eq_true rfl), (Nat.le_of_ble_eq_true rfl)⟩ ?_
        rintro v w ⟨rfl, rfl⟩
        refine g_norm (Lw' := [sBook E aB asettings asums aU aP aW B_time B_chest_2 B_fund, sArrI E asettings 5 settings, sArrI E asums 6 sums_2, sUsers E aU U_2, sPieces E aP P_3, sWords E aW W, sCut E aC aS C]) (st' := [.int r_2]) (pc' := 60) [0, 1, 2, 3, 4, 5, 6] rfl rfl rfl rfl ?_
        refine g_istore (lv' := [some (.ref (aB 0)), some (.int x1), none, none, some (.ref (aC 0)), some (.int x5), some (.int x6), some (.int r_2)]) F dX1_storeCutting_60 (Nat.le_of_ble_eq_true rfl) rfl rfl ?_
        exact hj_1 r_2 B_chest_2 sums_2 U_2 P_3 hf
set_option maxHeartbeats 4000000 in
set_option maxRecDepth 100000 in
theorem ctX1_storeCutting (l : Launch) (E : gE) (aB asettings asums aU aP aW aC aS : Nat → Nat) (x1 : Int32) (x2 : Int64) (B_time : Int32) (B_chest : Int32) (B_fund : Int32) (settings : (Nat → Int32)) (sums : (Nat → Int32)) (U : tUsers) (P : tPieces) (W : tWords) (C : tCut) (r : Int32) (B_chest' : Int32) (B_fund' : Int32) (sums' : (Nat → Int32)) (U' : tUsers) (P' : tPieces) (W' : tWords) (hf : fX1_storeCutting x1 x2 B_time B_chest B_fund settings sums U P W C = some (r, B_chest', B_fund', sums', U', P', W')) : gMet l yX1_storeCutting wsX1_storeCutting rmX1_storeCutting vwCl E [.ref (aB 0), .int x1, .long x2, .ref (aC 0)] [sBook E aB asettings asums aU aP aW B_time B_chest B_fund, sArrI E asettings 5 settings, sArrI E asums 6 sums, sUsers E aU U, sPieces E aP P, sWords E aW W, sCut E aC aS C] (fun v w => v = some (.int r) ∧ w = [sBook E aB asettings asums aU aP aW B_time B_chest' B_fund', sArrI E asettings 5 settings, sArrI E asums 6 sums', sUsers E aU U', sPieces E aP P', sWords E aW W', sCut E aC aS C]) 0 0 := by
  refine g_entry [some (.ref (aB 0)), some (.int x1), some (.long x2), none, some (.ref (aC 0)), none, none, none] (by decide) rfl (Nat.le_of_ble_eq_true rfl) rfl ?_
  intro p e s m below meth c A F hnm
  unfold fX1_storeCutting at hf
  refine g_aload_n F dX1_storeCutting_0 rfl ?_
  refine g_get (C := RX1) (T := TX1) (N := 8) F 0 0 4 rfl rfl rfl iX1_storeCutting_X1 (by decide) (by decide +kernel) rfl dX1_storeCutting_1 ?_
  refine g_lload_n F dX1_storeCutting_4 rfl ?_
  refine g_iload_n F dX1_storeCutting_5 rfl ?_
  obtain ⟨r_1, W_1, hg_1, hf⟩ := gb2_el hf
  refine g_callV (C := RX8) (T := TX8) (N := 5) (Lr := [sBook E aB asettings asums aU aP aW B_time B_chest B_fund, sArrI E asettings 5 settings, sArrI E asums 6 sums, sUsers E aU U, sPieces E aP P, sCut E aC aS C]) (As := [.long x2, .int x1]) (rest := []) F 5 0 2 (ctX8_add l E aW x2 x1 W r_1 W_1 hg_1) gX1_storeCutting_X8_add rfl rfl rfl h0X8_add ⟨Nat.le_of_ble_eq_true rfl, Nat.le_of_ble_eq_true rfl⟩ rfl rfl rfl [5] [0, 1, 2, 3, 4, 6] rfl rfl rfl rfl rfl rfl (Nat.le_of_ble_eq_true rfl) dX1_storeCutting_6 ⟨(Nat.le_of_ble_eq_true rfl), (Nat.le_of_ble_eq_true rfl)⟩ ?_
  rintro v w ⟨rfl, rfl⟩
  refine g_norm (Lw' := [sBook E aB asettings asums aU aP aW B_time B_chest B_fund, sArrI E asettings 5 settings, sArrI E asums 6 sums, sUsers E aU U, sPieces E aP P, sWords E aW W_1, sCut E aC aS C]) (st' := [.int r_1]) (pc' := 9) [1, 2, 3, 4, 5, 0, 6] rfl rfl rfl rfl ?_
  refine g_istore (lv' := [some (.ref (aB 0)), some (.int x1), some (.long x2), none, some (.ref (aC 0)), some (.int r_1), none, none]) F dX1_storeCutting_9 (Nat.le_of_ble_eq_true rfl) rfl rfl ?_
  refine g_iconst F 0 dX1_storeCutting_11 rfl ?_
  refine g_istore (lv' := [some (.ref (aB 0)), some (.int x1), some (.long x2), none, some (.ref (aC 0)), some (.int r_1), some (.int 0), none]) F dX1_storeCutting_12 (Nat.le_of_ble_eq_true rfl) rfl rfl ?_
  refine g_mask [true, true, false, true, true, true, true, true] rfl ?_
  refine ktX1_storeCutting_L14 F aB asettings asums aU aP aW aC aS x1 r_1 B_time settings C B_fund r B_chest' B_fund' sums' U' P' W' (fun B_chest_1 sums_1 U_1 P_1 W_2 hf => ?_) FU 0 B_chest sums U P W_1 hf
  refine g_aload_n F dX1_storeCutting_88 rfl ?_
  refine g_aload F dX1_storeCutting_89 rfl ?_
  refine g_get (C := RX2) (T := TX2) (N := 12) F 6 0 0 rfl rfl rfl iX1_storeCutting_X2 (by decide) (by decide +kernel) rfl dX1_storeCutting_91 ?_
  obtain ⟨r_2, hg_2, hf⟩ := gb1_el hf
  refine g_callV (C := RX1) (T := TX1) (N := 8) (Lr := [sArrI E asums 6 sums_1, sUsers E aU U_1, sPieces E aP P_1, sWords E aW W_2, sCut E aC aS C]) (As := [.int C.1]) (rest := []) F 0 0 1 (ctX1_depositsFor l E aB asettings asums aU aP aW C.1 B_time B_chest_1 B_fund settings r_2 hg_2) gX1_storeCutting_X1_depositsFor rfl rfl rfl h0X1_depositsFor ⟨Nat.le_of_ble_eq_true rfl, Nat.le_of_ble_eq_true rfl⟩ rfl rfl rfl [0, 1] [2, 3, 4, 5, 6] rfl rfl rfl rfl rfl rfl (Nat.le_of_ble_eq_true rfl) dX1_storeCutting_94 ⟨(Nat.le_of_ble_eq_true rfl), (Nat.le_of_ble_eq_true rfl)⟩ ?_
  rintro v w ⟨rfl, rfl⟩
  refine g_norm (Lw' := [sBook E aB asettings asums aU aP aW B_time B_chest_1 B_fund, sArrI E asettings 5 settings, sArrI E asums 6 sums_1, sUsers E aU U_1, sPieces E aP P_1, sWords E aW W_2, sCut E aC aS C]) (st' := [.int r_2]) (pc' := 97) [0, 1, 2, 3, 4, 5, 6] rfl rfl rfl rfl ?_
  refine g_istore (lv' := [some (.ref (aB 0)), some (.int x1), none, none, some (.ref (aC 0)), some (.int r_1), some (.int r_2), none]) F dX1_storeCutting_97 (Nat.le_of_ble_eq_true rfl) rfl rfl ?_
  refine g_aload_n F dX1_storeCutting_99 rfl ?_
  refine g_get (C := RX1) (T := TX1) (N := 8) F 0 0 2 rfl rfl rfl iX1_storeCutting_X1 (by decide) (by decide +kernel) rfl dX1_storeCutting_100 ?_
  refine g_iload_n F dX1_storeCutting_103 rfl ?_
  refine g_iload F dX1_storeCutting_104 rfl ?_
  refine g_ineg F dX1_storeCutting_106 ?_
  obtain ⟨U_2, hg_3, hf⟩ := gb1_el hf
  refine g_callV (C := RX7) (T := TX7) (N := 3) (Lr := [sBook E aB asettings asums aU aP aW B_time B_chest_1 B_fund, sArrI E asettings 5 settings, sArrI E asums 6 sums_1, sPieces E aP P_1, sWords E aW W_2, sCut E aC aS C]) (As := [.int x1, .int (-r_2)]) (rest := []) F 3 0 2 (ctX7_give l E aU x1 (-r_2) U_1 U_2 hg_3) gX1_storeCutting_X7_give rfl rfl rfl h0X7_give ⟨Nat.le_of_ble_eq_true rfl, Nat.le_of_ble_eq_true rfl⟩ rfl rfl rfl [3] [0, 1, 2, 4, 5, 6] rfl rfl rfl rfl rfl rfl (Nat.le_of_ble_eq_true rfl) dX1_storeCutting_107 ⟨(Nat.le_of_ble_eq_true rfl), (Nat.le_of_ble_eq_true rfl)⟩ ?_
  rintro v w ⟨rfl, rfl⟩
  refine g_norm (Lw' := [sBook E aB asettings asums aU aP aW B_time B_chest_1 B_fund, sArrI E asettings 5 settings, sArrI E asums 6 sums_1, sUsers E aU U_2, sPieces E aP P_1, sWords E aW W_2, sCut E aC aS C]) (st' := []) (pc' := 110) [1, 2, 3, 0, 4, 5, 6] rfl rfl rfl rfl ?_
  refine g_aload_n F dX1_storeCutting_110 rfl ?_
  refine g_dup F dX1_storeCutting_111 rfl ?_
  refine g_get (C := RX1) (T := TX1) (N := 8) F 0 0 7 rfl rfl rfl iX1_storeCutting_X1 (by decide) (by decide +kernel) rfl dX1_storeCutting_112 ?_
  refine g_iload F dX1_storeCutting_115 rfl ?_
  refine g_iadd F dX1_storeCutting_117 ?_
  refine g_put (C := RX1) (T := TX1) (N := 8) (tys := tyX1) (Lw' := [sBook E aB asettings asums aU aP aW B_time B_chest_1 (B_fund + r_2), sArrI E asettings 5 settings, sArrI E asums 6 sums_1, sUsers E aU U_2, sPieces E aP P_1, sWords E aW W_2, sCut E aC aS C]) F 0 0 7 rfl rfl rfl iX1_storeCutting_X1 tyX1_ok nmX1 (by decide) (by decide +kernel) rfl rfl rfl rfl (Nat.le_of_ble_eq_true rfl) dX1_storeCutting_118 rfl ?_
  refine g_aload_n F dX1_storeCutting_121 rfl ?_
  refine g_get (C := RX1) (T := TX1) (N := 8) F 0 0 1 rfl rfl rfl iX1_storeCutting_X1 (by decide) (by decide +kernel) rfl dX1_storeCutting_122 ?_
  refine g_iconst F 2 dX1_storeCutting_125 rfl ?_
  refine g_dup2 F dX1_storeCutting_126 rfl rfl ?_
  refine g_iald F 2 0 2 (by decide) rfl rfl (by decide) dX1_storeCutting_127 ?_
  refine g_iload F dX1_storeCutting_128 rfl ?_
  refine g_iadd F dX1_storeCutting_130 ?_
  obtain ⟨sums_2, hsums_2, hf⟩ := Lt_el hf
  refine g_iast (Lw' := [sBook E aB asettings asums aU aP aW B_time B_chest_1 (B_fund + r_2), sArrI E asettings 5 settings, sArrI E asums 6 sums_2, sUsers E aU U_2, sPieces E aP P_1, sWords E aW W_2, sCut E aC aS C]) F 2 0 2 (by decide) rfl rfl (by decide) dX1_storeCutting_131 (by subst hsums_2; rfl) ?_
  refine g_iload F dX1_storeCutting_132 rfl ?_
  cases hf
  exact g_iret F rfl ⟨rfl, rfl⟩ dX1_storeCutting_134
set_option maxHeartbeats 4000000 in
set_option maxRecDepth 100000 in
theorem ctX1_giveBack (l : Launch) (E : gE) (aB asettings asums aU aP aW : Nat → Nat) (x1 : Int32) (x2 : Int32) (B_time : Int32) (B_chest : Int32) (B_fund : Int32) (sums : (Nat → Int32)) (U : tUsers) (B_fund' : Int32) (sums' : (Nat → Int32)) (U' : tUsers) (hf : fX1_giveBack x1 x2 B_fund sums U = some (B_fund', sums', U')) : gMet l yX1_giveBack wsX1_giveBack rmX1_giveBack vwCl E [.ref (aB 0), .int x1, .int x2] [sBook E aB asettings asums aU aP aW B_time B_chest B_fund, sArrI E asums 6 sums, sUsers E aU U] (fun v w => v = none ∧ w = [sBook E aB asettings asums aU aP aW B_time B_chest B_fund', sArrI E asums 6 sums', sUsers E aU U']) 0 0 := by
  refine g_entry [some (.ref (aB 0)), some (.int x1), some (.int x2)] (by decide) rfl (Nat.le_of_ble_eq_true rfl) rfl ?_
  intro p e s m below meth c A F hnm
  unfold fX1_giveBack at hf
  refine g_aload_n F dX1_giveBack_0 rfl ?_
  refine g_get (C := RX1) (T := TX1) (N := 8) F 0 0 2 rfl rfl rfl iX1_giveBack_X1 (by decide) (by decide +kernel) rfl dX1_giveBack_1 ?_
  refine g_iload_n F dX1_giveBack_4 rfl ?_
  refine g_iload_n F dX1_giveBack_5 rfl ?_
  obtain ⟨U_1, hg_1, hf⟩ := gb1_el hf
  refine g_callV (C := RX7) (T := TX7) (N := 3) (Lr := [sBook E aB asettings asums aU aP aW B_time B_chest B_fund, sArrI E asums 6 sums]) (As := [.int x1, .int x2]) (rest := []) F 2 0 2 (ctX7_give l E aU x1 x2 U U_1 hg_1) gX1_giveBack_X7_give rfl rfl rfl h0X7_give ⟨Nat.le_of_ble_eq_true rfl, Nat.le_of_ble_eq_true rfl⟩ rfl rfl rfl [2] [0, 1] rfl rfl rfl rfl rfl rfl (Nat.le_of_ble_eq_true rfl) dX1_giveBack_6 ⟨(Nat.le_of_ble_eq_true rfl), (Nat.le_of_ble_eq_true rfl)⟩ ?_
  rintro v w ⟨rfl, rfl⟩
  refine g_norm (Lw' := [sBook E aB asettings asums aU aP aW B_time B_chest B_fund, sArrI E asums 6 sums, sUsers E aU U_1]) (st' := []) (pc' := 9) [1, 2, 0] rfl rfl rfl rfl ?_
  refine g_aload_n F dX1_giveBack_9 rfl ?_
  refine g_dup F dX1_giveBack_10 rfl ?_
  refine g_get (C := RX1) (T := TX1) (N := 8) F 0 0 7 rfl rfl rfl iX1_giveBack_X1 (by decide) (by decide +kernel) rfl dX1_giveBack_11 ?_
  refine g_iload_n F dX1_giveBack_14 rfl ?_
  refine g_isub F dX1_giveBack_15 ?_
  refine g_put (C := RX1) (T := TX1) (N := 8) (tys := tyX1) (Lw' := [sBook E aB asettings asums aU aP aW B_time B_chest (B_fund - x2), sArrI E asums 6 sums, sUsers E aU U_1]) F 0 0 7 rfl rfl rfl iX1_giveBack_X1 tyX1_ok nmX1 (by decide) (by decide +kernel) rfl rfl rfl rfl (Nat.le_of_ble_eq_true rfl) dX1_giveBack_16 rfl ?_
  refine g_aload_n F dX1_giveBack_19 rfl ?_
  refine g_get (C := RX1) (T := TX1) (N := 8) F 0 0 1 rfl rfl rfl iX1_giveBack_X1 (by decide) (by decide +kernel) rfl dX1_giveBack_20 ?_
  refine g_iconst F 3 dX1_giveBack_23 rfl ?_
  refine g_dup2 F dX1_giveBack_24 rfl rfl ?_
  refine g_iald F 1 0 3 (by decide) rfl rfl (by decide) dX1_giveBack_25 ?_
  refine g_iload_n F dX1_giveBack_26 rfl ?_
  refine g_iadd F dX1_giveBack_27 ?_
  obtain ⟨sums_1, hsums_1, hf⟩ := Lt_el hf
  refine g_iast (Lw' := [sBook E aB asettings asums aU aP aW B_time B_chest (B_fund - x2), sArrI E asums 6 sums_1, sUsers E aU U_1]) F 1 0 3 (by decide) rfl rfl (by decide) dX1_giveBack_28 (by subst hsums_1; rfl) ?_
  cases hf
  exact g_vret F rfl ⟨rfl, rfl⟩ dX1_giveBack_29
set_option maxHeartbeats 4000000 in
set_option maxRecDepth 100000 in
theorem ktX1_endWord_L2 {p : Program} {l : Launch} {e : Env} {s : State} {m : MethodId} {args : Array Value} {below : List Frame} {meth : Method} {c : Code} {E : gE} {A : Nat → Prop} (F : gFx p s m args meth c RX1 wsX1_endWord cX1_endWord 3 none vwCl E A) (aB asettings asums aU aP aW : Nat → Nat) (x1 : Int32) (B_time : Int32) (W : tWords) (B_chest : Int32) (B_fund : Int32) (settings : (Nat → Int32)) (sums : (Nat → Int32)) (U : tUsers) (B_fund' : Int32) (sums' : (Nat → Int32)) (U' : tUsers) (P' : tPieces) (W' : tWords) {k : tPieces → Option (Int32 × (Nat → Int32) × tUsers × tPieces × tWords)} (hk : ∀ (P : tPieces), k P = some (B_fund', sums', U', P', W') → Gj p l e rmX1_endWord s m args below meth c 0 0 (MQ below (gQ vwCl E A (fun v w => v = none ∧ w = [sBook E aB asettings asums aU aP aW B_time B_chest B_fund', sArrI E asettings 5 settings, sArrI E asums 6 sums', sUsers E aU U', sPieces E aP P', sWords E aW W'])) args s 0 0 A) vwCl E A [sBook E aB asettings asums aU aP aW B_time B_chest B_fund, sArrI E asettings 5 settings, sArrI E asums 6 sums, sUsers E aU U, sPieces E aP P, sWords E aW W] [some (.ref (aB 0)), some (.int x1), none] [] 41) : ∀ (n : Nat) (x2 : Int32) (P : tPieces), fX1_endWord_L2 x1 B_time W k n x2 P = some (B_fund', sums', U', P', W') → Gj p l e rmX1_endWord s m args below meth c 0 0 (MQ below (gQ vwCl E A (fun v w => v = none ∧ w = [sBook E aB asettings asums aU aP aW B_time B_chest B_fund', sArrI E asettings 5 settings, sArrI E asums 6 sums', sUsers E aU U', sPieces E aP P', sWords E aW W'])) args s 0 0 A) vwCl E A [sBook E aB asettings asums aU aP aW B_time B_chest B_fund, sArrI E asettings 5 settings, sArrI E asums 6 sums, sUsers E aU U, sPieces E aP P, sWords E aW W] [some (.ref (aB 0)), some (.int x1), some (.int x2)] [] 2
  | 0, _, _, hf => by cases hf
  | n + 1, x2, P, hf => by
    have ih := ktX1_endWord_L2 F aB asettings asums aU aP aW x1 B_time W B_chest B_fund settings sums U B_fund' sums' U' P' W' hk n
    rw [fX1_endWord_L2] at hf
    refine g_iload_n F dX1_endWord_2 rfl ?_
    refine g_aload_n F dX1_endWord_3 rfl ?_
    refine g_get (C := RX1) (T := TX1) (N := 8) F 0 0 4 rfl rfl rfl iX1_endWord_X1 (by decide) (by decide +kernel) rfl dX1_endWord_4 ?_
    refine g_get (C := RX8) (T := TX8) (N := 5) F 5 0 3 rfl rfl rfl iX1_endWord_X8 (by decide) (by decide +kernel) rfl dX1_endWord_7 ?_
    refine g_iload_n F dX1_endWord_10 rfl ?_
    obtain ⟨hb_1, hf⟩ := gb_in hf
    refine g_iald F 5 3 (x1.toNatClampNeg) rfl rfl rfl hb_1 dX1_endWord_11 ?_
    refine g_icmp_ge F 41 dX1_endWord_12 (by decide) (fun hc_1 => ?_) (fun hc_1 => ?_)
    · replace hf := gi_t hc_1 hf
      refine g_mask [true, true, false] rfl ?_
      exact hk P hf
    · replace hf := gi_f hc_1 hf
      refine g_aload_n F dX1_endWord_15 rfl ?_
      refine g_get (C := RX1) (T := TX1) (N := 8) F 0 0 3 rfl rfl rfl iX1_endWord_X1 (by decide) (by decide +kernel) rfl dX1_endWord_16 ?_
      refine g_aload_n F dX1_endWord_19 rfl ?_
      refine g_get (C := RX1) (T := TX1) (N := 8) F 0 0 4 rfl rfl rfl iX1_endWord_X1 (by decide) (by decide +kernel) rfl dX1_endWord_20 ?_
      refine g_iload_n F dX1_endWord_23 rfl ?_
      refine g_iload_n F dX1_endWord_24 rfl ?_
      obtain ⟨r_1, hg_1, hf⟩ := gb1_el hf
      refine g_callV (C := RX8) (T := TX8) (N := 5) (Lr := [sBook E aB asettings asums aU aP aW B_time B_chest B_fund, sArrI E asettings 5 settings, sArrI E asums 6 sums, sUsers E aU U, sPieces E aP P]) (As := [.int x1, .int x2]) (rest := [.ref (aP 0)]) F 5 0 2 (ctX8_partAt l E aW x1 x2 W r_1 hg_1) gX1_endWord_X8_partAt rfl rfl rfl h0X8_partAt ⟨Nat.le_of_ble_eq_true rfl, Nat.le_of_ble_eq_true rfl⟩ rfl rfl rfl [5] [0, 1, 2, 3, 4] rfl rfl rfl rfl rfl rfl (Nat.le_of_ble_eq_true rfl) dX1_endWord_25 ⟨(Nat.le_of_ble_eq_true rfl), (Nat.le_of_ble_eq_true rfl)⟩ ?_
      rintro v w ⟨rfl, rfl⟩
      refine g_norm (Lw' := [sBook E aB asettings asums aU aP aW B_time B_chest B_fund, sArrI E asettings 5 settings, sArrI E asums 6 sums, sUsers E aU U, sPieces E aP P, sWords E aW W]) (st' := [.int r_1, .ref (aP 0)]) (pc' := 28) [1, 2, 3, 4, 5, 0] rfl rfl rfl rfl ?_
      refine g_aload_n F dX1_endWord_28 rfl ?_
      refine g_get (C := RX1) (T := TX1) (N := 8) F 0 0 5 rfl rfl rfl iX1_endWord_X1 (by decide) (by decide +kernel) rfl dX1_endWord_29 ?_
      obtain ⟨P_1, hg_2, hf⟩ := gb1_el hf
      refine g_callV (C := RX6) (T := TX6) (N := 6) (Lr := [sBook E aB asettings asums aU aP aW B_time B_chest B_fund, sArrI E asettings 5 settings, sArrI E asums 6 sums, sUsers E aU U, sWords E aW W]) (As := [.int r_1, .int B_time]) (rest := []) F 4 0 2 (ctX6_endUse l E aP r_1 B_time P P_1 hg_2) gX1_endWord_X6_endUse rfl rfl rfl h0X6_endUse ⟨Nat.le_of_ble_eq_true rfl, Nat.le_of_ble_eq_true rfl⟩ rfl rfl rfl [4] [0, 1, 2, 3, 5] rfl rfl rfl rfl rfl rfl (Nat.le_of_ble_eq_true rfl) dX1_endWord_32 ⟨(Nat.le_of_ble_eq_true rfl), (Nat.le_of_ble_eq_true rfl)⟩ ?_
      rintro v w ⟨rfl, rfl⟩
      refine g_norm (Lw' := [sBook E aB asettings asums aU aP aW B_time B_chest B_fund, sArrI E asettings 5 settings, sArrI E asums 6 sums, sUsers E aU U, sPieces E aP P_1, sWords E aW W]) (st' := []) (pc' := 35) [1, 2, 3, 4, 0, 5] rfl rfl rfl rfl ?_
      refine g_iinc (lv' := [some (.ref (aB 0)), some (.int x1), some (.int (x2 + 1))]) F (x2 + 1) dX1_endWord_35 rfl rfl rfl rfl ?_
      refine g_goto F 2 dX1_endWord_38 (by decide) ?_
      exact ih (x2 + 1) P_1 hf
set_option maxHeartbeats 4000000 in
set_option maxRecDepth 100000 in
theorem ctX1_endWord (l : Launch) (E : gE) (aB asettings asums aU aP aW : Nat → Nat) (x1 : Int32) (B_time : Int32) (B_chest : Int32) (B_fund : Int32) (settings : (Nat → Int32)) (sums : (Nat → Int32)) (U : tUsers) (P : tPieces) (W : tWords) (B_fund' : Int32) (sums' : (Nat → Int32)) (U' : tUsers) (P' : tPieces) (W' : tWords) (hf : fX1_endWord x1 B_time B_fund settings sums U P W = some (B_fund', sums', U', P', W')) : gMet l yX1_endWord wsX1_endWord rmX1_endWord vwCl E [.ref (aB 0), .int x1] [sBook E aB asettings asums aU aP aW B_time B_chest B_fund, sArrI E asettings 5 settings, sArrI E asums 6 sums, sUsers E aU U, sPieces E aP P, sWords E aW W] (fun v w => v = none ∧ w = [sBook E aB asettings asums aU aP aW B_time B_chest B_fund', sArrI E asettings 5 settings, sArrI E asums 6 sums', sUsers E aU U', sPieces E aP P', sWords E aW W']) 0 0 := by
  refine g_entry [some (.ref (aB 0)), some (.int x1), none] (by decide) rfl (Nat.le_of_ble_eq_true rfl) rfl ?_
  intro p e s m below meth c A F hnm
  unfold fX1_endWord at hf
  refine g_iconst F 0 dX1_endWord_0 rfl ?_
  refine g_istore_n (lv' := [some (.ref (aB 0)), some (.int x1), some (.int 0)]) F dX1_endWord_1 (Nat.le_of_ble_eq_true rfl) rfl rfl ?_
  refine ktX1_endWord_L2 F aB asettings asums aU aP aW x1 B_time W B_chest B_fund settings sums U B_fund' sums' U' P' W' (fun P_1 hf => ?_) FU 0 P hf
  refine g_aload_n F dX1_endWord_41 rfl ?_
  refine g_aload_n F dX1_endWord_42 rfl ?_
  refine g_get (C := RX1) (T := TX1) (N := 8) F 0 0 4 rfl rfl rfl iX1_endWord_X1 (by decide) (by decide +kernel) rfl dX1_endWord_43 ?_
  refine g_get (C := RX8) (T := TX8) (N := 5) F 5 0 2 rfl rfl rfl iX1_endWord_X8 (by decide) (by decide +kernel) rfl dX1_endWord_46 ?_
  refine g_iload_n F dX1_endWord_49 rfl ?_
  obtain ⟨hb_1, hf⟩ := gb_in hf
  refine g_iald F 5 2 (x1.toNatClampNeg) rfl rfl rfl hb_1 dX1_endWord_50 ?_
  refine g_aload_n F dX1_endWord_51 rfl ?_
  refine g_aload_n F dX1_endWord_52 rfl ?_
  refine g_get (C := RX1) (T := TX1) (N := 8) F 0 0 4 rfl rfl rfl iX1_endWord_X1 (by decide) (by decide +kernel) rfl dX1_endWord_53 ?_
  refine g_get (C := RX8) (T := TX8) (N := 5) F 5 0 3 rfl rfl rfl iX1_endWord_X8 (by decide) (by decide +kernel) rfl dX1_endWord_56 ?_
  refine g_iload_n F dX1_endWord_59 rfl ?_
  obtain ⟨hb_2, hf⟩ := gb_in hf
  refine g_iald F 5 3 (x1.toNatClampNeg) rfl rfl rfl hb_2 dX1_endWord_60 ?_
  obtain ⟨r_1, hg_1, hf⟩ := gb1_el hf
  refine g_callV (C := RX1) (T := TX1) (N := 8) (Lr := [sArrI E asums 6 sums, sUsers E aU U, sPieces E aP P_1, sWords E aW W]) (As := [.int (W.2.2.2.1 (x1.toNatClampNeg))]) (rest := [.int (W.2.2.1 (x1.toNatClampNeg)), .ref (aB 0)]) F 0 0 1 (ctX1_depositsFor l E aB asettings asums aU aP aW (W.2.2.2.1 (x1.toNatClampNeg)) B_time B_chest B_fund settings r_1 hg_1) gX1_endWord_X1_depositsFor rfl rfl rfl h0X1_depositsFor ⟨Nat.le_of_ble_eq_true rfl, Nat.le_of_ble_eq_true rfl⟩ rfl rfl rfl [0, 1] [2, 3, 4, 5] rfl rfl rfl rfl rfl rfl (Nat.le_of_ble_eq_true rfl) dX1_endWord_61 ⟨(Nat.le_of_ble_eq_true rfl), (Nat.le_of_ble_eq_true rfl)⟩ ?_
  rintro v w ⟨rfl, rfl⟩
  refine g_norm (Lw' := [sBook E aB asettings asums aU aP aW B_time B_chest B_fund, sArrI E asettings 5 settings, sArrI E asums 6 sums, sUsers E aU U, sPieces E aP P_1, sWords E aW W]) (st' := [.int r_1, .int (W.2.2.1 (x1.toNatClampNeg)), .ref (aB 0)]) (pc' := 64) [0, 1, 2, 3, 4, 5] rfl rfl rfl rfl ?_
  obtain ⟨B_fund_1, sums_1, U_1, hg_2, hf⟩ := gb3_el hf
  refine g_callV (C := RX1) (T := TX1) (N := 8) (Lr := [sArrI E asettings 5 settings, sPieces E aP P_1, sWords E aW W]) (As := [.int (W.2.2.1 (x1.toNatClampNeg)), .int r_1]) (rest := []) F 0 0 2 (ctX1_giveBack l E aB asettings asums aU aP aW (W.2.2.1 (x1.toNatClampNeg)) r_1 B_time B_chest B_fund sums U B_fund_1 sums_1 U_1 hg_2) gX1_endWord_X1_giveBack rfl rfl rfl h0X1_giveBack ⟨Nat.le_of_ble_eq_true rfl, Nat.le_of_ble_eq_true rfl⟩ rfl rfl rfl [0, 2, 3] [1, 4, 5] rfl rfl rfl rfl rfl rfl (Nat.le_of_ble_eq_true rfl) dX1_endWord_64 ⟨(Nat.le_of_ble_eq_true rfl), (Nat.le_of_ble_eq_true rfl)⟩ ?_
  rintro v w ⟨rfl, rfl⟩
  refine g_norm (Lw' := [sBook E aB asettings asums aU aP aW B_time B_chest B_fund_1, sArrI E asettings 5 settings, sArrI E asums 6 sums_1, sUsers E aU U_1, sPieces E aP P_1, sWords E aW W]) (st' := []) (pc' := 67) [0, 3, 1, 2, 4, 5] rfl rfl rfl rfl ?_
  refine g_aload_n F dX1_endWord_67 rfl ?_
  refine g_get (C := RX1) (T := TX1) (N := 8) F 0 0 4 rfl rfl rfl iX1_endWord_X1 (by decide) (by decide +kernel) rfl dX1_endWord_68 ?_
  refine g_iload_n F dX1_endWord_71 rfl ?_
  obtain ⟨W_1, hg_3, hf⟩ := gb1_el hf
  refine g_callV (C := RX8) (T := TX8) (N := 5) (Lr := [sBook E aB asettings asums aU aP aW B_time B_chest B_fund_1, sArrI E asettings 5 settings, sArrI E asums 6 sums_1, sUsers E aU U_1, sPieces E aP P_1]) (As := [.int x1]) (rest := []) F 5 0 1 (ctX8_drop l E aW x1 W W_1 hg_3) gX1_endWord_X8_drop rfl rfl rfl h0X8_drop ⟨Nat.le_of_ble_eq_true rfl, Nat.le_of_ble_eq_true rfl⟩ rfl rfl rfl [5] [0, 1, 2, 3, 4] rfl rfl rfl rfl rfl rfl (Nat.le_of_ble_eq_true rfl) dX1_endWord_72 ⟨(Nat.le_of_ble_eq_true rfl), (Nat.le_of_ble_eq_true rfl)⟩ ?_
  rintro v w ⟨rfl, rfl⟩
  refine g_norm (Lw' := [sBook E aB asettings asums aU aP aW B_time B_chest B_fund_1, sArrI E asettings 5 settings, sArrI E asums 6 sums_1, sUsers E aU U_1, sPieces E aP P_1, sWords E aW W_1]) (st' := []) (pc' := 75) [1, 2, 3, 4, 5, 0] rfl rfl rfl rfl ?_
  cases hf
  exact g_vret F rfl ⟨rfl, rfl⟩ dX1_endWord_75
set_option maxHeartbeats 4000000 in
set_option maxRecDepth 100000 in
theorem ktX1_cutAnew_L16 {p : Program} {l : Launch} {e : Env} {s : State} {m : MethodId} {args : Array Value} {below : List Frame} {meth : Method} {c : Code} {E : gE} {A : Nat → Prop} (F : gFx p s m args meth c RX1 wsX1_cutAnew cX1_cutAnew 5 (some .int) vwCl E A) (aB asettings asums aU aP aW aC aS : Nat → Nat) (x1 : Int32) (C : tCut) (B_time : Int32) (B_chest : Int32) (B_fund : Int32) (settings : (Nat → Int32)) (sums : (Nat → Int32)) (U : tUsers) (W : tWords) (S : tCutR) (r : Int32) (B_fund' : Int32) (sums' : (Nat → Int32)) (U' : tUsers) (P' : tPieces) (W' : tWords) (C' : tCut) (S' : tCutR) {k : tPieces → Option (Int32 × Int32 × (Nat → Int32) × tUsers × tPieces × tWords × tCut × tCutR)} (hk : ∀ (P : tPieces), k P = some (r, B_fund', sums', U', P', W', C', S') → Gj p l e rmX1_cutAnew s m args below meth c 0 0 (MQ below (gQ vwCl E A (fun v w => v = some (.int r) ∧ w = [sBook E aB asettings asums aU aP aW B_time B_chest B_fund', sArrI E asettings 5 settings, sArrI E asums 6 sums', sUsers E aU U', sPieces E aP P', sWords E aW W', sCut E aC aS C', sCutR E aS S'])) args s 0 0 A) vwCl E A [sBook E aB asettings asums aU aP aW B_time B_chest B_fund, sArrI E asettings 5 settings, sArrI E asums 6 sums, sUsers E aU U, sPieces E aP P, sWords E aW W, sCut E aC aS C, sCutR E aS S] [some (.ref (aB 0)), some (.int x1), some (.ref (aC 0)), none, none] [] 50) : ∀ (n : Nat) (x3 : Int32) (P : tPieces), fX1_cutAnew_L16 x1 C k n x3 P = some (r, B_fund', sums', U', P', W', C', S') → Gj p l e rmX1_cutAnew s m args below meth c 0 0 (MQ below (gQ vwCl E A (fun v w => v = some (.int r) ∧ w = [sBook E aB asettings asums aU aP aW B_time B_chest B_fund', sArrI E asettings 5 settings, sArrI E asums 6 sums', sUsers E aU U', sPieces E aP P', sWords E aW W', sCut E aC aS C', sCutR E aS S'])) args s 0 0 A) vwCl E A [sBook E aB asettings asums aU aP aW B_time B_chest B_fund, sArrI E asettings 5 settings, sArrI E asums 6 sums, sUsers E aU U, sPieces E aP P, sWords E aW W, sCut E aC aS C, sCutR E aS S] [some (.ref (aB 0)), some (.int x1), some (.ref (aC 0)), some (.int x3), none] [] 16
  | 0, _, _, hf => by cases hf
  | n + 1, x3, P, hf => by
    have ih := ktX1_cutAnew_L16 F aB asettings asums aU aP aW aC aS x1 C B_time B_chest B_fund settings sums U W S r B_fund' sums' U' P' W' C' S' hk n
    rw [fX1_cutAnew_L16] at hf
    refine g_iload_n F dX1_cutAnew_16 rfl ?_
    refine g_aload_n F dX1_cutAnew_17 rfl ?_
    refine g_get (C := RX2) (T := TX2) (N := 12) F 6 0 0 rfl rfl rfl iX1_cutAnew_X2 (by decide) (by decide +kernel) rfl dX1_cutAnew_18 ?_
    refine g_icmp_ge F 50 dX1_cutAnew_21 (by decide) (fun hc_1 => ?_) (fun hc_1 => ?_)
    · replace hf := gi_t hc_1 hf
      refine g_mask [true, true, true, false, true] rfl ?_
      exact hk P hf
    · replace hf := gi_f hc_1 hf
      refine g_aload_n F dX1_cutAnew_24 rfl ?_
      refine g_get (C := RX1) (T := TX1) (N := 8) F 0 0 3 rfl rfl rfl iX1_cutAnew_X1 (by decide) (by decide +kernel) rfl dX1_cutAnew_25 ?_
      refine g_aload_n F dX1_cutAnew_28 rfl ?_
      refine g_get (C := RX1) (T := TX1) (N := 8) F 0 0 3 rfl rfl rfl iX1_cutAnew_X1 (by decide) (by decide +kernel) rfl dX1_cutAnew_29 ?_
      refine g_aload_n F dX1_cutAnew_32 rfl ?_
      refine g_get (C := RX2) (T := TX2) (N := 12) F 6 0 1 rfl rfl rfl iX1_cutAnew_X2 (by decide) (by decide +kernel) rfl dX1_cutAnew_33 ?_
      refine g_iload_n F dX1_cutAnew_36 rfl ?_
      obtain ⟨hb_1, hf⟩ := gb_in hf
      refine g_lald F 6 1 (x3.toNatClampNeg) rfl rfl rfl hb_1 dX1_cutAnew_37 ?_
      obtain ⟨r_1, hg_1, hf⟩ := gb1_el hf
      refine g_callV (C := RX6) (T := TX6) (N := 6) (Lr := [sBook E aB asettings asums aU aP aW B_time B_chest B_fund, sArrI E asettings 5 settings, sArrI E asums 6 sums, sUsers E aU U, sWords E aW W, sCut E aC aS C, sCutR E aS S]) (As := [.long (C.2.1 (x3.toNatClampNeg))]) (rest := [.ref (aP 0)]) F 4 0 1 (ctX6_numberOf l E aP (C.2.1 (x3.toNatClampNeg)) P r_1 hg_1) gX1_cutAnew_X6_numberOf rfl rfl rfl h0X6_numberOf ⟨Nat.le_of_ble_eq_true rfl, Nat.le_of_ble_eq_true rfl⟩ rfl rfl rfl [4] [0, 1, 2, 3, 5, 6, 7] rfl rfl rfl rfl rfl rfl (Nat.le_of_ble_eq_true rfl) dX1_cutAnew_38 ⟨(Nat.le_of_ble_eq_true rfl), (Nat.le_of_ble_eq_true rfl)⟩ ?_
      rintro v w ⟨rfl, rfl⟩
      refine g_norm (Lw' := [sBook E aB asettings asums aU aP aW B_time B_chest B_fund, sArrI E asettings 5 settings, sArrI E asums 6 sums, sUsers E aU U, sPieces E aP P, sWords E aW W, sCut E aC aS C, sCutR E aS S]) (st' := [.int r_1, .ref (aP 0)]) (pc' := 41) [1, 2, 3, 4, 0, 5, 6, 7] rfl rfl rfl rfl ?_
      obtain ⟨P_1, hg_2, hf⟩ := gb1_el hf
      refine g_callV (C := RX6) (T := TX6) (N := 6) (Lr := [sBook E aB asettings asums aU aP aW B_time B_chest B_fund, sArrI E asettings 5 settings, sArrI E asums 6 sums, sUsers E aU U, sWords E aW W, sCut E aC aS C, sCutR E aS S]) (As := [.int r_1]) (rest := []) F 4 0 1 (ctX6_beginUse l E aP r_1 P P_1 hg_2) gX1_cutAnew_X6_beginUse rfl rfl rfl h0X6_beginUse ⟨Nat.le_of_ble_eq_true rfl, Nat.le_of_ble_eq_true rfl⟩ rfl rfl rfl [4] [0, 1, 2, 3, 5, 6, 7] rfl rfl rfl rfl rfl rfl (Nat.le_of_ble_eq_true rfl) dX1_cutAnew_41 ⟨(Nat.le_of_ble_eq_true rfl), (Nat.le_of_ble_eq_true rfl)⟩ ?_
      rintro v w ⟨rfl, rfl⟩
      refine g_norm (Lw' := [sBook E aB asettings asums aU aP aW B_time B_chest B_fund, sArrI E asettings 5 settings, sArrI E asums 6 sums, sUsers E aU U, sPieces E aP P_1, sWords E aW W, sCut E aC aS C, sCutR E aS S]) (st' := []) (pc' := 44) [1, 2, 3, 4, 0, 5, 6, 7] rfl rfl rfl rfl ?_
      refine g_iinc (lv' := [some (.ref (aB 0)), some (.int x1), some (.ref (aC 0)), some (.int (x3 + 1)), none]) F (x3 + 1) dX1_cutAnew_44 rfl rfl rfl rfl ?_
      refine g_goto F 16 dX1_cutAnew_47 (by decide) ?_
      exact ih (x3 + 1) P_1 hf
set_option maxHeartbeats 4000000 in
set_option maxRecDepth 100000 in
theorem ktX1_cutAnew_L63 {p : Program} {l : Launch} {e : Env} {s : State} {m : MethodId} {args : Array Value} {below : List Frame} {meth : Method} {c : Code} {E : gE} {A : Nat → Prop} (F : gFx p s m args meth c RX1 wsX1_cutAnew cX1_cutAnew 5 (some .int) vwCl E A) (aB asettings asums aU aP aW aC aS : Nat → Nat) (x1 : Int32) (x3 : Int32) (B_time : Int32) (W : tWords) (B_chest : Int32) (B_fund : Int32) (settings : (Nat → Int32)) (sums : (Nat → Int32)) (U : tUsers) (C : tCut) (S : tCutR) (r : Int32) (B_fund' : Int32) (sums' : (Nat → Int32)) (U' : tUsers) (P' : tPieces) (W' : tWords) (C' : tCut) (S' : tCutR) {k : tPieces → Option (Int32 × Int32 × (Nat → Int32) × tUsers × tPieces × tWords × tCut × tCutR)} (hk : ∀ (P : tPieces), k P = some (r, B_fund', sums', U', P', W', C', S') → Gj p l e rmX1_cutAnew s m args below meth c 0 0 (MQ below (gQ vwCl E A (fun v w => v = some (.int r) ∧ w = [sBook E aB asettings asums aU aP aW B_time B_chest B_fund', sArrI E asettings 5 settings, sArrI E asums 6 sums', sUsers E aU U', sPieces E aP P', sWords E aW W', sCut E aC aS C', sCutR E aS S'])) args s 0 0 A) vwCl E A [sBook E aB asettings asums aU aP aW B_time B_chest B_fund, sArrI E asettings 5 settings, sArrI E asums 6 sums, sUsers E aU U, sPieces E aP P, sWords E aW W, sCut E aC aS C, sCutR E aS S] [some (.ref (aB 0)), some (.int x1), some (.ref (aC 0)), some (.int x3), none] [] 96) : ∀ (n : Nat) (x4 : Int32) (P : tPieces), fX1_cutAnew_L63 x1 x3 B_time W k n x4 P = some (r, B_fund', sums', U', P', W', C', S') → Gj p l e rmX1_cutAnew s m args below meth c 0 0 (MQ below (gQ vwCl E A (fun v w => v = some (.int r) ∧ w = [sBook E aB asettings asums aU aP aW B_time B_chest B_fund', sArrI E asettings 5 settings, sArrI E asums 6 sums', sUsers E aU U', sPieces E aP P', sWords E aW W', sCut E aC aS C', sCutR E aS S'])) args s 0 0 A) vwCl E A [sBook E aB asettings asums aU aP aW B_time B_chest B_fund, sArrI E asettings 5 settings, sArrI E asums 6 sums, sUsers E aU U, sPieces E aP P, sWords E aW W, sCut E aC aS C, sCutR E aS S] [some (.ref (aB 0)), some (.int x1), some (.ref (aC 0)), some (.int x3), some (.int x4)] [] 63
  | 0, _, _, hf => by cases hf
  | n + 1, x4, P, hf => by
    have ih := ktX1_cutAnew_L63 F aB asettings asums aU aP aW aC aS x1 x3 B_time W B_chest B_fund settings sums U C S r B_fund' sums' U' P' W' C' S' hk n
    rw [fX1_cutAnew_L63] at hf
    refine g_iload F dX1_cutAnew_63 rfl ?_
    refine g_iload_n F dX1_cutAnew_65 rfl ?_
    refine g_icmp_ge F 96 dX1_cutAnew_66 (by decide) (fun hc_1 => ?_) (fun hc_1 => ?_)
    · replace hf := gi_t hc_1 hf
      refine g_mask [true, true, true, true, false] rfl ?_
      exact hk P hf
    · replace hf := gi_f hc_1 hf
      refine g_aload_n F dX1_cutAnew_69 rfl ?_
      refine g_get (C := RX1) (T := TX1) (N := 8) F 0 0 3 rfl rfl rfl iX1_cutAnew_X1 (by decide) (by decide +kernel) rfl dX1_cutAnew_70 ?_
      refine g_aload_n F dX1_cutAnew_73 rfl ?_
      refine g_get (C := RX1) (T := TX1) (N := 8) F 0 0 4 rfl rfl rfl iX1_cutAnew_X1 (by decide) (by decide +kernel) rfl dX1_cutAnew_74 ?_
      refine g_iload_n F dX1_cutAnew_77 rfl ?_
      refine g_iload F dX1_cutAnew_78 rfl ?_
      obtain ⟨r_1, hg_1, hf⟩ := gb1_el hf
      refine g_callV (C := RX8) (T := TX8) (N := 5) (Lr := [sBook E aB asettings asums aU aP aW B_time B_chest B_fund, sArrI E asettings 5 settings, sArrI E asums 6 sums, sUsers E aU U, sPieces E aP P, sCut E aC aS C, sCutR E aS S]) (As := [.int x1, .int x4]) (rest := [.ref (aP 0)]) F 5 0 2 (ctX8_partAt l E aW x1 x4 W r_1 hg_1) gX1_cutAnew_X8_partAt rfl rfl rfl h0X8_partAt ⟨Nat.le_of_ble_eq_true rfl, Nat.le_of_ble_eq_true rfl⟩ rfl rfl rfl [5] [0, 1, 2, 3, 4, 6, 7] rfl rfl rfl rfl rfl rfl (Nat.le_of_ble_eq_true rfl) dX1_cutAnew_80 ⟨(Nat.le_of_ble_eq_true rfl), (Nat.le_of_ble_eq_true rfl)⟩ ?_
      rintro v w ⟨rfl, rfl⟩
      refine g_norm (Lw' := [sBook E aB asettings asums aU aP aW B_time B_chest B_fund, sArrI E asettings 5 settings, sArrI E asums 6 sums, sUsers E aU U, sPieces E aP P, sWords E aW W, sCut E aC aS C, sCutR E aS S]) (st' := [.int r_1, .ref (aP 0)]) (pc' := 83) [1, 2, 3, 4, 5, 0, 6, 7] rfl rfl rfl rfl ?_
      refine g_aload_n F dX1_cutAnew_83 rfl ?_
      refine g_get (C := RX1) (T := TX1) (N := 8) F 0 0 5 rfl rfl rfl iX1_cutAnew_X1 (by decide) (by decide +kernel) rfl dX1_cutAnew_84 ?_
      obtain ⟨P_1, hg_2, hf⟩ := gb1_el hf
      refine g_callV (C := RX6) (T := TX6) (N := 6) (Lr := [sBook E aB asettings asums aU aP aW B_time B_chest B_fund, sArrI E asettings 5 settings, sArrI E asums 6 sums, sUsers E aU U, sWords E aW W, sCut E aC aS C, sCutR E aS S]) (As := [.int r_1, .int B_time]) (rest := []) F 4 0 2 (ctX6_endUse l E aP r_1 B_time P P_1 hg_2) gX1_cutAnew_X6_endUse rfl rfl rfl h0X6_endUse ⟨Nat.le_of_ble_eq_true rfl, Nat.le_of_ble_eq_true rfl⟩ rfl rfl rfl [4] [0, 1, 2, 3, 5, 6, 7] rfl rfl rfl rfl rfl rfl (Nat.le_of_ble_eq_true rfl) dX1_cutAnew_87 ⟨(Nat.le_of_ble_eq_true rfl), (Nat.le_of_ble_eq_true rfl)⟩ ?_
      rintro v w ⟨rfl, rfl⟩
      refine g_norm (Lw' := [sBook E aB asettings asums aU aP aW B_time B_chest B_fund, sArrI E asettings 5 settings, sArrI E asums 6 sums, sUsers E aU U, sPieces E aP P_1, sWords E aW W, sCut E aC aS C, sCutR E aS S]) (st' := []) (pc' := 90) [1, 2, 3, 4, 0, 5, 6, 7] rfl rfl rfl rfl ?_
      refine g_iinc (lv' := [some (.ref (aB 0)), some (.int x1), some (.ref (aC 0)), some (.int x3), some (.int (x4 + 1))]) F (x4 + 1) dX1_cutAnew_90 rfl rfl rfl rfl ?_
      refine g_goto F 63 dX1_cutAnew_93 (by decide) ?_
      exact ih (x4 + 1) P_1 hf
set_option maxHeartbeats 4000000 in
set_option maxRecDepth 100000 in
theorem ktX1_cutAnew_L107 {p : Program} {l : Launch} {e : Env} {s : State} {m : MethodId} {args : Array Value} {below : List Frame} {meth : Method} {c : Code} {E : gE} {A : Nat → Prop} (F : gFx p s m args meth c RX1 wsX1_cutAnew cX1_cutAnew 5 (some .int) vwCl E A) (aB asettings asums aU aP aW aC aS : Nat → Nat) (x1 : Int32) (x3 : Int32) (P : tPieces) (C : tCut) (B_time : Int32) (B_chest : Int32) (B_fund : Int32) (settings : (Nat → Int32)) (sums : (Nat → Int32)) (U : tUsers) (S : tCutR) (r : Int32) (B_fund' : Int32) (sums' : (Nat → Int32)) (U' : tUsers) (P' : tPieces) (W' : tWords) (C' : tCut) (S' : tCutR) {k : tWords → Option (Int32 × Int32 × (Nat → Int32) × tUsers × tPieces × tWords × tCut × tCutR)} (hk : ∀ (W : tWords), k W = some (r, B_fund', sums', U', P', W', C', S') → Gj p l e rmX1_cutAnew s m args below meth c 0 0 (MQ below (gQ vwCl E A (fun v w => v = some (.int r) ∧ w = [sBook E aB asettings asums aU aP aW B_time B_chest B_fund', sArrI E asettings 5 settings, sArrI E asums 6 sums', sUsers E aU U', sPieces E aP P', sWords E aW W', sCut E aC aS C', sCutR E aS S'])) args s 0 0 A) vwCl E A [sBook E aB asettings asums aU aP aW B_time B_chest B_fund, sArrI E asettings 5 settings, sArrI E asums 6 sums, sUsers E aU U, sPieces E aP P, sWords E aW W, sCut E aC aS C, sCutR E aS S] [some (.ref (aB 0)), some (.int x1), some (.ref (aC 0)), some (.int x3), none] [] 144) : ∀ (n : Nat) (x4 : Int32) (W : tWords), fX1_cutAnew_L107 x1 x3 P C k n x4 W = some (r, B_fund', sums', U', P', W', C', S') → Gj p l e rmX1_cutAnew s m args below meth c 0 0 (MQ below (gQ vwCl E A (fun v w => v = some (.int r) ∧ w = [sBook E aB asettings asums aU aP aW B_time B_chest B_fund', sArrI E asettings 5 settings, sArrI E asums 6 sums', sUsers E aU U', sPieces E aP P', sWords E aW W', sCut E aC aS C', sCutR E aS S'])) args s 0 0 A) vwCl E A [sBook E aB asettings asums aU aP aW B_time B_chest B_fund, sArrI E asettings 5 settings, sArrI E asums 6 sums, sUsers E aU U, sPieces E aP P, sWords E aW W, sCut E aC aS C, sCutR E aS S] [some (.ref (aB 0)), some (.int x1), some (.ref (aC 0)), some (.int x3), some (.int x4)] [] 107
  | 0, _, _, hf => by cases hf
  | n + 1, x4, W, hf => by
    have ih := ktX1_cutAnew_L107 F aB asettings asums aU aP aW aC aS x1 x3 P C B_time B_chest B_fund settings sums U S r B_fund' sums' U' P' W' C' S' hk n
    rw [fX1_cutAnew_L107] at hf
    refine g_iload F dX1_cutAnew_107 rfl ?_
    refine g_aload_n F dX1_cutAnew_109 rfl ?_
    refine g_get (C := RX2) (T := TX2) (N := 12) F 6 0 0 rfl rfl rfl iX1_cutAnew_X2 (by decide) (by decide +kernel) rfl dX1_cutAnew_110 ?_
    refine g_icmp_ge F 144 dX1_cutAnew_113 (by decide) (fun hc_1 => ?_) (fun hc_1 => ?_)
    · replace hf := gi_t hc_1 hf
      refine g_mask [true, true, true, true, false] rfl ?_
      exact hk W hf
    · replace hf := gi_f hc_1 hf
      refine g_aload_n F dX1_cutAnew_116 rfl ?_
      refine g_get (C := RX1) (T := TX1) (N := 8) F 0 0 4 rfl rfl rfl iX1_cutAnew_X1 (by decide) (by decide +kernel) rfl dX1_cutAnew_117 ?_
      refine g_iload_n F dX1_cutAnew_120 rfl ?_
      refine g_aload_n F dX1_cutAnew_121 rfl ?_
      refine g_get (C := RX1) (T := TX1) (N := 8) F 0 0 3 rfl rfl rfl iX1_cutAnew_X1 (by decide) (by decide +kernel) rfl dX1_cutAnew_122 ?_
      refine g_aload_n F dX1_cutAnew_125 rfl ?_
      refine g_get (C := RX2) (T := TX2) (N := 12) F 6 0 1 rfl rfl rfl iX1_cutAnew_X2 (by decide) (by decide +kernel) rfl dX1_cutAnew_126 ?_
      refine g_iload F dX1_cutAnew_129 rfl ?_
      obtain ⟨hb_1, hf⟩ := gb_in hf
      refine g_lald F 6 1 (x4.toNatClampNeg) rfl rfl rfl hb_1 dX1_cutAnew_131 ?_
      obtain ⟨r_1, hg_1, hf⟩ := gb1_el hf
      refine g_callV (C := RX6) (T := TX6) (N := 6) (Lr := [sBook E aB asettings asums aU aP aW B_time B_chest B_fund, sArrI E asettings 5 settings, sArrI E asums 6 sums, sUsers E aU U, sWords E aW W, sCut E aC aS C, sCutR E aS S]) (As := [.long (C.2.1 (x4.toNatClampNeg))]) (rest := [.int x1, .ref (aW 0)]) F 4 0 1 (ctX6_numberOf l E aP (C.2.1 (x4.toNatClampNeg)) P r_1 hg_1) gX1_cutAnew_X6_numberOf rfl rfl rfl h0X6_numberOf ⟨Nat.le_of_ble_eq_true rfl, Nat.le_of_ble_eq_true rfl⟩ rfl rfl rfl [4] [0, 1, 2, 3, 5, 6, 7] rfl rfl rfl rfl rfl rfl (Nat.le_of_ble_eq_true rfl) dX1_cutAnew_132 ⟨(Nat.le_of_ble_eq_true rfl), (Nat.le_of_ble_eq_true rfl)⟩ ?_
      rintro v w ⟨rfl, rfl⟩
      refine g_norm (Lw' := [sBook E aB asettings asums aU aP aW B_time B_chest B_fund, sArrI E asettings 5 settings, sArrI E asums 6 sums, sUsers E aU U, sPieces E aP P, sWords E aW W, sCut E aC aS C, sCutR E aS S]) (st' := [.int r_1, .int x1, .ref (aW 0)]) (pc' := 135) [1, 2, 3, 4, 0, 5, 6, 7] rfl rfl rfl rfl ?_
      obtain ⟨W_1, hg_2, hf⟩ := gb1_el hf
      refine g_callV (C := RX8) (T := TX8) (N := 5) (Lr := [sBook E aB asettings asums aU aP aW B_time B_chest B_fund, sArrI E asettings 5 settings, sArrI E asums 6 sums, sUsers E aU U, sPieces E aP P, sCut E aC aS C, sCutR E aS S]) (As := [.int x1, .int r_1]) (rest := []) F 5 0 2 (ctX8_addPart l E aW x1 r_1 W W_1 hg_2) gX1_cutAnew_X8_addPart rfl rfl rfl h0X8_addPart ⟨Nat.le_of_ble_eq_true rfl, Nat.le_of_ble_eq_true rfl⟩ rfl rfl rfl [5] [0, 1, 2, 3, 4, 6, 7] rfl rfl rfl rfl rfl rfl (Nat.le_of_ble_eq_true rfl) dX1_cutAnew_135 ⟨(Nat.le_of_ble_eq_true rfl), (Nat.le_of_ble_eq_true rfl)⟩ ?_
      rintro v w ⟨rfl, rfl⟩
      refine g_norm (Lw' := [sBook E aB asettings asums aU aP aW B_time B_chest B_fund, sArrI E asettings 5 settings, sArrI E asums 6 sums, sUsers E aU U, sPieces E aP P, sWords E aW W_1, sCut E aC aS C, sCutR E aS S]) (st' := []) (pc' := 138) [1, 2, 3, 4, 5, 0, 6, 7] rfl rfl rfl rfl ?_
      refine g_iinc (lv' := [some (.ref (aB 0)), some (.int x1), some (.ref (aC 0)), some (.int x3), some (.int (x4 + 1))]) F (x4 + 1) dX1_cutAnew_138 rfl rfl rfl rfl ?_
      refine g_goto F 107 dX1_cutAnew_141 (by decide) ?_
      exact ih (x4 + 1) W_1 hf
set_option maxHeartbeats 4000000 in
set_option maxRecDepth 100000 in
theorem ctX1_cutAnew (l : Launch) (E : gE) (aB asettings asums aU aP aW aC aS : Nat → Nat) (x1 : Int32) (B_time : Int32) (B_chest : Int32) (B_fund : Int32) (settings : (Nat → Int32)) (sums : (Nat → Int32)) (U : tUsers) (P : tPieces) (W : tWords) (C : tCut) (S : tCutR) (r : Int32) (B_fund' : Int32) (sums' : (Nat → Int32)) (U' : tUsers) (P' : tPieces) (W' : tWords) (C' : tCut) (S' : tCutR) (hf : fX1_cutAnew x1 B_time B_fund settings sums U P W C S = some (r, B_fund', sums', U', P', W', C', S')) : gMet l yX1_cutAnew wsX1_cutAnew rmX1_cutAnew vwCl E [.ref (aB 0), .int x1, .ref (aC 0)] [sBook E aB asettings asums aU aP aW B_time B_chest B_fund, sArrI E asettings 5 settings, sArrI E asums 6 sums, sUsers E aU U, sPieces E aP P, sWords E aW W, sCut E aC aS C, sCutR E aS S] (fun v w => v = some (.int r) ∧ w = [sBook E aB asettings asums aU aP aW B_time B_chest B_fund', sArrI E asettings 5 settings, sArrI E asums 6 sums', sUsers E aU U', sPieces E aP P', sWords E aW W', sCut E aC aS C', sCutR E aS S']) 0 0 := by
  refine g_entry [some (.ref (aB 0)), some (.int x1), some (.ref (aC 0)), none, none] (by decide) rfl (Nat.le_of_ble_eq_true rfl) rfl ?_
  intro p e s m below meth c A F hnm
  unfold fX1_cutAnew at hf
  refine g_aload_n F dX1_cutAnew_0 rfl ?_
  refine g_aload_n F dX1_cutAnew_1 rfl ?_
  refine g_aload_n F dX1_cutAnew_2 rfl ?_
  refine g_get (C := RX1) (T := TX1) (N := 8) F 0 0 4 rfl rfl rfl iX1_cutAnew_X1 (by decide) (by decide +kernel) rfl dX1_cutAnew_3 ?_
  refine g_get (C := RX8) (T := TX8) (N := 5) F 5 0 1 rfl rfl rfl iX1_cutAnew_X8 (by decide) (by decide +kernel) rfl dX1_cutAnew_6 ?_
  refine g_iload_n F dX1_cutAnew_9 rfl ?_
  obtain ⟨hb_1, hf⟩ := gb_in hf
  refine g_lald F 5 1 (x1.toNatClampNeg) rfl rfl rfl hb_1 dX1_cutAnew_10 ?_
  obtain ⟨C_1, S_1, hg_1, hf⟩ := gb2_el hf
  refine g_callV (C := RX2) (T := TX2) (N := 12) (Lr := [sArrI E asums 6 sums, sUsers E aU U, sWords E aW W]) (As := [.ref (aB 0), .long (W.2.1 (x1.toNatClampNeg))]) (rest := []) F 6 0 2 (ctX2_cutKnown l E aC aS aB asettings asums aU aP aW (W.2.1 (x1.toNatClampNeg)) C S B_time B_chest B_fund settings P C_1 S_1 hg_1) gX1_cutAnew_X2_cutKnown rfl rfl rfl h0X2_cutKnown ⟨Nat.le_of_ble_eq_true rfl, Nat.le_of_ble_eq_true rfl⟩ rfl rfl rfl [6, 7, 0, 1, 4] [2, 3, 5] rfl rfl rfl rfl rfl rfl (Nat.le_of_ble_eq_true rfl) dX1_cutAnew_11 ⟨(Nat.le_of_ble_eq_true rfl), (Nat.le_of_ble_eq_true rfl)⟩ ?_
  rintro v w ⟨rfl, rfl⟩
  refine g_norm (Lw' := [sBook E aB asettings asums aU aP aW B_time B_chest B_fund, sArrI E asettings 5 settings, sArrI E asums 6 sums, sUsers E aU U, sPieces E aP P, sWords E aW W, sCut E aC aS C_1, sCutR E aS S_1]) (st' := []) (pc' := 14) [2, 3, 5, 6, 4, 7, 0, 1] rfl rfl rfl rfl ?_
  refine g_iconst F 0 dX1_cutAnew_14 rfl ?_
  refine g_istore_n (lv' := [some (.ref (aB 0)), some (.int x1), some (.ref (aC 0)), some (.int 0), none]) F dX1_cutAnew_15 (Nat.le_of_ble_eq_true rfl) rfl rfl ?_
  refine ktX1_cutAnew_L16 F aB asettings asums aU aP aW aC aS x1 C_1 B_time B_chest B_fund settings sums U W S_1 r B_fund' sums' U' P' W' C' S' (fun P_1 hf => ?_) FU 0 P hf
  refine g_aload_n F dX1_cutAnew_50 rfl ?_
  refine g_get (C := RX1) (T := TX1) (N := 8) F 0 0 4 rfl rfl rfl iX1_cutAnew_X1 (by decide) (by decide +kernel) rfl dX1_cutAnew_51 ?_
  refine g_get (C := RX8) (T := TX8) (N := 5) F 5 0 3 rfl rfl rfl iX1_cutAnew_X8 (by decide) (by decide +kernel) rfl dX1_cutAnew_54 ?_
  refine g_iload_n F dX1_cutAnew_57 rfl ?_
  obtain ⟨hb_2, hf⟩ := gb_in hf
  refine g_iald F 5 3 (x1.toNatClampNeg) rfl rfl rfl hb_2 dX1_cutAnew_58 ?_
  refine g_istore_n (lv' := [some (.ref (aB 0)), some (.int x1), some (.ref (aC 0)), some (.int (W.2.2.2.1 (x1.toNatClampNeg))), none]) F dX1_cutAnew_59 (Nat.le_of_ble_eq_true rfl) rfl rfl ?_
  refine g_iconst F 0 dX1_cutAnew_60 rfl ?_
  refine g_istore (lv' := [some (.ref (aB 0)), some (.int x1), some (.ref (aC 0)), some (.int (W.2.2.2.1 (x1.toNatClampNeg))), some (.int 0)]) F dX1_cutAnew_61 (Nat.le_of_ble_eq_true rfl) rfl rfl ?_
  refine ktX1_cutAnew_L63 F aB asettings asums aU aP aW aC aS x1 (W.2.2.2.1 (x1.toNatClampNeg)) B_time W B_chest B_fund settings sums U C_1 S_1 r B_fund' sums' U' P' W' C' S' (fun P_2 hf => ?_) FU 0 P_1 hf
  refine g_aload_n F dX1_cutAnew_96 rfl ?_
  refine g_get (C := RX1) (T := TX1) (N := 8) F 0 0 4 rfl rfl rfl iX1_cutAnew_X1 (by decide) (by decide +kernel) rfl dX1_cutAnew_97 ?_
  refine g_iload_n F dX1_cutAnew_100 rfl ?_
  obtain ⟨W_1, hg_2, hf⟩ := gb1_el hf
  refine g_callV (C := RX8) (T := TX8) (N := 5) (Lr := [sBook E aB asettings asums aU aP aW B_time B_chest B_fund, sArrI E asettings 5 settings, sArrI E asums 6 sums, sUsers E aU U, sPieces E aP P_2, sCut E aC aS C_1, sCutR E aS S_1]) (As := [.int x1]) (rest := []) F 5 0 1 (ctX8_clearParts l E aW x1 W W_1 hg_2) gX1_cutAnew_X8_clearParts rfl rfl rfl h0X8_clearParts ⟨Nat.le_of_ble_eq_true rfl, Nat.le_of_ble_eq_true rfl⟩ rfl rfl rfl [5] [0, 1, 2, 3, 4, 6, 7] rfl rfl rfl rfl rfl rfl (Nat.le_of_ble_eq_true rfl) dX1_cutAnew_101 ⟨(Nat.le_of_ble_eq_true rfl), (Nat.le_of_ble_eq_true rfl)⟩ ?_
  rintro v w ⟨rfl, rfl⟩
  refine g_norm (Lw' := [sBook E aB asettings asums aU aP aW B_time B_chest B_fund, sArrI E asettings 5 settings, sArrI E asums 6 sums, sUsers E aU U, sPieces E aP P_2, sWords E aW W_1, sCut E aC aS C_1, sCutR E aS S_1]) (st' := []) (pc' := 104) [1, 2, 3, 4, 5, 0, 6, 7] rfl rfl rfl rfl ?_
  refine g_iconst F 0 dX1_cutAnew_104 rfl ?_
  refine g_istore (lv' := [some (.ref (aB 0)), some (.int x1), some (.ref (aC 0)), some (.int (W.2.2.2.1 (x1.toNatClampNeg))), some (.int 0)]) F dX1_cutAnew_105 (Nat.le_of_ble_eq_true rfl) rfl rfl ?_
  refine ktX1_cutAnew_L107 F aB asettings asums aU aP aW aC aS x1 (W.2.2.2.1 (x1.toNatClampNeg)) P_2 C_1 B_time B_chest B_fund settings sums U S_1 r B_fund' sums' U' P' W' C' S' (fun W_2 hf => ?_) FU 0 W_1 hf
  refine g_aload_n F dX1_cutAnew_144 rfl ?_
  refine g_iload_n F dX1_cutAnew_145 rfl ?_
  refine g_aload_n F dX1_cutAnew_146 rfl ?_
  refine g_get (C := RX2) (T := TX2) (N := 12) F 6 0 0 rfl rfl rfl iX1_cutAnew_X2 (by decide) (by decide +kernel) rfl dX1_cutAnew_147 ?_
  refine g_isub F dX1_cutAnew_150 ?_
  obtain ⟨r_1, hg_3, hf⟩ := gb1_el hf
  refine g_callV (C := RX1) (T := TX1) (N := 8) (Lr := [sArrI E asums 6 sums, sUsers E aU U, sPieces E aP P_2, sWords E aW W_2, sCut E aC aS C_1, sCutR E aS S_1]) (As := [.int ((W.2.2.2.1 (x1.toNatClampNeg)) - C_1.1)]) (rest := []) F 0 0 1 (ctX1_depositsFor l E aB asettings asums aU aP aW ((W.2.2.2.1 (x1.toNatClampNeg)) - C_1.1) B_time B_chest B_fund settings r_1 hg_3) gX1_cutAnew_X1_depositsFor rfl rfl rfl h0X1_depositsFor ⟨Nat.le_of_ble_eq_true rfl, Nat.le_of_ble_eq_true rfl⟩ rfl rfl rfl [0, 1] [2, 3, 4, 5, 6, 7] rfl rfl rfl rfl rfl rfl (Nat.le_of_ble_eq_true rfl) dX1_cutAnew_151 ⟨(Nat.le_of_ble_eq_true rfl), (Nat.le_of_ble_eq_true rfl)⟩ ?_
  rintro v w ⟨rfl, rfl⟩
  refine g_norm (Lw' := [sBook E aB asettings asums aU aP aW B_time B_chest B_fund, sArrI E asettings 5 settings, sArrI E asums 6 sums, sUsers E aU U, sPieces E aP P_2, sWords E aW W_2, sCut E aC aS C_1, sCutR E aS S_1]) (st' := [.int r_1]) (pc' := 154) [0, 1, 2, 3, 4, 5, 6, 7] rfl rfl rfl rfl ?_
  refine g_istore (lv' := [some (.ref (aB 0)), some (.int x1), some (.ref (aC 0)), some (.int (W.2.2.2.1 (x1.toNatClampNeg))), some (.int r_1)]) F dX1_cutAnew_154 (Nat.le_of_ble_eq_true rfl) rfl rfl ?_
  refine g_aload_n F dX1_cutAnew_156 rfl ?_
  refine g_aload_n F dX1_cutAnew_157 rfl ?_
  refine g_get (C := RX1) (T := TX1) (N := 8) F 0 0 4 rfl rfl rfl iX1_cutAnew_X1 (by decide) (by decide +kernel) rfl dX1_cutAnew_158 ?_
  refine g_get (C := RX8) (T := TX8) (N := 5) F 5 0 2 rfl rfl rfl iX1_cutAnew_X8 (by decide) (by decide +kernel) rfl dX1_cutAnew_161 ?_
  refine g_iload_n F dX1_cutAnew_164 rfl ?_
  obtain ⟨hb_3, hf⟩ := gb_in hf
  refine g_iald F 5 2 (x1.toNatClampNeg) rfl rfl rfl hb_3 dX1_cutAnew_165 ?_
  refine g_iload F dX1_cutAnew_166 rfl ?_
  obtain ⟨B_fund_1, sums_1, U_1, hg_4, hf⟩ := gb3_el hf
  refine g_callV (C := RX1) (T := TX1) (N := 8) (Lr := [sArrI E asettings 5 settings, sPieces E aP P_2, sWords E aW W_2, sCut E aC aS C_1, sCutR E aS S_1]) (As := [.int (W_2.2.2.1 (x1.toNatClampNeg)), .int r_1]) (rest := []) F 0 0 2 (ctX1_giveBack l E aB asettings asums aU aP aW (W_2.2.2.1 (x1.toNatClampNeg)) r_1 B_time B_chest B_fund sums U B_fund_1 sums_1 U_1 hg_4) gX1_cutAnew_X1_giveBack rfl rfl rfl h0X1_giveBack ⟨Nat.le_of_ble_eq_true rfl, Nat.le_of_ble_eq_true rfl⟩ rfl rfl rfl [0, 2, 3] [1, 4, 5, 6, 7] rfl rfl rfl rfl rfl rfl (Nat.le_of_ble_eq_true rfl) dX1_cutAnew_168 ⟨(Nat.le_of_ble_eq_true rfl), (Nat.le_of_ble_eq_true rfl)⟩ ?_
  rintro v w ⟨rfl, rfl⟩
  refine g_norm (Lw' := [sBook E aB asettings asums aU aP aW B_time B_chest B_fund_1, sArrI E asettings 5 settings, sArrI E asums 6 sums_1, sUsers E aU U_1, sPieces E aP P_2, sWords E aW W_2, sCut E aC aS C_1, sCutR E aS S_1]) (st' := []) (pc' := 171) [0, 3, 1, 2, 4, 5, 6, 7] rfl rfl rfl rfl ?_
  refine g_iload F dX1_cutAnew_171 rfl ?_
  cases hf
  exact g_iret F rfl ⟨rfl, rfl⟩ dX1_cutAnew_173
set_option maxHeartbeats 4000000 in
set_option maxRecDepth 100000 in
theorem ctX1_sendBack (l : Launch) (E : gE) (aB asettings asums aU aP aW : Nat → Nat) (x1 : Int32) (B_time : Int32) (B_chest : Int32) (B_fund : Int32) (settings : (Nat → Int32)) (sums : (Nat → Int32)) (U : tUsers) (P : tPieces) (W : tWords) (B_chest' : Int32) (sums' : (Nat → Int32)) (U' : tUsers) (P' : tPieces) (W' : tWords) (hf : fX1_sendBack x1 B_chest settings sums U P W = some (B_chest', sums', U', P', W')) : gMet l yX1_sendBack wsX1_sendBack rmX1_sendBack vwCl E [.ref (aB 0), .int x1] [sBook E aB asettings asums aU aP aW B_time B_chest B_fund, sArrI E asettings 5 settings, sArrI E asums 6 sums, sUsers E aU U, sPieces E aP P, sWords E aW W] (fun v w => v = none ∧ w = [sBook E aB asettings asums aU aP aW B_time B_chest' B_fund, sArrI E asettings 5 settings, sArrI E asums 6 sums', sUsers E aU U', sPieces E aP P', sWords E aW W']) 0 0 := by
  refine g_entry [some (.ref (aB 0)), some (.int x1), none] (by decide) rfl (Nat.le_of_ble_eq_true rfl) rfl ?_
  intro p e s m below meth c A F hnm
  unfold fX1_sendBack at hf
  refine g_aload_n F dX1_sendBack_0 rfl ?_
  refine g_get (C := RX1) (T := TX1) (N := 8) F 0 0 3 rfl rfl rfl iX1_sendBack_X1 (by decide) (by decide +kernel) rfl dX1_sendBack_1 ?_
  refine g_get (C := RX6) (T := TX6) (N := 6) F 4 0 2 rfl rfl rfl iX1_sendBack_X6 (by decide) (by decide +kernel) rfl dX1_sendBack_4 ?_
  refine g_iload_n F dX1_sendBack_7 rfl ?_
  obtain ⟨hb_1, hf⟩ := gb_in hf
  refine g_iald F 4 2 (x1.toNatClampNeg) rfl rfl rfl hb_1 dX1_sendBack_8 ?_
  refine g_aload_n F dX1_sendBack_9 rfl ?_
  refine g_get (C := RX1) (T := TX1) (N := 8) F 0 0 0 rfl rfl rfl iX1_sendBack_X1 (by decide) (by decide +kernel) rfl dX1_sendBack_10 ?_
  refine g_iconst F 4 dX1_sendBack_13 rfl ?_
  refine g_iald F 1 0 4 (by decide) rfl rfl (by decide) dX1_sendBack_14 ?_
  refine g_imul F dX1_sendBack_15 ?_
  refine g_bipush F 100 dX1_sendBack_16 rfl ?_
  refine g_idiv F dX1_sendBack_18 (by decide) ?_
  refine g_istore_n (lv' := [some (.ref (aB 0)), some (.int x1), some (.int (((P.2.2.1 (x1.toNatClampNeg)) * (settings 4)) / 100))]) F dX1_sendBack_19 (Nat.le_of_ble_eq_true rfl) rfl rfl ?_
  refine g_aload_n F dX1_sendBack_20 rfl ?_
  refine g_get (C := RX1) (T := TX1) (N := 8) F 0 0 2 rfl rfl rfl iX1_sendBack_X1 (by decide) (by decide +kernel) rfl dX1_sendBack_21 ?_
  refine g_aload_n F dX1_sendBack_24 rfl ?_
  refine g_get (C := RX1) (T := TX1) (N := 8) F 0 0 3 rfl rfl rfl iX1_sendBack_X1 (by decide) (by decide +kernel) rfl dX1_sendBack_25 ?_
  refine g_get (C := RX6) (T := TX6) (N := 6) F 4 0 3 rfl rfl rfl iX1_sendBack_X6 (by decide) (by decide +kernel) rfl dX1_sendBack_28 ?_
  refine g_iload_n F dX1_sendBack_31 rfl ?_
  obtain ⟨hb_2, hf⟩ := gb_in hf
  refine g_iald F 4 3 (x1.toNatClampNeg) rfl rfl rfl hb_2 dX1_sendBack_32 ?_
  refine g_iload_n F dX1_sendBack_33 rfl ?_
  obtain ⟨U_1, hg_1, hf⟩ := gb1_el hf
  refine g_callV (C := RX7) (T := TX7) (N := 3) (Lr := [sBook E aB asettings asums aU aP aW B_time B_chest B_fund, sArrI E asettings 5 settings, sArrI E asums 6 sums, sPieces E aP P, sWords E aW W]) (As := [.int (P.2.2.2.1 (x1.toNatClampNeg)), .int (((P.2.2.1 (x1.toNatClampNeg)) * (settings 4)) / 100)]) (rest := []) F 3 0 2 (ctX7_give l E aU (P.2.2.2.1 (x1.toNatClampNeg)) (((P.2.2.1 (x1.toNatClampNeg)) * (settings 4)) / 100) U U_1 hg_1) gX1_sendBack_X7_give rfl rfl rfl h0X7_give ⟨Nat.le_of_ble_eq_true rfl, Nat.le_of_ble_eq_true rfl⟩ rfl rfl rfl [3] [0, 1, 2, 4, 5] rfl rfl rfl rfl rfl rfl (Nat.le_of_ble_eq_true rfl) dX1_sendBack_34 ⟨(Nat.le_of_ble_eq_true rfl), (Nat.le_of_ble_eq_true rfl)⟩ ?_
  rintro v w ⟨rfl, rfl⟩
  refine g_norm (Lw' := [sBook E aB asettings asums aU aP aW B_time B_chest B_fund, sArrI E asettings 5 settings, sArrI E asums 6 sums, sUsers E aU U_1, sPieces E aP P, sWords E aW W]) (st' := []) (pc' := 37) [1, 2, 3, 0, 4, 5] rfl rfl rfl rfl ?_
  refine g_aload_n F dX1_sendBack_37 rfl ?_
  refine g_dup F dX1_sendBack_38 rfl ?_
  refine g_get (C := RX1) (T := TX1) (N := 8) F 0 0 6 rfl rfl rfl iX1_sendBack_X1 (by decide) (by decide +kernel) rfl dX1_sendBack_39 ?_
  refine g_iload_n F dX1_sendBack_42 rfl ?_
  refine g_isub F dX1_sendBack_43 ?_
  obtain ⟨B_chest_1, hB_chest_1, hf⟩ := Lt_el hf
  refine g_put (C := RX1) (T := TX1) (N := 8) (tys := tyX1) (Lw' := [sBook E aB asettings asums aU aP aW B_time B_chest_1 B_fund, sArrI E asettings 5 settings, sArrI E asums 6 sums, sUsers E aU U_1, sPieces E aP P, sWords E aW W]) F 0 0 6 rfl rfl rfl iX1_sendBack_X1 tyX1_ok nmX1 (by decide) (by decide +kernel) rfl rfl rfl rfl (Nat.le_of_ble_eq_true rfl) dX1_sendBack_44 (by subst hB_chest_1; rfl) ?_
  refine g_aload_n F dX1_sendBack_47 rfl ?_
  refine g_get (C := RX1) (T := TX1) (N := 8) F 0 0 1 rfl rfl rfl iX1_sendBack_X1 (by decide) (by decide +kernel) rfl dX1_sendBack_48 ?_
  refine g_iconst F 1 dX1_sendBack_51 rfl ?_
  refine g_dup2 F dX1_sendBack_52 rfl rfl ?_
  refine g_iald F 2 0 1 (by decide) rfl rfl (by decide) dX1_sendBack_53 ?_
  refine g_iload_n F dX1_sendBack_54 rfl ?_
  refine g_iadd F dX1_sendBack_55 ?_
  obtain ⟨sums_1, hsums_1, hf⟩ := Lt_el hf
  refine g_iast (Lw' := [sBook E aB asettings asums aU aP aW B_time B_chest_1 B_fund, sArrI E asettings 5 settings, sArrI E asums 6 sums_1, sUsers E aU U_1, sPieces E aP P, sWords E aW W]) F 2 0 1 (by decide) rfl rfl (by decide) dX1_sendBack_56 (by subst hsums_1; rfl) ?_
  refine g_aload_n F dX1_sendBack_57 rfl ?_
  refine g_get (C := RX1) (T := TX1) (N := 8) F 0 0 1 rfl rfl rfl iX1_sendBack_X1 (by decide) (by decide +kernel) rfl dX1_sendBack_58 ?_
  refine g_iconst F 5 dX1_sendBack_61 rfl ?_
  refine g_dup2 F dX1_sendBack_62 rfl rfl ?_
  refine g_iald F 2 0 5 (by decide) rfl rfl (by decide) dX1_sendBack_63 ?_
  refine g_iconst F 1 dX1_sendBack_64 rfl ?_
  refine g_iadd F dX1_sendBack_65 ?_
  obtain ⟨sums_2, hsums_2, hf⟩ := Lt_el hf
  refine g_iast (Lw' := [sBook E aB asettings asums aU aP aW B_time B_chest_1 B_fund, sArrI E asettings 5 settings, sArrI E asums 6 sums_2, sUsers E aU U_1, sPieces E aP P, sWords E aW W]) F 2 0 5 (by decide) rfl rfl (by decide) dX1_sendBack_66 (by subst hsums_2; rfl) ?_
  refine g_aload_n F dX1_sendBack_67 rfl ?_
  refine g_get (C := RX1) (T := TX1) (N := 8) F 0 0 3 rfl rfl rfl iX1_sendBack_X1 (by decide) (by decide +kernel) rfl dX1_sendBack_68 ?_
  refine g_iload_n F dX1_sendBack_71 rfl ?_
  obtain ⟨P_1, hg_2, hf⟩ := gb1_el hf
  refine g_callV (C := RX6) (T := TX6) (N := 6) (Lr := [sBook E aB asettings asums aU aP aW B_time B_chest_1 B_fund, sArrI E asettings 5 settings, sArrI E asums 6 sums_2, sUsers E aU U_1, sWords E aW W]) (As := [.int x1]) (rest := []) F 4 0 1 (ctX6_drop l E aP x1 P P_1 hg_2) gX1_sendBack_X6_drop rfl rfl rfl h0X6_drop ⟨Nat.le_of_ble_eq_true rfl, Nat.le_of_ble_eq_true rfl⟩ rfl rfl rfl [4] [0, 1, 2, 3, 5] rfl rfl rfl rfl rfl rfl (Nat.le_of_ble_eq_true rfl) dX1_sendBack_72 ⟨(Nat.le_of_ble_eq_true rfl), (Nat.le_of_ble_eq_true rfl)⟩ ?_
  rintro v w ⟨rfl, rfl⟩
  refine g_norm (Lw' := [sBook E aB asettings asums aU aP aW B_time B_chest_1 B_fund, sArrI E asettings 5 settings, sArrI E asums 6 sums_2, sUsers E aU U_1, sPieces E aP P_1, sWords E aW W]) (st' := []) (pc' := 75) [1, 2, 3, 4, 0, 5] rfl rfl rfl rfl ?_
  refine g_aload_n F dX1_sendBack_75 rfl ?_
  refine g_get (C := RX1) (T := TX1) (N := 8) F 0 0 4 rfl rfl rfl iX1_sendBack_X1 (by decide) (by decide +kernel) rfl dX1_sendBack_76 ?_
  refine g_iload_n F dX1_sendBack_79 rfl ?_
  obtain ⟨W_1, hg_3, hf⟩ := gb1_el hf
  refine g_callV (C := RX8) (T := TX8) (N := 5) (Lr := [sBook E aB asettings asums aU aP aW B_time B_chest_1 B_fund, sArrI E asettings 5 settings, sArrI E asums 6 sums_2, sUsers E aU U_1, sPieces E aP P_1]) (As := [.int x1]) (rest := []) F 5 0 1 (ctX8_closeGap l E aW x1 W W_1 hg_3) gX1_sendBack_X8_closeGap rfl rfl rfl h0X8_closeGap ⟨Nat.le_of_ble_eq_true rfl, Nat.le_of_ble_eq_true rfl⟩ rfl rfl rfl [5] [0, 1, 2, 3, 4] rfl rfl rfl rfl rfl rfl (Nat.le_of_ble_eq_true rfl) dX1_sendBack_80 ⟨(Nat.le_of_ble_eq_true rfl), (Nat.le_of_ble_eq_true rfl)⟩ ?_
  rintro v w ⟨rfl, rfl⟩
  refine g_norm (Lw' := [sBook E aB asettings asums aU aP aW B_time B_chest_1 B_fund, sArrI E asettings 5 settings, sArrI E asums 6 sums_2, sUsers E aU U_1, sPieces E aP P_1, sWords E aW W_1]) (st' := []) (pc' := 83) [1, 2, 3, 4, 5, 0] rfl rfl rfl rfl ?_
  cases hf
  exact g_vret F rfl ⟨rfl, rfl⟩ dX1_sendBack_83
set_option maxHeartbeats 4000000 in
set_option maxRecDepth 100000 in
theorem ktX1_passTick_L22 {p : Program} {l : Launch} {e : Env} {s : State} {m : MethodId} {args : Array Value} {below : List Frame} {meth : Method} {c : Code} {E : gE} {A : Nat → Prop} (F : gFx p s m args meth c RX1 wsX1_passTick cX1_passTick 4 (some .int) vwCl E A) (aB asettings asums aU aP aW : Nat → Nat) (x1 : Int32) (B_time : Int32) (settings : (Nat → Int32)) (B_fund : Int32) (r : Int32) (B_time' : Int32) (B_chest' : Int32) (sums' : (Nat → Int32)) (U' : tUsers) (P' : tPieces) (W' : tWords) {k : Int32 → (Nat → Int32) → tUsers → tPieces → tWords → Option (Int32 × Int32 × Int32 × (Nat → Int32) × tUsers × tPieces × tWords)} (hk : ∀ (B_chest : Int32) (sums : (Nat → Int32)) (U : tUsers) (P : tPieces) (W : tWords), k B_chest sums U P W = some (r, B_time', B_chest', sums', U', P', W') → Gj p l e rmX1_passTick s m args below meth c 0 0 (MQ below (gQ vwCl E A (fun v w => v = some (.int r) ∧ w = [sBook E aB asettings asums aU aP aW B_time' B_chest' B_fund, sArrI E asettings 5 settings, sArrI E asums 6 sums', sUsers E aU U', sPieces E aP P', sWords E aW W'])) args s 0 0 A) vwCl E A [sBook E aB asettings asums aU aP aW B_time B_chest B_fund, sArrI E asettings 5 settings, sArrI E asums 6 sums, sUsers E aU U, sPieces E aP P, sWords E aW W] [some (.ref (aB 0)), some (.int x1), none, none] [] 76) : ∀ (n : Nat) (x2 : Int32) (x3 : Int32) (B_chest : Int32) (sums : (Nat → Int32)) (U : tUsers) (P : tPieces) (W : tWords), fX1_passTick_L22 x1 B_time settings k n x2 x3 B_chest sums U P W = some (r, B_time', B_chest', sums', U', P', W') → Gj p l e rmX1_passTick s m args below meth c 0 0 (MQ below (gQ vwCl E A (fun v w => v = some (.int r) ∧ w = [sBook E aB asettings asums aU aP aW B_time' B_chest' B_fund, sArrI E asettings 5 settings, sArrI E asums 6 sums', sUsers E aU U', sPieces E aP P', sWords E aW W'])) args s 0 0 A) vwCl E A [sBook E aB asettings asums aU aP aW B_time B_chest B_fund, sArrI E asettings 5 settings, sArrI E asums 6 sums, sUsers E aU U, sPieces E aP P, sWords E aW W] [some (.ref (aB 0)), some (.int x1), some (.int x2), some (.int x3)] [] 22
  | 0, _, _, _, _, _, _, _, hf => by cases hf
  | n + 1, x2, x3, B_chest, sums, U, P, W, hf => by
    have ih := ktX1_passTick_L22 F aB asettings asums aU aP aW x1 B_time settings B_fund r B_time' B_chest' sums' U' P' W' hk n
    rw [fX1_passTick_L22] at hf
    refine g_iload_n F dX1_passTick_22 rfl ?_
    refine g_iload_n F dX1_passTick_23 rfl ?_
    refine g_icmp_ge F 76 dX1_passTick_24 (by decide) (fun hc_3 => ?_) (fun hc_3 => ?_)
    · replace hf := gi_t hc_3 hf
      refine g_mask [true, true, false, false] rfl ?_
      exact hk B_chest sums U P W hf
    · replace hf := gi_f hc_3 hf
      refine g_iload_n F dX1_passTick_27 rfl ?_
      refine g_aload_n F dX1_passTick_28 rfl ?_
      refine g_get (C := RX1) (T := TX1) (N := 8) F 0 0 3 rfl rfl rfl iX1_passTick_X1 (by decide) (by decide +kernel) rfl dX1_passTick_29 ?_
      refine g_get (C := RX6) (T := TX6) (N := 6) F 4 0 0 rfl rfl rfl iX1_passTick_X6 (by decide) (by decide +kernel) rfl dX1_passTick_32 ?_
      refine g_icmp_ge F 76 dX1_passTick_35 (by decide) (fun hc_2 => ?_) (fun hc_2 => ?_)
      · replace hf := gi_t hc_2 hf
        refine g_mask [true, true, false, false] rfl ?_
        exact hk B_chest sums U P W hf
      · replace hf := gi_f hc_2 hf
        refine g_aload_n F dX1_passTick_38 rfl ?_
        refine g_get (C := RX1) (T := TX1) (N := 8) F 0 0 3 rfl rfl rfl iX1_passTick_X1 (by decide) (by decide +kernel) rfl dX1_passTick_39 ?_
        refine g_iload_n F dX1_passTick_42 rfl ?_
        refine g_aload_n F dX1_passTick_43 rfl ?_
        refine g_get (C := RX1) (T := TX1) (N := 8) F 0 0 5 rfl rfl rfl iX1_passTick_X1 (by decide) (by decide +kernel) rfl dX1_passTick_44 ?_
        refine g_aload_n F dX1_passTick_47 rfl ?_
        refine g_get (C := RX1) (T := TX1) (N := 8) F 0 0 0 rfl rfl rfl iX1_passTick_X1 (by decide) (by decide +kernel) rfl dX1_passTick_48 ?_
        refine g_iconst F 3 dX1_passTick_51 rfl ?_
        refine g_iald F 1 0 3 (by decide) rfl rfl (by decide) dX1_passTick_52 ?_
        obtain ⟨r_1, hg_1, hf⟩ := gb1_el hf
        refine g_callV (C := RX6) (T := TX6) (N := 6) (Lr := [sBook E aB asettings asums aU aP aW B_time B_chest B_fund, sArrI E asettings 5 settings, sArrI E asums 6 sums, sUsers E aU U, sWords E aW W]) (As := [.int x2, .int B_time, .int (settings 3)]) (rest := []) F 4 0 3 (ctX6_goesBack l E aP x2 B_time (settings 3) P r_1 hg_1) gX1_passTick_X6_goesBack rfl rfl rfl h0X6_goesBack ⟨Nat.le_of_ble_eq_true rfl, Nat.le_of_ble_eq_true rfl⟩ rfl rfl rfl [4] [0, 1, 2, 3, 5] rfl rfl rfl rfl rfl rfl (Nat.le_of_ble_eq_true rfl) dX1_passTick_53 ⟨(Nat.le_of_ble_eq_true rfl), (Nat.le_of_ble_eq_true rfl)⟩ ?_
        rintro v w ⟨rfl, rfl, hz_1⟩
        refine g_norm (Lw' := [sBook E aB asettings asums aU aP aW B_time B_chest B_fund, sArrI E asettings 5 settings, sArrI E asums 6 sums, sUsers E aU U, sPieces E aP P, sWords E aW W]) (st' := [.int r_1]) (pc' := 56) [1, 2, 3, 4, 0, 5] rfl rfl rfl rfl ?_
        refine g_ifeq F 67 dX1_passTick_56 (by decide) (fun hc_1 => ?_) (fun hc_1 => ?_)
        · replace hf := gi_t hc_1 hf
          refine g_iinc (lv' := [some (.ref (aB 0)), some (.int x1), some (.int (x2 + 1)), some (.int x3)]) F (x2 + 1) dX1_passTick_67 rfl rfl rfl rfl ?_
          refine g_iinc (lv' := [some (.ref (aB 0)), some (.int x1), some (.int (x2 + 1)), some (.int (x3 + 1))]) F (x3 + 1) dX1_passTick_70 rfl rfl rfl rfl ?_
          refine g_goto F 22 dX1_passTick_73 (by decide) ?_
          exact ih (x2 + 1) (x3 + 1) B_chest sums U P W hf
        · replace hf := gi_f hc_1 hf
          refine g_aload_n F dX1_passTick_59 rfl ?_
          refine g_iload_n F dX1_passTick_60 rfl ?_
          obtain ⟨B_chest_1, sums_1, U_1, P_1, W_1, hg_2, hf⟩ := gb5_el hf
          refine g_callV (C := RX1) (T := TX1) (N := 8) (Lr := []) (As := [.int x2]) (rest := []) F 0 0 1 (ctX1_sendBack l E aB asettings asums aU aP aW x2 B_time B_chest B_fund settings sums U P W B_chest_1 sums_1 U_1 P_1 W_1 hg_2) gX1_passTick_X1_sendBack rfl rfl rfl h0X1_sendBack ⟨Nat.le_of_ble_eq_true rfl, Nat.le_of_ble_eq_true rfl⟩ rfl rfl rfl [0, 1, 2, 3, 4, 5] [] rfl rfl rfl rfl rfl rfl (Nat.le_of_ble_eq_true rfl) dX1_passTick_61 ⟨(Nat.le_of_ble_eq_true rfl), (Nat.le_of_ble_eq_true rfl)⟩ ?_
          rintro v w ⟨rfl, rfl⟩
          refine g_norm (Lw' := [sBook E aB asettings asums aU aP aW B_time B_chest_1 B_fund, sArrI E asettings 5 settings, sArrI E asums 6 sums_1, sUsers E aU U_1, sPieces E aP P_1, sWords E aW W_1]) (st' := []) (pc' := 64) [0, 1, 2, 3, 4, 5] rfl rfl rfl rfl ?_
          refine g_goto F 70 dX1_passTick_64 (by decide) ?_
          refine g_iinc (lv' := [some (.ref (aB 0)), some (.int x1), some (.int x2), some (.int (x3 + 1))]) F (x3 + 1) dX1_passTick_70 rfl rfl rfl rfl ?_
          refine g_goto F 22 dX1_passTick_73 (by decide) ?_
          exact ih x2 (x3 + 1) B_chest_1 sums_1 U_1 P_1 W_1 hf
set_option maxHeartbeats 4000000 in
set_option maxRecDepth 100000 in
theorem ctX1_passTick (l : Launch) (E : gE) (aB asettings asums aU aP aW : Nat → Nat) (B_time : Int32) (B_chest : Int32) (B_fund : Int32) (settings : (Nat → Int32)) (sums : (Nat → Int32)) (U : tUsers) (P : tPieces) (W : tWords) (r : Int32) (B_time' : Int32) (B_chest' : Int32) (sums' : (Nat → Int32)) (U' : tUsers) (P' : tPieces) (W' : tWords) (hf : fX1_passTick B_time B_chest settings sums U P W = some (r, B_time', B_chest', sums', U', P', W')) : gMet l yX1_passTick wsX1_passTick rmX1_passTick vwCl E [.ref (aB 0)] [sBook E aB asettings asums aU aP aW B_time B_chest B_fund, sArrI E asettings 5 settings, sArrI E asums 6 sums, sUsers E aU U, sPieces E aP P, sWords E aW W] (fun v w => v = some (.int r) ∧ w = [sBook E aB asettings asums aU aP aW B_time' B_chest' B_fund, sArrI E asettings 5 settings, sArrI E asums 6 sums', sUsers E aU U', sPieces E aP P', sWords E aW W']) 0 0 := by
  refine g_entry [some (.ref (aB 0)), none, none, none] (by decide) rfl (Nat.le_of_ble_eq_true rfl) rfl ?_
  intro p e s m below meth c A F hnm
  unfold fX1_passTick at hf
  refine g_aload_n F dX1_passTick_0 rfl ?_
  refine g_dup F dX1_passTick_1 rfl ?_
  refine g_get (C := RX1) (T := TX1) (N := 8) F 0 0 5 rfl rfl rfl iX1_passTick_X1 (by decide) (by decide +kernel) rfl dX1_passTick_2 ?_
  refine g_iconst F 1 dX1_passTick_5 rfl ?_
  refine g_iadd F dX1_passTick_6 ?_
  refine g_put (C := RX1) (T := TX1) (N := 8) (tys := tyX1) (Lw' := [sBook E aB asettings asums aU aP aW (B_time + 1) B_chest B_fund, sArrI E asettings 5 settings, sArrI E asums 6 sums, sUsers E aU U, sPieces E aP P, sWords E aW W]) F 0 0 5 rfl rfl rfl iX1_passTick_X1 tyX1_ok nmX1 (by decide) (by decide +kernel) rfl rfl rfl rfl (Nat.le_of_ble_eq_true rfl) dX1_passTick_7 rfl ?_
  refine g_aload_n F dX1_passTick_10 rfl ?_
  refine g_get (C := RX1) (T := TX1) (N := 8) F 0 0 3 rfl rfl rfl iX1_passTick_X1 (by decide) (by decide +kernel) rfl dX1_passTick_11 ?_
  refine g_get (C := RX6) (T := TX6) (N := 6) F 4 0 0 rfl rfl rfl iX1_passTick_X6 (by decide) (by decide +kernel) rfl dX1_passTick_14 ?_
  refine g_istore_n (lv' := [some (.ref (aB 0)), some (.int P.1), none, none]) F dX1_passTick_17 (Nat.le_of_ble_eq_true rfl) rfl rfl ?_
  refine g_iconst F 0 dX1_passTick_18 rfl ?_
  refine g_istore_n (lv' := [some (.ref (aB 0)), some (.int P.1), some (.int 0), none]) F dX1_passTick_19 (Nat.le_of_ble_eq_true rfl) rfl rfl ?_
  refine g_iconst F 0 dX1_passTick_20 rfl ?_
  refine g_istore_n (lv' := [some (.ref (aB 0)), some (.int P.1), some (.int 0), some (.int 0)]) F dX1_passTick_21 (Nat.le_of_ble_eq_true rfl) rfl rfl ?_
  refine ktX1_passTick_L22 F aB asettings asums aU aP aW P.1 (B_time + 1) settings B_fund r B_time' B_chest' sums' U' P' W' (fun B_chest_1 sums_1 U_1 P_1 W_1 hf => ?_) FU 0 0 B_chest sums U P W hf
  refine g_iload_n F dX1_passTick_76 rfl ?_
  refine g_aload_n F dX1_passTick_77 rfl ?_
  refine g_get (C := RX1) (T := TX1) (N := 8) F 0 0 3 rfl rfl rfl iX1_passTick_X1 (by decide) (by decide +kernel) rfl dX1_passTick_78 ?_
  refine g_get (C := RX6) (T := TX6) (N := 6) F 4 0 0 rfl rfl rfl iX1_passTick_X6 (by decide) (by decide +kernel) rfl dX1_passTick_81 ?_
  refine g_isub F dX1_passTick_84 ?_
  cases hf
  exact g_iret F rfl ⟨rfl, rfl⟩ dX1_passTick_85
set_option maxHeartbeats 4000000 in
set_option maxRecDepth 100000 in
theorem ktX1_madeUp_L8 {p : Program} {l : Launch} {e : Env} {s : State} {m : MethodId} {args : Array Value} {below : List Frame} {meth : Method} {c : Code} {E : gE} {A : Nat → Prop} (F : gFx p s m args meth c RX1 wsX1_madeUp cX1_madeUp 7 (some .long) vwCl E A) (aB asettings asums aU aP aW : Nat → Nat) (x1 : Int32) (P : tPieces) (W : tWords) (B_time : Int32) (B_chest : Int32) (B_fund : Int32) (r : Int64) {k : Int64 → Option (Int64)} (hk : ∀ (x2 : Int64), k x2 = some r → Gj p l e rmX1_madeUp s m args below meth c 0 0 (MQ below (gQ vwCl E A (fun v w => v = some (.long r) ∧ w = [sBook E aB asettings asums aU aP aW B_time B_chest B_fund, sPieces E aP P, sWords E aW W])) args s 0 0 A) vwCl E A [sBook E aB asettings asums aU aP aW B_time B_chest B_fund, sPieces E aP P, sWords E aW W] [none, none, some (.long x2), none, none, none, none] [] 94) : ∀ (n : Nat) (x2 : Int64) (x4 : Int32) (x5 : Int32), fX1_madeUp_L8 x1 P W k n x2 x4 x5 = some r → Gj p l e rmX1_madeUp s m args below meth c 0 0 (MQ below (gQ vwCl E A (fun v w => v = some (.long r) ∧ w = [sBook E aB asettings asums aU aP aW B_time B_chest B_fund, sPieces E aP P, sWords E aW W])) args s 0 0 A) vwCl E A [sBook E aB asettings asums aU aP aW B_time B_chest B_fund, sPieces E aP P, sWords E aW W] [some (.ref (aB 0)), some (.int x1), some (.long x2), none, some (.int x4), some (.int x5), none] [] 8
  | 0, _, _, _, hf => by cases hf
  | n + 1, x2, x4, x5, hf => by
    have ih := ktX1_madeUp_L8 F aB asettings asums aU aP aW x1 P W B_time B_chest B_fund r hk n
    rw [fX1_madeUp_L8] at hf
    refine g_iload F dX1_madeUp_8 rfl ?_
    refine g_aload_n F dX1_madeUp_10 rfl ?_
    refine g_get (C := RX1) (T := TX1) (N := 8) F 0 0 4 rfl rfl rfl iX1_madeUp_X1 (by decide) (by decide +kernel) rfl dX1_madeUp_11 ?_
    refine g_get (C := RX8) (T := TX8) (N := 5) F 2 0 3 rfl rfl rfl iX1_madeUp_X8 (by decide) (by decide +kernel) rfl dX1_madeUp_14 ?_
    refine g_iload_n F dX1_madeUp_17 rfl ?_
    obtain ⟨hb_1, hf⟩ := gb_in hf
    refine g_iald F 2 3 (x1.toNatClampNeg) rfl rfl rfl hb_1 dX1_madeUp_18 ?_
    refine g_icmp_ge F 94 dX1_madeUp_19 (by decide) (fun hc_3 => ?_) (fun hc_3 => ?_)
    · replace hf := gi_t hc_3 hf
      refine g_mask [false, false, true, true, false, false, true] rfl ?_
      exact hk x2 hf
    · replace hf := gi_f hc_3 hf
      refine g_aload_n F dX1_madeUp_22 rfl ?_
      refine g_get (C := RX1) (T := TX1) (N := 8) F 0 0 4 rfl rfl rfl iX1_madeUp_X1 (by decide) (by decide +kernel) rfl dX1_madeUp_23 ?_
      refine g_iload_n F dX1_madeUp_26 rfl ?_
      refine g_iload F dX1_madeUp_27 rfl ?_
      obtain ⟨r_1, hg_1, hf⟩ := gb1_el hf
      refine g_callV (C := RX8) (T := TX8) (N := 5) (Lr := [sBook E aB asettings asums aU aP aW B_time B_chest B_fund, sPieces E aP P]) (As := [.int x1, .int x5]) (rest := []) F 2 0 2 (ctX8_partAt l E aW x1 x5 W r_1 hg_1) gX1_madeUp_X8_partAt rfl rfl rfl h0X8_partAt ⟨Nat.le_of_ble_eq_true rfl, Nat.le_of_ble_eq_true rfl⟩ rfl rfl rfl [2] [0, 1] rfl rfl rfl rfl rfl rfl (Nat.le_of_ble_eq_true rfl) dX1_madeUp_29 ⟨(Nat.le_of_ble_eq_true rfl), (Nat.le_of_ble_eq_true rfl)⟩ ?_
      rintro v w ⟨rfl, rfl⟩
      refine g_norm (Lw' := [sBook E aB asettings asums aU aP aW B_time B_chest B_fund, sPieces E aP P, sWords E aW W]) (st' := [.int r_1]) (pc' := 32) [1, 2, 0] rfl rfl rfl rfl ?_
      refine g_istore (lv' := [some (.ref (aB 0)), some (.int x1), some (.long x2), none, some (.int x4), some (.int x5), some (.int r_1)]) F dX1_madeUp_32 (Nat.le_of_ble_eq_true rfl) rfl rfl ?_
      refine g_iload F dX1_madeUp_34 rfl ?_
      refine g_iflt F 51 dX1_madeUp_36 (by decide) (fun hc_2 => ?_) (fun hc_2 => ?_)
      · replace hf := gi_t hc_2 hf
        refine g_lconst F 0 dX1_madeUp_51 rfl ?_
        cases hf
        exact g_lret F rfl ⟨rfl, rfl⟩ dX1_madeUp_52
      · replace hf := gi_f hc_2 hf
        refine g_iload F dX1_madeUp_39 rfl ?_
        refine g_aload_n F dX1_madeUp_41 rfl ?_
        refine g_get (C := RX1) (T := TX1) (N := 8) F 0 0 3 rfl rfl rfl iX1_madeUp_X1 (by decide) (by decide +kernel) rfl dX1_madeUp_42 ?_
        refine g_get (C := RX6) (T := TX6) (N := 6) F 1 0 0 rfl rfl rfl iX1_madeUp_X6 (by decide) (by decide +kernel) rfl dX1_madeUp_45 ?_
        refine g_icmp_lt F 53 dX1_madeUp_48 (by decide) (fun hc_1 => ?_) (fun hc_1 => ?_)
        · replace hf := gi_t hc_1 hf
          refine g_lload_n F dX1_madeUp_53 rfl ?_
          refine g_iload F dX1_madeUp_54 rfl ?_
          refine g_aload_n F dX1_madeUp_56 rfl ?_
          refine g_get (C := RX1) (T := TX1) (N := 8) F 0 0 3 rfl rfl rfl iX1_madeUp_X1 (by decide) (by decide +kernel) rfl dX1_madeUp_57 ?_
          refine g_get (C := RX6) (T := TX6) (N := 6) F 1 0 1 rfl rfl rfl iX1_madeUp_X6 (by decide) (by decide +kernel) rfl dX1_madeUp_60 ?_
          refine g_iload F dX1_madeUp_63 rfl ?_
          obtain ⟨hb_2, hf⟩ := gb_in hf
          refine g_lald F 1 1 (r_1.toNatClampNeg) rfl rfl rfl hb_2 dX1_madeUp_65 ?_
          obtain ⟨r_2, hg_2, hf⟩ := gb1_el hf
          refine g_callS (Lr := [sBook E aB asettings asums aU aP aW B_time B_chest B_fund, sPieces E aP P, sWords E aW W]) (As := [.long x2, .int x4, .long (P.2.1 (r_1.toNatClampNeg))]) (rest := []) F 3 (ctX4_join l E x2 x4 (P.2.1 (r_1.toNatClampNeg)) r_2 hg_2) (va_cwS 3 F.2.2.2.2.2.1 gX1_madeUp_X4_join rfl rfl rfl h0X4_join ⟨Nat.le_of_ble_eq_true rfl, Nat.le_of_ble_eq_true rfl⟩) [] [0, 1, 2] rfl rfl rfl rfl rfl rfl (Nat.le_of_ble_eq_true rfl) dX1_madeUp_66 ⟨(Nat.le_of_ble_eq_true rfl), (Nat.le_of_ble_eq_true rfl)⟩ ?_
          rintro v w ⟨rfl, rfl⟩
          refine g_norm (Lw' := [sBook E aB asettings asums aU aP aW B_time B_chest B_fund, sPieces E aP P, sWords E aW W]) (st' := [.long r_2]) (pc' := 69) [0, 1, 2] rfl rfl rfl rfl ?_
          refine g_lstore_n (lv' := [some (.ref (aB 0)), some (.int x1), some (.long r_2), none, some (.int x4), some (.int x5), some (.int r_1)]) F dX1_madeUp_69 (Nat.le_of_ble_eq_true rfl) rfl rfl ?_
          refine g_iload F dX1_madeUp_70 rfl ?_
          refine g_aload_n F dX1_madeUp_72 rfl ?_
          refine g_get (C := RX1) (T := TX1) (N := 8) F 0 0 3 rfl rfl rfl iX1_madeUp_X1 (by decide) (by decide +kernel) rfl dX1_madeUp_73 ?_
          refine g_get (C := RX6) (T := TX6) (N := 6) F 1 0 1 rfl rfl rfl iX1_madeUp_X6 (by decide) (by decide +kernel) rfl dX1_madeUp_76 ?_
          refine g_iload F dX1_madeUp_79 rfl ?_
          obtain ⟨hb_3, hf⟩ := gb_in hf
          refine g_lald F 1 1 (r_1.toNatClampNeg) rfl rfl rfl hb_3 dX1_madeUp_81 ?_
          obtain ⟨r_3, hg_3, hf⟩ := gb1_el hf
          refine g_callS (Lr := [sBook E aB asettings asums aU aP aW B_time B_chest B_fund, sPieces E aP P, sWords E aW W]) (As := [.long (P.2.1 (r_1.toNatClampNeg))]) (rest := [.int x4]) F 1 (ctX4_lengthOf l E (P.2.1 (r_1.toNatClampNeg)) r_3 hg_3) (va_cwS 1 F.2.2.2.2.2.1 gX1_madeUp_X4_lengthOf rfl rfl rfl h0X4_lengthOf ⟨Nat.le_of_ble_eq_true rfl, Nat.le_of_ble_eq_true rfl⟩) [] [0, 1, 2] rfl rfl rfl rfl rfl rfl (Nat.le_of_ble_eq_true rfl) dX1_madeUp_82 ⟨(Nat.le_of_ble_eq_true rfl), (Nat.le_of_ble_eq_true rfl)⟩ ?_
          rintro v w ⟨rfl, rfl⟩
          refine g_norm (Lw' := [sBook E aB asettings asums aU aP aW B_time B_chest B_fund, sPieces E aP P, sWords E aW W]) (st' := [.int r_3, .int x4]) (pc' := 85) [0, 1, 2] rfl rfl rfl rfl ?_
          refine g_iadd F dX1_madeUp_85 ?_
          refine g_istore (lv' := [some (.ref (aB 0)), some (.int x1), some (.long r_2), none, some (.int (x4 + r_3)), some (.int x5), some (.int r_1)]) F dX1_madeUp_86 (Nat.le_of_ble_eq_true rfl) rfl rfl ?_
          refine g_iinc (lv' := [some (.ref (aB 0)), some (.int x1), some (.long r_2), none, some (.int (x4 + r_3)), some (.int (x5 + 1)), some (.int r_1)]) F (x5 + 1) dX1_madeUp_88 rfl rfl rfl rfl ?_
          refine g_goto F 8 dX1_madeUp_91 (by decide) ?_
          refine g_mask [true, true, true, true, true, true, false] rfl ?_
          exact ih r_2 (x4 + r_3) (x5 + 1) hf
        · replace hf := gi_f hc_1 hf
          refine g_lconst F 0 dX1_madeUp_51 rfl ?_
          cases hf
          exact g_lret F rfl ⟨rfl, rfl⟩ dX1_madeUp_52
set_option maxHeartbeats 4000000 in
set_option maxRecDepth 100000 in
theorem ctX1_madeUp (l : Launch) (E : gE) (aB asettings asums aU aP aW : Nat → Nat) (x1 : Int32) (B_time : Int32) (B_chest : Int32) (B_fund : Int32) (P : tPieces) (W : tWords) (r : Int64) (hf : fX1_madeUp x1 P W = some r) : gMet l yX1_madeUp wsX1_madeUp rmX1_madeUp vwCl E [.ref (aB 0), .int x1] [sBook E aB asettings asums aU aP aW B_time B_chest B_fund, sPieces E aP P, sWords E aW W] (fun v w => v = some (.long r) ∧ w = [sBook E aB asettings asums aU aP aW B_time B_chest B_fund, sPieces E aP P, sWords E aW W]) 0 0 := by
  refine g_entry [some (.ref (aB 0)), some (.int x1), none, none, none, none, none] (by decide) rfl (Nat.le_of_ble_eq_true rfl) rfl ?_
  intro p e s m below meth c A F hnm
  unfold fX1_madeUp at hf
  refine g_lconst F 0 dX1_madeUp_0 rfl ?_
  refine g_lstore_n (lv' := [some (.ref (aB 0)), some (.int x1), some (.long 0), none, none, none, none]) F dX1_madeUp_1 (Nat.le_of_ble_eq_true rfl) rfl rfl ?_
  refine g_iconst F 0 dX1_madeUp_2 rfl ?_
  refine g_istore (lv' := [some (.ref (aB 0)), some (.int x1), some (.long 0), none, some (.int 0), none, none]) F dX1_madeUp_3 (Nat.le_of_ble_eq_true rfl) rfl rfl ?_
  refine g_iconst F 0 dX1_madeUp_5 rfl ?_
  refine g_istore (lv' := [some (.ref (aB 0)), some (.int x1), some (.long 0), none, some (.int 0), some (.int 0), none]) F dX1_madeUp_6 (Nat.le_of_ble_eq_true rfl) rfl rfl ?_
  refine ktX1_madeUp_L8 F aB asettings asums aU aP aW x1 P W B_time B_chest B_fund r (fun x2_1 hf => ?_) FU 0 0 0 hf
  refine g_lload_n F dX1_madeUp_94 rfl ?_
  cases hf
  exact g_lret F rfl ⟨rfl, rfl⟩ dX1_madeUp_95
set_option maxHeartbeats 4000000 in
set_option maxRecDepth 100000 in
theorem ktX1_wordsAreMadeUp_L2 {p : Program} {l : Launch} {e : Env} {s : State} {m : MethodId} {args : Array Value} {below : List Frame} {meth : Method} {c : Code} {E : gE} {A : Nat → Prop} (F : gFx p s m args meth c RX1 wsX1_wordsAreMadeUp cX1_wordsAreMadeUp 2 (some .boolean) vwCl E A) (aB asettings asums aU aP aW : Nat → Nat) (P : tPieces) (W : tWords) (B_time : Int32) (B_chest : Int32) (B_fund : Int32) (r : Int32) {k : Option (Int32)} (hk : k = some r → Gj p l e rmX1_wordsAreMadeUp s m args below meth c 0 0 (MQ below (gQ vwCl E A (fun v w => v = some (.int r) ∧ w = [sBook E aB asettings asums aU aP aW B_time B_chest B_fund, sPieces E aP P, sWords E aW W] ∧ narrow .boolean (.int r) = .int r)) args s 0 0 A) vwCl E A [sBook E aB asettings asums aU aP aW B_time B_chest B_fund, sPieces E aP P, sWords E aW W] [none, none] [] 39) : ∀ (n : Nat) (x1 : Int32), fX1_wordsAreMadeUp_L2 P W k n x1 = some r → Gj p l e rmX1_wordsAreMadeUp s m args below meth c 0 0 (MQ below (gQ vwCl E A (fun v w => v = some (.int r) ∧ w = [sBook E aB asettings asums aU aP aW B_time B_chest B_fund, sPieces E aP P, sWords E aW W] ∧ narrow .boolean (.int r) = .int r)) args s 0 0 A) vwCl E A [sBook E aB asettings asums aU aP aW B_time B_chest B_fund, sPieces E aP P, sWords E aW W] [some (.ref (aB 0)), some (.int x1)] [] 2
  | 0, _, hf => by cases hf
  | n + 1, x1, hf => by
    have ih := ktX1_wordsAreMadeUp_L2 F aB asettings asums aU aP aW P W B_time B_chest B_fund r hk n
    rw [fX1_wordsAreMadeUp_L2] at hf
    refine g_iload_n F dX1_wordsAreMadeUp_2 rfl ?_
    refine g_aload_n F dX1_wordsAreMadeUp_3 rfl ?_
    refine g_get (C := RX1) (T := TX1) (N := 8) F 0 0 4 rfl rfl rfl iX1_wordsAreMadeUp_X1 (by decide) (by decide +kernel) rfl dX1_wordsAreMadeUp_4 ?_
    refine g_get (C := RX8) (T := TX8) (N := 5) F 2 0 0 rfl rfl rfl iX1_wordsAreMadeUp_X8 (by decide) (by decide +kernel) rfl dX1_wordsAreMadeUp_7 ?_
    refine g_icmp_ge F 39 dX1_wordsAreMadeUp_10 (by decide) (fun hc_2 => ?_) (fun hc_2 => ?_)
    · replace hf := gi_t hc_2 hf
      refine g_mask [false, false] rfl ?_
      exact hk hf
    · replace hf := gi_f hc_2 hf
      refine g_aload_n F dX1_wordsAreMadeUp_13 rfl ?_
      refine g_iload_n F dX1_wordsAreMadeUp_14 rfl ?_
      obtain ⟨r_1, hg_1, hf⟩ := gb1_el hf
      refine g_callV (C := RX1) (T := TX1) (N := 8) (Lr := []) (As := [.int x1]) (rest := []) F 0 0 1 (ctX1_madeUp l E aB asettings asums aU aP aW x1 B_time B_chest B_fund P W r_1 hg_1) gX1_wordsAreMadeUp_X1_madeUp rfl rfl rfl h0X1_madeUp ⟨Nat.le_of_ble_eq_true rfl, Nat.le_of_ble_eq_true rfl⟩ rfl rfl rfl [0, 1, 2] [] rfl rfl rfl rfl rfl rfl (Nat.le_of_ble_eq_true rfl) dX1_wordsAreMadeUp_15 ⟨(Nat.le_of_ble_eq_true rfl), (Nat.le_of_ble_eq_true rfl)⟩ ?_
      rintro v w ⟨rfl, rfl⟩
      refine g_norm (Lw' := [sBook E aB asettings asums aU aP aW B_time B_chest B_fund, sPieces E aP P, sWords E aW W]) (st' := [.long r_1]) (pc' := 18) [0, 1, 2] rfl rfl rfl rfl ?_
      refine g_aload_n F dX1_wordsAreMadeUp_18 rfl ?_
      refine g_get (C := RX1) (T := TX1) (N := 8) F 0 0 4 rfl rfl rfl iX1_wordsAreMadeUp_X1 (by decide) (by decide +kernel) rfl dX1_wordsAreMadeUp_19 ?_
      refine g_get (C := RX8) (T := TX8) (N := 5) F 2 0 1 rfl rfl rfl iX1_wordsAreMadeUp_X8 (by decide) (by decide +kernel) rfl dX1_wordsAreMadeUp_22 ?_
      refine g_iload_n F dX1_wordsAreMadeUp_25 rfl ?_
      obtain ⟨hb_1, hf⟩ := gb_in hf
      refine g_lald F 2 1 (x1.toNatClampNeg) rfl rfl rfl hb_1 dX1_wordsAreMadeUp_26 ?_
      refine g_lcmp F dX1_wordsAreMadeUp_27 ?_
      refine g_ifeq F 33 dX1_wordsAreMadeUp_28 (by decide) (fun hc_1 => ?_) (fun hc_1 => ?_)
      · replace hf := gi_t hc_1 hf
        refine g_iinc (lv' := [some (.ref (aB 0)), some (.int (x1 + 1))]) F (x1 + 1) dX1_wordsAreMadeUp_33 rfl rfl rfl rfl ?_
        refine g_goto F 2 dX1_wordsAreMadeUp_36 (by decide) ?_
        exact ih (x1 + 1) hf
      · replace hf := gi_f hc_1 hf
        refine g_iconst F 0 dX1_wordsAreMadeUp_31 rfl ?_
        cases hf
        exact g_zret (ty := .boolean) F rfl rfl ⟨rfl, rfl, rfl⟩ dX1_wordsAreMadeUp_32
set_option maxHeartbeats 4000000 in
set_option maxRecDepth 100000 in
theorem ctX1_wordsAreMadeUp (l : Launch) (E : gE) (aB asettings asums aU aP aW : Nat → Nat) (B_time : Int32) (B_chest : Int32) (B_fund : Int32) (P : tPieces) (W : tWords) (r : Int32) (hf : fX1_wordsAreMadeUp P W = some r) : gMet l yX1_wordsAreMadeUp wsX1_wordsAreMadeUp rmX1_wordsAreMadeUp vwCl E [.ref (aB 0)] [sBook E aB asettings asums aU aP aW B_time B_chest B_fund, sPieces E aP P, sWords E aW W] (fun v w => v = some (.int r) ∧ w = [sBook E aB asettings asums aU aP aW B_time B_chest B_fund, sPieces E aP P, sWords E aW W] ∧ narrow .boolean (.int r) = .int r) 0 0 := by
  refine g_entry [some (.ref (aB 0)), none] (by decide) rfl (Nat.le_of_ble_eq_true rfl) rfl ?_
  intro p e s m below meth c A F hnm
  unfold fX1_wordsAreMadeUp at hf
  refine g_iconst F 0 dX1_wordsAreMadeUp_0 rfl ?_
  refine g_istore_n (lv' := [some (.ref (aB 0)), some (.int 0)]) F dX1_wordsAreMadeUp_1 (Nat.le_of_ble_eq_true rfl) rfl rfl ?_
  refine ktX1_wordsAreMadeUp_L2 F aB asettings asums aU aP aW P W B_time B_chest B_fund r (fun hf => ?_) FU 0 hf
  refine g_iconst F 1 dX1_wordsAreMadeUp_39 rfl ?_
  cases hf
  exact g_zret (ty := .boolean) F rfl rfl ⟨rfl, rfl, rfl⟩ dX1_wordsAreMadeUp_40
set_option maxHeartbeats 4000000 in
set_option maxRecDepth 100000 in
theorem ktX1_usesAreTrue_L17 {p : Program} {l : Launch} {e : Env} {s : State} {m : MethodId} {args : Array Value} {below : List Frame} {meth : Method} {c : Code} {E : gE} {A : Nat → Prop} (F : gFx p s m args meth c RX1 wsX1_usesAreTrue cX1_usesAreTrue 4 (some .boolean) vwCl E A) (aB asettings asums aU aP aW : Nat → Nat) (x1 : Int32) (W : tWords) (B_time : Int32) (B_chest : Int32) (B_fund : Int32) (P : tPieces) (r : Int32) {k : Int32 → Option (Int32)} (hk : ∀ (x2 : Int32), k x2 = some r → Gj p l e rmX1_usesAreTrue s m args below meth c 0 0 (MQ below (gQ vwCl E A (fun v w => v = some (.int r) ∧ w = [sBook E aB asettings asums aU aP aW B_time B_chest B_fund, sPieces E aP P, sWords E aW W] ∧ narrow .boolean (.int r) = .int r)) args s 0 0 A) vwCl E A [sBook E aB asettings asums aU aP aW B_time B_chest B_fund, sPieces E aP P, sWords E aW W] [some (.ref (aB 0)), some (.int x1), some (.int x2), none] [] 46) : ∀ (n : Nat) (x2 : Int32) (x3 : Int32), fX1_usesAreTrue_L17 x1 W k n x2 x3 = some r → Gj p l e rmX1_usesAreTrue s m args below meth c 0 0 (MQ below (gQ vwCl E A (fun v w => v = some (.int r) ∧ w = [sBook E aB asettings asums aU aP aW B_time B_chest B_fund, sPieces E aP P, sWords E aW W] ∧ narrow .boolean (.int r) = .int r)) args s 0 0 A) vwCl E A [sBook E aB asettings asums aU aP aW B_time B_chest B_fund, sPieces E aP P, sWords E aW W] [some (.ref (aB 0)), some (.int x1), some (.int x2), some (.int x3)] [] 17
  | 0, _, _, hf => by cases hf
  | n + 1, x2, x3, hf => by
    have ih := ktX1_usesAreTrue_L17 F aB asettings asums aU aP aW x1 W B_time B_chest B_fund P r hk n
    rw [fX1_usesAreTrue_L17] at hf
    refine g_iload_n F dX1_usesAreTrue_17 rfl ?_
    refine g_aload_n F dX1_usesAreTrue_18 rfl ?_
    refine g_get (C := RX1) (T := TX1) (N := 8) F 0 0 4 rfl rfl rfl iX1_usesAreTrue_X1 (by decide) (by decide +kernel) rfl dX1_usesAreTrue_19 ?_
    refine g_get (C := RX8) (T := TX8) (N := 5) F 2 0 0 rfl rfl rfl iX1_usesAreTrue_X8 (by decide) (by decide +kernel) rfl dX1_usesAreTrue_22 ?_
    refine g_icmp_ge F 46 dX1_usesAreTrue_25 (by decide) (fun hc_1 => ?_) (fun hc_1 => ?_)
    · replace hf := gi_t hc_1 hf
      refine g_mask [true, true, true, false] rfl ?_
      exact hk x2 hf
    · replace hf := gi_f hc_1 hf
      refine g_iload_n F dX1_usesAreTrue_28 rfl ?_
      refine g_aload_n F dX1_usesAreTrue_29 rfl ?_
      refine g_get (C := RX1) (T := TX1) (N := 8) F 0 0 4 rfl rfl rfl iX1_usesAreTrue_X1 (by decide) (by decide +kernel) rfl dX1_usesAreTrue_30 ?_
      refine g_iload_n F dX1_usesAreTrue_33 rfl ?_
      refine g_iload_n F dX1_usesAreTrue_34 rfl ?_
      obtain ⟨r_1, hg_1, hf⟩ := gb1_el hf
      refine g_callV (C := RX8) (T := TX8) (N := 5) (Lr := [sBook E aB asettings asums aU aP aW B_time B_chest B_fund, sPieces E aP P]) (As := [.int x3, .int x1]) (rest := [.int x2]) F 2 0 2 (ctX8_usesIn l E aW x3 x1 W r_1 hg_1) gX1_usesAreTrue_X8_usesIn rfl rfl rfl h0X8_usesIn ⟨Nat.le_of_ble_eq_true rfl, Nat.le_of_ble_eq_true rfl⟩ rfl rfl rfl [2] [0, 1] rfl rfl rfl rfl rfl rfl (Nat.le_of_ble_eq_true rfl) dX1_usesAreTrue_35 ⟨(Nat.le_of_ble_eq_true rfl), (Nat.le_of_ble_eq_true rfl)⟩ ?_
      rintro v w ⟨rfl, rfl⟩
      refine g_norm (Lw' := [sBook E aB asettings asums aU aP aW B_time B_chest B_fund, sPieces E aP P, sWords E aW W]) (st' := [.int r_1, .int x2]) (pc' := 38) [1, 2, 0] rfl rfl rfl rfl ?_
      refine g_iadd F dX1_usesAreTrue_38 ?_
      refine g_istore_n (lv' := [some (.ref (aB 0)), some (.int x1), some (.int (x2 + r_1)), some (.int x3)]) F dX1_usesAreTrue_39 (Nat.le_of_ble_eq_true rfl) rfl rfl ?_
      refine g_iinc (lv' := [some (.ref (aB 0)), some (.int x1), some (.int (x2 + r_1)), some (.int (x3 + 1))]) F (x3 + 1) dX1_usesAreTrue_40 rfl rfl rfl rfl ?_
      refine g_goto F 17 dX1_usesAreTrue_43 (by decide) ?_
      exact ih (x2 + r_1) (x3 + 1) hf
set_option maxHeartbeats 4000000 in
set_option maxRecDepth 100000 in
theorem ktX1_usesAreTrue_L2 {p : Program} {l : Launch} {e : Env} {s : State} {m : MethodId} {args : Array Value} {below : List Frame} {meth : Method} {c : Code} {E : gE} {A : Nat → Prop} (F : gFx p s m args meth c RX1 wsX1_usesAreTrue cX1_usesAreTrue 4 (some .boolean) vwCl E A) (aB asettings asums aU aP aW : Nat → Nat) (P : tPieces) (W : tWords) (B_time : Int32) (B_chest : Int32) (B_fund : Int32) (r : Int32) {k : Option (Int32)} (hk : k = some r → Gj p l e rmX1_usesAreTrue s m args below meth c 0 0 (MQ below (gQ vwCl E A (fun v w => v = some (.int r) ∧ w = [sBook E aB asettings asums aU aP aW B_time B_chest B_fund, sPieces E aP P, sWords E aW W] ∧ narrow .boolean (.int r) = .int r)) args s 0 0 A) vwCl E A [sBook E aB asettings asums aU aP aW B_time B_chest B_fund, sPieces E aP P, sWords E aW W] [none, none, none, none] [] 67) : ∀ (n : Nat) (x1 : Int32), fX1_usesAreTrue_L2 P W k n x1 = some r → Gj p l e rmX1_usesAreTrue s m args below meth c 0 0 (MQ below (gQ vwCl E A (fun v w => v = some (.int r) ∧ w = [sBook E aB asettings asums aU aP aW B_time B_chest B_fund, sPieces E aP P, sWords E aW W] ∧ narrow .boolean (.int r) = .int r)) args s 0 0 A) vwCl E A [sBook E aB asettings asums aU aP aW B_time B_chest B_fund, sPieces E aP P, sWords E aW W] [some (.ref (aB 0)), some (.int x1), none, none] [] 2
  | 0, _, hf => by cases hf
  | n + 1, x1, hf => by
    have ih := ktX1_usesAreTrue_L2 F aB asettings asums aU aP aW P W B_time B_chest B_fund r hk n
    rw [fX1_usesAreTrue_L2] at hf
    refine g_iload_n F dX1_usesAreTrue_2 rfl ?_
    refine g_aload_n F dX1_usesAreTrue_3 rfl ?_
    refine g_get (C := RX1) (T := TX1) (N := 8) F 0 0 3 rfl rfl rfl iX1_usesAreTrue_X1 (by decide) (by decide +kernel) rfl dX1_usesAreTrue_4 ?_
    refine g_get (C := RX6) (T := TX6) (N := 6) F 1 0 0 rfl rfl rfl iX1_usesAreTrue_X6 (by decide) (by decide +kernel) rfl dX1_usesAreTrue_7 ?_
    refine g_icmp_ge F 67 dX1_usesAreTrue_10 (by decide) (fun hc_2 => ?_) (fun hc_2 => ?_)
    · replace hf := gi_t hc_2 hf
      refine g_mask [false, false, true, true] rfl ?_
      exact hk hf
    · replace hf := gi_f hc_2 hf
      refine g_iconst F 0 dX1_usesAreTrue_13 rfl ?_
      refine g_istore_n (lv' := [some (.ref (aB 0)), some (.int x1), some (.int 0), none]) F dX1_usesAreTrue_14 (Nat.le_of_ble_eq_true rfl) rfl rfl ?_
      refine g_iconst F 0 dX1_usesAreTrue_15 rfl ?_
      refine g_istore_n (lv' := [some (.ref (aB 0)), some (.int x1), some (.int 0), some (.int 0)]) F dX1_usesAreTrue_16 (Nat.le_of_ble_eq_true rfl) rfl rfl ?_
      refine ktX1_usesAreTrue_L17 F aB asettings asums aU aP aW x1 W B_time B_chest B_fund P r (fun x2_1 hf => ?_) FU 0 0 hf
      refine g_iload_n F dX1_usesAreTrue_46 rfl ?_
      refine g_aload_n F dX1_usesAreTrue_47 rfl ?_
      refine g_get (C := RX1) (T := TX1) (N := 8) F 0 0 3 rfl rfl rfl iX1_usesAreTrue_X1 (by decide) (by decide +kernel) rfl dX1_usesAreTrue_48 ?_
      refine g_get (C := RX6) (T := TX6) (N := 6) F 1 0 4 rfl rfl rfl iX1_usesAreTrue_X6 (by decide) (by decide +kernel) rfl dX1_usesAreTrue_51 ?_
      refine g_iload_n F dX1_usesAreTrue_54 rfl ?_
      obtain ⟨hb_1, hf⟩ := gb_in hf
      refine g_iald F 1 4 (x1.toNatClampNeg) rfl rfl rfl hb_1 dX1_usesAreTrue_55 ?_
      refine g_icmp_eq F 61 dX1_usesAreTrue_56 (by decide) (fun hc_1 => ?_) (fun hc_1 => ?_)
      · replace hf := gi_t hc_1 hf
        refine g_iinc (lv' := [some (.ref (aB 0)), some (.int (x1 + 1)), some (.int x2_1), none]) F (x1 + 1) dX1_usesAreTrue_61 rfl rfl rfl rfl ?_
        refine g_goto F 2 dX1_usesAreTrue_64 (by decide) ?_
        refine g_mask [true, true, false, true] rfl ?_
        exact ih (x1 + 1) hf
      · replace hf := gi_f hc_1 hf
        refine g_iconst F 0 dX1_usesAreTrue_59 rfl ?_
        cases hf
        exact g_zret (ty := .boolean) F rfl rfl ⟨rfl, rfl, rfl⟩ dX1_usesAreTrue_60
set_option maxHeartbeats 4000000 in
set_option maxRecDepth 100000 in
theorem ctX1_usesAreTrue (l : Launch) (E : gE) (aB asettings asums aU aP aW : Nat → Nat) (B_time : Int32) (B_chest : Int32) (B_fund : Int32) (P : tPieces) (W : tWords) (r : Int32) (hf : fX1_usesAreTrue P W = some r) : gMet l yX1_usesAreTrue wsX1_usesAreTrue rmX1_usesAreTrue vwCl E [.ref (aB 0)] [sBook E aB asettings asums aU aP aW B_time B_chest B_fund, sPieces E aP P, sWords E aW W] (fun v w => v = some (.int r) ∧ w = [sBook E aB asettings asums aU aP aW B_time B_chest B_fund, sPieces E aP P, sWords E aW W] ∧ narrow .boolean (.int r) = .int r) 0 0 := by
  refine g_entry [some (.ref (aB 0)), none, none, none] (by decide) rfl (Nat.le_of_ble_eq_true rfl) rfl ?_
  intro p e s m below meth c A F hnm
  unfold fX1_usesAreTrue at hf
  refine g_iconst F 0 dX1_usesAreTrue_0 rfl ?_
  refine g_istore_n (lv' := [some (.ref (aB 0)), some (.int 0), none, none]) F dX1_usesAreTrue_1 (Nat.le_of_ble_eq_true rfl) rfl rfl ?_
  refine ktX1_usesAreTrue_L2 F aB asettings asums aU aP aW P W B_time B_chest B_fund r (fun hf => ?_) FU 0 hf
  refine g_iconst F 1 dX1_usesAreTrue_67 rfl ?_
  cases hf
  exact g_zret (ty := .boolean) F rfl rfl ⟨rfl, rfl, rfl⟩ dX1_usesAreTrue_68
set_option maxHeartbeats 4000000 in
set_option maxRecDepth 100000 in
theorem ktX1_fundIsTrue_L4 {p : Program} {l : Launch} {e : Env} {s : State} {m : MethodId} {args : Array Value} {below : List Frame} {meth : Method} {c : Code} {E : gE} {A : Nat → Prop} (F : gFx p s m args meth c RX1 wsX1_fundIsTrue cX1_fundIsTrue 3 (some .boolean) vwCl E A) (aB asettings asums aU aP aW : Nat → Nat) (settings : (Nat → Int32)) (U : tUsers) (W : tWords) (B_time : Int32) (B_chest : Int32) (B_fund : Int32) (r : Int32) {k : Int32 → Option (Int32)} (hk : ∀ (x1 : Int32), k x1 = some r → Gj p l e rmX1_fundIsTrue s m args below meth c 0 0 (MQ below (gQ vwCl E A (fun v w => v = some (.int r) ∧ w = [sBook E aB asettings asums aU aP aW B_time B_chest B_fund, sArrI E asettings 5 settings, sUsers E aU U, sWords E aW W] ∧ narrow .boolean (.int r) = .int r)) args s 0 0 A) vwCl E A [sBook E aB asettings asums aU aP aW B_time B_chest B_fund, sArrI E asettings 5 settings, sUsers E aU U, sWords E aW W] [some (.ref (aB 0)), some (.int x1), none] [] 29) : ∀ (n : Nat) (x1 : Int32) (x2 : Int32), fX1_fundIsTrue_L4 settings U W k n x1 x2 = some r → Gj p l e rmX1_fundIsTrue s m args below meth c 0 0 (MQ below (gQ vwCl E A (fun v w => v = some (.int r) ∧ w = [sBook E aB asettings asums aU aP aW B_time B_chest B_fund, sArrI E asettings 5 settings, sUsers E aU U, sWords E aW W] ∧ narrow .boolean (.int r) = .int r)) args s 0 0 A) vwCl E A [sBook E aB asettings asums aU aP aW B_time B_chest B_fund, sArrI E asettings 5 settings, sUsers E aU U, sWords E aW W] [some (.ref (aB 0)), some (.int x1), some (.int x2)] [] 4
  | 0, _, _, hf => by cases hf
  | n + 1, x1, x2, hf => by
    have ih := ktX1_fundIsTrue_L4 F aB asettings asums aU aP aW settings U W B_time B_chest B_fund r hk n
    rw [fX1_fundIsTrue_L4] at hf
    refine g_iload_n F dX1_fundIsTrue_4 rfl ?_
    refine g_aload_n F dX1_fundIsTrue_5 rfl ?_
    refine g_get (C := RX1) (T := TX1) (N := 8) F 0 0 2 rfl rfl rfl iX1_fundIsTrue_X1 (by decide) (by decide +kernel) rfl dX1_fundIsTrue_6 ?_
    refine g_get (C := RX7) (T := TX7) (N := 3) F 2 0 0 rfl rfl rfl iX1_fundIsTrue_X7 (by decide) (by decide +kernel) rfl dX1_fundIsTrue_9 ?_
    refine g_icmp_ge F 29 dX1_fundIsTrue_12 (by decide) (fun hc_1 => ?_) (fun hc_1 => ?_)
    · replace hf := gi_t hc_1 hf
      refine g_mask [true, true, false] rfl ?_
      exact hk x1 hf
    · replace hf := gi_f hc_1 hf
      refine g_iload_n F dX1_fundIsTrue_15 rfl ?_
      refine g_aload_n F dX1_fundIsTrue_16 rfl ?_
      refine g_iload_n F dX1_fundIsTrue_17 rfl ?_
      obtain ⟨r_1, hg_1, hf⟩ := gb1_el hf
      refine g_callV (C := RX1) (T := TX1) (N := 8) (Lr := [sUsers E aU U]) (As := [.int x2]) (rest := [.int x1]) F 0 0 1 (ctX1_heldFor l E aB asettings asums aU aP aW x2 B_time B_chest B_fund settings W r_1 hg_1) gX1_fundIsTrue_X1_heldFor rfl rfl rfl h0X1_heldFor ⟨Nat.le_of_ble_eq_true rfl, Nat.le_of_ble_eq_true rfl⟩ rfl rfl rfl [0, 1, 3] [2] rfl rfl rfl rfl rfl rfl (Nat.le_of_ble_eq_true rfl) dX1_fundIsTrue_18 ⟨(Nat.le_of_ble_eq_true rfl), (Nat.le_of_ble_eq_true rfl)⟩ ?_
      rintro v w ⟨rfl, rfl⟩
      refine g_norm (Lw' := [sBook E aB asettings asums aU aP aW B_time B_chest B_fund, sArrI E asettings 5 settings, sUsers E aU U, sWords E aW W]) (st' := [.int r_1, .int x1]) (pc' := 21) [0, 1, 3, 2] rfl rfl rfl rfl ?_
      refine g_iadd F dX1_fundIsTrue_21 ?_
      refine g_istore_n (lv' := [some (.ref (aB 0)), some (.int (x1 + r_1)), some (.int x2)]) F dX1_fundIsTrue_22 (Nat.le_of_ble_eq_true rfl) rfl rfl ?_
      refine g_iinc (lv' := [some (.ref (aB 0)), some (.int (x1 + r_1)), some (.int (x2 + 1))]) F (x2 + 1) dX1_fundIsTrue_23 rfl rfl rfl rfl ?_
      refine g_goto F 4 dX1_fundIsTrue_26 (by decide) ?_
      exact ih (x1 + r_1) (x2 + 1) hf
set_option maxHeartbeats 4000000 in
set_option maxRecDepth 100000 in
theorem ctX1_fundIsTrue (l : Launch) (E : gE) (aB asettings asums aU aP aW : Nat → Nat) (B_time : Int32) (B_chest : Int32) (B_fund : Int32) (settings : (Nat → Int32)) (U : tUsers) (W : tWords) (r : Int32) (hf : fX1_fundIsTrue B_fund settings U W = some r) : gMet l yX1_fundIsTrue wsX1_fundIsTrue rmX1_fundIsTrue vwCl E [.ref (aB 0)] [sBook E aB asettings asums aU aP aW B_time B_chest B_fund, sArrI E asettings 5 settings, sUsers E aU U, sWords E aW W] (fun v w => v = some (.int r) ∧ w = [sBook E aB asettings asums aU aP aW B_time B_chest B_fund, sArrI E asettings 5 settings, sUsers E aU U, sWords E aW W] ∧ narrow .boolean (.int r) = .int r) 0 0 := by
  refine g_entry [some (.ref (aB 0)), none, none] (by decide) rfl (Nat.le_of_ble_eq_true rfl) rfl ?_
  intro p e s m below meth c A F hnm
  unfold fX1_fundIsTrue at hf
  refine g_iconst F 0 dX1_fundIsTrue_0 rfl ?_
  refine g_istore_n (lv' := [some (.ref (aB 0)), some (.int 0), none]) F dX1_fundIsTrue_1 (Nat.le_of_ble_eq_true rfl) rfl rfl ?_
  refine g_iconst F 0 dX1_fundIsTrue_2 rfl ?_
  refine g_istore_n (lv' := [some (.ref (aB 0)), some (.int 0), some (.int 0)]) F dX1_fundIsTrue_3 (Nat.le_of_ble_eq_true rfl) rfl rfl ?_
  refine ktX1_fundIsTrue_L4 F aB asettings asums aU aP aW settings U W B_time B_chest B_fund r (fun x1_1 hf => ?_) FU 0 0 hf
  refine g_aload_n F dX1_fundIsTrue_29 rfl ?_
  refine g_get (C := RX1) (T := TX1) (N := 8) F 0 0 7 rfl rfl rfl iX1_fundIsTrue_X1 (by decide) (by decide +kernel) rfl dX1_fundIsTrue_30 ?_
  refine g_iload_n F dX1_fundIsTrue_33 rfl ?_
  refine g_icmp_ne F 41 dX1_fundIsTrue_34 (by decide) (fun hc_1 => ?_) (fun hc_1 => ?_)
  · replace hf := gi_f hc_1 hf
    refine g_iconst F 0 dX1_fundIsTrue_41 rfl ?_
    cases hf
    exact g_zret (ty := .boolean) F rfl rfl ⟨rfl, rfl, rfl⟩ dX1_fundIsTrue_42
  · replace hf := gi_t hc_1 hf
    refine g_iconst F 1 dX1_fundIsTrue_37 rfl ?_
    refine g_goto F 42 dX1_fundIsTrue_38 (by decide) ?_
    cases hf
    exact g_zret (ty := .boolean) F rfl rfl ⟨rfl, rfl, rfl⟩ dX1_fundIsTrue_42
set_option maxHeartbeats 4000000 in
set_option maxRecDepth 100000 in
theorem ktX2_occursBefore_L2 {p : Program} {l : Launch} {e : Env} {s : State} {m : MethodId} {args : Array Value} {below : List Frame} {meth : Method} {c : Code} {E : gE} {A : Nat → Prop} (F : gFx p s m args meth c RX2 wsX2_occursBefore cX2_occursBefore 3 (some .boolean) vwCl E A) (aC aS : Nat → Nat) (x1 : Int32) (C : tCut) (r : Int32) {k : Option (Int32)} (hk : k = some r → Gj p l e rmX2_occursBefore s m args below meth c 0 0 (MQ below (gQ vwCl E A (fun v w => v = some (.int r) ∧ w = [sCut E aC aS C] ∧ narrow .boolean (.int r) = .int r)) args s 0 0 A) vwCl E A [sCut E aC aS C] [none, none, none] [] 31) : ∀ (n : Nat) (x2 : Int32), fX2_occursBefore_L2 x1 C k n x2 = some r → Gj p l e rmX2_occursBefore s m args below meth c 0 0 (MQ below (gQ vwCl E A (fun v w => v = some (.int r) ∧ w = [sCut E aC aS C] ∧ narrow .boolean (.int r) = .int r)) args s 0 0 A) vwCl E A [sCut E aC aS C] [some (.ref (aC 0)), some (.int x1), some (.int x2)] [] 2
  | 0, _, hf => by cases hf
  | n + 1, x2, hf => by
    have ih := ktX2_occursBefore_L2 F aC aS x1 C r hk n
    rw [fX2_occursBefore_L2] at hf
    refine g_iload_n F dX2_occursBefore_2 rfl ?_
    refine g_iload_n F dX2_occursBefore_3 rfl ?_
    refine g_icmp_ge F 31 dX2_occursBefore_4 (by decide) (fun hc_2 => ?_) (fun hc_2 => ?_)
    · replace hf := gi_t hc_2 hf
      refine g_mask [false, false, false] rfl ?_
      exact hk hf
    · replace hf := gi_f hc_2 hf
      refine g_aload_n F dX2_occursBefore_7 rfl ?_
      refine g_get (C := RX2) (T := TX2) (N := 12) F 0 0 1 rfl rfl rfl iX2_occursBefore_X2 (by decide) (by decide +kernel) rfl dX2_occursBefore_8 ?_
      refine g_iload_n F dX2_occursBefore_11 rfl ?_
      obtain ⟨hb_1, hf⟩ := gb_in hf
      refine g_lald F 0 1 (x2.toNatClampNeg) rfl rfl rfl hb_1 dX2_occursBefore_12 ?_
      refine g_aload_n F dX2_occursBefore_13 rfl ?_
      refine g_get (C := RX2) (T := TX2) (N := 12) F 0 0 1 rfl rfl rfl iX2_occursBefore_X2 (by decide) (by decide +kernel) rfl dX2_occursBefore_14 ?_
      refine g_iload_n F dX2_occursBefore_17 rfl ?_
      obtain ⟨hb_2, hf⟩ := gb_in hf
      refine g_lald F 0 1 (x1.toNatClampNeg) rfl rfl rfl hb_2 dX2_occursBefore_18 ?_
      refine g_lcmp F dX2_occursBefore_19 ?_
      refine g_ifne F 25 dX2_occursBefore_20 (by decide) (fun hc_1 => ?_) (fun hc_1 => ?_)
      · replace hf := gi_f hc_1 hf
        refine g_iinc (lv' := [some (.ref (aC 0)), some (.int x1), some (.int (x2 + 1))]) F (x2 + 1) dX2_occursBefore_25 rfl rfl rfl rfl ?_
        refine g_goto F 2 dX2_occursBefore_28 (by decide) ?_
        exact ih (x2 + 1) hf
      · replace hf := gi_t hc_1 hf
        refine g_iconst F 1 dX2_occursBefore_23 rfl ?_
        cases hf
        exact g_zret (ty := .boolean) F rfl rfl ⟨rfl, rfl, rfl⟩ dX2_occursBefore_24
set_option maxHeartbeats 4000000 in
set_option maxRecDepth 100000 in
theorem ctX2_occursBefore (l : Launch) (E : gE) (aC aS : Nat → Nat) (x1 : Int32) (C : tCut) (r : Int32) (hf : fX2_occursBefore x1 C = some r) : gMet l yX2_occursBefore wsX2_occursBefore rmX2_occursBefore vwCl E [.ref (aC 0), .int x1] [sCut E aC aS C] (fun v w => v = some (.int r) ∧ w = [sCut E aC aS C] ∧ narrow .boolean (.int r) = .int r) 0 0 := by
  refine g_entry [some (.ref (aC 0)), some (.int x1), none] (by decide) rfl (Nat.le_of_ble_eq_true rfl) rfl ?_
  intro p e s m below meth c A F hnm
  unfold fX2_occursBefore at hf
  refine g_iconst F 0 dX2_occursBefore_0 rfl ?_
  refine g_istore_n (lv' := [some (.ref (aC 0)), some (.int x1), some (.int 0)]) F dX2_occursBefore_1 (Nat.le_of_ble_eq_true rfl) rfl rfl ?_
  refine ktX2_occursBefore_L2 F aC aS x1 C r (fun hf => ?_) FU 0 hf
  refine g_iconst F 0 dX2_occursBefore_31 rfl ?_
  cases hf
  exact g_zret (ty := .boolean) F rfl rfl ⟨rfl, rfl, rfl⟩ dX2_occursBefore_32
set_option maxHeartbeats 4000000 in
set_option maxRecDepth 100000 in
theorem ktX2_countNew_L12 {p : Program} {l : Launch} {e : Env} {s : State} {m : MethodId} {args : Array Value} {below : List Frame} {meth : Method} {c : Code} {E : gE} {A : Nat → Prop} (F : gFx p s m args meth c RX2 wsX2_countNew cX2_countNew 3 none vwCl E A) (aC aS aB asettings asums aU aP aW : Nat → Nat) (settings : (Nat → Int32)) (P : tPieces) (B_time : Int32) (B_chest : Int32) (B_fund : Int32) (C' : tCut) {k : tCut → Option (tCut)} (hk : ∀ (C : tCut), k C = some C' → Gj p l e rmX2_countNew s m args below meth c 0 0 (MQ below (gQ vwCl E A (fun v w => v = none ∧ w = [sCut E aC aS C', sBook E aB asettings asums aU aP aW B_time B_chest B_fund, sArrI E asettings 5 settings, sPieces E aP P])) args s 0 0 A) vwCl E A [sCut E aC aS C, sBook E aB asettings asums aU aP aW B_time B_chest B_fund, sArrI E asettings 5 settings, sPieces E aP P] [none, none, none] [] 83) : ∀ (n : Nat) (x2 : Int32) (C : tCut), fX2_countNew_L12 settings P k n x2 C = some C' → Gj p l e rmX2_countNew s m args below meth c 0 0 (MQ below (gQ vwCl E A (fun v w => v = none ∧ w = [sCut E aC aS C', sBook E aB asettings asums aU aP aW B_time B_chest B_fund, sArrI E asettings 5 settings, sPieces E aP P])) args s 0 0 A) vwCl E A [sCut E aC aS C, sBook E aB asettings asums aU aP aW B_time B_chest B_fund, sArrI E asettings 5 settings, sPieces E aP P] [some (.ref (aC 0)), some (.ref (aB 0)), some (.int x2)] [] 12
  | 0, _, _, hf => by cases hf
  | n + 1, x2, C, hf => by
    have ih := ktX2_countNew_L12 F aC aS aB asettings asums aU aP aW settings P B_time B_chest B_fund C' hk n
    rw [fX2_countNew_L12] at hf
    refine g_iload_n F dX2_countNew_12 rfl ?_
    refine g_aload_n F dX2_countNew_13 rfl ?_
    refine g_get (C := RX2) (T := TX2) (N := 12) F 0 0 0 rfl rfl rfl iX2_countNew_X2 (by decide) (by decide +kernel) rfl dX2_countNew_14 ?_
    refine g_icmp_ge F 83 dX2_countNew_17 (by decide) (fun hc_3 => ?_) (fun hc_3 => ?_)
    · replace hf := gi_t hc_3 hf
      refine g_mask [false, false, false] rfl ?_
      exact hk C hf
    · replace hf := gi_f hc_3 hf
      refine g_aload_n F dX2_countNew_20 rfl ?_
      refine g_get (C := RX1) (T := TX1) (N := 8) F 1 0 3 rfl rfl rfl iX2_countNew_X1 (by decide) (by decide +kernel) rfl dX2_countNew_21 ?_
      refine g_aload_n F dX2_countNew_24 rfl ?_
      refine g_get (C := RX2) (T := TX2) (N := 12) F 0 0 1 rfl rfl rfl iX2_countNew_X2 (by decide) (by decide +kernel) rfl dX2_countNew_25 ?_
      refine g_iload_n F dX2_countNew_28 rfl ?_
      obtain ⟨hb_1, hf⟩ := gb_in hf
      refine g_lald F 0 1 (x2.toNatClampNeg) rfl rfl rfl hb_1 dX2_countNew_29 ?_
      obtain ⟨r_1, hg_1, hf⟩ := gb1_el hf
      refine g_callV (C := RX6) (T := TX6) (N := 6) (Lr := [sCut E aC aS C, sBook E aB asettings asums aU aP aW B_time B_chest B_fund, sArrI E asettings 5 settings]) (As := [.long (C.2.1 (x2.toNatClampNeg))]) (rest := []) F 3 0 1 (ctX6_numberOf l E aP (C.2.1 (x2.toNatClampNeg)) P r_1 hg_1) gX2_countNew_X6_numberOf rfl rfl rfl h0X6_numberOf ⟨Nat.le_of_ble_eq_true rfl, Nat.le_of_ble_eq_true rfl⟩ rfl rfl rfl [3] [0, 1, 2] rfl rfl rfl rfl rfl rfl (Nat.le_of_ble_eq_true rfl) dX2_countNew_30 ⟨(Nat.le_of_ble_eq_true rfl), (Nat.le_of_ble_eq_true rfl)⟩ ?_
      rintro v w ⟨rfl, rfl⟩
      refine g_norm (Lw' := [sCut E aC aS C, sBook E aB asettings asums aU aP aW B_time B_chest B_fund, sArrI E asettings 5 settings, sPieces E aP P]) (st' := [.int r_1]) (pc' := 33) [1, 2, 3, 0] rfl rfl rfl rfl ?_
      refine g_iconst F (-1) dX2_countNew_33 rfl ?_
      refine g_icmp_ne F 77 dX2_countNew_34 (by decide) (fun hc_2 => ?_) (fun hc_2 => ?_)
      · replace hf := gi_f hc_2 hf
        refine g_iinc (lv' := [some (.ref (aC 0)), some (.ref (aB 0)), some (.int (x2 + 1))]) F (x2 + 1) dX2_countNew_77 rfl rfl rfl rfl ?_
        refine g_goto F 12 dX2_countNew_80 (by decide) ?_
        exact ih (x2 + 1) C hf
      · replace hf := gi_t hc_2 hf
        refine g_aload_n F dX2_countNew_37 rfl ?_
        refine g_iload_n F dX2_countNew_38 rfl ?_
        obtain ⟨r_2, hg_2, hf⟩ := gb1_el hf
        refine g_callV (C := RX2) (T := TX2) (N := 12) (Lr := [sBook E aB asettings asums aU aP aW B_time B_chest B_fund, sArrI E asettings 5 settings, sPieces E aP P]) (As := [.int x2]) (rest := []) F 0 0 1 (ctX2_occursBefore l E aC aS x2 C r_2 hg_2) gX2_countNew_X2_occursBefore rfl rfl rfl h0X2_occursBefore ⟨Nat.le_of_ble_eq_true rfl, Nat.le_of_ble_eq_true rfl⟩ rfl rfl rfl [0] [1, 2, 3] rfl rfl rfl rfl rfl rfl (Nat.le_of_ble_eq_true rfl) dX2_countNew_39 ⟨(Nat.le_of_ble_eq_true rfl), (Nat.le_of_ble_eq_true rfl)⟩ ?_
        rintro v w ⟨rfl, rfl, hz_1⟩
        refine g_norm (Lw' := [sCut E aC aS C, sBook E aB asettings asums aU aP aW B_time B_chest B_fund, sArrI E asettings 5 settings, sPieces E aP P]) (st' := [.int r_2]) (pc' := 42) [0, 1, 2, 3] rfl rfl rfl rfl ?_
        refine g_ifne F 77 dX2_countNew_42 (by decide) (fun hc_1 => ?_) (fun hc_1 => ?_)
        · replace hf := gi_f hc_1 hf
          refine g_iinc (lv' := [some (.ref (aC 0)), some (.ref (aB 0)), some (.int (x2 + 1))]) F (x2 + 1) dX2_countNew_77 rfl rfl rfl rfl ?_
          refine g_goto F 12 dX2_countNew_80 (by decide) ?_
          exact ih (x2 + 1) C hf
        · replace hf := gi_t hc_1 hf
          refine g_aload_n F dX2_countNew_45 rfl ?_
          refine g_dup F dX2_countNew_46 rfl ?_
          refine g_get (C := RX2) (T := TX2) (N := 12) F 0 0 2 rfl rfl rfl iX2_countNew_X2 (by decide) (by decide +kernel) rfl dX2_countNew_47 ?_
          refine g_iconst F 1 dX2_countNew_50 rfl ?_
          refine g_iadd F dX2_countNew_51 ?_
          refine g_put (C := RX2) (T := TX2) (N := 12) (tys := tyX2) (Lw' := [sCut E aC aS (C.1, C.2.1, C.2.2.1 + 1, C.2.2.2.1, C.2.2.2.2.1, C.2.2.2.2.2.1, C.2.2.2.2.2.2.1, C.2.2.2.2.2.2.2.1, C.2.2.2.2.2.2.2.2.1, C.2.2.2.2.2.2.2.2.2.1, C.2.2.2.2.2.2.2.2.2.2), sBook E aB asettings asums aU aP aW B_time B_chest B_fund, sArrI E asettings 5 settings, sPieces E aP P]) F 0 0 2 rfl rfl rfl iX2_countNew_X2 tyX2_ok nmX2 (by decide) (by decide +kernel) rfl rfl rfl rfl (Nat.le_of_ble_eq_true rfl) dX2_countNew_52 rfl ?_
          refine g_aload_n F dX2_countNew_55 rfl ?_
          refine g_dup F dX2_countNew_56 rfl ?_
          refine g_get (C := RX2) (T := TX2) (N := 12) F 0 0 3 rfl rfl rfl iX2_countNew_X2 (by decide) (by decide +kernel) rfl dX2_countNew_57 ?_
          refine g_aload_n F dX2_countNew_60 rfl ?_
          refine g_aload_n F dX2_countNew_61 rfl ?_
          refine g_get (C := RX2) (T := TX2) (N := 12) F 0 0 1 rfl rfl rfl iX2_countNew_X2 (by decide) (by decide +kernel) rfl dX2_countNew_62 ?_
          refine g_iload_n F dX2_countNew_65 rfl ?_
          obtain ⟨hb_2, hf⟩ := gb_in hf
          refine g_lald F 0 1 (x2.toNatClampNeg) rfl rfl rfl hb_2 dX2_countNew_66 ?_
          obtain ⟨r_3, hg_3, hf⟩ := gb1_el hf
          refine g_callS (Lr := [sCut E aC aS (C.1, C.2.1, C.2.2.1 + 1, C.2.2.2.1, C.2.2.2.2.1, C.2.2.2.2.2.1, C.2.2.2.2.2.2.1, C.2.2.2.2.2.2.2.1, C.2.2.2.2.2.2.2.2.1, C.2.2.2.2.2.2.2.2.2.1, C.2.2.2.2.2.2.2.2.2.2), sBook E aB asettings asums aU aP aW B_time B_chest B_fund, sArrI E asettings 5 settings, sPieces E aP P]) (As := [.long (C.2.1 (x2.toNatClampNeg))]) (rest := [.ref (aB 0), .int C.2.2.2.1, .ref (aC 0)]) F 1 (ctX4_lengthOf l E (C.2.1 (x2.toNatClampNeg)) r_3 hg_3) (va_cwS 1 F.2.2.2.2.2.1 gX2_countNew_X4_lengthOf rfl rfl rfl h0X4_lengthOf ⟨Nat.le_of_ble_eq_true rfl, Nat.le_of_ble_eq_true rfl⟩) [] [0, 1, 2, 3] rfl rfl rfl rfl rfl rfl (Nat.le_of_ble_eq_true rfl) dX2_countNew_67 ⟨(Nat.le_of_ble_eq_true rfl), (Nat.le_of_ble_eq_true rfl)⟩ ?_
          rintro v w ⟨rfl, rfl⟩
          refine g_norm (Lw' := [sCut E aC aS (C.1, C.2.1, C.2.2.1 + 1, C.2.2.2.1, C.2.2.2.2.1, C.2.2.2.2.2.1, C.2.2.2.2.2.2.1, C.2.2.2.2.2.2.2.1, C.2.2.2.2.2.2.2.2.1, C.2.2.2.2.2.2.2.2.2.1, C.2.2.2.2.2.2.2.2.2.2), sBook E aB asettings asums aU aP aW B_time B_chest B_fund, sArrI E asettings 5 settings, sPieces E aP P]) (st' := [.int r_3, .ref (aB 0), .int C.2.2.2.1, .ref (aC 0)]) (pc' := 70) [0, 1, 2, 3] rfl rfl rfl rfl ?_
          obtain ⟨r_4, hg_4, hf⟩ := gb1_el hf
          refine g_callV (C := RX1) (T := TX1) (N := 8) (Lr := [sCut E aC aS (C.1, C.2.1, C.2.2.1 + 1, C.2.2.2.1, C.2.2.2.2.1, C.2.2.2.2.2.1, C.2.2.2.2.2.2.1, C.2.2.2.2.2.2.2.1, C.2.2.2.2.2.2.2.2.1, C.2.2.2.2.2.2.2.2.2.1, C.2.2.2.2.2.2.2.2.2.2), sPieces E aP P]) (As := [.int r_3]) (rest := [.int C.2.2.2.1, .ref (aC 0)]) F 1 0 1 (ctX1_newPrice l E aB asettings asums aU aP aW r_3 B_time B_chest B_fund settings r_4 hg_4) gX2_countNew_X1_newPrice rfl rfl rfl h0X1_newPrice ⟨Nat.le_of_ble_eq_true rfl, Nat.le_of_ble_eq_true rfl⟩ rfl rfl rfl [1, 2] [0, 3] rfl rfl rfl rfl rfl rfl (Nat.le_of_ble_eq_true rfl) dX2_countNew_70 ⟨(Nat.le_of_ble_eq_true rfl), (Nat.le_of_ble_eq_true rfl)⟩ ?_
          rintro v w ⟨rfl, rfl⟩
          refine g_norm (Lw' := [sCut E aC aS (C.1, C.2.1, C.2.2.1 + 1, C.2.2.2.1, C.2.2.2.2.1, C.2.2.2.2.2.1, C.2.2.2.2.2.2.1, C.2.2.2.2.2.2.2.1, C.2.2.2.2.2.2.2.2.1, C.2.2.2.2.2.2.2.2.2.1, C.2.2.2.2.2.2.2.2.2.2), sBook E aB asettings asums aU aP aW B_time B_chest B_fund, sArrI E asettings 5 settings, sPieces E aP P]) (st' := [.int r_4, .int C.2.2.2.1, .ref (aC 0)]) (pc' := 73) [2, 0, 1, 3] rfl rfl rfl rfl ?_
          refine g_iadd F dX2_countNew_73 ?_
          refine g_put (C := RX2) (T := TX2) (N := 12) (tys := tyX2) (Lw' := [sCut E aC aS (C.1, C.2.1, C.2.2.1 + 1, C.2.2.2.1 + r_4, C.2.2.2.2.1, C.2.2.2.2.2.1, C.2.2.2.2.2.2.1, C.2.2.2.2.2.2.2.1, C.2.2.2.2.2.2.2.2.1, C.2.2.2.2.2.2.2.2.2.1, C.2.2.2.2.2.2.2.2.2.2), sBook E aB asettings asums aU aP aW B_time B_chest B_fund, sArrI E asettings 5 settings, sPieces E aP P]) F 0 0 3 rfl rfl rfl iX2_countNew_X2 tyX2_ok nmX2 (by decide) (by decide +kernel) rfl rfl rfl rfl (Nat.le_of_ble_eq_true rfl) dX2_countNew_74 rfl ?_
          refine g_iinc (lv' := [some (.ref (aC 0)), some (.ref (aB 0)), some (.int (x2 + 1))]) F (x2 + 1) dX2_countNew_77 rfl rfl rfl rfl ?_
          refine g_goto F 12 dX2_countNew_80 (by decide) ?_
          exact ih (x2 + 1) (C.1, C.2.1, C.2.2.1 + 1, C.2.2.2.1 + r_4, C.2.2.2.2.1, C.2.2.2.2.2.1, C.2.2.2.2.2.2.1, C.2.2.2.2.2.2.2.1, C.2.2.2.2.2.2.2.2.1, C.2.2.2.2.2.2.2.2.2.1, C.2.2.2.2.2.2.2.2.2.2) hf
set_option maxHeartbeats 4000000 in
set_option maxRecDepth 100000 in
theorem ctX2_countNew (l : Launch) (E : gE) (aC aS aB asettings asums aU aP aW : Nat → Nat) (C : tCut) (B_time : Int32) (B_chest : Int32) (B_fund : Int32) (settings : (Nat → Int32)) (P : tPieces) (C' : tCut) (hf : fX2_countNew C settings P = some C') : gMet l yX2_countNew wsX2_countNew rmX2_countNew vwCl E [.ref (aC 0), .ref (aB 0)] [sCut E aC aS C, sBook E aB asettings asums aU aP aW B_time B_chest B_fund, sArrI E asettings 5 settings, sPieces E aP P] (fun v w => v = none ∧ w = [sCut E aC aS C', sBook E aB asettings asums aU aP aW B_time B_chest B_fund, sArrI E asettings 5 settings, sPieces E aP P]) 0 0 := by
  refine g_entry [some (.ref (aC 0)), some (.ref (aB 0)), none] (by decide) rfl (Nat.le_of_ble_eq_true rfl) rfl ?_
  intro p e s m below meth c A F hnm
  unfold fX2_countNew at hf
  refine g_aload_n F dX2_countNew_0 rfl ?_
  refine g_iconst F 0 dX2_countNew_1 rfl ?_
  refine g_put (C := RX2) (T := TX2) (N := 12) (tys := tyX2) (Lw' := [sCut E aC aS (C.1, C.2.1, 0, C.2.2.2.1, C.2.2.2.2.1, C.2.2.2.2.2.1, C.2.2.2.2.2.2.1, C.2.2.2.2.2.2.2.1, C.2.2.2.2.2.2.2.2.1, C.2.2.2.2.2.2.2.2.2.1, C.2.2.2.2.2.2.2.2.2.2), sBook E aB asettings asums aU aP aW B_time B_chest B_fund, sArrI E asettings 5 settings, sPieces E aP P]) F 0 0 2 rfl rfl rfl iX2_countNew_X2 tyX2_ok nmX2 (by decide) (by decide +kernel) rfl rfl rfl rfl (Nat.le_of_ble_eq_true rfl) dX2_countNew_2 rfl ?_
  refine g_aload_n F dX2_countNew_5 rfl ?_
  refine g_iconst F 0 dX2_countNew_6 rfl ?_
  refine g_put (C := RX2) (T := TX2) (N := 12) (tys := tyX2) (Lw' := [sCut E aC aS (C.1, C.2.1, 0, 0, C.2.2.2.2.1, C.2.2.2.2.2.1, C.2.2.2.2.2.2.1, C.2.2.2.2.2.2.2.1, C.2.2.2.2.2.2.2.2.1, C.2.2.2.2.2.2.2.2.2.1, C.2.2.2.2.2.2.2.2.2.2), sBook E aB asettings asums aU aP aW B_time B_chest B_fund, sArrI E asettings 5 settings, sPieces E aP P]) F 0 0 3 rfl rfl rfl iX2_countNew_X2 tyX2_ok nmX2 (by decide) (by decide +kernel) rfl rfl rfl rfl (Nat.le_of_ble_eq_true rfl) dX2_countNew_7 rfl ?_
  refine g_iconst F 0 dX2_countNew_10 rfl ?_
  refine g_istore_n (lv' := [some (.ref (aC 0)), some (.ref (aB 0)), some (.int 0)]) F dX2_countNew_11 (Nat.le_of_ble_eq_true rfl) rfl rfl ?_
  refine ktX2_countNew_L12 F aC aS aB asettings asums aU aP aW settings P B_time B_chest B_fund C' (fun C_1 hf => ?_) FU 0 (C.1, C.2.1, 0, 0, C.2.2.2.2.1, C.2.2.2.2.2.1, C.2.2.2.2.2.2.1, C.2.2.2.2.2.2.2.1, C.2.2.2.2.2.2.2.2.1, C.2.2.2.2.2.2.2.2.2.1, C.2.2.2.2.2.2.2.2.2.2) hf
  cases hf
  exact g_vret F rfl ⟨rfl, rfl⟩ dX2_countNew_83
set_option maxHeartbeats 4000000 in
set_option maxRecDepth 100000 in
theorem ctX2_cutCheapest (l : Launch) (E : gE) (aC aS aB asettings asums aU aP aW : Nat → Nat) (x2 : Int64) (C : tCut) (S : tCutR) (B_time : Int32) (B_chest : Int32) (B_fund : Int32) (settings : (Nat → Int32)) (P : tPieces) (C' : tCut) (S' : tCutR) (hf : fX2_cutCheapest x2 C S settings P = some (C', S')) : gMet l yX2_cutCheapest wsX2_cutCheapest rmX2_cutCheapest vwCl E [.ref (aC 0), .ref (aB 0), .long x2] [sCut E aC aS C, sCutR E aS S, sBook E aB asettings asums aU aP aW B_time B_chest B_fund, sArrI E asettings 5 settings, sPieces E aP P] (fun v w => v = none ∧ w = [sCut E aC aS C', sCutR E aS S', sBook E aB asettings asums aU aP aW B_time B_chest B_fund, sArrI E asettings 5 settings, sPieces E aP P]) 0 0 := by
  refine g_entry [some (.ref (aC 0)), some (.ref (aB 0)), some (.long x2), none] (by decide) rfl (Nat.le_of_ble_eq_true rfl) rfl ?_
  intro p e s m below meth c A F hnm
  unfold fX2_cutCheapest at hf
  refine g_aload_n F dX2_cutCheapest_0 rfl ?_
  refine g_aload_n F dX2_cutCheapest_1 rfl ?_
  refine g_lload_n F dX2_cutCheapest_2 rfl ?_
  refine g_iconst F 1 dX2_cutCheapest_3 rfl ?_
  obtain ⟨C_1, S_1, hg_1, hf⟩ := gb2_el hf
  refine g_callV (C := RX2) (T := TX2) (N := 12) (Lr := []) (As := [.ref (aB 0), .long x2, .int 1]) (rest := []) F 0 0 3 (ctX2_lookUp l E aC aS aB asettings asums aU aP aW x2 1 C S B_time B_chest B_fund settings P C_1 S_1 hg_1) gX2_cutCheapest_X2_lookUp rfl rfl rfl h0X2_lookUp ⟨Nat.le_of_ble_eq_true rfl, Nat.le_of_ble_eq_true rfl⟩ rfl rfl rfl [0, 1, 2, 3, 4] [] rfl rfl rfl rfl rfl rfl (Nat.le_of_ble_eq_true rfl) dX2_cutCheapest_4 ⟨(Nat.le_of_ble_eq_true rfl), (Nat.le_of_ble_eq_true rfl)⟩ ?_
  rintro v w ⟨rfl, rfl⟩
  refine g_norm (Lw' := [sCut E aC aS C_1, sCutR E aS S_1, sBook E aB asettings asums aU aP aW B_time B_chest B_fund, sArrI E asettings 5 settings, sPieces E aP P]) (st' := []) (pc' := 7) [0, 1, 2, 3, 4] rfl rfl rfl rfl ?_
  refine g_aload_n F dX2_cutCheapest_7 rfl ?_
  obtain ⟨C_2, hg_2, hf⟩ := gb1_el hf
  refine g_callV (C := RX2) (T := TX2) (N := 12) (Lr := [sBook E aB asettings asums aU aP aW B_time B_chest B_fund, sArrI E asettings 5 settings, sPieces E aP P]) (As := []) (rest := []) F 0 0 0 (ctX2_solve l E aC aS C_1 S_1 C_2 hg_2) gX2_cutCheapest_X2_solve rfl rfl rfl h0X2_solve ⟨Nat.le_of_ble_eq_true rfl, Nat.le_of_ble_eq_true rfl⟩ rfl rfl rfl [0, 1] [2, 3, 4] rfl rfl rfl rfl rfl rfl (Nat.le_of_ble_eq_true rfl) dX2_cutCheapest_8 ⟨(Nat.le_of_ble_eq_true rfl), (Nat.le_of_ble_eq_true rfl)⟩ ?_
  rintro v w ⟨rfl, rfl⟩
  refine g_norm (Lw' := [sCut E aC aS C_2, sCutR E aS S_1, sBook E aB asettings asums aU aP aW B_time B_chest B_fund, sArrI E asettings 5 settings, sPieces E aP P]) (st' := []) (pc' := 11) [0, 1, 2, 3, 4] rfl rfl rfl rfl ?_
  refine g_aload_n F dX2_cutCheapest_11 rfl ?_
  obtain ⟨C_3, hg_3, hf⟩ := gb1_el hf
  refine g_callV (C := RX2) (T := TX2) (N := 12) (Lr := [sCutR E aS S_1, sBook E aB asettings asums aU aP aW B_time B_chest B_fund, sArrI E asettings 5 settings, sPieces E aP P]) (As := []) (rest := []) F 0 0 0 (ctX2_collectParts l E aC aS C_2 C_3 hg_3) gX2_cutCheapest_X2_collectParts rfl rfl rfl h0X2_collectParts ⟨Nat.le_of_ble_eq_true rfl, Nat.le_of_ble_eq_true rfl⟩ rfl rfl rfl [0] [1, 2, 3, 4] rfl rfl rfl rfl rfl rfl (Nat.le_of_ble_eq_true rfl) dX2_cutCheapest_12 ⟨(Nat.le_of_ble_eq_true rfl), (Nat.le_of_ble_eq_true rfl)⟩ ?_
  rintro v w ⟨rfl, rfl⟩
  refine g_norm (Lw' := [sCut E aC aS C_3, sCutR E aS S_1, sBook E aB asettings asums aU aP aW B_time B_chest B_fund, sArrI E asettings 5 settings, sPieces E aP P]) (st' := []) (pc' := 15) [0, 1, 2, 3, 4] rfl rfl rfl rfl ?_
  refine g_aload_n F dX2_cutCheapest_15 rfl ?_
  refine g_aload_n F dX2_cutCheapest_16 rfl ?_
  obtain ⟨C_4, hg_4, hf⟩ := gb1_el hf
  refine g_callV (C := RX2) (T := TX2) (N := 12) (Lr := [sCutR E aS S_1]) (As := [.ref (aB 0)]) (rest := []) F 0 0 1 (ctX2_countNew l E aC aS aB asettings asums aU aP aW C_3 B_time B_chest B_fund settings P C_4 hg_4) gX2_cutCheapest_X2_countNew rfl rfl rfl h0X2_countNew ⟨Nat.le_of_ble_eq_true rfl, Nat.le_of_ble_eq_true rfl⟩ rfl rfl rfl [0, 2, 3, 4] [1] rfl rfl rfl rfl rfl rfl (Nat.le_of_ble_eq_true rfl) dX2_cutCheapest_17 ⟨(Nat.le_of_ble_eq_true rfl), (Nat.le_of_ble_eq_true rfl)⟩ ?_
  rintro v w ⟨rfl, rfl⟩
  refine g_norm (Lw' := [sCut E aC aS C_4, sCutR E aS S_1, sBook E aB asettings asums aU aP aW B_time B_chest B_fund, sArrI E asettings 5 settings, sPieces E aP P]) (st' := []) (pc' := 20) [0, 4, 1, 2, 3] rfl rfl rfl rfl ?_
  cases hf
  exact g_vret F rfl ⟨rfl, rfl⟩ dX2_cutCheapest_20
set_option maxHeartbeats 4000000 in
set_option maxRecDepth 100000 in
theorem ktX2_countWays_L41 {p : Program} {l : Launch} {e : Env} {s : State} {m : MethodId} {args : Array Value} {below : List Frame} {meth : Method} {c : Code} {E : gE} {A : Nat → Prop} (F : gFx p s m args meth c RX2 wsX2_countWays cX2_countWays 6 (some .int) vwCl E A) (aC aS aB asettings asums aU aP aW : Nat → Nat) (x4 : Int32) (S : tCutR) (B_time : Int32) (B_chest : Int32) (B_fund : Int32) (settings : (Nat → Int32)) (P : tPieces) (r : Int32) (C' : tCut) (S' : tCutR) {k : tCut → Option (Int32 × tCut × tCutR)} (hk : ∀ (C : tCut), k C = some (r, C', S') → Gj p l e rmX2_countWays s m args below meth c 0 0 (MQ below (gQ vwCl E A (fun v w => v = some (.int r) ∧ w = [sCut E aC aS C', sCutR E aS S', sBook E aB asettings asums aU aP aW B_time B_chest B_fund, sArrI E asettings 5 settings, sPieces E aP P])) args s 0 0 A) vwCl E A [sCut E aC aS C, sCutR E aS S, sBook E aB asettings asums aU aP aW B_time B_chest B_fund, sArrI E asettings 5 settings, sPieces E aP P] [some (.ref (aC 0)), none, none, none, some (.int x4), none] [] 93) : ∀ (n : Nat) (x5 : Int32) (C : tCut), fX2_countWays_L41 x4 S k n x5 C = some (r, C', S') → Gj p l e rmX2_countWays s m args below meth c 0 0 (MQ below (gQ vwCl E A (fun v w => v = some (.int r) ∧ w = [sCut E aC aS C', sCutR E aS S', sBook E aB asettings asums aU aP aW B_time B_chest B_fund, sArrI E asettings 5 settings, sPieces E aP P])) args s 0 0 A) vwCl E A [sCut E aC aS C, sCutR E aS S, sBook E aB asettings asums aU aP aW B_time B_chest B_fund, sArrI E asettings 5 settings, sPieces E aP P] [some (.ref (aC 0)), none, none, none, some (.int x4), some (.int x5)] [] 41
  | 0, _, _, hf => by cases hf
  | n + 1, x5, C, hf => by
    have ih := ktX2_countWays_L41 F aC aS aB asettings asums aU aP aW x4 S B_time B_chest B_fund settings P r C' S' hk n
    rw [fX2_countWays_L41] at hf
    refine g_iload F dX2_countWays_41 rfl ?_
    refine g_aload_n F dX2_countWays_43 rfl ?_
    refine g_iload F dX2_countWays_44 rfl ?_
    obtain ⟨r_1, hg_1, hf⟩ := gb1_el hf
    refine g_callV (C := RX2) (T := TX2) (N := 12) (Lr := [sCutR E aS S, sBook E aB asettings asums aU aP aW B_time B_chest B_fund, sArrI E asettings 5 settings, sPieces E aP P]) (As := [.int x4]) (rest := [.int x5]) F 0 0 1 (ctX2_longestAt l E aC aS x4 C r_1 hg_1) gX2_countWays_X2_longestAt rfl rfl rfl h0X2_longestAt ⟨Nat.le_of_ble_eq_true rfl, Nat.le_of_ble_eq_true rfl⟩ rfl rfl rfl [0] [1, 2, 3, 4] rfl rfl rfl rfl rfl rfl (Nat.le_of_ble_eq_true rfl) dX2_countWays_46 ⟨(Nat.le_of_ble_eq_true rfl), (Nat.le_of_ble_eq_true rfl)⟩ ?_
    rintro v w ⟨rfl, rfl⟩
    refine g_norm (Lw' := [sCut E aC aS C, sCutR E aS S, sBook E aB asettings asums aU aP aW B_time B_chest B_fund, sArrI E asettings 5 settings, sPieces E aP P]) (st' := [.int r_1, .int x5]) (pc' := 49) [0, 1, 2, 3, 4] rfl rfl rfl rfl ?_
    refine g_icmp_gt F 93 dX2_countWays_49 (by decide) (fun hc_2 => ?_) (fun hc_2 => ?_)
    · replace hf := gi_t hc_2 hf
      refine g_mask [true, true, true, true, true, false] rfl ?_
      exact hk C hf
    · replace hf := gi_f hc_2 hf
      refine g_aload_n F dX2_countWays_52 rfl ?_
      refine g_get (C := RX2) (T := TX2) (N := 12) F 0 0 7 rfl rfl rfl iX2_countWays_X2 (by decide) (by decide +kernel) rfl dX2_countWays_53 ?_
      refine g_iload F dX2_countWays_56 rfl ?_
      obtain ⟨hb_1, hf⟩ := gb_in hf
      have hlt_1 := Nat.not_le.mp (fun z9 => hb_1 (Or.inr z9))
      refine g_aald (b := aS (x4.toNatClampNeg)) F 0 2 5 rfl rfl rfl hb_1 (if_pos hlt_1) rfl dX2_countWays_58 ?_
      refine g_iload F dX2_countWays_59 rfl ?_
      obtain ⟨hb_2, hf⟩ := gb_in hf
      refine g_iald F 1 (x4.toNatClampNeg) (x5.toNatClampNeg) rfl rfl (sCutR_at _ _ _ hlt_1) hb_2 dX2_countWays_61 ?_
      refine g_ldc F 1000000 (by decide +kernel) dX2_countWays_62 ?_
      refine g_icmp_ge F 87 dX2_countWays_64 (by decide) (fun hc_1 => ?_) (fun hc_1 => ?_)
      · replace hf := gi_t hc_1 hf
        refine g_iinc (lv' := [some (.ref (aC 0)), none, none, none, some (.int x4), some (.int (x5 + 1))]) F (x5 + 1) dX2_countWays_87 rfl rfl rfl rfl ?_
        refine g_goto F 41 dX2_countWays_90 (by decide) ?_
        exact ih (x5 + 1) C hf
      · replace hf := gi_f hc_1 hf
        refine g_aload_n F dX2_countWays_67 rfl ?_
        refine g_get (C := RX2) (T := TX2) (N := 12) F 0 0 11 rfl rfl rfl iX2_countWays_X2 (by decide) (by decide +kernel) rfl dX2_countWays_68 ?_
        refine g_iload F dX2_countWays_71 rfl ?_
        refine g_dup2 F dX2_countWays_73 rfl rfl ?_
        obtain ⟨hb_3, hf⟩ := gb_in hf
        refine g_iald F 0 6 (x4.toNatClampNeg) rfl rfl rfl hb_3 dX2_countWays_74 ?_
        refine g_aload_n F dX2_countWays_75 rfl ?_
        refine g_get (C := RX2) (T := TX2) (N := 12) F 0 0 11 rfl rfl rfl iX2_countWays_X2 (by decide) (by decide +kernel) rfl dX2_countWays_76 ?_
        refine g_iload F dX2_countWays_79 rfl ?_
        refine g_iload F dX2_countWays_81 rfl ?_
        refine g_iadd F dX2_countWays_83 ?_
        obtain ⟨hb_4, hf⟩ := gb_in hf
        refine g_iald F 0 6 ((x4 + x5).toNatClampNeg) rfl rfl rfl hb_4 dX2_countWays_84 ?_
        refine g_iadd F dX2_countWays_85 ?_
        obtain ⟨hb_5, hf⟩ := gb_in hf
        obtain ⟨C_1, hC_1, hf⟩ := Lt_el hf
        refine g_iast (Lw' := [sCut E aC aS C_1, sCutR E aS S, sBook E aB asettings asums aU aP aW B_time B_chest B_fund, sArrI E asettings 5 settings, sPieces E aP P]) F 0 6 (x4.toNatClampNeg) rfl rfl rfl hb_5 dX2_countWays_86 (by subst hC_1; rfl) ?_
        refine g_iinc (lv' := [some (.ref (aC 0)), none, none, none, some (.int x4), some (.int (x5 + 1))]) F (x5 + 1) dX2_countWays_87 rfl rfl rfl rfl ?_
        refine g_goto F 41 dX2_countWays_90 (by decide) ?_
        exact ih (x5 + 1) C_1 hf
set_option maxHeartbeats 4000000 in
set_option maxRecDepth 100000 in
theorem ktX2_countWays_L25 {p : Program} {l : Launch} {e : Env} {s : State} {m : MethodId} {args : Array Value} {below : List Frame} {meth : Method} {c : Code} {E : gE} {A : Nat → Prop} (F : gFx p s m args meth c RX2 wsX2_countWays cX2_countWays 6 (some .int) vwCl E A) (aC aS aB asettings asums aU aP aW : Nat → Nat) (S : tCutR) (B_time : Int32) (B_chest : Int32) (B_fund : Int32) (settings : (Nat → Int32)) (P : tPieces) (r : Int32) (C' : tCut) (S' : tCutR) {k : tCut → Option (Int32 × tCut × tCutR)} (hk : ∀ (C : tCut), k C = some (r, C', S') → Gj p l e rmX2_countWays s m args below meth c 0 0 (MQ below (gQ vwCl E A (fun v w => v = some (.int r) ∧ w = [sCut E aC aS C', sCutR E aS S', sBook E aB asettings asums aU aP aW B_time B_chest B_fund, sArrI E asettings 5 settings, sPieces E aP P])) args s 0 0 A) vwCl E A [sCut E aC aS C, sCutR E aS S, sBook E aB asettings asums aU aP aW B_time B_chest B_fund, sArrI E asettings 5 settings, sPieces E aP P] [some (.ref (aC 0)), none, none, none, none, none] [] 99) : ∀ (n : Nat) (x4 : Int32) (C : tCut), fX2_countWays_L25 S k n x4 C = some (r, C', S') → Gj p l e rmX2_countWays s m args below meth c 0 0 (MQ below (gQ vwCl E A (fun v w => v = some (.int r) ∧ w = [sCut E aC aS C', sCutR E aS S', sBook E aB asettings asums aU aP aW B_time B_chest B_fund, sArrI E asettings 5 settings, sPieces E aP P])) args s 0 0 A) vwCl E A [sCut E aC aS C, sCutR E aS S, sBook E aB asettings asums aU aP aW B_time B_chest B_fund, sArrI E asettings 5 settings, sPieces E aP P] [some (.ref (aC 0)), none, none, none, some (.int x4), none] [] 25
  | 0, _, _, hf => by cases hf
  | n + 1, x4, C, hf => by
    have ih := ktX2_countWays_L25 F aC aS aB asettings asums aU aP aW S B_time B_chest B_fund settings P r C' S' hk n
    rw [fX2_countWays_L25] at hf
    refine g_iload F dX2_countWays_25 rfl ?_
    refine g_iflt F 99 dX2_countWays_27 (by decide) (fun hc_1 => ?_) (fun hc_1 => ?_)
    · replace hf := gi_t hc_1 hf
      refine g_mask [true, true, true, true, false, true] rfl ?_
      exact hk C hf
    · replace hf := gi_f hc_1 hf
      refine g_aload_n F dX2_countWays_30 rfl ?_
      refine g_get (C := RX2) (T := TX2) (N := 12) F 0 0 11 rfl rfl rfl iX2_countWays_X2 (by decide) (by decide +kernel) rfl dX2_countWays_31 ?_
      refine g_iload F dX2_countWays_34 rfl ?_
      refine g_iconst F 0 dX2_countWays_36 rfl ?_
      obtain ⟨hb_1, hf⟩ := gb_in hf
      obtain ⟨C_1, hC_1, hf⟩ := Lt_el hf
      refine g_iast (Lw' := [sCut E aC aS C_1, sCutR E aS S, sBook E aB asettings asums aU aP aW B_time B_chest B_fund, sArrI E asettings 5 settings, sPieces E aP P]) F 0 6 (x4.toNatClampNeg) rfl rfl rfl hb_1 dX2_countWays_37 (by subst hC_1; rfl) ?_
      refine g_iconst F 1 dX2_countWays_38 rfl ?_
      refine g_istore (lv' := [some (.ref (aC 0)), none, none, none, some (.int x4), some (.int 1)]) F dX2_countWays_39 (Nat.le_of_ble_eq_true rfl) rfl rfl ?_
      refine ktX2_countWays_L41 F aC aS aB asettings asums aU aP aW x4 S B_time B_chest B_fund settings P r C' S' (fun C_2 hf => ?_) FU 1 C_1 hf
      refine g_iinc (lv' := [some (.ref (aC 0)), none, none, none, some (.int (x4 + (-1))), none]) F (x4 + (-1)) dX2_countWays_93 rfl rfl rfl rfl ?_
      refine g_goto F 25 dX2_countWays_96 (by decide) ?_
      exact ih (x4 + (-1)) C_2 hf
set_option maxHeartbeats 4000000 in
set_option maxRecDepth 100000 in
theorem ctX2_countWays (l : Launch) (E : gE) (aC aS aB asettings asums aU aP aW : Nat → Nat) (x2 : Int64) (C : tCut) (S : tCutR) (B_time : Int32) (B_chest : Int32) (B_fund : Int32) (settings : (Nat → Int32)) (P : tPieces) (r : Int32) (C' : tCut) (S' : tCutR) (hf : fX2_countWays x2 C S settings P = some (r, C', S')) : gMet l yX2_countWays wsX2_countWays rmX2_countWays vwCl E [.ref (aC 0), .ref (aB 0), .long x2] [sCut E aC aS C, sCutR E aS S, sBook E aB asettings asums aU aP aW B_time B_chest B_fund, sArrI E asettings 5 settings, sPieces E aP P] (fun v w => v = some (.int r) ∧ w = [sCut E aC aS C', sCutR E aS S', sBook E aB asettings asums aU aP aW B_time B_chest B_fund, sArrI E asettings 5 settings, sPieces E aP P]) 0 0 := by
  refine g_entry [some (.ref (aC 0)), some (.ref (aB 0)), some (.long x2), none, none, none] (by decide) rfl (Nat.le_of_ble_eq_true rfl) rfl ?_
  intro p e s m below meth c A F hnm
  unfold fX2_countWays at hf
  refine g_aload_n F dX2_countWays_0 rfl ?_
  refine g_aload_n F dX2_countWays_1 rfl ?_
  refine g_lload_n F dX2_countWays_2 rfl ?_
  refine g_iconst F 0 dX2_countWays_3 rfl ?_
  obtain ⟨C_1, S_1, hg_1, hf⟩ := gb2_el hf
  refine g_callV (C := RX2) (T := TX2) (N := 12) (Lr := []) (As := [.ref (aB 0), .long x2, .int 0]) (rest := []) F 0 0 3 (ctX2_lookUp l E aC aS aB asettings asums aU aP aW x2 0 C S B_time B_chest B_fund settings P C_1 S_1 hg_1) gX2_countWays_X2_lookUp rfl rfl rfl h0X2_lookUp ⟨Nat.le_of_ble_eq_true rfl, Nat.le_of_ble_eq_true rfl⟩ rfl rfl rfl [0, 1, 2, 3, 4] [] rfl rfl rfl rfl rfl rfl (Nat.le_of_ble_eq_true rfl) dX2_countWays_4 ⟨(Nat.le_of_ble_eq_true rfl), (Nat.le_of_ble_eq_true rfl)⟩ ?_
  rintro v w ⟨rfl, rfl⟩
  refine g_norm (Lw' := [sCut E aC aS C_1, sCutR E aS S_1, sBook E aB asettings asums aU aP aW B_time B_chest B_fund, sArrI E asettings 5 settings, sPieces E aP P]) (st' := []) (pc' := 7) [0, 1, 2, 3, 4] rfl rfl rfl rfl ?_
  refine g_aload_n F dX2_countWays_7 rfl ?_
  refine g_get (C := RX2) (T := TX2) (N := 12) F 0 0 11 rfl rfl rfl iX2_countWays_X2 (by decide) (by decide +kernel) rfl dX2_countWays_8 ?_
  refine g_aload_n F dX2_countWays_11 rfl ?_
  refine g_get (C := RX2) (T := TX2) (N := 12) F 0 0 5 rfl rfl rfl iX2_countWays_X2 (by decide) (by decide +kernel) rfl dX2_countWays_12 ?_
  refine g_iconst F 1 dX2_countWays_15 rfl ?_
  obtain ⟨hb_1, hf⟩ := gb_in hf
  obtain ⟨C_2, hC_2, hf⟩ := Lt_el hf
  refine g_iast (Lw' := [sCut E aC aS C_2, sCutR E aS S_1, sBook E aB asettings asums aU aP aW B_time B_chest B_fund, sArrI E asettings 5 settings, sPieces E aP P]) F 0 6 (C_1.2.2.2.2.2.1.toNatClampNeg) rfl rfl rfl hb_1 dX2_countWays_16 (by subst hC_2; rfl) ?_
  refine g_aload_n F dX2_countWays_17 rfl ?_
  refine g_get (C := RX2) (T := TX2) (N := 12) F 0 0 5 rfl rfl rfl iX2_countWays_X2 (by decide) (by decide +kernel) rfl dX2_countWays_18 ?_
  refine g_iconst F 1 dX2_countWays_21 rfl ?_
  refine g_isub F dX2_countWays_22 ?_
  refine g_istore (lv' := [some (.ref (aC 0)), some (.ref (aB 0)), some (.long x2), none, some (.int (C_2.2.2.2.2.2.1 - 1)), none]) F dX2_countWays_23 (Nat.le_of_ble_eq_true rfl) rfl rfl ?_
  refine g_mask [true, false, false, true, true, true] rfl ?_
  refine ktX2_countWays_L25 F aC aS aB asettings asums aU aP aW S_1 B_time B_chest B_fund settings P r C' S' (fun C_3 hf => ?_) FU (C_2.2.2.2.2.2.1 - 1) C_2 hf
  refine g_aload_n F dX2_countWays_99 rfl ?_
  refine g_get (C := RX2) (T := TX2) (N := 12) F 0 0 11 rfl rfl rfl iX2_countWays_X2 (by decide) (by decide +kernel) rfl dX2_countWays_100 ?_
  refine g_iconst F 0 dX2_countWays_103 rfl ?_
  refine g_iald F 0 6 0 (by decide) rfl rfl (by decide) dX2_countWays_104 ?_
  cases hf
  exact g_iret F rfl ⟨rfl, rfl⟩ dX2_countWays_105
