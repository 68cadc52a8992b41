abbrev rmX10_thrown : Room := { frames := 0, cells := 0, slots := 0, locals := 0 }
theorem iX10_thrown_X10 : ∀ w ∈ u_ws RX10 TX10 27, w ∈ wsX10_thrown := by decide +kernel
theorem h0X10_thrown : yX10_thrown.cls = RX10 ∧ yX10_thrown.cls ≠ "java/lang/invoke/MethodHandle" ∧ yX10_thrown.cls ≠ "java/lang/invoke/VarHandle" ∧ (parseMethodDescriptor yX10_thrown.desc).map (fun d => d.parameters.length) = some 0 := by decide +kernel
abbrev rmX10_within : Room := { frames := 0, cells := 0, slots := 0, locals := 0 }
theorem h0X10_within : yX10_within.cls ≠ "java/lang/invoke/MethodHandle" ∧ yX10_within.cls ≠ "java/lang/invoke/VarHandle" ∧ (parseMethodDescriptor yX10_within.desc).map (fun d => d.parameters.length) = some 3 := by decide +kernel
abbrev rmX10_throwsIf : Room := { frames := 0, cells := 0, slots := 0, locals := 0 }
theorem iX10_throwsIf_X10 : ∀ w ∈ u_ws RX10 TX10 27, w ∈ wsX10_throwsIf := by decide +kernel
theorem h0X10_throwsIf : yX10_throwsIf.cls = RX10 ∧ yX10_throwsIf.cls ≠ "java/lang/invoke/MethodHandle" ∧ yX10_throwsIf.cls ≠ "java/lang/invoke/VarHandle" ∧ (parseMethodDescriptor yX10_throwsIf.desc).map (fun d => d.parameters.length) = some 2 := by decide +kernel
abbrev rmX10_puts : Room := { frames := 0, cells := 0, slots := 0, locals := 0 }
theorem h0X10_puts : yX10_puts.cls ≠ "java/lang/invoke/MethodHandle" ∧ yX10_puts.cls ≠ "java/lang/invoke/VarHandle" ∧ (parseMethodDescriptor yX10_puts.desc).map (fun d => d.parameters.length) = some 2 := by decide +kernel
abbrev rmX10_bytesOf : Room := { frames := 0, cells := 0, slots := 0, locals := 0 }
theorem iX10_bytesOf_X10 : ∀ w ∈ u_ws RX10 TX10 27, w ∈ wsX10_bytesOf := by decide +kernel
theorem h0X10_bytesOf : yX10_bytesOf.cls = RX10 ∧ yX10_bytesOf.cls ≠ "java/lang/invoke/MethodHandle" ∧ yX10_bytesOf.cls ≠ "java/lang/invoke/VarHandle" ∧ (parseMethodDescriptor yX10_bytesOf.desc).map (fun d => d.parameters.length) = some 1 := by decide +kernel
abbrev rmX10_append : Room := { frames := 1, cells := 0, slots := 0, locals := 22 }
theorem iX10_append_X10 : ∀ w ∈ u_ws RX10 TX10 27, w ∈ wsX10_append := by decide +kernel
theorem h0X10_append : yX10_append.cls = RX10 ∧ yX10_append.cls ≠ "java/lang/invoke/MethodHandle" ∧ yX10_append.cls ≠ "java/lang/invoke/VarHandle" ∧ (parseMethodDescriptor yX10_append.desc).map (fun d => d.parameters.length) = some 5 := by decide +kernel
abbrev rmX10_byteAt : Room := { frames := 0, cells := 0, slots := 0, locals := 0 }
theorem iX10_byteAt_X10 : ∀ w ∈ u_ws RX10 TX10 27, w ∈ wsX10_byteAt := by decide +kernel
theorem h0X10_byteAt : yX10_byteAt.cls = RX10 ∧ yX10_byteAt.cls ≠ "java/lang/invoke/MethodHandle" ∧ yX10_byteAt.cls ≠ "java/lang/invoke/VarHandle" ∧ (parseMethodDescriptor yX10_byteAt.desc).map (fun d => d.parameters.length) = some 1 := by decide +kernel
abbrev rmX10_advance : Room := { frames := 1, cells := 0, slots := 0, locals := 22 }
theorem iX10_advance_X10 : ∀ w ∈ u_ws RX10 TX10 27, w ∈ wsX10_advance := by decide +kernel
theorem h0X10_advance : yX10_advance.cls = RX10 ∧ yX10_advance.cls ≠ "java/lang/invoke/MethodHandle" ∧ yX10_advance.cls ≠ "java/lang/invoke/VarHandle" ∧ (parseMethodDescriptor yX10_advance.desc).map (fun d => d.parameters.length) = some 0 := by decide +kernel
abbrev rmX10_isWord : Room := { frames := 5, cells := 0, slots := 0, locals := 115 }
theorem iX10_isWord_X10 : ∀ w ∈ u_ws RX10 TX10 27, w ∈ wsX10_isWord := by decide +kernel
theorem h0X10_isWord : yX10_isWord.cls = RX10 ∧ yX10_isWord.cls ≠ "java/lang/invoke/MethodHandle" ∧ yX10_isWord.cls ≠ "java/lang/invoke/VarHandle" ∧ (parseMethodDescriptor yX10_isWord.desc).map (fun d => d.parameters.length) = some 1 := by decide +kernel
abbrev rmX10_fails : Room := { frames := 0, cells := 0, slots := 0, locals := 0 }
theorem iX10_fails_X10 : ∀ w ∈ u_ws RX10 TX10 27, w ∈ wsX10_fails := by decide +kernel
theorem h0X10_fails : yX10_fails.cls = RX10 ∧ yX10_fails.cls ≠ "java/lang/invoke/MethodHandle" ∧ yX10_fails.cls ≠ "java/lang/invoke/VarHandle" ∧ (parseMethodDescriptor yX10_fails.desc).map (fun d => d.parameters.length) = some 1 := by decide +kernel
abbrev rmX10_starts : Room := { frames := 2, cells := 0, slots := 0, locals := 43 }
theorem h0X10_starts : yX10_starts.cls = RX10 ∧ yX10_starts.cls ≠ "java/lang/invoke/MethodHandle" ∧ yX10_starts.cls ≠ "java/lang/invoke/VarHandle" ∧ (parseMethodDescriptor yX10_starts.desc).map (fun d => d.parameters.length) = some 2 := by decide +kernel
abbrev rmX10_takes : Room := { frames := 2, cells := 0, slots := 0, locals := 43 }
theorem iX10_takes_X10 : ∀ w ∈ u_ws RX10 TX10 27, w ∈ wsX10_takes := by decide +kernel
theorem h0X10_takes : yX10_takes.cls = RX10 ∧ yX10_takes.cls ≠ "java/lang/invoke/MethodHandle" ∧ yX10_takes.cls ≠ "java/lang/invoke/VarHandle" ∧ (parseMethodDescriptor yX10_takes.desc).map (fun d => d.parameters.length) = some 2 := by decide +kernel
abbrev rmX10_lays : Room := { frames := 3, cells := 0, slots := 0, locals := 65 }
theorem iX10_lays_X10 : ∀ w ∈ u_ws RX10 TX10 27, w ∈ wsX10_lays := by decide +kernel
theorem h0X10_lays : yX10_lays.cls = RX10 ∧ yX10_lays.cls ≠ "java/lang/invoke/MethodHandle" ∧ yX10_lays.cls ≠ "java/lang/invoke/VarHandle" ∧ (parseMethodDescriptor yX10_lays.desc).map (fun d => d.parameters.length) = some 3 := by decide +kernel
abbrev rmX10_closes : Room := { frames := 3, cells := 0, slots := 0, locals := 65 }
theorem iX10_closes_X10 : ∀ w ∈ u_ws RX10 TX10 27, w ∈ wsX10_closes := by decide +kernel
theorem h0X10_closes : yX10_closes.cls = RX10 ∧ yX10_closes.cls ≠ "java/lang/invoke/MethodHandle" ∧ yX10_closes.cls ≠ "java/lang/invoke/VarHandle" ∧ (parseMethodDescriptor yX10_closes.desc).map (fun d => d.parameters.length) = some 0 := by decide +kernel
abbrev rmX10_spellsToken : Room := { frames := 0, cells := 0, slots := 0, locals := 0 }
theorem iX10_spellsToken_X10 : ∀ w ∈ u_ws RX10 TX10 27, w ∈ wsX10_spellsToken := by decide +kernel
theorem h0X10_spellsToken : yX10_spellsToken.cls = RX10 ∧ yX10_spellsToken.cls ≠ "java/lang/invoke/MethodHandle" ∧ yX10_spellsToken.cls ≠ "java/lang/invoke/VarHandle" ∧ (parseMethodDescriptor yX10_spellsToken.desc).map (fun d => d.parameters.length) = some 0 := by decide +kernel
abbrev rmX10_name : Room := { frames := 0, cells := 0, slots := 0, locals := 0 }
theorem iX10_name_X10 : ∀ w ∈ u_ws RX10 TX10 27, w ∈ wsX10_name := by decide +kernel
theorem h0X10_name : yX10_name.cls = RX10 ∧ yX10_name.cls ≠ "java/lang/invoke/MethodHandle" ∧ yX10_name.cls ≠ "java/lang/invoke/VarHandle" ∧ (parseMethodDescriptor yX10_name.desc).map (fun d => d.parameters.length) = some 0 := by decide +kernel
abbrev rmX10_userNamed : Room := { frames := 1, cells := 0, slots := 0, locals := 23 }
theorem iX10_userNamed_X10 : ∀ w ∈ u_ws RX10 TX10 27, w ∈ wsX10_userNamed := by decide +kernel
theorem h0X10_userNamed : yX10_userNamed.cls = RX10 ∧ yX10_userNamed.cls ≠ "java/lang/invoke/MethodHandle" ∧ yX10_userNamed.cls ≠ "java/lang/invoke/VarHandle" ∧ (parseMethodDescriptor yX10_userNamed.desc).map (fun d => d.parameters.length) = some 0 := by decide +kernel
abbrev rmX10_spells : Room := { frames := 1, cells := 0, slots := 0, locals := 21 }
theorem iX10_spells_X10 : ∀ w ∈ u_ws RX10 TX10 27, w ∈ wsX10_spells := by decide +kernel
theorem h0X10_spells : yX10_spells.cls = RX10 ∧ yX10_spells.cls ≠ "java/lang/invoke/MethodHandle" ∧ yX10_spells.cls ≠ "java/lang/invoke/VarHandle" ∧ (parseMethodDescriptor yX10_spells.desc).map (fun d => d.parameters.length) = some 0 := by decide +kernel
abbrev rmX10_userLine : Room := { frames := 4, cells := 0, slots := 0, locals := 88 }
theorem iX10_userLine_X10 : ∀ w ∈ u_ws RX10 TX10 27, w ∈ wsX10_userLine := by decide +kernel
theorem h0X10_userLine : yX10_userLine.cls = RX10 ∧ yX10_userLine.cls ≠ "java/lang/invoke/MethodHandle" ∧ yX10_userLine.cls ≠ "java/lang/invoke/VarHandle" ∧ (parseMethodDescriptor yX10_userLine.desc).map (fun d => d.parameters.length) = some 0 := by decide +kernel
abbrev rmX10_code : Room := { frames := 0, cells := 0, slots := 0, locals := 0 }
theorem iX10_code_X10 : ∀ w ∈ u_ws RX10 TX10 27, w ∈ wsX10_code := by decide +kernel
theorem h0X10_code : yX10_code.cls = RX10 ∧ yX10_code.cls ≠ "java/lang/invoke/MethodHandle" ∧ yX10_code.cls ≠ "java/lang/invoke/VarHandle" ∧ (parseMethodDescriptor yX10_code.desc).map (fun d => d.parameters.length) = some 2 := by decide +kernel
abbrev rmX10_ofPiece : Room := { frames := 0, cells := 0, slots := 0, locals := 0 }
theorem iX10_ofPiece_X10 : ∀ w ∈ u_ws RX10 TX10 27, w ∈ wsX10_ofPiece := by decide +kernel
theorem h0X10_ofPiece : yX10_ofPiece.cls = RX10 ∧ yX10_ofPiece.cls ≠ "java/lang/invoke/MethodHandle" ∧ yX10_ofPiece.cls ≠ "java/lang/invoke/VarHandle" ∧ (parseMethodDescriptor yX10_ofPiece.desc).map (fun d => d.parameters.length) = some 2 := by decide +kernel
abbrev rmX10_pieceOf : Room := { frames := 1, cells := 0, slots := 0, locals := 22 }
theorem iX10_pieceOf_X10 : ∀ w ∈ u_ws RX10 TX10 27, w ∈ wsX10_pieceOf := by decide +kernel
theorem h0X10_pieceOf : yX10_pieceOf.cls = RX10 ∧ yX10_pieceOf.cls ≠ "java/lang/invoke/MethodHandle" ∧ yX10_pieceOf.cls ≠ "java/lang/invoke/VarHandle" ∧ (parseMethodDescriptor yX10_pieceOf.desc).map (fun d => d.parameters.length) = some 1 := by decide +kernel
abbrev rmX10_comes : Room := { frames := 0, cells := 0, slots := 0, locals := 0 }
theorem iX10_comes_X10 : ∀ w ∈ u_ws RX10 TX10 27, w ∈ wsX10_comes := by decide +kernel
theorem h0X10_comes : yX10_comes.cls = RX10 ∧ yX10_comes.cls ≠ "java/lang/invoke/MethodHandle" ∧ yX10_comes.cls ≠ "java/lang/invoke/VarHandle" ∧ (parseMethodDescriptor yX10_comes.desc).map (fun d => d.parameters.length) = some 3 := by decide +kernel
abbrev rmX10_pieceLine : Room := { frames := 3, cells := 0, slots := 0, locals := 65 }
theorem iX10_pieceLine_X10 : ∀ w ∈ u_ws RX10 TX10 27, w ∈ wsX10_pieceLine := by decide +kernel
theorem h0X10_pieceLine : yX10_pieceLine.cls = RX10 ∧ yX10_pieceLine.cls ≠ "java/lang/invoke/MethodHandle" ∧ yX10_pieceLine.cls ≠ "java/lang/invoke/VarHandle" ∧ (parseMethodDescriptor yX10_pieceLine.desc).map (fun d => d.parameters.length) = some 0 := by decide +kernel
abbrev rmX10_lettersOf : Room := { frames := 0, cells := 0, slots := 0, locals := 0 }
theorem h0X10_lettersOf : yX10_lettersOf.cls ≠ "java/lang/invoke/MethodHandle" ∧ yX10_lettersOf.cls ≠ "java/lang/invoke/VarHandle" ∧ (parseMethodDescriptor yX10_lettersOf.desc).map (fun d => d.parameters.length) = some 1 := by decide +kernel
abbrev rmX10_priceOf : Room := { frames := 1, cells := 0, slots := 0, locals := 22 }
theorem iX10_priceOf_X10 : ∀ w ∈ u_ws RX10 TX10 27, w ∈ wsX10_priceOf := by decide +kernel
theorem h0X10_priceOf : yX10_priceOf.cls = RX10 ∧ yX10_priceOf.cls ≠ "java/lang/invoke/MethodHandle" ∧ yX10_priceOf.cls ≠ "java/lang/invoke/VarHandle" ∧ (parseMethodDescriptor yX10_priceOf.desc).map (fun d => d.parameters.length) = some 1 := by decide +kernel
abbrev rmX10_triesFirst : Room := { frames := 2, cells := 0, slots := 0, locals := 44 }
theorem iX10_triesFirst_X10 : ∀ w ∈ u_ws RX10 TX10 27, w ∈ wsX10_triesFirst := by decide +kernel
theorem h0X10_triesFirst : yX10_triesFirst.cls = RX10 ∧ yX10_triesFirst.cls ≠ "java/lang/invoke/MethodHandle" ∧ yX10_triesFirst.cls ≠ "java/lang/invoke/VarHandle" ∧ (parseMethodDescriptor yX10_triesFirst.desc).map (fun d => d.parameters.length) = some 4 := by decide +kernel
def fX10_thrown (M_thrown : Int32) : Option (Int32) := some M_thrown
def fX10_within (x0 : Int32) (x1 : Int32) (x2 : Int32) : Option (Int32) := if x0 < x1 then (some 0) else (if x2 < x0 then (some 0) else (some 1))
def fX10_throwsIf (x1 : Int32) (x2 : Int32) (M_thrown : Int32) : Option (Int32 × Int32) := Lt (fun (M_thrown_1 : Int32) => (if M_thrown_1 ≤ 0 then (some (0, M_thrown_1)) else (some (1, M_thrown_1)))) fun (j_1 : Int32 → Option (Int32 × Int32)) => if M_thrown = 0 then (if x1 = 0 then (j_1 M_thrown) else (j_1 x2)) else (j_1 M_thrown)
def fX10_puts_L2 (n_p0 : Nat) (n_p1 : Nat) (p0 : (Nat → Int32)) (k : (Nat → Int32) → Option ((Nat → Int32))) : Nat → Int32 → (Nat → Int32) → Option ((Nat → Int32))
  | 0, _, _ => none
  | n + 1, x2, p1 => if 365 ≤ x2 then (k p1) else (if x2 < 0 ∨ n_p0 ≤ x2.toNatClampNeg then none else if x2 < 0 ∨ n_p1 ≤ x2.toNatClampNeg then none else Lt (upd p1 (x2.toNatClampNeg) (p0 (x2.toNatClampNeg))) fun (p1_1 : (Nat → Int32)) => fX10_puts_L2 n_p0 n_p1 p0 k n (x2 + 1) p1_1)
def fX10_puts (n_p0 : Nat) (n_p1 : Nat) (p0 : (Nat → Int32)) (p1 : (Nat → Int32)) : Option ((Nat → Int32)) := fX10_puts_L2 n_p0 n_p1 p0 (fun (p1_1 : (Nat → Int32)) => (some p1_1)) FU 0 p1
def fX10_bytesOf_L3 (x1 : Int32) (k : Int32 → (Nat → Int32) → Option (Int32 × (Nat → Int32))) : Nat → Int32 → Int32 → (Nat → Int32) → Option (Int32 × (Nat → Int32))
  | 0, _, _, _ => none
  | n + 1, x2, M_length, text => if x2 < 0 then (k M_length text) else (if M_length < 0 ∨ 600 ≤ M_length.toNatClampNeg then none else Lt (upd text (M_length.toNatClampNeg) (vp_nar .byte ((x1 >>> (x2 &&& 31)).toInt8.toInt32))) fun (text_1 : (Nat → Int32)) => fX10_bytesOf_L3 x1 k n (x2 + (-8)) (M_length + 1) text_1)
def fX10_bytesOf (x1 : Int32) (M_length : Int32) (text : (Nat → Int32)) : Option (Int32 × (Nat → Int32)) := fX10_bytesOf_L3 x1 (fun (M_length_1 : Int32) (text_1 : (Nat → Int32)) => (some (M_length_1, text_1))) FU 24 M_length text
def fX10_append (x1 : Int32) (x2 : Int32) (x3 : Int32) (x4 : Int32) (x5 : Int32) (M_thrown : Int32) (M_length : Int32) (text : (Nat → Int32)) : Option (Int32 × Int32 × Int32 × (Nat → Int32)) := if (M_length + 20) ≤ 600 then (gb2 (fX10_bytesOf x1 M_length text) fun (M_length_1 : Int32) (text_1 : (Nat → Int32)) => gb2 (fX10_bytesOf x2 M_length_1 text_1) fun (M_length_2 : Int32) (text_2 : (Nat → Int32)) => gb2 (fX10_bytesOf x3 M_length_2 text_2) fun (M_length_3 : Int32) (text_3 : (Nat → Int32)) => gb2 (fX10_bytesOf x4 M_length_3 text_3) fun (M_length_4 : Int32) (text_4 : (Nat → Int32)) => gb2 (fX10_bytesOf x5 M_length_4 text_4) fun (M_length_5 : Int32) (text_5 : (Nat → Int32)) => some (M_length_5, 0, M_length_5, text_5)) else (some ((-1), 0, M_length, text))
def fX10_byteAt (x1 : Int32) (M_textSize : Int32) (text : (Nat → Int32)) : Option (Int32) := if M_textSize ≤ x1 then (some (-1)) else (if x1 < 0 ∨ 600 ≤ x1.toNatClampNeg then none else some ((text (x1.toNatClampNeg)) &&& 255))
def fX10_advance_L0 (M_textSize : Int32) (text : (Nat → Int32)) (k : Int32 → Option (Int32 × Int32 × Int32 × Int32)) : Nat → Int32 → Option (Int32 × Int32 × Int32 × Int32)
  | 0, _ => none
  | n + 1, M_next => gb1 (fX10_byteAt M_next M_textSize text) fun (r_1 : Int32) => Lt ((fX10_advance_L0 M_textSize text k n (M_next + 1)) : Option (Int32 × Int32 × Int32 × Int32)) fun (j_1 : Option (Int32 × Int32 × Int32 × Int32)) => if r_1 = 32 then (j_1) else (gb1 (fX10_byteAt M_next M_textSize text) fun (r_2 : Int32) => if r_2 = 10 then (j_1) else (k M_next))
def fX10_advance_L153 (M_textSize : Int32) (M_start : Int32) (text : (Nat → Int32)) (k : Int32 → Int32 → Option (Int32 × Int32 × Int32 × Int32)) : Nat → Int32 → Int32 → Option (Int32 × Int32 × Int32 × Int32)
  | 0, _, _ => none
  | n + 1, M_next, M_value => gb1 (fX10_byteAt M_next M_textSize text) fun (r_1 : Int32) => gb1 (fX10_within r_1 48 57) fun (r_2 : Int32) => if r_2 = 0 then (k M_next M_value) else (Lt (fun (t0_1 : Int32) => (fX10_advance_L153 M_textSize M_start text k n (M_next + 1) t0_1)) fun (j_1 : Int32 → Option (Int32 × Int32 × Int32 × Int32)) => if 4 ≤ (M_next - M_start) then (j_1 M_value) else (gb1 (fX10_byteAt M_next M_textSize text) fun (r_3 : Int32) => j_1 (((10 * M_value) + r_3) - 48)))
def fX10_advance_L85 (M_textSize : Int32) (text : (Nat → Int32)) (k : Int32 → Option (Int32 × Int32 × Int32 × Int32)) : Nat → Int32 → Option (Int32 × Int32 × Int32 × Int32)
  | 0, _ => none
  | n + 1, M_next => gb1 (fX10_byteAt M_next M_textSize text) fun (r_1 : Int32) => gb1 (fX10_within r_1 97 122) fun (r_2 : Int32) => if r_2 = 0 then (k M_next) else (fX10_advance_L85 M_textSize text k n (M_next + 1))
def fX10_advance (M_textSize : Int32) (M_start : Int32) (M_next : Int32) (M_token : Int32) (M_value : Int32) (text : (Nat → Int32)) : Option (Int32 × Int32 × Int32 × Int32) := fX10_advance_L0 M_textSize text (fun (M_next_1 : Int32) => (gb1 (fX10_byteAt M_next_1 M_textSize text) fun (r_1 : Int32) => if r_1 = (-1) then (some (M_next_1, M_next_1, 0, 0)) else (gb1 (fX10_within r_1 97 122) fun (r_2 : Int32) => if r_2 = 0 then (gb1 (fX10_within r_1 48 57) fun (r_3 : Int32) => if r_3 = 0 then (Lt (fun (t0_1 : Int32) => (some (M_next_1, M_next_1 + 1, t0_1, 0))) fun (j_1 : Int32 → Option (Int32 × Int32 × Int32 × Int32)) => if r_1 = 59 then (j_1 3) else (j_1 4)) else (fX10_advance_L153 M_textSize M_next_1 text (fun (M_next_2 : Int32) (M_value_1 : Int32) => (Lt (fun (t0_2 : Int32) => (some (M_next_1, M_next_2, t0_2, M_value_1))) fun (j_2 : Int32 → Option (Int32 × Int32 × Int32 × Int32)) => if (M_next_2 - M_next_1) ≤ 4 then (j_2 2) else (j_2 4))) FU M_next_1 0)) else (fX10_advance_L85 M_textSize text (fun (M_next_3 : Int32) => (Lt (fun (t0_3 : Int32) => (some (M_next_1, M_next_3, t0_3, 0))) fun (j_3 : Int32 → Option (Int32 × Int32 × Int32 × Int32)) => if (M_next_3 - M_next_1) ≤ 12 then (j_3 1) else (j_3 4))) FU M_next_1)))) FU M_next
def fX10_isWord_L32 (i1 : Nat) (M_start : Int32) (text : (Nat → Int32)) (k : Int32 → Option (Int32)) : Nat → Int32 → Int32 → Option (Int32)
  | 0, _, _ => none
  | n + 1, x2, x3 => gb1 (fJ0_length_8abf5 i1) fun (r_1 : Int32) => if r_1 ≤ x3 then (k x2) else (if x2 = 0 then (k x2) else (if (M_start + x3) < 0 ∨ 600 ≤ (M_start + x3).toNatClampNeg then none else gb1 (fJ0_charAt_5068e i1 x3) fun (r_2 : Int32) => if (text ((M_start + x3).toNatClampNeg)) = r_2 then (fX10_isWord_L32 i1 M_start text k n 1 (x3 + 1)) else (fX10_isWord_L32 i1 M_start text k n 0 (x3 + 1))))
def fX10_isWord (i1 : Nat) (M_start : Int32) (M_next : Int32) (M_token : Int32) (text : (Nat → Int32)) : Option (Int32) := Lt (fun (t0_1 : Int32) => (fX10_isWord_L32 i1 M_start text (fun (x2_1 : Int32) => (if x2_1 &&& 1 = x2_1 then (some x2_1) else none)) FU t0_1 0)) fun (j_1 : Int32 → Option (Int32)) => Lt ((j_1 0) : Option (Int32)) fun (j_2 : Option (Int32)) => if M_token = 1 then (gb1 (fJ0_length_8abf5 i1) fun (r_1 : Int32) => if (M_next - M_start) = r_1 then (j_1 1) else (j_2)) else (j_2)
def fX10_fails (x1 : Int32) (M_start : Int32) (M_error : Int32) (M_errorAt : Int32) : Option (Int32 × Int32 × Int32) := if M_error = 0 then (some (0, x1, M_start)) else (some (0, M_error, M_errorAt))
def fX10_starts (x1 : Int32) (x2 : Int32) (M_textSize : Int32) (M_start : Int32) (M_next : Int32) (M_token : Int32) (M_value : Int32) (M_error : Int32) (M_errorAt : Int32) (text : (Nat → Int32)) : Option (Int32 × Int32 × Int32 × Int32 × Int32 × Int32 × Int32) := if x2 = 0 then (gb3 (fX10_fails x1 M_start M_error M_errorAt) fun (r_1 : Int32) (M_error_1 : Int32) (M_errorAt_1 : Int32) => some (r_1, M_start, M_next, M_token, M_value, M_error_1, M_errorAt_1)) else (gb4 (fX10_advance M_textSize M_start M_next M_token M_value text) fun (M_start_1 : Int32) (M_next_1 : Int32) (M_token_1 : Int32) (M_value_1 : Int32) => some (1, M_start_1, M_next_1, M_token_1, M_value_1, M_error, M_errorAt))
def fX10_takes (x1 : Int32) (x2 : Int32) (M_textSize : Int32) (M_start : Int32) (M_next : Int32) (M_token : Int32) (M_value : Int32) (M_error : Int32) (M_errorAt : Int32) (M_number : Int32) (text : (Nat → Int32)) : Option (Int32 × Int32 × Int32 × Int32 × Int32 × Int32 × Int32 × Int32) := if M_token = 2 then (gb1 (fX10_within M_value x1 x2) fun (r_1 : Int32) => if r_1 = 0 then (gb3 (fX10_fails 3 M_start M_error M_errorAt) fun (r_2 : Int32) (M_error_1 : Int32) (M_errorAt_1 : Int32) => some (r_2, M_start, M_next, M_token, M_value, M_error_1, M_errorAt_1, M_number)) else (gb4 (fX10_advance M_textSize M_start M_next M_token M_value text) fun (M_start_1 : Int32) (M_next_1 : Int32) (M_token_1 : Int32) (M_value_1 : Int32) => some (1, M_start_1, M_next_1, M_token_1, M_value_1, M_error, M_errorAt, M_value))) else (gb3 (fX10_fails 1 M_start M_error M_errorAt) fun (r_3 : Int32) (M_error_2 : Int32) (M_errorAt_2 : Int32) => some (r_3, M_start, M_next, M_token, M_value, M_error_2, M_errorAt_2, M_number))
def fX10_lays (x1 : Int32) (x2 : Int32) (x3 : Int32) (M_textSize : Int32) (M_start : Int32) (M_next : Int32) (M_token : Int32) (M_value : Int32) (M_error : Int32) (M_errorAt : Int32) (M_number : Int32) (now : (Nat → Int32)) (text : (Nat → Int32)) : Option (Int32 × Int32 × Int32 × Int32 × Int32 × Int32 × Int32 × Int32 × (Nat → Int32)) := gb8 (fX10_takes x2 x3 M_textSize M_start M_next M_token M_value M_error M_errorAt M_number text) fun (r_1 : Int32) (M_start_1 : Int32) (M_next_1 : Int32) (M_token_1 : Int32) (M_value_1 : Int32) (M_error_1 : Int32) (M_errorAt_1 : Int32) (M_number_1 : Int32) => if r_1 = 0 then (some (0, M_start_1, M_next_1, M_token_1, M_value_1, M_error_1, M_errorAt_1, M_number_1, now)) else (if x1 < 0 ∨ 365 ≤ x1.toNatClampNeg then none else Lt (upd now (x1.toNatClampNeg) M_number_1) fun (now_1 : (Nat → Int32)) => some (1, M_start_1, M_next_1, M_token_1, M_value_1, M_error_1, M_errorAt_1, M_number_1, now_1))
def fX10_closes (M_textSize : Int32) (M_start : Int32) (M_next : Int32) (M_token : Int32) (M_value : Int32) (M_error : Int32) (M_errorAt : Int32) (text : (Nat → Int32)) : Option (Int32 × Int32 × Int32 × Int32 × Int32 × Int32 × Int32) := Lt (fun (t0_1 : Int32) => (gb7 (fX10_starts 1 t0_1 M_textSize M_start M_next M_token M_value M_error M_errorAt text) fun (r_1 : Int32) (M_start_1 : Int32) (M_next_1 : Int32) (M_token_1 : Int32) (M_value_1 : Int32) (M_error_1 : Int32) (M_errorAt_1 : Int32) => some (r_1, M_start_1, M_next_1, M_token_1, M_value_1, M_error_1, M_errorAt_1))) fun (j_1 : Int32 → Option (Int32 × Int32 × Int32 × Int32 × Int32 × Int32 × Int32)) => if M_token = 3 then (j_1 1) else (j_1 0)
def fX10_spellsToken_L15 (M_start : Int32) (M_many : Int32) (text : (Nat → Int32)) (k : (Nat → Int32) → Option (Int32 × (Nat → Int32))) : Nat → Int32 → (Nat → Int32) → Option (Int32 × (Nat → Int32))
  | 0, _, _ => none
  | n + 1, x1, spelled => if M_many ≤ x1 then (k spelled) else (if (M_start + x1) < 0 ∨ 600 ≤ (M_start + x1).toNatClampNeg then none else if x1 < 0 ∨ 12 ≤ x1.toNatClampNeg then none else Lt (upd spelled (x1.toNatClampNeg) ((text ((M_start + x1).toNatClampNeg)) - 96)) fun (spelled_1 : (Nat → Int32)) => fX10_spellsToken_L15 M_start M_many text k n (x1 + 1) spelled_1)
def fX10_spellsToken (M_start : Int32) (M_next : Int32) (M_many : Int32) (text : (Nat → Int32)) (spelled : (Nat → Int32)) : Option (Int32 × (Nat → Int32)) := fX10_spellsToken_L15 M_start (M_next - M_start) text (fun (spelled_1 : (Nat → Int32)) => (some (M_next - M_start, spelled_1))) FU 0 spelled
def fX10_name_L4 (M_many : Int32) (spelled : (Nat → Int32)) (k : Int64 → Option (Int64)) : Nat → Int64 → Int32 → Option (Int64)
  | 0, _, _ => none
  | n + 1, x1, x3 => if M_many ≤ x3 then (k x1) else (if x3 < 0 ∨ 12 ≤ x3.toNatClampNeg then none else fX10_name_L4 M_many spelled k n ((glshl x1 5) ||| ((spelled (x3.toNatClampNeg)).toInt64)) (x3 + 1))
def fX10_name (M_many : Int32) (spelled : (Nat → Int32)) : Option (Int64) := fX10_name_L4 M_many spelled (fun (x1_1 : Int64) => (some x1_1)) FU 0 0
def fX10_userNamed_L7 (x1 : Int64) (M_many : Int32) (now : (Nat → Int32)) (names : (Nat → Int64)) (spelled : (Nat → Int32)) (k : Option (Int32)) : Nat → Int32 → Option (Int32)
  | 0, _ => none
  | n + 1, x3 => if (now 5) ≤ x3 then (k) else (if x3 < 0 ∨ 4 ≤ x3.toNatClampNeg then none else if (lg_cmp (names (x3.toNatClampNeg)) x1) = 0 then (some x3) else (fX10_userNamed_L7 x1 M_many now names spelled k n (x3 + 1)))
def fX10_userNamed (M_many : Int32) (now : (Nat → Int32)) (names : (Nat → Int64)) (spelled : (Nat → Int32)) : Option (Int32) := gb1 (fX10_name M_many spelled) fun (r_1 : Int64) => fX10_userNamed_L7 r_1 M_many now names spelled (some (-1)) FU 0
def fX10_spells (M_start : Int32) (M_next : Int32) (M_token : Int32) (M_error : Int32) (M_errorAt : Int32) (M_many : Int32) (text : (Nat → Int32)) (spelled : (Nat → Int32)) : Option (Int32 × Int32 × Int32 × Int32 × (Nat → Int32)) := if M_token = 1 then (gb2 (fX10_spellsToken M_start M_next M_many text spelled) fun (M_many_1 : Int32) (spelled_1 : (Nat → Int32)) => some (1, M_error, M_errorAt, M_many_1, spelled_1)) else (gb3 (fX10_fails 1 M_start M_error M_errorAt) fun (r_1 : Int32) (M_error_1 : Int32) (M_errorAt_1 : Int32) => some (r_1, M_error_1, M_errorAt_1, M_many, spelled))
def fX10_userLine (M_textSize : Int32) (M_start : Int32) (M_next : Int32) (M_token : Int32) (M_value : Int32) (M_error : Int32) (M_errorAt : Int32) (M_number : Int32) (M_many : Int32) (now : (Nat → Int32)) (names : (Nat → Int64)) (text : (Nat → Int32)) (spelled : (Nat → Int32)) : Option (Int32 × Int32 × Int32 × Int32 × Int32 × Int32 × Int32 × Int32 × Int32 × (Nat → Int32) × (Nat → Int64) × (Nat → Int32)) := Lt (fun (t0_1 : Int32) => (gb7 (fX10_starts 5 t0_1 M_textSize M_start M_next M_token M_value M_error M_errorAt text) fun (r_1 : Int32) (M_start_1 : Int32) (M_next_1 : Int32) (M_token_1 : Int32) (M_value_1 : Int32) (M_error_1 : Int32) (M_errorAt_1 : Int32) => if r_1 = 0 then (some (0, M_start_1, M_next_1, M_token_1, M_value_1, M_error_1, M_errorAt_1, M_number, M_many, now, names, spelled)) else (gb5 (fX10_spells M_start_1 M_next_1 M_token_1 M_error_1 M_errorAt_1 M_many text spelled) fun (r_2 : Int32) (M_error_2 : Int32) (M_errorAt_2 : Int32) (M_many_1 : Int32) (spelled_1 : (Nat → Int32)) => if r_2 = 0 then (some (0, M_start_1, M_next_1, M_token_1, M_value_1, M_error_2, M_errorAt_2, M_number, M_many_1, now, names, spelled_1)) else (gb1 (fX10_name M_many_1 spelled_1) fun (r_3 : Int64) => gb1 (fX10_userNamed M_many_1 now names spelled_1) fun (r_4 : Int32) => Lt (fun (t0_2 : Int32) => (gb7 (fX10_starts 2 t0_2 M_textSize M_start_1 M_next_1 M_token_1 M_value_1 M_error_2 M_errorAt_2 text) fun (r_5 : Int32) (M_start_2 : Int32) (M_next_2 : Int32) (M_token_2 : Int32) (M_value_2 : Int32) (M_error_3 : Int32) (M_errorAt_3 : Int32) => if r_5 = 0 then (some (0, M_start_2, M_next_2, M_token_2, M_value_2, M_error_3, M_errorAt_3, M_number, M_many_1, now, names, spelled_1)) else (gb9 (fX10_lays (17 + (now 5)) 0 9999 M_textSize M_start_2 M_next_2 M_token_2 M_value_2 M_error_3 M_errorAt_3 M_number now text) fun (r_6 : Int32) (M_start_3 : Int32) (M_next_3 : Int32) (M_token_3 : Int32) (M_value_3 : Int32) (M_error_4 : Int32) (M_errorAt_4 : Int32) (M_number_1 : Int32) (now_1 : (Nat → Int32)) => if r_6 = 0 then (some (0, M_start_3, M_next_3, M_token_3, M_value_3, M_error_4, M_errorAt_4, M_number_1, M_many_1, now_1, names, spelled_1)) else (if (now 5) < 0 ∨ 4 ≤ (now 5).toNatClampNeg then none else Lt (vp_updL names ((now 5).toNatClampNeg) r_3) fun (names_1 : (Nat → Int64)) => Lt (upd now_1 5 ((now_1 5) + 1)) fun (now_2 : (Nat → Int32)) => some (1, M_start_3, M_next_3, M_token_3, M_value_3, M_error_4, M_errorAt_4, M_number_1, M_many_1, now_2, names_1, spelled_1))))) fun (j_2 : Int32 → Option (Int32 × Int32 × Int32 × Int32 × Int32 × Int32 × Int32 × Int32 × Int32 × (Nat → Int32) × (Nat → Int64) × (Nat → Int32))) => if r_4 = (-1) then (j_2 1) else (j_2 0))))) fun (j_1 : Int32 → Option (Int32 × Int32 × Int32 × Int32 × Int32 × Int32 × Int32 × Int32 × Int32 × (Nat → Int32) × (Nat → Int64) × (Nat → Int32))) => if 4 ≤ (now 5) then (j_1 0) else (j_1 1)
def fX10_code_L5 (x1 : Int32) (x2 : Int32) (spelled : (Nat → Int32)) (k : Int32 → Option (Int32)) : Nat → Int32 → Int32 → Option (Int32)
  | 0, _, _ => none
  | n + 1, x3, x4 => if x2 ≤ x4 then (k x3) else (if (x1 + x4) < 0 ∨ 12 ≤ (x1 + x4).toNatClampNeg then none else fX10_code_L5 x1 x2 spelled k n ((x3 <<< (5 &&& 31)) ||| (spelled ((x1 + x4).toNatClampNeg))) (x4 + 1))
def fX10_code (x1 : Int32) (x2 : Int32) (spelled : (Nat → Int32)) : Option (Int32) := fX10_code_L5 x1 x2 spelled (fun (x3_1 : Int32) => (some x3_1)) FU 0 0
def fX10_ofPiece (x1 : Int32) (x2 : Int32) (now : (Nat → Int32)) : Option (Int32) := if ((21 + (5 * x1)) + x2) < 0 ∨ 365 ≤ ((21 + (5 * x1)) + x2).toNatClampNeg then none else some (now (((21 + (5 * x1)) + x2).toNatClampNeg))
def fX10_pieceOf_L2 (x1 : Int32) (now : (Nat → Int32)) (k : Option (Int32)) : Nat → Int32 → Option (Int32)
  | 0, _ => none
  | n + 1, x2 => if (now 9) ≤ x2 then (k) else (gb1 (fX10_ofPiece x2 0 now) fun (r_1 : Int32) => if r_1 = x1 then (some x2) else (fX10_pieceOf_L2 x1 now k n (x2 + 1)))
def fX10_pieceOf (x1 : Int32) (now : (Nat → Int32)) : Option (Int32) := fX10_pieceOf_L2 x1 now (some (-1)) FU 0
def fX10_comes (x1 : Int32) (x2 : Int32) (x3 : Int32) (now : (Nat → Int32)) : Option (Int32 × (Nat → Int32)) := if ((21 + (5 * (now 9))) + 0) < 0 ∨ 365 ≤ ((21 + (5 * (now 9))) + 0).toNatClampNeg then none else Lt (upd now (((21 + (5 * (now 9))) + 0).toNatClampNeg) x1) fun (now_1 : (Nat → Int32)) => if ((21 + (5 * (now 9))) + 1) < 0 ∨ 365 ≤ ((21 + (5 * (now 9))) + 1).toNatClampNeg then none else Lt (upd now_1 (((21 + (5 * (now 9))) + 1).toNatClampNeg) x2) fun (now_2 : (Nat → Int32)) => if ((21 + (5 * (now 9))) + 2) < 0 ∨ 365 ≤ ((21 + (5 * (now 9))) + 2).toNatClampNeg then none else Lt (upd now_2 (((21 + (5 * (now 9))) + 2).toNatClampNeg) x3) fun (now_3 : (Nat → Int32)) => if ((21 + (5 * (now 9))) + 3) < 0 ∨ 365 ≤ ((21 + (5 * (now 9))) + 3).toNatClampNeg then none else Lt (upd now_3 (((21 + (5 * (now 9))) + 3).toNatClampNeg) 0) fun (now_4 : (Nat → Int32)) => if ((21 + (5 * (now 9))) + 4) < 0 ∨ 365 ≤ ((21 + (5 * (now 9))) + 4).toNatClampNeg then none else Lt (upd now_4 (((21 + (5 * (now 9))) + 4).toNatClampNeg) (now_4 6)) fun (now_5 : (Nat → Int32)) => Lt (upd now_5 9 ((now_5 9) + 1)) fun (now_6 : (Nat → Int32)) => some (now 9, now_6)
def fX10_pieceLine (M_textSize : Int32) (M_start : Int32) (M_next : Int32) (M_token : Int32) (M_value : Int32) (M_error : Int32) (M_errorAt : Int32) (M_many : Int32) (now : (Nat → Int32)) (text : (Nat → Int32)) (spelled : (Nat → Int32)) : Option (Int32 × Int32 × Int32 × Int32 × Int32 × Int32 × Int32 × Int32 × (Nat → Int32) × (Nat → Int32)) := Lt (fun (t0_1 : Int32) => (gb7 (fX10_starts 5 t0_1 M_textSize M_start M_next M_token M_value M_error M_errorAt text) fun (r_1 : Int32) (M_start_1 : Int32) (M_next_1 : Int32) (M_token_1 : Int32) (M_value_1 : Int32) (M_error_1 : Int32) (M_errorAt_1 : Int32) => if r_1 = 0 then (some (0, M_start_1, M_next_1, M_token_1, M_value_1, M_error_1, M_errorAt_1, M_many, now, spelled)) else (gb5 (fX10_spells M_start_1 M_next_1 M_token_1 M_error_1 M_errorAt_1 M_many text spelled) fun (r_2 : Int32) (M_error_2 : Int32) (M_errorAt_2 : Int32) (M_many_1 : Int32) (spelled_1 : (Nat → Int32)) => if r_2 = 0 then (some (0, M_start_1, M_next_1, M_token_1, M_value_1, M_error_2, M_errorAt_2, M_many_1, now, spelled_1)) else (if M_many_1 ≤ 6 then (gb1 (fX10_code 0 M_many_1 spelled_1) fun (r_3 : Int32) => gb1 (fX10_pieceOf r_3 now) fun (r_4 : Int32) => Lt (fun (t0_2 : Int32) => (gb7 (fX10_starts 2 t0_2 M_textSize M_start_1 M_next_1 M_token_1 M_value_1 M_error_2 M_errorAt_2 text) fun (r_5 : Int32) (M_start_2 : Int32) (M_next_2 : Int32) (M_token_2 : Int32) (M_value_2 : Int32) (M_error_3 : Int32) (M_errorAt_3 : Int32) => if r_5 = 0 then (some (0, M_start_2, M_next_2, M_token_2, M_value_2, M_error_3, M_errorAt_3, M_many_1, now, spelled_1)) else (gb2 (fX10_comes r_3 0 (-1) now) fun (r_6 : Int32) (now_1 : (Nat → Int32)) => some (1, M_start_2, M_next_2, M_token_2, M_value_2, M_error_3, M_errorAt_3, M_many_1, now_1, spelled_1)))) fun (j_2 : Int32 → Option (Int32 × Int32 × Int32 × Int32 × Int32 × Int32 × Int32 × Int32 × (Nat → Int32) × (Nat → Int32))) => if r_4 = (-1) then (j_2 1) else (j_2 0)) else (gb3 (fX10_fails 3 M_start_1 M_error_2 M_errorAt_2) fun (r_7 : Int32) (M_error_4 : Int32) (M_errorAt_4 : Int32) => some (r_7, M_start_1, M_next_1, M_token_1, M_value_1, M_error_4, M_errorAt_4, M_many_1, now, spelled_1)))))) fun (j_1 : Int32 → Option (Int32 × Int32 × Int32 × Int32 × Int32 × Int32 × Int32 × Int32 × (Nat → Int32) × (Nat → Int32))) => if 24 ≤ (now 9) then (j_1 0) else (j_1 1)
def fX10_lettersOf_L4 (k : Int32 → Option (Int32)) : Nat → Int32 → Int32 → Option (Int32)
  | 0, _, _ => none
  | n + 1, x1, x2 => if x2 ≤ 0 then (k x1) else (fX10_lettersOf_L4 k n (x1 + 1) (x2 >>> (5 &&& 31)))
def fX10_lettersOf (x0 : Int32) : Option (Int32) := fX10_lettersOf_L4 (fun (x1_1 : Int32) => (some x1_1)) FU 0 x0
def fX10_priceOf (x1 : Int32) (now : (Nat → Int32)) : Option (Int32) := gb1 (fX10_lettersOf x1) fun (r_1 : Int32) => some ((now 0) + ((now 1) * r_1))
def fX10_triesFirst (x1 : Int32) (x2 : Int32) (x3 : Int32) (x4 : Int32) (now : (Nat → Int32)) (spelled : (Nat → Int32)) (cost : (Nat → Int32)) (fewestFrom : (Nat → Int32)) (first : (Nat → Int32)) : Option ((Nat → Int32) × (Nat → Int32) × (Nat → Int32)) := gb1 (fX10_code x1 x2 spelled) fun (r_1 : Int32) => Lt (fun (t0_1 : Int32) => (Lt ((if (x1 + x2) < 0 ∨ 13 ≤ (x1 + x2).toNatClampNeg then none else if (cost ((x1 + x2).toNatClampNeg)) < 1000000 then (if (x1 + x2) < 0 ∨ 13 ≤ (x1 + x2).toNatClampNeg then none else Lt (fun (t0_2 : Int32) => (if (x1 + x2) < 0 ∨ 13 ≤ (x1 + x2).toNatClampNeg then none else if x1 < 0 ∨ 13 ≤ x1.toNatClampNeg then none else Lt ((if x1 < 0 ∨ 13 ≤ x1.toNatClampNeg then none else Lt (upd cost (x1.toNatClampNeg) (((cost ((x1 + x2).toNatClampNeg)) + (now 2)) + t0_2)) fun (cost_1 : (Nat → Int32)) => if x1 < 0 ∨ 13 ≤ x1.toNatClampNeg then none else Lt (upd fewestFrom (x1.toNatClampNeg) ((fewestFrom ((x1 + x2).toNatClampNeg)) + 1)) fun (fewestFrom_1 : (Nat → Int32)) => if x1 < 0 ∨ 13 ≤ x1.toNatClampNeg then none else Lt (upd first (x1.toNatClampNeg) x2) fun (first_1 : (Nat → Int32)) => some (cost_1, fewestFrom_1, first_1)) : Option ((Nat → Int32) × (Nat → Int32) × (Nat → Int32))) fun (j_4 : Option ((Nat → Int32) × (Nat → Int32) × (Nat → Int32))) => if (((cost ((x1 + x2).toNatClampNeg)) + (now 2)) + t0_2) < (cost (x1.toNatClampNeg)) then (j_4) else (if x1 < 0 ∨ 13 ≤ x1.toNatClampNeg then none else if (((cost ((x1 + x2).toNatClampNeg)) + (now 2)) + t0_2) = (cost (x1.toNatClampNeg)) then (if x1 < 0 ∨ 13 ≤ x1.toNatClampNeg then none else if (fewestFrom (x1.toNatClampNeg)) ≤ ((fewestFrom ((x1 + x2).toNatClampNeg)) + 1) then (some (cost, fewestFrom, first)) else (j_4)) else (some (cost, fewestFrom, first))))) fun (j_3 : Int32 → Option ((Nat → Int32) × (Nat → Int32) × (Nat → Int32))) => if t0_1 = 0 then (gb1 (fX10_priceOf r_1 now) fun (r_2 : Int32) => j_3 r_2) else (j_3 0)) else (some (cost, fewestFrom, first))) : Option ((Nat → Int32) × (Nat → Int32) × (Nat → Int32))) fun (j_2 : Option ((Nat → Int32) × (Nat → Int32) × (Nat → Int32))) => if t0_1 = 0 then (if x3 = 0 then (some (cost, fewestFrom, first)) else (j_2)) else (j_2))) fun (j_1 : Int32 → Option ((Nat → Int32) × (Nat → Int32) × (Nat → Int32))) => Lt ((j_1 1) : Option ((Nat → Int32) × (Nat → Int32) × (Nat → Int32))) fun (j_5 : Option ((Nat → Int32) × (Nat → Int32) × (Nat → Int32))) => if r_1 = x4 then (j_5) else (gb1 (fX10_pieceOf r_1 now) fun (r_3 : Int32) => if r_3 = (-1) then (j_1 0) else (j_5))
set_option maxHeartbeats 4000000 in
set_option maxRecDepth 100000 in
theorem ctX10_thrown (l : Launch) (E : gE) (aM anow aaside anames anamesAside atext aspelled acost afewestFrom afirst afresh aways aundo aslots aisSaved : Nat → Nat) (M_thrown : Int32) (M_length : Int32) (M_textSize : Int32) (M_start : Int32) (M_next : Int32) (M_token : Int32) (M_value : Int32) (M_error : Int32) (M_errorAt : Int32) (M_number : Int32) (M_many : Int32) (M_freshMany : Int32) (M_undos : Int32) (r : Int32) (hf : fX10_thrown M_thrown = some r) : gMet l yX10_thrown wsX10_thrown rmX10_thrown vwCl E [.ref (aM 0)] [sModel E aM anow aaside anames anamesAside atext aspelled acost afewestFrom afirst afresh aways aundo aslots aisSaved M_thrown M_length M_textSize M_start M_next M_token M_value M_error M_errorAt M_number M_many M_freshMany M_undos] (fun v w => v = some (.int r) ∧ w = [sModel E aM anow aaside anames anamesAside atext aspelled acost afewestFrom afirst afresh aways aundo aslots aisSaved M_thrown M_length M_textSize M_start M_next M_token M_value M_error M_errorAt M_number M_many M_freshMany M_undos]) 0 0 := by
  refine g_entry [some (.ref (aM 0))] (by decide) rfl (Nat.le_of_ble_eq_true rfl) rfl ?_
  intro p e s m below meth c A F hnm
  unfold fX10_thrown at hf
  refine g_aload_n F dX10_thrown_0 rfl ?_
  refine g_get (C := RX10) (T := TX10) (N := 27) F 0 0 0 rfl rfl rfl iX10_thrown_X10 (by decide) (by decide +kernel) rfl dX10_thrown_1 ?_
  cases hf
  exact g_iret F rfl ⟨rfl, rfl⟩ dX10_thrown_4
set_option maxHeartbeats 4000000 in
set_option maxRecDepth 100000 in
theorem ctX10_within (l : Launch) (E : gE) (x0 : Int32) (x1 : Int32) (x2 : Int32) (r : Int32) (hf : fX10_within x0 x1 x2 = some r) : gMet l yX10_within wsX10_within rmX10_within vwCl E [.int x0, .int x1, .int x2] [] (fun v w => v = some (.int r) ∧ w = [] ∧ narrow .boolean (.int r) = .int r) 0 0 := by
  refine g_entry [some (.int x0), some (.int x1), some (.int x2)] (by decide) rfl (Nat.le_of_ble_eq_true rfl) rfl ?_
  intro p e s m below meth c A F hnm
  unfold fX10_within at hf
  refine g_iload_n F dX10_within_0 rfl ?_
  refine g_iload_n F dX10_within_1 rfl ?_
  refine g_icmp_lt F 14 dX10_within_2 (by decide) (fun hc_2 => ?_) (fun hc_2 => ?_)
  · replace hf := gi_t hc_2 hf
    refine g_iconst F 0 dX10_within_14 rfl ?_
    cases hf
    exact g_zret (ty := .boolean) F rfl rfl ⟨rfl, rfl, rfl⟩ dX10_within_15
  · replace hf := gi_f hc_2 hf
    refine g_iload_n F dX10_within_5 rfl ?_
    refine g_iload_n F dX10_within_6 rfl ?_
    refine g_icmp_gt F 14 dX10_within_7 (by decide) (fun hc_1 => ?_) (fun hc_1 => ?_)
    · replace hf := gi_t hc_1 hf
      refine g_iconst F 0 dX10_within_14 rfl ?_
      cases hf
      exact g_zret (ty := .boolean) F rfl rfl ⟨rfl, rfl, rfl⟩ dX10_within_15
    · replace hf := gi_f hc_1 hf
      refine g_iconst F 1 dX10_within_10 rfl ?_
      refine g_goto F 15 dX10_within_11 (by decide) ?_
      cases hf
      exact g_zret (ty := .boolean) F rfl rfl ⟨rfl, rfl, rfl⟩ dX10_within_15
set_option maxHeartbeats 4000000 in
set_option maxRecDepth 100000 in
theorem ctX10_throwsIf (l : Launch) (E : gE) (aM anow aaside anames anamesAside atext aspelled acost afewestFrom afirst afresh aways aundo aslots aisSaved : Nat → Nat) (x1 : Int32) (x2 : Int32) (M_thrown : Int32) (M_length : Int32) (M_textSize : Int32) (M_start : Int32) (M_next : Int32) (M_token : Int32) (M_value : Int32) (M_error : Int32) (M_errorAt : Int32) (M_number : Int32) (M_many : Int32) (M_freshMany : Int32) (M_undos : Int32) (r : Int32) (M_thrown' : Int32) (hf : fX10_throwsIf x1 x2 M_thrown = some (r, M_thrown')) : gMet l yX10_throwsIf wsX10_throwsIf rmX10_throwsIf vwCl E [.ref (aM 0), .int x1, .int x2] [sModel E aM anow aaside anames anamesAside atext aspelled acost afewestFrom afirst afresh aways aundo aslots aisSaved M_thrown M_length M_textSize M_start M_next M_token M_value M_error M_errorAt M_number M_many M_freshMany M_undos] (fun v w => v = some (.int r) ∧ w = [sModel E aM anow aaside anames anamesAside atext aspelled acost afewestFrom afirst afresh aways aundo aslots aisSaved M_thrown' M_length M_textSize M_start M_next M_token M_value M_error M_errorAt M_number M_many M_freshMany M_undos] ∧ narrow .boolean (.int r) = .int r) 0 0 := by
  refine g_entry [some (.ref (aM 0)), some (.int x1), some (.int x2)] (by decide) rfl (Nat.le_of_ble_eq_true rfl) rfl ?_
  intro p e s m below meth c A F hnm
  unfold fX10_throwsIf at hf
  refine g_aload_n F dX10_throwsIf_0 rfl ?_
  refine g_get (C := RX10) (T := TX10) (N := 27) F 0 0 0 rfl rfl rfl iX10_throwsIf_X10 (by decide) (by decide +kernel) rfl dX10_throwsIf_1 ?_
  obtain ⟨j_1, hj_1, hf⟩ := Lt_el hf
  have hj_1 : ∀ (M_thrown_1 : Int32), j_1 M_thrown_1 = some (r, M_thrown') → Gj p l e rmX10_throwsIf s m ([.ref (aM 0), .int x1, .int x2] : List Value).toArray below meth c 0 0 (MQ below (gQ vwCl E A (fun v w => v = some (.int r) ∧ w = [sModel E aM anow aaside anames anamesAside atext aspelled acost afewestFrom afirst afresh aways aundo aslots aisSaved M_thrown' M_length M_textSize M_start M_next M_token M_value M_error M_errorAt M_number M_many M_freshMany M_undos] ∧ narrow .boolean (.int r) = .int r)) ([.ref (aM 0), .int x1, .int x2] : List Value).toArray s 0 0 A) vwCl E A [sModel E aM anow aaside anames anamesAside atext aspelled acost afewestFrom afirst afresh aways aundo aslots aisSaved M_thrown_1 M_length M_textSize M_start M_next M_token M_value M_error M_errorAt M_number M_many M_freshMany M_undos] [some (.ref (aM 0)), none, none] [] 16 := by
    intro M_thrown_1 hf
    rw [hj_1] at hf
    refine g_aload_n F dX10_throwsIf_16 rfl ?_
    refine g_get (C := RX10) (T := TX10) (N := 27) F 0 0 0 rfl rfl rfl iX10_throwsIf_X10 (by decide) (by decide +kernel) rfl dX10_throwsIf_17 ?_
    refine g_ifle F 27 dX10_throwsIf_20 (by decide) (fun hc_1 => ?_) (fun hc_1 => ?_)
    · replace hf := gi_t hc_1 hf
      refine g_iconst F 0 dX10_throwsIf_27 rfl ?_
      cases hf
      exact g_zret (ty := .boolean) F rfl rfl ⟨rfl, rfl, rfl⟩ dX10_throwsIf_28
    · replace hf := gi_f hc_1 hf
      refine g_iconst F 1 dX10_throwsIf_23 rfl ?_
      refine g_goto F 28 dX10_throwsIf_24 (by decide) ?_
      cases hf
      exact g_zret (ty := .boolean) F rfl rfl ⟨rfl, rfl, rfl⟩ dX10_throwsIf_28
  refine g_ifne F 16 dX10_throwsIf_4 (by decide) (fun hc_3 => ?_) (fun hc_3 => ?_)
  · replace hf := gi_f hc_3 hf
    refine g_mask [true, false, false] rfl ?_
    exact hj_1 M_thrown hf
  · replace hf := gi_t hc_3 hf
    refine g_iload_n F dX10_throwsIf_7 rfl ?_
    refine g_ifeq F 16 dX10_throwsIf_8 (by decide) (fun hc_2 => ?_) (fun hc_2 => ?_)
    · replace hf := gi_t hc_2 hf
      refine g_mask [true, false, false] rfl ?_
      exact hj_1 M_thrown hf
    · replace hf := gi_f hc_2 hf
      refine g_aload_n F dX10_throwsIf_11 rfl ?_
      refine g_iload_n F dX10_throwsIf_12 rfl ?_
      refine g_put (C := RX10) (T := TX10) (N := 27) (tys := tyX10) (Lw' := [sModel E aM anow aaside anames anamesAside atext aspelled acost afewestFrom afirst afresh aways aundo aslots aisSaved x2 M_length M_textSize M_start M_next M_token M_value M_error M_errorAt M_number M_many M_freshMany M_undos]) F 0 0 0 rfl rfl rfl iX10_throwsIf_X10 tyX10_ok nmX10 (by decide) (by decide +kernel) rfl rfl rfl rfl (Nat.le_of_ble_eq_true rfl) dX10_throwsIf_13 rfl ?_
      refine g_mask [true, false, false] rfl ?_
      exact hj_1 x2 hf
set_option maxHeartbeats 4000000 in
set_option maxRecDepth 100000 in
theorem ktX10_puts_L2 {p : Program} {l : Launch} {e : Env} {s : State} {m : MethodId} {args : Array Value} {below : List Frame} {meth : Method} {c : Code} {E : gE} {A : Nat → Prop} (F : gFx p s m args meth c RX10 wsX10_puts cX10_puts 3 none vwCl E A) (ap0 ap1 : Nat → Nat) (n_p0 : Nat) (n_p1 : Nat) (p0 : (Nat → Int32)) (p1' : (Nat → Int32)) {k : (Nat → Int32) → Option ((Nat → Int32))} (hk : ∀ (p1 : (Nat → Int32)), k p1 = some p1' → Gj p l e rmX10_puts s m args below meth c 0 0 (MQ below (gQ vwCl E A (fun v w => v = none ∧ w = [sArrI E ap0 n_p0 p0, sArrI E ap1 n_p1 p1'])) args s 0 0 A) vwCl E A [sArrI E ap0 n_p0 p0, sArrI E ap1 n_p1 p1] [none, none, none] [] 21) : ∀ (n : Nat) (x2 : Int32) (p1 : (Nat → Int32)), fX10_puts_L2 n_p0 n_p1 p0 k n x2 p1 = some p1' → Gj p l e rmX10_puts s m args below meth c 0 0 (MQ below (gQ vwCl E A (fun v w => v = none ∧ w = [sArrI E ap0 n_p0 p0, sArrI E ap1 n_p1 p1'])) args s 0 0 A) vwCl E A [sArrI E ap0 n_p0 p0, sArrI E ap1 n_p1 p1] [some (.ref (ap0 0)), some (.ref (ap1 0)), some (.int x2)] [] 2
  | 0, _, _, hf => by cases hf
  | n + 1, x2, p1, hf => by
    have ih := ktX10_puts_L2 F ap0 ap1 n_p0 n_p1 p0 p1' hk n
    rw [fX10_puts_L2] at hf
    refine g_iload_n F dX10_puts_2 rfl ?_
    refine g_sipush F 365 dX10_puts_3 rfl ?_
    refine g_icmp_ge F 21 dX10_puts_6 (by decide) (fun hc_1 => ?_) (fun hc_1 => ?_)
    · replace hf := gi_t hc_1 hf
      refine g_mask [false, false, false] rfl ?_
      exact hk p1 hf
    · replace hf := gi_f hc_1 hf
      refine g_aload_n F dX10_puts_9 rfl ?_
      refine g_iload_n F dX10_puts_10 rfl ?_
      refine g_aload_n F dX10_puts_11 rfl ?_
      refine g_iload_n F dX10_puts_12 rfl ?_
      obtain ⟨hb_1, hf⟩ := gb_in hf
      refine g_iald F 0 0 (x2.toNatClampNeg) rfl rfl rfl hb_1 dX10_puts_13 ?_
      obtain ⟨hb_2, hf⟩ := gb_in hf
      obtain ⟨p1_1, hp1_1, hf⟩ := Lt_el hf
      refine g_iast (Lw' := [sArrI E ap0 n_p0 p0, sArrI E ap1 n_p1 p1_1]) F 1 0 (x2.toNatClampNeg) rfl rfl rfl hb_2 dX10_puts_14 (by subst hp1_1; rfl) ?_
      refine g_iinc (lv' := [some (.ref (ap0 0)), some (.ref (ap1 0)), some (.int (x2 + 1))]) F (x2 + 1) dX10_puts_15 rfl rfl rfl rfl ?_
      refine g_goto F 2 dX10_puts_18 (by decide) ?_
      exact ih (x2 + 1) p1_1 hf
set_option maxHeartbeats 4000000 in
set_option maxRecDepth 100000 in
theorem ctX10_puts (l : Launch) (E : gE) (ap0 ap1 : Nat → Nat) (n_p0 : Nat) (n_p1 : Nat) (p0 : (Nat → Int32)) (p1 : (Nat → Int32)) (p1' : (Nat → Int32)) (hf : fX10_puts n_p0 n_p1 p0 p1 = some p1') : gMet l yX10_puts wsX10_puts rmX10_puts vwCl E [.ref (ap0 0), .ref (ap1 0)] [sArrI E ap0 n_p0 p0, sArrI E ap1 n_p1 p1] (fun v w => v = none ∧ w = [sArrI E ap0 n_p0 p0, sArrI E ap1 n_p1 p1']) 0 0 := by
  refine g_entry [some (.ref (ap0 0)), some (.ref (ap1 0)), none] (by decide) rfl (Nat.le_of_ble_eq_true rfl) rfl ?_
  intro p e s m below meth c A F hnm
  unfold fX10_puts at hf
  refine g_iconst F 0 dX10_puts_0 rfl ?_
  refine g_istore_n (lv' := [some (.ref (ap0 0)), some (.ref (ap1 0)), some (.int 0)]) F dX10_puts_1 (Nat.le_of_ble_eq_true rfl) rfl rfl ?_
  refine ktX10_puts_L2 F ap0 ap1 n_p0 n_p1 p0 p1' (fun p1_1 hf => ?_) FU 0 p1 hf
  cases hf
  exact g_vret F rfl ⟨rfl, rfl⟩ dX10_puts_21
set_option maxHeartbeats 4000000 in
set_option maxRecDepth 100000 in
theorem ktX10_bytesOf_L3 {p : Program} {l : Launch} {e : Env} {s : State} {m : MethodId} {args : Array Value} {below : List Frame} {meth : Method} {c : Code} {E : gE} {A : Nat → Prop} (F : gFx p s m args meth c RX10 wsX10_bytesOf cX10_bytesOf 3 none vwCl E A) (aM anow aaside anames anamesAside atext aspelled acost afewestFrom afirst afresh aways aundo aslots aisSaved : Nat → Nat) (x1 : Int32) (M_thrown : Int32) (M_textSize : Int32) (M_start : Int32) (M_next : Int32) (M_token : Int32) (M_value : Int32) (M_error : Int32) (M_errorAt : Int32) (M_number : Int32) (M_many : Int32) (M_freshMany : Int32) (M_undos : Int32) (M_length' : Int32) (text' : (Nat → Int32)) {k : Int32 → (Nat → Int32) → Option (Int32 × (Nat → Int32))} (hk : ∀ (M_length : Int32) (text : (Nat → Int32)), k M_length text = some (M_length', text') → Gj p l e rmX10_bytesOf s m args below meth c 0 0 (MQ below (gQ vwCl E A (fun v w => v = none ∧ w = [sModel E aM anow aaside anames anamesAside atext aspelled acost afewestFrom afirst afresh aways aundo aslots aisSaved M_thrown M_length' M_textSize M_start M_next M_token M_value M_error M_errorAt M_number M_many M_freshMany M_undos, sArrB E atext 600 text'])) args s 0 0 A) vwCl E A [sModel E aM anow aaside anames anamesAside atext aspelled acost afewestFrom afirst afresh aways aundo aslots aisSaved M_thrown M_length M_textSize M_start M_next M_token M_value M_error M_errorAt M_number M_many M_freshMany M_undos, sArrB E atext 600 text] [none, none, none] [] 36) : ∀ (n : Nat) (x2 : Int32) (M_length : Int32) (text : (Nat → Int32)), fX10_bytesOf_L3 x1 k n x2 M_length text = some (M_length', text') → Gj p l e rmX10_bytesOf s m args below meth c 0 0 (MQ below (gQ vwCl E A (fun v w => v = none ∧ w = [sModel E aM anow aaside anames anamesAside atext aspelled acost afewestFrom afirst afresh aways aundo aslots aisSaved M_thrown M_length' M_textSize M_start M_next M_token M_value M_error M_errorAt M_number M_many M_freshMany M_undos, sArrB E atext 600 text'])) args s 0 0 A) vwCl E A [sModel E aM anow aaside anames anamesAside atext aspelled acost afewestFrom afirst afresh aways aundo aslots aisSaved M_thrown M_length M_textSize M_start M_next M_token M_value M_error M_errorAt M_number M_many M_freshMany M_undos, sArrB E atext 600 text] [some (.ref (aM 0)), some (.int x1), some (.int x2)] [] 3
  | 0, _, _, _, hf => by cases hf
  | n + 1, x2, M_length, text, hf => by
    have ih := ktX10_bytesOf_L3 F aM anow aaside anames anamesAside atext aspelled acost afewestFrom afirst afresh aways aundo aslots aisSaved x1 M_thrown M_textSize M_start M_next M_token M_value M_error M_errorAt M_number M_many M_freshMany M_undos M_length' text' hk n
    rw [fX10_bytesOf_L3] at hf
    refine g_iload_n F dX10_bytesOf_3 rfl ?_
    refine g_iflt F 36 dX10_bytesOf_4 (by decide) (fun hc_1 => ?_) (fun hc_1 => ?_)
    · replace hf := gi_t hc_1 hf
      refine g_mask [false, false, false] rfl ?_
      exact hk M_length text hf
    · replace hf := gi_f hc_1 hf
      refine g_aload_n F dX10_bytesOf_7 rfl ?_
      refine g_get (C := RX10) (T := TX10) (N := 27) F 0 0 5 rfl rfl rfl iX10_bytesOf_X10 (by decide) (by decide +kernel) rfl dX10_bytesOf_8 ?_
      refine g_aload_n F dX10_bytesOf_11 rfl ?_
      refine g_get (C := RX10) (T := TX10) (N := 27) F 0 0 6 rfl rfl rfl iX10_bytesOf_X10 (by decide) (by decide +kernel) rfl dX10_bytesOf_12 ?_
      refine g_iload_n F dX10_bytesOf_15 rfl ?_
      refine g_iload_n F dX10_bytesOf_16 rfl ?_
      refine g_ishr F dX10_bytesOf_17 ?_
      refine g_i2b F dX10_bytesOf_18 ?_
      obtain ⟨hb_1, hf⟩ := gb_in hf
      obtain ⟨text_1, htext_1, hf⟩ := Lt_el hf
      refine g_bast (Lw' := [sModel E aM anow aaside anames anamesAside atext aspelled acost afewestFrom afirst afresh aways aundo aslots aisSaved M_thrown M_length M_textSize M_start M_next M_token M_value M_error M_errorAt M_number M_many M_freshMany M_undos, sArrB E atext 600 text_1]) F 1 0 (M_length.toNatClampNeg) rfl rfl rfl hb_1 dX10_bytesOf_19 (by subst htext_1; rfl) ?_
      refine g_aload_n F dX10_bytesOf_20 rfl ?_
      refine g_dup F dX10_bytesOf_21 rfl ?_
      refine g_get (C := RX10) (T := TX10) (N := 27) F 0 0 6 rfl rfl rfl iX10_bytesOf_X10 (by decide) (by decide +kernel) rfl dX10_bytesOf_22 ?_
      refine g_iconst F 1 dX10_bytesOf_25 rfl ?_
      refine g_iadd F dX10_bytesOf_26 ?_
      refine g_put (C := RX10) (T := TX10) (N := 27) (tys := tyX10) (Lw' := [sModel E aM anow aaside anames anamesAside atext aspelled acost afewestFrom afirst afresh aways aundo aslots aisSaved M_thrown (M_length + 1) M_textSize M_start M_next M_token M_value M_error M_errorAt M_number M_many M_freshMany M_undos, sArrB E atext 600 text_1]) F 0 0 6 rfl rfl rfl iX10_bytesOf_X10 tyX10_ok nmX10 (by decide) (by decide +kernel) rfl rfl rfl rfl (Nat.le_of_ble_eq_true rfl) dX10_bytesOf_27 rfl ?_
      refine g_iinc (lv' := [some (.ref (aM 0)), some (.int x1), some (.int (x2 + (-8)))]) F (x2 + (-8)) dX10_bytesOf_30 rfl rfl rfl rfl ?_
      refine g_goto F 3 dX10_bytesOf_33 (by decide) ?_
      exact ih (x2 + (-8)) (M_length + 1) text_1 hf
set_option maxHeartbeats 4000000 in
set_option maxRecDepth 100000 in
theorem ctX10_bytesOf (l : Launch) (E : gE) (aM anow aaside anames anamesAside atext aspelled acost afewestFrom afirst afresh aways aundo aslots aisSaved : Nat → Nat) (x1 : Int32) (M_thrown : Int32) (M_length : Int32) (M_textSize : Int32) (M_start : Int32) (M_next : Int32) (M_token : Int32) (M_value : Int32) (M_error : Int32) (M_errorAt : Int32) (M_number : Int32) (M_many : Int32) (M_freshMany : Int32) (M_undos : Int32) (text : (Nat → Int32)) (M_length' : Int32) (text' : (Nat → Int32)) (hf : fX10_bytesOf x1 M_length text = some (M_length', text')) : gMet l yX10_bytesOf wsX10_bytesOf rmX10_bytesOf vwCl E [.ref (aM 0), .int x1] [sModel E aM anow aaside anames anamesAside atext aspelled acost afewestFrom afirst afresh aways aundo aslots aisSaved M_thrown M_length M_textSize M_start M_next M_token M_value M_error M_errorAt M_number M_many M_freshMany M_undos, sArrB E atext 600 text] (fun v w => v = none ∧ w = [sModel E aM anow aaside anames anamesAside atext aspelled acost afewestFrom afirst afresh aways aundo aslots aisSaved M_thrown M_length' M_textSize M_start M_next M_token M_value M_error M_errorAt M_number M_many M_freshMany M_undos, sArrB E atext 600 text']) 0 0 := by
  refine g_entry [some (.ref (aM 0)), some (.int x1), none] (by decide) rfl (Nat.le_of_ble_eq_true rfl) rfl ?_
  intro p e s m below meth c A F hnm
  unfold fX10_bytesOf at hf
  refine g_bipush F 24 dX10_bytesOf_0 rfl ?_
  refine g_istore_n (lv' := [some (.ref (aM 0)), some (.int x1), some (.int 24)]) F dX10_bytesOf_2 (Nat.le_of_ble_eq_true rfl) rfl rfl ?_
  refine ktX10_bytesOf_L3 F aM anow aaside anames anamesAside atext aspelled acost afewestFrom afirst afresh aways aundo aslots aisSaved x1 M_thrown M_textSize M_start M_next M_token M_value M_error M_errorAt M_number M_many M_freshMany M_undos M_length' text' (fun M_length_1 text_1 hf => ?_) FU 24 M_length text hf
  cases hf
  exact g_vret F rfl ⟨rfl, rfl⟩ dX10_bytesOf_36
set_option maxHeartbeats 4000000 in
set_option maxRecDepth 100000 in
theorem ctX10_append (l : Launch) (E : gE) (aM anow aaside anames anamesAside atext aspelled acost afewestFrom afirst afresh aways aundo aslots aisSaved : Nat → Nat) (x1 : Int32) (x2 : Int32) (x3 : Int32) (x4 : Int32) (x5 : Int32) (M_thrown : Int32) (M_length : Int32) (M_textSize : Int32) (M_start : Int32) (M_next : Int32) (M_token : Int32) (M_value : Int32) (M_error : Int32) (M_errorAt : Int32) (M_number : Int32) (M_many : Int32) (M_freshMany : Int32) (M_undos : Int32) (text : (Nat → Int32)) (r : Int32) (M_thrown' : Int32) (M_length' : Int32) (text' : (Nat → Int32)) (hf : fX10_append x1 x2 x3 x4 x5 M_thrown M_length text = some (r, M_thrown', M_length', text')) : gMet l yX10_append wsX10_append rmX10_append vwCl E [.ref (aM 0), .int x1, .int x2, .int x3, .int x4, .int x5] [sModel E aM anow aaside anames anamesAside atext aspelled acost afewestFrom afirst afresh aways aundo aslots aisSaved M_thrown M_length M_textSize M_start M_next M_token M_value M_error M_errorAt M_number M_many M_freshMany M_undos, sArrB E atext 600 text] (fun v w => v = some (.int r) ∧ w = [sModel E aM anow aaside anames anamesAside atext aspelled acost afewestFrom afirst afresh aways aundo aslots aisSaved M_thrown' M_length' M_textSize M_start M_next M_token M_value M_error M_errorAt M_number M_many M_freshMany M_undos, sArrB E atext 600 text']) 0 0 := by
  refine g_entry [some (.ref (aM 0)), some (.int x1), some (.int x2), some (.int x3), some (.int x4), some (.int x5)] (by decide) rfl (Nat.le_of_ble_eq_true rfl) rfl ?_
  intro p e s m below meth c A F hnm
  unfold fX10_append at hf
  refine g_aload_n F dX10_append_0 rfl ?_
  refine g_iconst F 0 dX10_append_1 rfl ?_
  refine g_put (C := RX10) (T := TX10) (N := 27) (tys := tyX10) (Lw' := [sModel E aM anow aaside anames anamesAside atext aspelled acost afewestFrom afirst afresh aways aundo aslots aisSaved 0 M_length M_textSize M_start M_next M_token M_value M_error M_errorAt M_number M_many M_freshMany M_undos, sArrB E atext 600 text]) F 0 0 0 rfl rfl rfl iX10_append_X10 tyX10_ok nmX10 (by decide) (by decide +kernel) rfl rfl rfl rfl (Nat.le_of_ble_eq_true rfl) dX10_append_2 rfl ?_
  refine g_aload_n F dX10_append_5 rfl ?_
  refine g_get (C := RX10) (T := TX10) (N := 27) F 0 0 6 rfl rfl rfl iX10_append_X10 (by decide) (by decide +kernel) rfl dX10_append_6 ?_
  refine g_bipush F 20 dX10_append_9 rfl ?_
  refine g_iadd F dX10_append_11 ?_
  refine g_sipush F 600 dX10_append_12 rfl ?_
  refine g_icmp_le F 20 dX10_append_15 (by decide) (fun hc_1 => ?_) (fun hc_1 => ?_)
  · replace hf := gi_t hc_1 hf
    refine g_aload_n F dX10_append_20 rfl ?_
    refine g_iload_n F dX10_append_21 rfl ?_
    obtain ⟨M_length_1, text_1, hg_1, hf⟩ := gb2_el hf
    refine g_callV (C := RX10) (T := TX10) (N := 27) (Lr := []) (As := [.int x1]) (rest := []) F 0 0 1 (ctX10_bytesOf l E aM anow aaside anames anamesAside atext aspelled acost afewestFrom afirst afresh aways aundo aslots aisSaved x1 0 M_length M_textSize M_start M_next M_token M_value M_error M_errorAt M_number M_many M_freshMany M_undos text M_length_1 text_1 hg_1) gX10_append_X10_bytesOf rfl rfl rfl h0X10_bytesOf ⟨Nat.le_of_ble_eq_true rfl, Nat.le_of_ble_eq_true rfl⟩ rfl rfl rfl [0, 1] [] rfl rfl rfl rfl rfl rfl (Nat.le_of_ble_eq_true rfl) dX10_append_22 ⟨Nat.le_of_ble_eq_true rfl, Nat.le_of_ble_eq_true rfl⟩ ?_
    rintro v w ⟨rfl, rfl⟩
    refine g_norm (Lw' := [sModel E aM anow aaside anames anamesAside atext aspelled acost afewestFrom afirst afresh aways aundo aslots aisSaved 0 M_length_1 M_textSize M_start M_next M_token M_value M_error M_errorAt M_number M_many M_freshMany M_undos, sArrB E atext 600 text_1]) (st' := []) (pc' := 25) [0, 1] rfl rfl rfl rfl ?_
    refine g_aload_n F dX10_append_25 rfl ?_
    refine g_iload_n F dX10_append_26 rfl ?_
    obtain ⟨M_length_2, text_2, hg_2, hf⟩ := gb2_el hf
    refine g_callV (C := RX10) (T := TX10) (N := 27) (Lr := []) (As := [.int x2]) (rest := []) F 0 0 1 (ctX10_bytesOf l E aM anow aaside anames anamesAside atext aspelled acost afewestFrom afirst afresh aways aundo aslots aisSaved x2 0 M_length_1 M_textSize M_start M_next M_token M_value M_error M_errorAt M_number M_many M_freshMany M_undos text_1 M_length_2 text_2 hg_2) gX10_append_X10_bytesOf rfl rfl rfl h0X10_bytesOf ⟨Nat.le_of_ble_eq_true rfl, Nat.le_of_ble_eq_true rfl⟩ rfl rfl rfl [0, 1] [] rfl rfl rfl rfl rfl rfl (Nat.le_of_ble_eq_true rfl) dX10_append_27 ⟨Nat.le_of_ble_eq_true rfl, Nat.le_of_ble_eq_true rfl⟩ ?_
    rintro v w ⟨rfl, rfl⟩
    refine g_norm (Lw' := [sModel E aM anow aaside anames anamesAside atext aspelled acost afewestFrom afirst afresh aways aundo aslots aisSaved 0 M_length_2 M_textSize M_start M_next M_token M_value M_error M_errorAt M_number M_many M_freshMany M_undos, sArrB E atext 600 text_2]) (st' := []) (pc' := 30) [0, 1] rfl rfl rfl rfl ?_
    refine g_aload_n F dX10_append_30 rfl ?_
    refine g_iload_n F dX10_append_31 rfl ?_
    obtain ⟨M_length_3, text_3, hg_3, hf⟩ := gb2_el hf
    refine g_callV (C := RX10) (T := TX10) (N := 27) (Lr := []) (As := [.int x3]) (rest := []) F 0 0 1 (ctX10_bytesOf l E aM anow aaside anames anamesAside atext aspelled acost afewestFrom afirst afresh aways aundo aslots aisSaved x3 0 M_length_2 M_textSize M_start M_next M_token M_value M_error M_errorAt M_number M_many M_freshMany M_undos text_2 M_length_3 text_3 hg_3) gX10_append_X10_bytesOf rfl rfl rfl h0X10_bytesOf ⟨Nat.le_of_ble_eq_true rfl, Nat.le_of_ble_eq_true rfl⟩ rfl rfl rfl [0, 1] [] rfl rfl rfl rfl rfl rfl (Nat.le_of_ble_eq_true rfl) dX10_append_32 ⟨Nat.le_of_ble_eq_true rfl, Nat.le_of_ble_eq_true rfl⟩ ?_
    rintro v w ⟨rfl, rfl⟩
    refine g_norm (Lw' := [sModel E aM anow aaside anames anamesAside atext aspelled acost afewestFrom afirst afresh aways aundo aslots aisSaved 0 M_length_3 M_textSize M_start M_next M_token M_value M_error M_errorAt M_number M_many M_freshMany M_undos, sArrB E atext 600 text_3]) (st' := []) (pc' := 35) [0, 1] rfl rfl rfl rfl ?_
    refine g_aload_n F dX10_append_35 rfl ?_
    refine g_iload F dX10_append_36 rfl ?_
    obtain ⟨M_length_4, text_4, hg_4, hf⟩ := gb2_el hf
    refine g_callV (C := RX10) (T := TX10) (N := 27) (Lr := []) (As := [.int x4]) (rest := []) F 0 0 1 (ctX10_bytesOf l E aM anow aaside anames anamesAside atext aspelled acost afewestFrom afirst afresh aways aundo aslots aisSaved x4 0 M_length_3 M_textSize M_start M_next M_token M_value M_error M_errorAt M_number M_many M_freshMany M_undos text_3 M_length_4 text_4 hg_4) gX10_append_X10_bytesOf rfl rfl rfl h0X10_bytesOf ⟨Nat.le_of_ble_eq_true rfl, Nat.le_of_ble_eq_true rfl⟩ rfl rfl rfl [0, 1] [] rfl rfl rfl rfl rfl rfl (Nat.le_of_ble_eq_true rfl) dX10_append_38 ⟨Nat.le_of_ble_eq_true rfl, Nat.le_of_ble_eq_true rfl⟩ ?_
    rintro v w ⟨rfl, rfl⟩
    refine g_norm (Lw' := [sModel E aM anow aaside anames anamesAside atext aspelled acost afewestFrom afirst afresh aways aundo aslots aisSaved 0 M_length_4 M_textSize M_start M_next M_token M_value M_error M_errorAt M_number M_many M_freshMany M_undos, sArrB E atext 600 text_4]) (st' := []) (pc' := 41) [0, 1] rfl rfl rfl rfl ?_
    refine g_aload_n F dX10_append_41 rfl ?_
    refine g_iload F dX10_append_42 rfl ?_
    obtain ⟨M_length_5, text_5, hg_5, hf⟩ := gb2_el hf
    refine g_callV (C := RX10) (T := TX10) (N := 27) (Lr := []) (As := [.int x5]) (rest := []) F 0 0 1 (ctX10_bytesOf l E aM anow aaside anames anamesAside atext aspelled acost afewestFrom afirst afresh aways aundo aslots aisSaved x5 0 M_length_4 M_textSize M_start M_next M_token M_value M_error M_errorAt M_number M_many M_freshMany M_undos text_4 M_length_5 text_5 hg_5) gX10_append_X10_bytesOf rfl rfl rfl h0X10_bytesOf ⟨Nat.le_of_ble_eq_true rfl, Nat.le_of_ble_eq_true rfl⟩ rfl rfl rfl [0, 1] [] rfl rfl rfl rfl rfl rfl (Nat.le_of_ble_eq_true rfl) dX10_append_44 ⟨Nat.le_of_ble_eq_true rfl, Nat.le_of_ble_eq_true rfl⟩ ?_
    rintro v w ⟨rfl, rfl⟩
    refine g_norm (Lw' := [sModel E aM anow aaside anames anamesAside atext aspelled acost afewestFrom afirst afresh aways aundo aslots aisSaved 0 M_length_5 M_textSize M_start M_next M_token M_value M_error M_errorAt M_number M_many M_freshMany M_undos, sArrB E atext 600 text_5]) (st' := []) (pc' := 47) [0, 1] rfl rfl rfl rfl ?_
    refine g_aload_n F dX10_append_47 rfl ?_
    refine g_get (C := RX10) (T := TX10) (N := 27) F 0 0 6 rfl rfl rfl iX10_append_X10 (by decide) (by decide +kernel) rfl dX10_append_48 ?_
    cases hf
    exact g_iret F rfl ⟨rfl, rfl⟩ dX10_append_51
  · replace hf := gi_f hc_1 hf
    refine g_iconst F (-1) dX10_append_18 rfl ?_
    cases hf
    exact g_iret F rfl ⟨rfl, rfl⟩ dX10_append_19
set_option maxHeartbeats 4000000 in
set_option maxRecDepth 100000 in
theorem ctX10_byteAt (l : Launch) (E : gE) (aM anow aaside anames anamesAside atext aspelled acost afewestFrom afirst afresh aways aundo aslots aisSaved : Nat → Nat) (x1 : Int32) (M_thrown : Int32) (M_length : Int32) (M_textSize : Int32) (M_start : Int32) (M_next : Int32) (M_token : Int32) (M_value : Int32) (M_error : Int32) (M_errorAt : Int32) (M_number : Int32) (M_many : Int32) (M_freshMany : Int32) (M_undos : Int32) (text : (Nat → Int32)) (r : Int32) (hf : fX10_byteAt x1 M_textSize text = some r) : gMet l yX10_byteAt wsX10_byteAt rmX10_byteAt vwCl E [.ref (aM 0), .int x1] [sModel E aM anow aaside anames anamesAside atext aspelled acost afewestFrom afirst afresh aways aundo aslots aisSaved M_thrown M_length M_textSize M_start M_next M_token M_value M_error M_errorAt M_number M_many M_freshMany M_undos, sArrB E atext 600 text] (fun v w => v = some (.int r) ∧ w = [sModel E aM anow aaside anames anamesAside atext aspelled acost afewestFrom afirst afresh aways aundo aslots aisSaved M_thrown M_length M_textSize M_start M_next M_token M_value M_error M_errorAt M_number M_many M_freshMany M_undos, sArrB E atext 600 text]) 0 0 := by
  refine g_entry [some (.ref (aM 0)), some (.int x1)] (by decide) rfl (Nat.le_of_ble_eq_true rfl) rfl ?_
  intro p e s m below meth c A F hnm
  unfold fX10_byteAt at hf
  refine g_iload_n F dX10_byteAt_0 rfl ?_
  refine g_aload_n F dX10_byteAt_1 rfl ?_
  refine g_get (C := RX10) (T := TX10) (N := 27) F 0 0 7 rfl rfl rfl iX10_byteAt_X10 (by decide) (by decide +kernel) rfl dX10_byteAt_2 ?_
  refine g_icmp_ge F 21 dX10_byteAt_5 (by decide) (fun hc_1 => ?_) (fun hc_1 => ?_)
  · replace hf := gi_t hc_1 hf
    refine g_iconst F (-1) dX10_byteAt_21 rfl ?_
    cases hf
    exact g_iret F rfl ⟨rfl, rfl⟩ dX10_byteAt_22
  · replace hf := gi_f hc_1 hf
    refine g_aload_n F dX10_byteAt_8 rfl ?_
    refine g_get (C := RX10) (T := TX10) (N := 27) F 0 0 5 rfl rfl rfl iX10_byteAt_X10 (by decide) (by decide +kernel) rfl dX10_byteAt_9 ?_
    refine g_iload_n F dX10_byteAt_12 rfl ?_
    obtain ⟨hb_1, hf⟩ := gb_in hf
    refine g_bald F 1 0 (x1.toNatClampNeg) rfl rfl rfl hb_1 dX10_byteAt_13 ?_
    refine g_sipush F 255 dX10_byteAt_14 rfl ?_
    refine g_iand F dX10_byteAt_17 ?_
    refine g_goto F 22 dX10_byteAt_18 (by decide) ?_
    cases hf
    exact g_iret F rfl ⟨rfl, rfl⟩ dX10_byteAt_22
set_option maxHeartbeats 4000000 in
set_option maxRecDepth 100000 in
theorem ktX10_advance_L0 {p : Program} {l : Launch} {e : Env} {s : State} {m : MethodId} {args : Array Value} {below : List Frame} {meth : Method} {c : Code} {E : gE} {A : Nat → Prop} (F : gFx p s m args meth c RX10 wsX10_advance cX10_advance 2 none vwCl E A) (aM anow aaside anames anamesAside atext aspelled acost afewestFrom afirst afresh aways aundo aslots aisSaved : Nat → Nat) (M_textSize : Int32) (text : (Nat → Int32)) (M_thrown : Int32) (M_length : Int32) (M_start : Int32) (M_token : Int32) (M_value : Int32) (M_error : Int32) (M_errorAt : Int32) (M_number : Int32) (M_many : Int32) (M_freshMany : Int32) (M_undos : Int32) (M_start' : Int32) (M_next' : Int32) (M_token' : Int32) (M_value' : Int32) {k : Int32 → Option (Int32 × Int32 × Int32 × Int32)} (hk : ∀ (M_next : Int32), k M_next = some (M_start', M_next', M_token', M_value') → Gj p l e rmX10_advance s m args below meth c 0 0 (MQ below (gQ vwCl E A (fun v w => v = none ∧ w = [sModel E aM anow aaside anames anamesAside atext aspelled acost afewestFrom afirst afresh aways aundo aslots aisSaved M_thrown M_length M_textSize M_start' M_next' M_token' M_value' M_error M_errorAt M_number M_many M_freshMany M_undos, sArrB E atext 600 text])) args s 0 0 A) vwCl E A [sModel E aM anow aaside anames anamesAside atext aspelled acost afewestFrom afirst afresh aways aundo aslots aisSaved M_thrown M_length M_textSize M_start M_next M_token M_value M_error M_errorAt M_number M_many M_freshMany M_undos, sArrB E atext 600 text] [some (.ref (aM 0)), none] [] 39) : ∀ (n : Nat) (M_next : Int32), fX10_advance_L0 M_textSize text k n M_next = some (M_start', M_next', M_token', M_value') → Gj p l e rmX10_advance s m args below meth c 0 0 (MQ below (gQ vwCl E A (fun v w => v = none ∧ w = [sModel E aM anow aaside anames anamesAside atext aspelled acost afewestFrom afirst afresh aways aundo aslots aisSaved M_thrown M_length M_textSize M_start' M_next' M_token' M_value' M_error M_errorAt M_number M_many M_freshMany M_undos, sArrB E atext 600 text])) args s 0 0 A) vwCl E A [sModel E aM anow aaside anames anamesAside atext aspelled acost afewestFrom afirst afresh aways aundo aslots aisSaved M_thrown M_length M_textSize M_start M_next M_token M_value M_error M_errorAt M_number M_many M_freshMany M_undos, sArrB E atext 600 text] [some (.ref (aM 0)), none] [] 0
  | 0, _, hf => by cases hf
  | n + 1, M_next, hf => by
    have ih := ktX10_advance_L0 F aM anow aaside anames anamesAside atext aspelled acost afewestFrom afirst afresh aways aundo aslots aisSaved M_textSize text M_thrown M_length M_start M_token M_value M_error M_errorAt M_number M_many M_freshMany M_undos M_start' M_next' M_token' M_value' hk n
    rw [fX10_advance_L0] at hf
    refine g_aload_n F dX10_advance_0 rfl ?_
    refine g_aload_n F dX10_advance_1 rfl ?_
    refine g_get (C := RX10) (T := TX10) (N := 27) F 0 0 9 rfl rfl rfl iX10_advance_X10 (by decide) (by decide +kernel) rfl dX10_advance_2 ?_
    obtain ⟨r_1, hg_1, hf⟩ := gb1_el hf
    refine g_callV (C := RX10) (T := TX10) (N := 27) (Lr := []) (As := [.int M_next]) (rest := []) F 0 0 1 (ctX10_byteAt l E aM anow aaside anames anamesAside atext aspelled acost afewestFrom afirst afresh aways aundo aslots aisSaved M_next M_thrown M_length M_textSize M_start M_next M_token M_value M_error M_errorAt M_number M_many M_freshMany M_undos text r_1 hg_1) gX10_advance_X10_byteAt rfl rfl rfl h0X10_byteAt ⟨Nat.le_of_ble_eq_true rfl, Nat.le_of_ble_eq_true rfl⟩ rfl rfl rfl [0, 1] [] rfl rfl rfl rfl rfl rfl (Nat.le_of_ble_eq_true rfl) dX10_advance_5 ⟨Nat.le_of_ble_eq_true rfl, Nat.le_of_ble_eq_true rfl⟩ ?_
    rintro v w ⟨rfl, rfl⟩
    refine g_norm (Lw' := [sModel E aM anow aaside anames anamesAside atext aspelled acost afewestFrom afirst afresh aways aundo aslots aisSaved M_thrown M_length M_textSize M_start M_next M_token M_value M_error M_errorAt M_number M_many M_freshMany M_undos, sArrB E atext 600 text]) (st' := [.int r_1]) (pc' := 8) [0, 1] rfl rfl rfl rfl ?_
    refine g_bipush F 32 dX10_advance_8 rfl ?_
    obtain ⟨j_1, hj_1, hf⟩ := Lt_el hf
    have hj_1 : j_1 = some (M_start', M_next', M_token', M_value') → Gj p l e rmX10_advance s m args below meth c 0 0 (MQ below (gQ vwCl E A (fun v w => v = none ∧ w = [sModel E aM anow aaside anames anamesAside atext aspelled acost afewestFrom afirst afresh aways aundo aslots aisSaved M_thrown M_length M_textSize M_start' M_next' M_token' M_value' M_error M_errorAt M_number M_many M_freshMany M_undos, sArrB E atext 600 text])) args s 0 0 A) vwCl E A [sModel E aM anow aaside anames anamesAside atext aspelled acost afewestFrom afirst afresh aways aundo aslots aisSaved M_thrown M_length M_textSize M_start M_next M_token M_value M_error M_errorAt M_number M_many M_freshMany M_undos, sArrB E atext 600 text] [some (.ref (aM 0)), none] [] 26 := by
      intro hf
      rw [hj_1] at hf
      refine g_aload_n F dX10_advance_26 rfl ?_
      refine g_dup F dX10_advance_27 rfl ?_
      refine g_get (C := RX10) (T := TX10) (N := 27) F 0 0 9 rfl rfl rfl iX10_advance_X10 (by decide) (by decide +kernel) rfl dX10_advance_28 ?_
      refine g_iconst F 1 dX10_advance_31 rfl ?_
      refine g_iadd F dX10_advance_32 ?_
      refine g_put (C := RX10) (T := TX10) (N := 27) (tys := tyX10) (Lw' := [sModel E aM anow aaside anames anamesAside atext aspelled acost afewestFrom afirst afresh aways aundo aslots aisSaved M_thrown M_length M_textSize M_start (M_next + 1) M_token M_value M_error M_errorAt M_number M_many M_freshMany M_undos, sArrB E atext 600 text]) F 0 0 9 rfl rfl rfl iX10_advance_X10 tyX10_ok nmX10 (by decide) (by decide +kernel) rfl rfl rfl rfl (Nat.le_of_ble_eq_true rfl) dX10_advance_33 rfl ?_
      refine g_goto F 0 dX10_advance_36 (by decide) ?_
      exact ih (M_next + 1) hf
    refine g_icmp_eq F 26 dX10_advance_10 (by decide) (fun hc_2 => ?_) (fun hc_2 => ?_)
    · replace hf := gi_t hc_2 hf
      exact hj_1 hf
    · replace hf := gi_f hc_2 hf
      refine g_aload_n F dX10_advance_13 rfl ?_
      refine g_aload_n F dX10_advance_14 rfl ?_
      refine g_get (C := RX10) (T := TX10) (N := 27) F 0 0 9 rfl rfl rfl iX10_advance_X10 (by decide) (by decide +kernel) rfl dX10_advance_15 ?_
      obtain ⟨r_2, hg_2, hf⟩ := gb1_el hf
      refine g_callV (C := RX10) (T := TX10) (N := 27) (Lr := []) (As := [.int M_next]) (rest := []) F 0 0 1 (ctX10_byteAt l E aM anow aaside anames anamesAside atext aspelled acost afewestFrom afirst afresh aways aundo aslots aisSaved M_next M_thrown M_length M_textSize M_start M_next M_token M_value M_error M_errorAt M_number M_many M_freshMany M_undos text r_2 hg_2) gX10_advance_X10_byteAt rfl rfl rfl h0X10_byteAt ⟨Nat.le_of_ble_eq_true rfl, Nat.le_of_ble_eq_true rfl⟩ rfl rfl rfl [0, 1] [] rfl rfl rfl rfl rfl rfl (Nat.le_of_ble_eq_true rfl) dX10_advance_18 ⟨Nat.le_of_ble_eq_true rfl, Nat.le_of_ble_eq_true rfl⟩ ?_
      rintro v w ⟨rfl, rfl⟩
      refine g_norm (Lw' := [sModel E aM anow aaside anames anamesAside atext aspelled acost afewestFrom afirst afresh aways aundo aslots aisSaved M_thrown M_length M_textSize M_start M_next M_token M_value M_error M_errorAt M_number M_many M_freshMany M_undos, sArrB E atext 600 text]) (st' := [.int r_2]) (pc' := 21) [0, 1] rfl rfl rfl rfl ?_
      refine g_bipush F 10 dX10_advance_21 rfl ?_
      refine g_icmp_ne F 39 dX10_advance_23 (by decide) (fun hc_1 => ?_) (fun hc_1 => ?_)
      · replace hf := gi_f hc_1 hf
        exact hk M_next hf
      · replace hf := gi_t hc_1 hf
        exact hj_1 hf
set_option maxHeartbeats 4000000 in
set_option maxRecDepth 100000 in
theorem ktX10_advance_L153 {p : Program} {l : Launch} {e : Env} {s : State} {m : MethodId} {args : Array Value} {below : List Frame} {meth : Method} {c : Code} {E : gE} {A : Nat → Prop} (F : gFx p s m args meth c RX10 wsX10_advance cX10_advance 2 none vwCl E A) (aM anow aaside anames anamesAside atext aspelled acost afewestFrom afirst afresh aways aundo aslots aisSaved : Nat → Nat) (M_textSize : Int32) (M_start : Int32) (text : (Nat → Int32)) (M_thrown : Int32) (M_length : Int32) (M_token : Int32) (M_error : Int32) (M_errorAt : Int32) (M_number : Int32) (M_many : Int32) (M_freshMany : Int32) (M_undos : Int32) (M_start' : Int32) (M_next' : Int32) (M_token' : Int32) (M_value' : Int32) {k : Int32 → Int32 → Option (Int32 × Int32 × Int32 × Int32)} (hk : ∀ (M_next : Int32) (M_value : Int32), k M_next M_value = some (M_start', M_next', M_token', M_value') → Gj p l e rmX10_advance s m args below meth c 0 0 (MQ below (gQ vwCl E A (fun v w => v = none ∧ w = [sModel E aM anow aaside anames anamesAside atext aspelled acost afewestFrom afirst afresh aways aundo aslots aisSaved M_thrown M_length M_textSize M_start' M_next' M_token' M_value' M_error M_errorAt M_number M_many M_freshMany M_undos, sArrB E atext 600 text])) args s 0 0 A) vwCl E A [sModel E aM anow aaside anames anamesAside atext aspelled acost afewestFrom afirst afresh aways aundo aslots aisSaved M_thrown M_length M_textSize M_start M_next M_token M_value M_error M_errorAt M_number M_many M_freshMany M_undos, sArrB E atext 600 text] [some (.ref (aM 0)), none] [] 227) : ∀ (n : Nat) (M_next : Int32) (M_value : Int32), fX10_advance_L153 M_textSize M_start text k n M_next M_value = some (M_start', M_next', M_token', M_value') → Gj p l e rmX10_advance s m args below meth c 0 0 (MQ below (gQ vwCl E A (fun v w => v = none ∧ w = [sModel E aM anow aaside anames anamesAside atext aspelled acost afewestFrom afirst afresh aways aundo aslots aisSaved M_thrown M_length M_textSize M_start' M_next' M_token' M_value' M_error M_errorAt M_number M_many M_freshMany M_undos, sArrB E atext 600 text])) args s 0 0 A) vwCl E A [sModel E aM anow aaside anames anamesAside atext aspelled acost afewestFrom afirst afresh aways aundo aslots aisSaved M_thrown M_length M_textSize M_start M_next M_token M_value M_error M_errorAt M_number M_many M_freshMany M_undos, sArrB E atext 600 text] [some (.ref (aM 0)), none] [] 153
  | 0, _, _, hf => by cases hf
  | n + 1, M_next, M_value, hf => by
    have ih := ktX10_advance_L153 F aM anow aaside anames anamesAside atext aspelled acost afewestFrom afirst afresh aways aundo aslots aisSaved M_textSize M_start text M_thrown M_length M_token M_error M_errorAt M_number M_many M_freshMany M_undos M_start' M_next' M_token' M_value' hk n
    rw [fX10_advance_L153] at hf
    refine g_aload_n F dX10_advance_153 rfl ?_
    refine g_aload_n F dX10_advance_154 rfl ?_
    refine g_get (C := RX10) (T := TX10) (N := 27) F 0 0 9 rfl rfl rfl iX10_advance_X10 (by decide) (by decide +kernel) rfl dX10_advance_155 ?_
    obtain ⟨r_1, hg_1, hf⟩ := gb1_el hf
    refine g_callV (C := RX10) (T := TX10) (N := 27) (Lr := []) (As := [.int M_next]) (rest := []) F 0 0 1 (ctX10_byteAt l E aM anow aaside anames anamesAside atext aspelled acost afewestFrom afirst afresh aways aundo aslots aisSaved M_next M_thrown M_length M_textSize M_start M_next M_token M_value M_error M_errorAt M_number M_many M_freshMany M_undos text r_1 hg_1) gX10_advance_X10_byteAt rfl rfl rfl h0X10_byteAt ⟨Nat.le_of_ble_eq_true rfl, Nat.le_of_ble_eq_true rfl⟩ rfl rfl rfl [0, 1] [] rfl rfl rfl rfl rfl rfl (Nat.le_of_ble_eq_true rfl) dX10_advance_158 ⟨Nat.le_of_ble_eq_true rfl, Nat.le_of_ble_eq_true rfl⟩ ?_
    rintro v w ⟨rfl, rfl⟩
    refine g_norm (Lw' := [sModel E aM anow aaside anames anamesAside atext aspelled acost afewestFrom afirst afresh aways aundo aslots aisSaved M_thrown M_length M_textSize M_start M_next M_token M_value M_error M_errorAt M_number M_many M_freshMany M_undos, sArrB E atext 600 text]) (st' := [.int r_1]) (pc' := 161) [0, 1] rfl rfl rfl rfl ?_
    refine g_bipush F 48 dX10_advance_161 rfl ?_
    refine g_bipush F 57 dX10_advance_163 rfl ?_
    obtain ⟨r_2, hg_2, hf⟩ := gb1_el hf
    refine g_callS (Lr := [sModel E aM anow aaside anames anamesAside atext aspelled acost afewestFrom afirst afresh aways aundo aslots aisSaved M_thrown M_length M_textSize M_start M_next M_token M_value M_error M_errorAt M_number M_many M_freshMany M_undos, sArrB E atext 600 text]) (As := [.int r_1, .int 48, .int 57]) (rest := []) F 3 (ctX10_within l E r_1 48 57 r_2 hg_2) (va_cwS 3 F.2.2.2.2.2.1 gX10_advance_X10_within rfl rfl rfl h0X10_within ⟨Nat.le_of_ble_eq_true rfl, Nat.le_of_ble_eq_true rfl⟩) [] [0, 1] rfl rfl rfl rfl rfl rfl (Nat.le_of_ble_eq_true rfl) dX10_advance_165 ⟨Nat.le_of_ble_eq_true rfl, Nat.le_of_ble_eq_true rfl⟩ ?_
    rintro v w ⟨rfl, rfl, hz_1⟩
    refine g_norm (Lw' := [sModel E aM anow aaside anames anamesAside atext aspelled acost afewestFrom afirst afresh aways aundo aslots aisSaved M_thrown M_length M_textSize M_start M_next M_token M_value M_error M_errorAt M_number M_many M_freshMany M_undos, sArrB E atext 600 text]) (st' := [.int r_2]) (pc' := 168) [0, 1] rfl rfl rfl rfl ?_
    refine g_ifeq F 227 dX10_advance_168 (by decide) (fun hc_2 => ?_) (fun hc_2 => ?_)
    · replace hf := gi_t hc_2 hf
      exact hk M_next M_value hf
    · replace hf := gi_f hc_2 hf
      refine g_aload_n F dX10_advance_171 rfl ?_
      refine g_aload_n F dX10_advance_172 rfl ?_
      refine g_get (C := RX10) (T := TX10) (N := 27) F 0 0 9 rfl rfl rfl iX10_advance_X10 (by decide) (by decide +kernel) rfl dX10_advance_173 ?_
      refine g_aload_n F dX10_advance_176 rfl ?_
      refine g_get (C := RX10) (T := TX10) (N := 27) F 0 0 8 rfl rfl rfl iX10_advance_X10 (by decide) (by decide +kernel) rfl dX10_advance_177 ?_
      refine g_isub F dX10_advance_180 ?_
      refine g_iconst F 4 dX10_advance_181 rfl ?_
      obtain ⟨j_1, hj_1, hf⟩ := Lt_el hf
      have hj_1 : ∀ (t0_1 : Int32), j_1 t0_1 = some (M_start', M_next', M_token', M_value') → Gj p l e rmX10_advance s m args below meth c 0 0 (MQ below (gQ vwCl E A (fun v w => v = none ∧ w = [sModel E aM anow aaside anames anamesAside atext aspelled acost afewestFrom afirst afresh aways aundo aslots aisSaved M_thrown M_length M_textSize M_start' M_next' M_token' M_value' M_error M_errorAt M_number M_many M_freshMany M_undos, sArrB E atext 600 text])) args s 0 0 A) vwCl E A [sModel E aM anow aaside anames anamesAside atext aspelled acost afewestFrom afirst afresh aways aundo aslots aisSaved M_thrown M_length M_textSize M_start M_next M_token M_value M_error M_errorAt M_number M_many M_freshMany M_undos, sArrB E atext 600 text] [some (.ref (aM 0)), none] [.int t0_1, .ref (aM 0)] 211 := by
        intro t0_1 hf
        rw [hj_1] at hf
        refine g_put (C := RX10) (T := TX10) (N := 27) (tys := tyX10) (Lw' := [sModel E aM anow aaside anames anamesAside atext aspelled acost afewestFrom afirst afresh aways aundo aslots aisSaved M_thrown M_length M_textSize M_start M_next M_token t0_1 M_error M_errorAt M_number M_many M_freshMany M_undos, sArrB E atext 600 text]) F 0 0 11 rfl rfl rfl iX10_advance_X10 tyX10_ok nmX10 (by decide) (by decide +kernel) rfl rfl rfl rfl (Nat.le_of_ble_eq_true rfl) dX10_advance_211 rfl ?_
        refine g_aload_n F dX10_advance_214 rfl ?_
        refine g_dup F dX10_advance_215 rfl ?_
        refine g_get (C := RX10) (T := TX10) (N := 27) F 0 0 9 rfl rfl rfl iX10_advance_X10 (by decide) (by decide +kernel) rfl dX10_advance_216 ?_
        refine g_iconst F 1 dX10_advance_219 rfl ?_
        refine g_iadd F dX10_advance_220 ?_
        refine g_put (C := RX10) (T := TX10) (N := 27) (tys := tyX10) (Lw' := [sModel E aM anow aaside anames anamesAside atext aspelled acost afewestFrom afirst afresh aways aundo aslots aisSaved M_thrown M_length M_textSize M_start (M_next + 1) M_token t0_1 M_error M_errorAt M_number M_many M_freshMany M_undos, sArrB E atext 600 text]) F 0 0 9 rfl rfl rfl iX10_advance_X10 tyX10_ok nmX10 (by decide) (by decide +kernel) rfl rfl rfl rfl (Nat.le_of_ble_eq_true rfl) dX10_advance_221 rfl ?_
        refine g_goto F 153 dX10_advance_224 (by decide) ?_
        exact ih (M_next + 1) t0_1 hf
      refine g_icmp_ge F 207 dX10_advance_182 (by decide) (fun hc_1 => ?_) (fun hc_1 => ?_)
      · replace hf := gi_t hc_1 hf
        refine g_aload_n F dX10_advance_207 rfl ?_
        refine g_get (C := RX10) (T := TX10) (N := 27) F 0 0 11 rfl rfl rfl iX10_advance_X10 (by decide) (by decide +kernel) rfl dX10_advance_208 ?_
        exact hj_1 M_value hf
      · replace hf := gi_f hc_1 hf
        refine g_bipush F 10 dX10_advance_185 rfl ?_
        refine g_aload_n F dX10_advance_187 rfl ?_
        refine g_get (C := RX10) (T := TX10) (N := 27) F 0 0 11 rfl rfl rfl iX10_advance_X10 (by decide) (by decide +kernel) rfl dX10_advance_188 ?_
        refine g_imul F dX10_advance_191 ?_
        refine g_aload_n F dX10_advance_192 rfl ?_
        refine g_aload_n F dX10_advance_193 rfl ?_
        refine g_get (C := RX10) (T := TX10) (N := 27) F 0 0 9 rfl rfl rfl iX10_advance_X10 (by decide) (by decide +kernel) rfl dX10_advance_194 ?_
        obtain ⟨r_3, hg_3, hf⟩ := gb1_el hf
        refine g_callV (C := RX10) (T := TX10) (N := 27) (Lr := []) (As := [.int M_next]) (rest := [.int (10 * M_value), .ref (aM 0)]) F 0 0 1 (ctX10_byteAt l E aM anow aaside anames anamesAside atext aspelled acost afewestFrom afirst afresh aways aundo aslots aisSaved M_next M_thrown M_length M_textSize M_start M_next M_token M_value M_error M_errorAt M_number M_many M_freshMany M_undos text r_3 hg_3) gX10_advance_X10_byteAt rfl rfl rfl h0X10_byteAt ⟨Nat.le_of_ble_eq_true rfl, Nat.le_of_ble_eq_true rfl⟩ rfl rfl rfl [0, 1] [] rfl rfl rfl rfl rfl rfl (Nat.le_of_ble_eq_true rfl) dX10_advance_197 ⟨Nat.le_of_ble_eq_true rfl, Nat.le_of_ble_eq_true rfl⟩ ?_
        rintro v w ⟨rfl, rfl⟩
        refine g_norm (Lw' := [sModel E aM anow aaside anames anamesAside atext aspelled acost afewestFrom afirst afresh aways aundo aslots aisSaved M_thrown M_length M_textSize M_start M_next M_token M_value M_error M_errorAt M_number M_many M_freshMany M_undos, sArrB E atext 600 text]) (st' := [.int r_3, .int (10 * M_value), .ref (aM 0)]) (pc' := 200) [0, 1] rfl rfl rfl rfl ?_
        refine g_iadd F dX10_advance_200 ?_
        refine g_bipush F 48 dX10_advance_201 rfl ?_
        refine g_isub F dX10_advance_203 ?_
        refine g_goto F 211 dX10_advance_204 (by decide) ?_
        exact hj_1 (((10 * M_value) + r_3) - 48) hf
set_option maxHeartbeats 4000000 in
set_option maxRecDepth 100000 in
theorem ktX10_advance_L85 {p : Program} {l : Launch} {e : Env} {s : State} {m : MethodId} {args : Array Value} {below : List Frame} {meth : Method} {c : Code} {E : gE} {A : Nat → Prop} (F : gFx p s m args meth c RX10 wsX10_advance cX10_advance 2 none vwCl E A) (aM anow aaside anames anamesAside atext aspelled acost afewestFrom afirst afresh aways aundo aslots aisSaved : Nat → Nat) (M_textSize : Int32) (text : (Nat → Int32)) (M_thrown : Int32) (M_length : Int32) (M_start : Int32) (M_token : Int32) (M_value : Int32) (M_error : Int32) (M_errorAt : Int32) (M_number : Int32) (M_many : Int32) (M_freshMany : Int32) (M_undos : Int32) (M_start' : Int32) (M_next' : Int32) (M_token' : Int32) (M_value' : Int32) {k : Int32 → Option (Int32 × Int32 × Int32 × Int32)} (hk : ∀ (M_next : Int32), k M_next = some (M_start', M_next', M_token', M_value') → Gj p l e rmX10_advance s m args below meth c 0 0 (MQ below (gQ vwCl E A (fun v w => v = none ∧ w = [sModel E aM anow aaside anames anamesAside atext aspelled acost afewestFrom afirst afresh aways aundo aslots aisSaved M_thrown M_length M_textSize M_start' M_next' M_token' M_value' M_error M_errorAt M_number M_many M_freshMany M_undos, sArrB E atext 600 text])) args s 0 0 A) vwCl E A [sModel E aM anow aaside anames anamesAside atext aspelled acost afewestFrom afirst afresh aways aundo aslots aisSaved M_thrown M_length M_textSize M_start M_next M_token M_value M_error M_errorAt M_number M_many M_freshMany M_undos, sArrB E atext 600 text] [some (.ref (aM 0)), none] [] 116) : ∀ (n : Nat) (M_next : Int32), fX10_advance_L85 M_textSize text k n M_next = some (M_start', M_next', M_token', M_value') → Gj p l e rmX10_advance s m args below meth c 0 0 (MQ below (gQ vwCl E A (fun v w => v = none ∧ w = [sModel E aM anow aaside anames anamesAside atext aspelled acost afewestFrom afirst afresh aways aundo aslots aisSaved M_thrown M_length M_textSize M_start' M_next' M_token' M_value' M_error M_errorAt M_number M_many M_freshMany M_undos, sArrB E atext 600 text])) args s 0 0 A) vwCl E A [sModel E aM anow aaside anames anamesAside atext aspelled acost afewestFrom afirst afresh aways aundo aslots aisSaved M_thrown M_length M_textSize M_start M_next M_token M_value M_error M_errorAt M_number M_many M_freshMany M_undos, sArrB E atext 600 text] [some (.ref (aM 0)), none] [] 85
  | 0, _, hf => by cases hf
  | n + 1, M_next, hf => by
    have ih := ktX10_advance_L85 F aM anow aaside anames anamesAside atext aspelled acost afewestFrom afirst afresh aways aundo aslots aisSaved M_textSize text M_thrown M_length M_start M_token M_value M_error M_errorAt M_number M_many M_freshMany M_undos M_start' M_next' M_token' M_value' hk n
    rw [fX10_advance_L85] at hf
    refine g_aload_n F dX10_advance_85 rfl ?_
    refine g_aload_n F dX10_advance_86 rfl ?_
    refine g_get (C := RX10) (T := TX10) (N := 27) F 0 0 9 rfl rfl rfl iX10_advance_X10 (by decide) (by decide +kernel) rfl dX10_advance_87 ?_
    obtain ⟨r_1, hg_1, hf⟩ := gb1_el hf
    refine g_callV (C := RX10) (T := TX10) (N := 27) (Lr := []) (As := [.int M_next]) (rest := []) F 0 0 1 (ctX10_byteAt l E aM anow aaside anames anamesAside atext aspelled acost afewestFrom afirst afresh aways aundo aslots aisSaved M_next M_thrown M_length M_textSize M_start M_next M_token M_value M_error M_errorAt M_number M_many M_freshMany M_undos text r_1 hg_1) gX10_advance_X10_byteAt rfl rfl rfl h0X10_byteAt ⟨Nat.le_of_ble_eq_true rfl, Nat.le_of_ble_eq_true rfl⟩ rfl rfl rfl [0, 1] [] rfl rfl rfl rfl rfl rfl (Nat.le_of_ble_eq_true rfl) dX10_advance_90 ⟨Nat.le_of_ble_eq_true rfl, Nat.le_of_ble_eq_true rfl⟩ ?_
    rintro v w ⟨rfl, rfl⟩
    refine g_norm (Lw' := [sModel E aM anow aaside anames anamesAside atext aspelled acost afewestFrom afirst afresh aways aundo aslots aisSaved M_thrown M_length M_textSize M_start M_next M_token M_value M_error M_errorAt M_number M_many M_freshMany M_undos, sArrB E atext 600 text]) (st' := [.int r_1]) (pc' := 93) [0, 1] rfl rfl rfl rfl ?_
    refine g_bipush F 97 dX10_advance_93 rfl ?_
    refine g_bipush F 122 dX10_advance_95 rfl ?_
    obtain ⟨r_2, hg_2, hf⟩ := gb1_el hf
    refine g_callS (Lr := [sModel E aM anow aaside anames anamesAside atext aspelled acost afewestFrom afirst afresh aways aundo aslots aisSaved M_thrown M_length M_textSize M_start M_next M_token M_value M_error M_errorAt M_number M_many M_freshMany M_undos, sArrB E atext 600 text]) (As := [.int r_1, .int 97, .int 122]) (rest := []) F 3 (ctX10_within l E r_1 97 122 r_2 hg_2) (va_cwS 3 F.2.2.2.2.2.1 gX10_advance_X10_within rfl rfl rfl h0X10_within ⟨Nat.le_of_ble_eq_true rfl, Nat.le_of_ble_eq_true rfl⟩) [] [0, 1] rfl rfl rfl rfl rfl rfl (Nat.le_of_ble_eq_true rfl) dX10_advance_97 ⟨Nat.le_of_ble_eq_true rfl, Nat.le_of_ble_eq_true rfl⟩ ?_
    rintro v w ⟨rfl, rfl, hz_1⟩
    refine g_norm (Lw' := [sModel E aM anow aaside anames anamesAside atext aspelled acost afewestFrom afirst afresh aways aundo aslots aisSaved M_thrown M_length M_textSize M_start M_next M_token M_value M_error M_errorAt M_number M_many M_freshMany M_undos, sArrB E atext 600 text]) (st' := [.int r_2]) (pc' := 100) [0, 1] rfl rfl rfl rfl ?_
    refine g_ifeq F 116 dX10_advance_100 (by decide) (fun hc_1 => ?_) (fun hc_1 => ?_)
    · replace hf := gi_t hc_1 hf
      exact hk M_next hf
    · replace hf := gi_f hc_1 hf
      refine g_aload_n F dX10_advance_103 rfl ?_
      refine g_dup F dX10_advance_104 rfl ?_
      refine g_get (C := RX10) (T := TX10) (N := 27) F 0 0 9 rfl rfl rfl iX10_advance_X10 (by decide) (by decide +kernel) rfl dX10_advance_105 ?_
      refine g_iconst F 1 dX10_advance_108 rfl ?_
      refine g_iadd F dX10_advance_109 ?_
      refine g_put (C := RX10) (T := TX10) (N := 27) (tys := tyX10) (Lw' := [sModel E aM anow aaside anames anamesAside atext aspelled acost afewestFrom afirst afresh aways aundo aslots aisSaved M_thrown M_length M_textSize M_start (M_next + 1) M_token M_value M_error M_errorAt M_number M_many M_freshMany M_undos, sArrB E atext 600 text]) F 0 0 9 rfl rfl rfl iX10_advance_X10 tyX10_ok nmX10 (by decide) (by decide +kernel) rfl rfl rfl rfl (Nat.le_of_ble_eq_true rfl) dX10_advance_110 rfl ?_
      refine g_goto F 85 dX10_advance_113 (by decide) ?_
      exact ih (M_next + 1) hf
set_option maxHeartbeats 4000000 in
set_option maxRecDepth 100000 in
theorem ctX10_advance (l : Launch) (E : gE) (aM anow aaside anames anamesAside atext aspelled acost afewestFrom afirst afresh aways aundo aslots aisSaved : Nat → Nat) (M_thrown : Int32) (M_length : Int32) (M_textSize : Int32) (M_start : Int32) (M_next : Int32) (M_token : Int32) (M_value : Int32) (M_error : Int32) (M_errorAt : Int32) (M_number : Int32) (M_many : Int32) (M_freshMany : Int32) (M_undos : Int32) (text : (Nat → Int32)) (M_start' : Int32) (M_next' : Int32) (M_token' : Int32) (M_value' : Int32) (hf : fX10_advance M_textSize M_start M_next M_token M_value text = some (M_start', M_next', M_token', M_value')) : gMet l yX10_advance wsX10_advance rmX10_advance vwCl E [.ref (aM 0)] [sModel E aM anow aaside anames anamesAside atext aspelled acost afewestFrom afirst afresh aways aundo aslots aisSaved M_thrown M_length M_textSize M_start M_next M_token M_value M_error M_errorAt M_number M_many M_freshMany M_undos, sArrB E atext 600 text] (fun v w => v = none ∧ w = [sModel E aM anow aaside anames anamesAside atext aspelled acost afewestFrom afirst afresh aways aundo aslots aisSaved M_thrown M_length M_textSize M_start' M_next' M_token' M_value' M_error M_errorAt M_number M_many M_freshMany M_undos, sArrB E atext 600 text]) 0 0 := by
  refine g_entry [some (.ref (aM 0)), none] (by decide) rfl (Nat.le_of_ble_eq_true rfl) rfl ?_
  intro p e s m below meth c A F hnm
  unfold fX10_advance at hf
  refine ktX10_advance_L0 F aM anow aaside anames anamesAside atext aspelled acost afewestFrom afirst afresh aways aundo aslots aisSaved M_textSize text M_thrown M_length M_start M_token M_value M_error M_errorAt M_number M_many M_freshMany M_undos M_start' M_next' M_token' M_value' (fun M_next_1 hf => ?_) FU M_next hf
  refine g_aload_n F dX10_advance_39 rfl ?_
  refine g_aload_n F dX10_advance_40 rfl ?_
  refine g_get (C := RX10) (T := TX10) (N := 27) F 0 0 9 rfl rfl rfl iX10_advance_X10 (by decide) (by decide +kernel) rfl dX10_advance_41 ?_
  refine g_put (C := RX10) (T := TX10) (N := 27) (tys := tyX10) (Lw' := [sModel E aM anow aaside anames anamesAside atext aspelled acost afewestFrom afirst afresh aways aundo aslots aisSaved M_thrown M_length M_textSize M_next_1 M_next_1 M_token M_value M_error M_errorAt M_number M_many M_freshMany M_undos, sArrB E atext 600 text]) F 0 0 8 rfl rfl rfl iX10_advance_X10 tyX10_ok nmX10 (by decide) (by decide +kernel) rfl rfl rfl rfl (Nat.le_of_ble_eq_true rfl) dX10_advance_44 rfl ?_
  refine g_aload_n F dX10_advance_47 rfl ?_
  refine g_iconst F 0 dX10_advance_48 rfl ?_
  refine g_put (C := RX10) (T := TX10) (N := 27) (tys := tyX10) (Lw' := [sModel E aM anow aaside anames anamesAside atext aspelled acost afewestFrom afirst afresh aways aundo aslots aisSaved M_thrown M_length M_textSize M_next_1 M_next_1 M_token 0 M_error M_errorAt M_number M_many M_freshMany M_undos, sArrB E atext 600 text]) F 0 0 11 rfl rfl rfl iX10_advance_X10 tyX10_ok nmX10 (by decide) (by decide +kernel) rfl rfl rfl rfl (Nat.le_of_ble_eq_true rfl) dX10_advance_49 rfl ?_
  refine g_aload_n F dX10_advance_52 rfl ?_
  refine g_aload_n F dX10_advance_53 rfl ?_
  refine g_get (C := RX10) (T := TX10) (N := 27) F 0 0 9 rfl rfl rfl iX10_advance_X10 (by decide) (by decide +kernel) rfl dX10_advance_54 ?_
  obtain ⟨r_1, hg_1, hf⟩ := gb1_el hf
  refine g_callV (C := RX10) (T := TX10) (N := 27) (Lr := []) (As := [.int M_next_1]) (rest := []) F 0 0 1 (ctX10_byteAt l E aM anow aaside anames anamesAside atext aspelled acost afewestFrom afirst afresh aways aundo aslots aisSaved M_next_1 M_thrown M_length M_textSize M_next_1 M_next_1 M_token 0 M_error M_errorAt M_number M_many M_freshMany M_undos text r_1 hg_1) gX10_advance_X10_byteAt rfl rfl rfl h0X10_byteAt ⟨Nat.le_of_ble_eq_true rfl, Nat.le_of_ble_eq_true rfl⟩ rfl rfl rfl [0, 1] [] rfl rfl rfl rfl rfl rfl (Nat.le_of_ble_eq_true rfl) dX10_advance_57 ⟨Nat.le_of_ble_eq_true rfl, Nat.le_of_ble_eq_true rfl⟩ ?_
  rintro v w ⟨rfl, rfl⟩
  refine g_norm (Lw' := [sModel E aM anow aaside anames anamesAside atext aspelled acost afewestFrom afirst afresh aways aundo aslots aisSaved M_thrown M_length M_textSize M_next_1 M_next_1 M_token 0 M_error M_errorAt M_number M_many M_freshMany M_undos, sArrB E atext 600 text]) (st' := [.int r_1]) (pc' := 60) [0, 1] rfl rfl rfl rfl ?_
  refine g_istore_n (lv' := [some (.ref (aM 0)), some (.int r_1)]) F dX10_advance_60 (Nat.le_of_ble_eq_true rfl) rfl rfl ?_
  refine g_iload_n F dX10_advance_61 rfl ?_
  refine g_iconst F (-1) dX10_advance_62 rfl ?_
  refine g_icmp_ne F 74 dX10_advance_63 (by decide) (fun hc_6 => ?_) (fun hc_6 => ?_)
  · replace hf := gi_f hc_6 hf
    refine g_iload_n F dX10_advance_74 rfl ?_
    refine g_bipush F 97 dX10_advance_75 rfl ?_
    refine g_bipush F 122 dX10_advance_77 rfl ?_
    obtain ⟨r_2, hg_2, hf⟩ := gb1_el hf
    refine g_callS (Lr := [sModel E aM anow aaside anames anamesAside atext aspelled acost afewestFrom afirst afresh aways aundo aslots aisSaved M_thrown M_length M_textSize M_next_1 M_next_1 M_token 0 M_error M_errorAt M_number M_many M_freshMany M_undos, sArrB E atext 600 text]) (As := [.int r_1, .int 97, .int 122]) (rest := []) F 3 (ctX10_within l E r_1 97 122 r_2 hg_2) (va_cwS 3 F.2.2.2.2.2.1 gX10_advance_X10_within rfl rfl rfl h0X10_within ⟨Nat.le_of_ble_eq_true rfl, Nat.le_of_ble_eq_true rfl⟩) [] [0, 1] rfl rfl rfl rfl rfl rfl (Nat.le_of_ble_eq_true rfl) dX10_advance_79 ⟨Nat.le_of_ble_eq_true rfl, Nat.le_of_ble_eq_true rfl⟩ ?_
    rintro v w ⟨rfl, rfl, hz_1⟩
    refine g_norm (Lw' := [sModel E aM anow aaside anames anamesAside atext aspelled acost afewestFrom afirst afresh aways aundo aslots aisSaved M_thrown M_length M_textSize M_next_1 M_next_1 M_token 0 M_error M_errorAt M_number M_many M_freshMany M_undos, sArrB E atext 600 text]) (st' := [.int r_2]) (pc' := 82) [0, 1] rfl rfl rfl rfl ?_
    refine g_ifeq F 142 dX10_advance_82 (by decide) (fun hc_5 => ?_) (fun hc_5 => ?_)
    · replace hf := gi_t hc_5 hf
      refine g_iload_n F dX10_advance_142 rfl ?_
      refine g_bipush F 48 dX10_advance_143 rfl ?_
      refine g_bipush F 57 dX10_advance_145 rfl ?_
      obtain ⟨r_3, hg_3, hf⟩ := gb1_el hf
      refine g_callS (Lr := [sModel E aM anow aaside anames anamesAside atext aspelled acost afewestFrom afirst afresh aways aundo aslots aisSaved M_thrown M_length M_textSize M_next_1 M_next_1 M_token 0 M_error M_errorAt M_number M_many M_freshMany M_undos, sArrB E atext 600 text]) (As := [.int r_1, .int 48, .int 57]) (rest := []) F 3 (ctX10_within l E r_1 48 57 r_3 hg_3) (va_cwS 3 F.2.2.2.2.2.1 gX10_advance_X10_within rfl rfl rfl h0X10_within ⟨Nat.le_of_ble_eq_true rfl, Nat.le_of_ble_eq_true rfl⟩) [] [0, 1] rfl rfl rfl rfl rfl rfl (Nat.le_of_ble_eq_true rfl) dX10_advance_147 ⟨Nat.le_of_ble_eq_true rfl, Nat.le_of_ble_eq_true rfl⟩ ?_
      rintro v w ⟨rfl, rfl, hz_2⟩
      refine g_norm (Lw' := [sModel E aM anow aaside anames anamesAside atext aspelled acost afewestFrom afirst afresh aways aundo aslots aisSaved M_thrown M_length M_textSize M_next_1 M_next_1 M_token 0 M_error M_errorAt M_number M_many M_freshMany M_undos, sArrB E atext 600 text]) (st' := [.int r_3]) (pc' := 150) [0, 1] rfl rfl rfl rfl ?_
      refine g_ifeq F 252 dX10_advance_150 (by decide) (fun hc_3 => ?_) (fun hc_3 => ?_)
      · replace hf := gi_t hc_3 hf
        refine g_aload_n F dX10_advance_252 rfl ?_
        refine g_dup F dX10_advance_253 rfl ?_
        refine g_get (C := RX10) (T := TX10) (N := 27) F 0 0 9 rfl rfl rfl iX10_advance_X10 (by decide) (by decide +kernel) rfl dX10_advance_254 ?_
        refine g_iconst F 1 dX10_advance_257 rfl ?_
        refine g_iadd F dX10_advance_258 ?_
        refine g_put (C := RX10) (T := TX10) (N := 27) (tys := tyX10) (Lw' := [sModel E aM anow aaside anames anamesAside atext aspelled acost afewestFrom afirst afresh aways aundo aslots aisSaved M_thrown M_length M_textSize M_next_1 (M_next_1 + 1) M_token 0 M_error M_errorAt M_number M_many M_freshMany M_undos, sArrB E atext 600 text]) F 0 0 9 rfl rfl rfl iX10_advance_X10 tyX10_ok nmX10 (by decide) (by decide +kernel) rfl rfl rfl rfl (Nat.le_of_ble_eq_true rfl) dX10_advance_259 rfl ?_
        refine g_aload_n F dX10_advance_262 rfl ?_
        refine g_iload_n F dX10_advance_263 rfl ?_
        refine g_bipush F 59 dX10_advance_264 rfl ?_
        obtain ⟨j_1, hj_1, hf⟩ := Lt_el hf
        have hj_1 : ∀ (t0_1 : Int32), j_1 t0_1 = some (M_start', M_next', M_token', M_value') → Gj p l e rmX10_advance s m ([.ref (aM 0)] : List Value).toArray below meth c 0 0 (MQ below (gQ vwCl E A (fun v w => v = none ∧ w = [sModel E aM anow aaside anames anamesAside atext aspelled acost afewestFrom afirst afresh aways aundo aslots aisSaved M_thrown M_length M_textSize M_start' M_next' M_token' M_value' M_error M_errorAt M_number M_many M_freshMany M_undos, sArrB E atext 600 text])) ([.ref (aM 0)] : List Value).toArray s 0 0 A) vwCl E A [sModel E aM anow aaside anames anamesAside atext aspelled acost afewestFrom afirst afresh aways aundo aslots aisSaved M_thrown M_length M_textSize M_next_1 (M_next_1 + 1) M_token 0 M_error M_errorAt M_number M_many M_freshMany M_undos, sArrB E atext 600 text] [none, none] [.int t0_1, .ref (aM 0)] 274 := by
          intro t0_1 hf
          rw [hj_1] at hf
          refine g_put (C := RX10) (T := TX10) (N := 27) (tys := tyX10) (Lw' := [sModel E aM anow aaside anames anamesAside atext aspelled acost afewestFrom afirst afresh aways aundo aslots aisSaved M_thrown M_length M_textSize M_next_1 (M_next_1 + 1) t0_1 0 M_error M_errorAt M_number M_many M_freshMany M_undos, sArrB E atext 600 text]) F 0 0 10 rfl rfl rfl iX10_advance_X10 tyX10_ok nmX10 (by decide) (by decide +kernel) rfl rfl rfl rfl (Nat.le_of_ble_eq_true rfl) dX10_advance_274 rfl ?_
          cases hf
          exact g_vret F rfl ⟨rfl, rfl⟩ dX10_advance_277
        refine g_icmp_ne F 273 dX10_advance_266 (by decide) (fun hc_1 => ?_) (fun hc_1 => ?_)
        · replace hf := gi_f hc_1 hf
          refine g_iconst F 4 dX10_advance_273 rfl ?_
          refine g_mask [false, false] rfl ?_
          exact hj_1 4 hf
        · replace hf := gi_t hc_1 hf
          refine g_iconst F 3 dX10_advance_269 rfl ?_
          refine g_goto F 274 dX10_advance_270 (by decide) ?_
          refine g_mask [false, false] rfl ?_
          exact hj_1 3 hf
      · replace hf := gi_f hc_3 hf
        refine g_mask [true, false] rfl ?_
        refine ktX10_advance_L153 F aM anow aaside anames anamesAside atext aspelled acost afewestFrom afirst afresh aways aundo aslots aisSaved M_textSize M_next_1 text M_thrown M_length M_token M_error M_errorAt M_number M_many M_freshMany M_undos M_start' M_next' M_token' M_value' (fun M_next_2 M_value_1 hf => ?_) FU M_next_1 0 hf
        refine g_aload_n F dX10_advance_227 rfl ?_
        refine g_aload_n F dX10_advance_228 rfl ?_
        refine g_get (C := RX10) (T := TX10) (N := 27) F 0 0 9 rfl rfl rfl iX10_advance_X10 (by decide) (by decide +kernel) rfl dX10_advance_229 ?_
        refine g_aload_n F dX10_advance_232 rfl ?_
        refine g_get (C := RX10) (T := TX10) (N := 27) F 0 0 8 rfl rfl rfl iX10_advance_X10 (by decide) (by decide +kernel) rfl dX10_advance_233 ?_
        refine g_isub F dX10_advance_236 ?_
        refine g_iconst F 4 dX10_advance_237 rfl ?_
        obtain ⟨j_2, hj_2, hf⟩ := Lt_el hf
        have hj_2 : ∀ (t0_2 : Int32), j_2 t0_2 = some (M_start', M_next', M_token', M_value') → Gj p l e rmX10_advance s m ([.ref (aM 0)] : List Value).toArray below meth c 0 0 (MQ below (gQ vwCl E A (fun v w => v = none ∧ w = [sModel E aM anow aaside anames anamesAside atext aspelled acost afewestFrom afirst afresh aways aundo aslots aisSaved M_thrown M_length M_textSize M_start' M_next' M_token' M_value' M_error M_errorAt M_number M_many M_freshMany M_undos, sArrB E atext 600 text])) ([.ref (aM 0)] : List Value).toArray s 0 0 A) vwCl E A [sModel E aM anow aaside anames anamesAside atext aspelled acost afewestFrom afirst afresh aways aundo aslots aisSaved M_thrown M_length M_textSize M_next_1 M_next_2 M_token M_value_1 M_error M_errorAt M_number M_many M_freshMany M_undos, sArrB E atext 600 text] [none, none] [.int t0_2, .ref (aM 0)] 246 := by
          intro t0_2 hf
          rw [hj_2] at hf
          refine g_put (C := RX10) (T := TX10) (N := 27) (tys := tyX10) (Lw' := [sModel E aM anow aaside anames anamesAside atext aspelled acost afewestFrom afirst afresh aways aundo aslots aisSaved M_thrown M_length M_textSize M_next_1 M_next_2 t0_2 M_value_1 M_error M_errorAt M_number M_many M_freshMany M_undos, sArrB E atext 600 text]) F 0 0 10 rfl rfl rfl iX10_advance_X10 tyX10_ok nmX10 (by decide) (by decide +kernel) rfl rfl rfl rfl (Nat.le_of_ble_eq_true rfl) dX10_advance_246 rfl ?_
          refine g_goto F 277 dX10_advance_249 (by decide) ?_
          cases hf
          exact g_vret F rfl ⟨rfl, rfl⟩ dX10_advance_277
        refine g_icmp_le F 245 dX10_advance_238 (by decide) (fun hc_2 => ?_) (fun hc_2 => ?_)
        · replace hf := gi_t hc_2 hf
          refine g_iconst F 2 dX10_advance_245 rfl ?_
          refine g_mask [false, true] rfl ?_
          exact hj_2 2 hf
        · replace hf := gi_f hc_2 hf
          refine g_iconst F 4 dX10_advance_241 rfl ?_
          refine g_goto F 246 dX10_advance_242 (by decide) ?_
          refine g_mask [false, true] rfl ?_
          exact hj_2 4 hf
    · replace hf := gi_f hc_5 hf
      refine g_mask [true, false] rfl ?_
      refine ktX10_advance_L85 F aM anow aaside anames anamesAside atext aspelled acost afewestFrom afirst afresh aways aundo aslots aisSaved M_textSize text M_thrown M_length M_next_1 M_token 0 M_error M_errorAt M_number M_many M_freshMany M_undos M_start' M_next' M_token' M_value' (fun M_next_3 hf => ?_) FU M_next_1 hf
      refine g_aload_n F dX10_advance_116 rfl ?_
      refine g_aload_n F dX10_advance_117 rfl ?_
      refine g_get (C := RX10) (T := TX10) (N := 27) F 0 0 9 rfl rfl rfl iX10_advance_X10 (by decide) (by decide +kernel) rfl dX10_advance_118 ?_
      refine g_aload_n F dX10_advance_121 rfl ?_
      refine g_get (C := RX10) (T := TX10) (N := 27) F 0 0 8 rfl rfl rfl iX10_advance_X10 (by decide) (by decide +kernel) rfl dX10_advance_122 ?_
      refine g_isub F dX10_advance_125 ?_
      refine g_bipush F 12 dX10_advance_126 rfl ?_
      obtain ⟨j_3, hj_3, hf⟩ := Lt_el hf
      have hj_3 : ∀ (t0_3 : Int32), j_3 t0_3 = some (M_start', M_next', M_token', M_value') → Gj p l e rmX10_advance s m ([.ref (aM 0)] : List Value).toArray below meth c 0 0 (MQ below (gQ vwCl E A (fun v w => v = none ∧ w = [sModel E aM anow aaside anames anamesAside atext aspelled acost afewestFrom afirst afresh aways aundo aslots aisSaved M_thrown M_length M_textSize M_start' M_next' M_token' M_value' M_error M_errorAt M_number M_many M_freshMany M_undos, sArrB E atext 600 text])) ([.ref (aM 0)] : List Value).toArray s 0 0 A) vwCl E A [sModel E aM anow aaside anames anamesAside atext aspelled acost afewestFrom afirst afresh aways aundo aslots aisSaved M_thrown M_length M_textSize M_next_1 M_next_3 M_token 0 M_error M_errorAt M_number M_many M_freshMany M_undos, sArrB E atext 600 text] [none, none] [.int t0_3, .ref (aM 0)] 136 := by
        intro t0_3 hf
        rw [hj_3] at hf
        refine g_put (C := RX10) (T := TX10) (N := 27) (tys := tyX10) (Lw' := [sModel E aM anow aaside anames anamesAside atext aspelled acost afewestFrom afirst afresh aways aundo aslots aisSaved M_thrown M_length M_textSize M_next_1 M_next_3 t0_3 0 M_error M_errorAt M_number M_many M_freshMany M_undos, sArrB E atext 600 text]) F 0 0 10 rfl rfl rfl iX10_advance_X10 tyX10_ok nmX10 (by decide) (by decide +kernel) rfl rfl rfl rfl (Nat.le_of_ble_eq_true rfl) dX10_advance_136 rfl ?_
        refine g_goto F 277 dX10_advance_139 (by decide) ?_
        cases hf
        exact g_vret F rfl ⟨rfl, rfl⟩ dX10_advance_277
      refine g_icmp_le F 135 dX10_advance_128 (by decide) (fun hc_4 => ?_) (fun hc_4 => ?_)
      · replace hf := gi_t hc_4 hf
        refine g_iconst F 1 dX10_advance_135 rfl ?_
        refine g_mask [false, true] rfl ?_
        exact hj_3 1 hf
      · replace hf := gi_f hc_4 hf
        refine g_iconst F 4 dX10_advance_131 rfl ?_
        refine g_goto F 136 dX10_advance_132 (by decide) ?_
        refine g_mask [false, true] rfl ?_
        exact hj_3 4 hf
  · replace hf := gi_t hc_6 hf
    refine g_aload_n F dX10_advance_66 rfl ?_
    refine g_iconst F 0 dX10_advance_67 rfl ?_
    refine g_put (C := RX10) (T := TX10) (N := 27) (tys := tyX10) (Lw' := [sModel E aM anow aaside anames anamesAside atext aspelled acost afewestFrom afirst afresh aways aundo aslots aisSaved M_thrown M_length M_textSize M_next_1 M_next_1 0 0 M_error M_errorAt M_number M_many M_freshMany M_undos, sArrB E atext 600 text]) F 0 0 10 rfl rfl rfl iX10_advance_X10 tyX10_ok nmX10 (by decide) (by decide +kernel) rfl rfl rfl rfl (Nat.le_of_ble_eq_true rfl) dX10_advance_68 rfl ?_
    refine g_goto F 277 dX10_advance_71 (by decide) ?_
    cases hf
    exact g_vret F rfl ⟨rfl, rfl⟩ dX10_advance_277
set_option maxHeartbeats 4000000 in
set_option maxRecDepth 100000 in
theorem ktX10_isWord_L32 {p : Program} {l : Launch} {e : Env} {s : State} {m : MethodId} {args : Array Value} {below : List Frame} {meth : Method} {c : Code} {E : gE} {A : Nat → Prop} (F : gFx p s m args meth c RX10 wsX10_isWord cX10_isWord 4 (some .boolean) vwCl E A) (aM anow aaside anames anamesAside atext aspelled acost afewestFrom afirst afresh aways aundo aslots aisSaved : Nat → Nat) (i1 : Nat) (hi1 : i1 < 4) (M_start : Int32) (text : (Nat → Int32)) (M_thrown : Int32) (M_length : Int32) (M_textSize : Int32) (M_next : Int32) (M_token : Int32) (M_value : Int32) (M_error : Int32) (M_errorAt : Int32) (M_number : Int32) (M_many : Int32) (M_freshMany : Int32) (M_undos : Int32) (r : Int32) {k : Int32 → Option (Int32)} (hk : ∀ (x2 : Int32), k x2 = some r → Gj p l e rmX10_isWord s m args below meth c 0 0 (MQ below (gQ vwCl E A (fun v w => v = some (.int r) ∧ w = [sModel E aM anow aaside anames anamesAside atext aspelled acost afewestFrom afirst afresh aways aundo aslots aisSaved M_thrown M_length M_textSize M_start M_next M_token M_value M_error M_errorAt M_number M_many M_freshMany M_undos, sArrB E atext 600 text] ∧ narrow .boolean (.int r) = .int r)) args s 0 0 A) vwCl E A [sModel E aM anow aaside anames anamesAside atext aspelled acost afewestFrom afirst afresh aways aundo aslots aisSaved M_thrown M_length M_textSize M_start M_next M_token M_value M_error M_errorAt M_number M_many M_freshMany M_undos, sArrB E atext 600 text] [none, none, some (.int x2), none] [] 75) : ∀ (n : Nat) (x2 : Int32) (x3 : Int32), fX10_isWord_L32 i1 M_start text k n x2 x3 = some r → Gj p l e rmX10_isWord s m args below meth c 0 0 (MQ below (gQ vwCl E A (fun v w => v = some (.int r) ∧ w = [sModel E aM anow aaside anames anamesAside atext aspelled acost afewestFrom afirst afresh aways aundo aslots aisSaved M_thrown M_length M_textSize M_start M_next M_token M_value M_error M_errorAt M_number M_many M_freshMany M_undos, sArrB E atext 600 text] ∧ narrow .boolean (.int r) = .int r)) args s 0 0 A) vwCl E A [sModel E aM anow aaside anames anamesAside atext aspelled acost afewestFrom afirst afresh aways aundo aslots aisSaved M_thrown M_length M_textSize M_start M_next M_token M_value M_error M_errorAt M_number M_many M_freshMany M_undos, sArrB E atext 600 text] [some (.ref (aM 0)), some (.ref (E.2.2 i1)), some (.int x2), some (.int x3)] [] 32
  | 0, _, _, hf => by cases hf
  | n + 1, x2, x3, hf => by
    have ih := ktX10_isWord_L32 F aM anow aaside anames anamesAside atext aspelled acost afewestFrom afirst afresh aways aundo aslots aisSaved i1 hi1 M_start text M_thrown M_length M_textSize M_next M_token M_value M_error M_errorAt M_number M_many M_freshMany M_undos r hk n
    rw [fX10_isWord_L32] at hf
    refine g_iload_n F dX10_isWord_32 rfl ?_
    refine g_aload_n F dX10_isWord_33 rfl ?_
    obtain ⟨r_1, hg_1, hf⟩ := gb1_el hf
    refine g_callVs (Lr := [sModel E aM anow aaside anames anamesAside atext aspelled acost afewestFrom afirst afresh aways aundo aslots aisSaved M_thrown M_length M_textSize M_start M_next M_token M_value M_error M_errorAt M_number M_many M_freshMany M_undos, sArrB E atext 600 text]) (As := []) (rest := [.int x3]) F 0 hi1 (ctJ0_length_8abf5 l E i1 hi1 r_1 hg_1) gX10_isWord_J0_length_8abf5 rfl rfl rfl h0J0_length_8abf5 ⟨Nat.le_of_ble_eq_true rfl, Nat.le_of_ble_eq_true rfl⟩ [] [0, 1] rfl rfl rfl rfl rfl rfl (Nat.le_of_ble_eq_true rfl) dX10_isWord_34 ⟨Nat.le_of_ble_eq_true rfl, Nat.le_of_ble_eq_true rfl⟩ ?_
    rintro v w ⟨rfl, rfl⟩
    refine g_norm (Lw' := [sModel E aM anow aaside anames anamesAside atext aspelled acost afewestFrom afirst afresh aways aundo aslots aisSaved M_thrown M_length M_textSize M_start M_next M_token M_value M_error M_errorAt M_number M_many M_freshMany M_undos, sArrB E atext 600 text]) (st' := [.int r_1, .int x3]) (pc' := 37) [0, 1] rfl rfl rfl rfl ?_
    refine g_icmp_ge F 75 dX10_isWord_37 (by decide) (fun hc_3 => ?_) (fun hc_3 => ?_)
    · replace hf := gi_t hc_3 hf
      refine g_mask [false, false, true, false] rfl ?_
      exact hk x2 hf
    · replace hf := gi_f hc_3 hf
      refine g_iload_n F dX10_isWord_40 rfl ?_
      refine g_ifeq F 75 dX10_isWord_41 (by decide) (fun hc_2 => ?_) (fun hc_2 => ?_)
      · replace hf := gi_t hc_2 hf
        refine g_mask [false, false, true, false] rfl ?_
        exact hk x2 hf
      · replace hf := gi_f hc_2 hf
        refine g_aload_n F dX10_isWord_44 rfl ?_
        refine g_get (C := RX10) (T := TX10) (N := 27) F 0 0 5 rfl rfl rfl iX10_isWord_X10 (by decide) (by decide +kernel) rfl dX10_isWord_45 ?_
        refine g_aload_n F dX10_isWord_48 rfl ?_
        refine g_get (C := RX10) (T := TX10) (N := 27) F 0 0 8 rfl rfl rfl iX10_isWord_X10 (by decide) (by decide +kernel) rfl dX10_isWord_49 ?_
        refine g_iload_n F dX10_isWord_52 rfl ?_
        refine g_iadd F dX10_isWord_53 ?_
        obtain ⟨hb_1, hf⟩ := gb_in hf
        refine g_bald F 1 0 ((M_start + x3).toNatClampNeg) rfl rfl rfl hb_1 dX10_isWord_54 ?_
        refine g_aload_n F dX10_isWord_55 rfl ?_
        refine g_iload_n F dX10_isWord_56 rfl ?_
        obtain ⟨r_2, hg_2, hf⟩ := gb1_el hf
        refine g_callVs (Lr := [sModel E aM anow aaside anames anamesAside atext aspelled acost afewestFrom afirst afresh aways aundo aslots aisSaved M_thrown M_length M_textSize M_start M_next M_token M_value M_error M_errorAt M_number M_many M_freshMany M_undos, sArrB E atext 600 text]) (As := [.int x3]) (rest := [.int (text ((M_start + x3).toNatClampNeg))]) F 1 hi1 (ctJ0_charAt_5068e l E i1 x3 hi1 r_2 hg_2) gX10_isWord_J0_charAt_5068e rfl rfl rfl h0J0_charAt_5068e ⟨Nat.le_of_ble_eq_true rfl, Nat.le_of_ble_eq_true rfl⟩ [] [0, 1] rfl rfl rfl rfl rfl rfl (Nat.le_of_ble_eq_true rfl) dX10_isWord_57 ⟨Nat.le_of_ble_eq_true rfl, Nat.le_of_ble_eq_true rfl⟩ ?_
        rintro v w ⟨rfl, rfl, hz_1⟩
        refine g_norm (Lw' := [sModel E aM anow aaside anames anamesAside atext aspelled acost afewestFrom afirst afresh aways aundo aslots aisSaved M_thrown M_length M_textSize M_start M_next M_token M_value M_error M_errorAt M_number M_many M_freshMany M_undos, sArrB E atext 600 text]) (st' := [.int r_2, .int (text ((M_start + x3).toNatClampNeg))]) (pc' := 60) [0, 1] rfl rfl rfl rfl ?_
        refine g_icmp_ne F 67 dX10_isWord_60 (by decide) (fun hc_1 => ?_) (fun hc_1 => ?_)
        · replace hf := gi_f hc_1 hf
          refine g_iconst F 0 dX10_isWord_67 rfl ?_
          refine g_istore_n (lv' := [some (.ref (aM 0)), some (.ref (E.2.2 i1)), some (.int 0), some (.int x3)]) F dX10_isWord_68 (Nat.le_of_ble_eq_true rfl) rfl rfl ?_
          refine g_iinc (lv' := [some (.ref (aM 0)), some (.ref (E.2.2 i1)), some (.int 0), some (.int (x3 + 1))]) F (x3 + 1) dX10_isWord_69 rfl rfl rfl rfl ?_
          refine g_goto F 32 dX10_isWord_72 (by decide) ?_
          exact ih 0 (x3 + 1) hf
        · replace hf := gi_t hc_1 hf
          refine g_iconst F 1 dX10_isWord_63 rfl ?_
          refine g_goto F 68 dX10_isWord_64 (by decide) ?_
          refine g_istore_n (lv' := [some (.ref (aM 0)), some (.ref (E.2.2 i1)), some (.int 1), some (.int x3)]) F dX10_isWord_68 (Nat.le_of_ble_eq_true rfl) rfl rfl ?_
          refine g_iinc (lv' := [some (.ref (aM 0)), some (.ref (E.2.2 i1)), some (.int 1), some (.int (x3 + 1))]) F (x3 + 1) dX10_isWord_69 rfl rfl rfl rfl ?_
          refine g_goto F 32 dX10_isWord_72 (by decide) ?_
          exact ih 1 (x3 + 1) hf
set_option maxHeartbeats 4000000 in
set_option maxRecDepth 100000 in
theorem ctX10_isWord (l : Launch) (E : gE) (aM anow aaside anames anamesAside atext aspelled acost afewestFrom afirst afresh aways aundo aslots aisSaved : Nat → Nat) (i1 : Nat) (hi1 : i1 < 4) (M_thrown : Int32) (M_length : Int32) (M_textSize : Int32) (M_start : Int32) (M_next : Int32) (M_token : Int32) (M_value : Int32) (M_error : Int32) (M_errorAt : Int32) (M_number : Int32) (M_many : Int32) (M_freshMany : Int32) (M_undos : Int32) (text : (Nat → Int32)) (r : Int32) (hf : fX10_isWord i1 M_start M_next M_token text = some r) : gMet l yX10_isWord wsX10_isWord rmX10_isWord vwCl E [.ref (aM 0), .ref (E.2.2 i1)] [sModel E aM anow aaside anames anamesAside atext aspelled acost afewestFrom afirst afresh aways aundo aslots aisSaved M_thrown M_length M_textSize M_start M_next M_token M_value M_error M_errorAt M_number M_many M_freshMany M_undos, sArrB E atext 600 text] (fun v w => v = some (.int r) ∧ w = [sModel E aM anow aaside anames anamesAside atext aspelled acost afewestFrom afirst afresh aways aundo aslots aisSaved M_thrown M_length M_textSize M_start M_next M_token M_value M_error M_errorAt M_number M_many M_freshMany M_undos, sArrB E atext 600 text] ∧ narrow .boolean (.int r) = .int r) 0 0 := by
  refine g_entry [some (.ref (aM 0)), some (.ref (E.2.2 i1)), none, none] (by decide) rfl (Nat.le_of_ble_eq_true rfl) rfl ?_
  intro p e s m below meth c A F hnm
  unfold fX10_isWord at hf
  refine g_aload_n F dX10_isWord_0 rfl ?_
  refine g_get (C := RX10) (T := TX10) (N := 27) F 0 0 10 rfl rfl rfl iX10_isWord_X10 (by decide) (by decide +kernel) rfl dX10_isWord_1 ?_
  refine g_iconst F 1 dX10_isWord_4 rfl ?_
  obtain ⟨j_1, hj_1, hf⟩ := Lt_el hf
  have hj_1 : ∀ (t0_1 : Int32), j_1 t0_1 = some r → Gj p l e rmX10_isWord s m ([.ref (aM 0), .ref (E.2.2 i1)] : List Value).toArray below meth c 0 0 (MQ below (gQ vwCl E A (fun v w => v = some (.int r) ∧ w = [sModel E aM anow aaside anames anamesAside atext aspelled acost afewestFrom afirst afresh aways aundo aslots aisSaved M_thrown M_length M_textSize M_start M_next M_token M_value M_error M_errorAt M_number M_many M_freshMany M_undos, sArrB E atext 600 text] ∧ narrow .boolean (.int r) = .int r)) ([.ref (aM 0), .ref (E.2.2 i1)] : List Value).toArray s 0 0 A) vwCl E A [sModel E aM anow aaside anames anamesAside atext aspelled acost afewestFrom afirst afresh aways aundo aslots aisSaved M_thrown M_length M_textSize M_start M_next M_token M_value M_error M_errorAt M_number M_many M_freshMany M_undos, sArrB E atext 600 text] [some (.ref (aM 0)), some (.ref (E.2.2 i1)), none, none] [.int t0_1] 29 := by
    intro t0_1 hf
    rw [hj_1] at hf
    refine g_istore_n (lv' := [some (.ref (aM 0)), some (.ref (E.2.2 i1)), some (.int t0_1), none]) F dX10_isWord_29 (Nat.le_of_ble_eq_true rfl) rfl rfl ?_
    refine g_iconst F 0 dX10_isWord_30 rfl ?_
    refine g_istore_n (lv' := [some (.ref (aM 0)), some (.ref (E.2.2 i1)), some (.int t0_1), some (.int 0)]) F dX10_isWord_31 (Nat.le_of_ble_eq_true rfl) rfl rfl ?_
    refine ktX10_isWord_L32 F aM anow aaside anames anamesAside atext aspelled acost afewestFrom afirst afresh aways aundo aslots aisSaved i1 hi1 M_start text M_thrown M_length M_textSize M_next M_token M_value M_error M_errorAt M_number M_many M_freshMany M_undos r (fun x2_1 hf => ?_) FU t0_1 0 hf
    refine g_iload_n F dX10_isWord_75 rfl ?_
    obtain ⟨hz_1, hf⟩ := gb_if hf
    cases hf
    exact g_zret (ty := .boolean) F rfl (congrArg Value.int hz_1) ⟨rfl, rfl, (congrArg Value.int hz_1)⟩ dX10_isWord_76
  obtain ⟨j_2, hj_2, hf⟩ := Lt_el hf
  have hj_2 : j_2 = some r → Gj p l e rmX10_isWord s m ([.ref (aM 0), .ref (E.2.2 i1)] : List Value).toArray below meth c 0 0 (MQ below (gQ vwCl E A (fun v w => v = some (.int r) ∧ w = [sModel E aM anow aaside anames anamesAside atext aspelled acost afewestFrom afirst afresh aways aundo aslots aisSaved M_thrown M_length M_textSize M_start M_next M_token M_value M_error M_errorAt M_number M_many M_freshMany M_undos, sArrB E atext 600 text] ∧ narrow .boolean (.int r) = .int r)) ([.ref (aM 0), .ref (E.2.2 i1)] : List Value).toArray s 0 0 A) vwCl E A [sModel E aM anow aaside anames anamesAside atext aspelled acost afewestFrom afirst afresh aways aundo aslots aisSaved M_thrown M_length M_textSize M_start M_next M_token M_value M_error M_errorAt M_number M_many M_freshMany M_undos, sArrB E atext 600 text] [some (.ref (aM 0)), some (.ref (E.2.2 i1)), none, none] [] 28 := by
    intro hf
    rw [hj_2] at hf
    refine g_iconst F 0 dX10_isWord_28 rfl ?_
    exact hj_1 0 hf
  refine g_icmp_ne F 28 dX10_isWord_5 (by decide) (fun hc_2 => ?_) (fun hc_2 => ?_)
  · replace hf := gi_f hc_2 hf
    exact hj_2 hf
  · replace hf := gi_t hc_2 hf
    refine g_aload_n F dX10_isWord_8 rfl ?_
    refine g_get (C := RX10) (T := TX10) (N := 27) F 0 0 9 rfl rfl rfl iX10_isWord_X10 (by decide) (by decide +kernel) rfl dX10_isWord_9 ?_
    refine g_aload_n F dX10_isWord_12 rfl ?_
    refine g_get (C := RX10) (T := TX10) (N := 27) F 0 0 8 rfl rfl rfl iX10_isWord_X10 (by decide) (by decide +kernel) rfl dX10_isWord_13 ?_
    refine g_isub F dX10_isWord_16 ?_
    refine g_aload_n F dX10_isWord_17 rfl ?_
    obtain ⟨r_1, hg_1, hf⟩ := gb1_el hf
    refine g_callVs (Lr := [sModel E aM anow aaside anames anamesAside atext aspelled acost afewestFrom afirst afresh aways aundo aslots aisSaved M_thrown M_length M_textSize M_start M_next M_token M_value M_error M_errorAt M_number M_many M_freshMany M_undos, sArrB E atext 600 text]) (As := []) (rest := [.int (M_next - M_start)]) F 0 hi1 (ctJ0_length_8abf5 l E i1 hi1 r_1 hg_1) gX10_isWord_J0_length_8abf5 rfl rfl rfl h0J0_length_8abf5 ⟨Nat.le_of_ble_eq_true rfl, Nat.le_of_ble_eq_true rfl⟩ [] [0, 1] rfl rfl rfl rfl rfl rfl (Nat.le_of_ble_eq_true rfl) dX10_isWord_18 ⟨Nat.le_of_ble_eq_true rfl, Nat.le_of_ble_eq_true rfl⟩ ?_
    rintro v w ⟨rfl, rfl⟩
    refine g_norm (Lw' := [sModel E aM anow aaside anames anamesAside atext aspelled acost afewestFrom afirst afresh aways aundo aslots aisSaved M_thrown M_length M_textSize M_start M_next M_token M_value M_error M_errorAt M_number M_many M_freshMany M_undos, sArrB E atext 600 text]) (st' := [.int r_1, .int (M_next - M_start)]) (pc' := 21) [0, 1] rfl rfl rfl rfl ?_
    refine g_icmp_ne F 28 dX10_isWord_21 (by decide) (fun hc_1 => ?_) (fun hc_1 => ?_)
    · replace hf := gi_f hc_1 hf
      exact hj_2 hf
    · replace hf := gi_t hc_1 hf
      refine g_iconst F 1 dX10_isWord_24 rfl ?_
      refine g_goto F 29 dX10_isWord_25 (by decide) ?_
      exact hj_1 1 hf
set_option maxHeartbeats 4000000 in
set_option maxRecDepth 100000 in
theorem ctX10_fails (l : Launch) (E : gE) (aM anow aaside anames anamesAside atext aspelled acost afewestFrom afirst afresh aways aundo aslots aisSaved : Nat → Nat) (x1 : Int32) (M_thrown : Int32) (M_length : Int32) (M_textSize : Int32) (M_start : Int32) (M_next : Int32) (M_token : Int32) (M_value : Int32) (M_error : Int32) (M_errorAt : Int32) (M_number : Int32) (M_many : Int32) (M_freshMany : Int32) (M_undos : Int32) (r : Int32) (M_error' : Int32) (M_errorAt' : Int32) (hf : fX10_fails x1 M_start M_error M_errorAt = some (r, M_error', M_errorAt')) : gMet l yX10_fails wsX10_fails rmX10_fails vwCl E [.ref (aM 0), .int x1] [sModel E aM anow aaside anames anamesAside atext aspelled acost afewestFrom afirst afresh aways aundo aslots aisSaved M_thrown M_length M_textSize M_start M_next M_token M_value M_error M_errorAt M_number M_many M_freshMany M_undos] (fun v w => v = some (.int r) ∧ w = [sModel E aM anow aaside anames anamesAside atext aspelled acost afewestFrom afirst afresh aways aundo aslots aisSaved M_thrown M_length M_textSize M_start M_next M_token M_value M_error' M_errorAt' M_number M_many M_freshMany M_undos] ∧ narrow .boolean (.int r) = .int r) 0 0 := by
  refine g_entry [some (.ref (aM 0)), some (.int x1)] (by decide) rfl (Nat.le_of_ble_eq_true rfl) rfl ?_
  intro p e s m below meth c A F hnm
  unfold fX10_fails at hf
  refine g_aload_n F dX10_fails_0 rfl ?_
  refine g_get (C := RX10) (T := TX10) (N := 27) F 0 0 12 rfl rfl rfl iX10_fails_X10 (by decide) (by decide +kernel) rfl dX10_fails_1 ?_
  refine g_ifne F 20 dX10_fails_4 (by decide) (fun hc_1 => ?_) (fun hc_1 => ?_)
  · replace hf := gi_f hc_1 hf
    refine g_iconst F 0 dX10_fails_20 rfl ?_
    cases hf
    exact g_zret (ty := .boolean) F rfl rfl ⟨rfl, rfl, rfl⟩ dX10_fails_21
  · replace hf := gi_t hc_1 hf
    refine g_aload_n F dX10_fails_7 rfl ?_
    refine g_iload_n F dX10_fails_8 rfl ?_
    refine g_put (C := RX10) (T := TX10) (N := 27) (tys := tyX10) (Lw' := [sModel E aM anow aaside anames anamesAside atext aspelled acost afewestFrom afirst afresh aways aundo aslots aisSaved M_thrown M_length M_textSize M_start M_next M_token M_value x1 M_errorAt M_number M_many M_freshMany M_undos]) F 0 0 12 rfl rfl rfl iX10_fails_X10 tyX10_ok nmX10 (by decide) (by decide +kernel) rfl rfl rfl rfl (Nat.le_of_ble_eq_true rfl) dX10_fails_9 rfl ?_
    refine g_aload_n F dX10_fails_12 rfl ?_
    refine g_aload_n F dX10_fails_13 rfl ?_
    refine g_get (C := RX10) (T := TX10) (N := 27) F 0 0 8 rfl rfl rfl iX10_fails_X10 (by decide) (by decide +kernel) rfl dX10_fails_14 ?_
    refine g_put (C := RX10) (T := TX10) (N := 27) (tys := tyX10) (Lw' := [sModel E aM anow aaside anames anamesAside atext aspelled acost afewestFrom afirst afresh aways aundo aslots aisSaved M_thrown M_length M_textSize M_start M_next M_token M_value x1 M_start M_number M_many M_freshMany M_undos]) F 0 0 13 rfl rfl rfl iX10_fails_X10 tyX10_ok nmX10 (by decide) (by decide +kernel) rfl rfl rfl rfl (Nat.le_of_ble_eq_true rfl) dX10_fails_17 rfl ?_
    refine g_iconst F 0 dX10_fails_20 rfl ?_
    cases hf
    exact g_zret (ty := .boolean) F rfl rfl ⟨rfl, rfl, rfl⟩ dX10_fails_21
set_option maxHeartbeats 4000000 in
set_option maxRecDepth 100000 in
theorem ctX10_starts (l : Launch) (E : gE) (aM anow aaside anames anamesAside atext aspelled acost afewestFrom afirst afresh aways aundo aslots aisSaved : Nat → Nat) (x1 : Int32) (x2 : Int32) (M_thrown : Int32) (M_length : Int32) (M_textSize : Int32) (M_start : Int32) (M_next : Int32) (M_token : Int32) (M_value : Int32) (M_error : Int32) (M_errorAt : Int32) (M_number : Int32) (M_many : Int32) (M_freshMany : Int32) (M_undos : Int32) (text : (Nat → Int32)) (r : Int32) (M_start' : Int32) (M_next' : Int32) (M_token' : Int32) (M_value' : Int32) (M_error' : Int32) (M_errorAt' : Int32) (hf : fX10_starts x1 x2 M_textSize M_start M_next M_token M_value M_error M_errorAt text = some (r, M_start', M_next', M_token', M_value', M_error', M_errorAt')) : gMet l yX10_starts wsX10_starts rmX10_starts vwCl E [.ref (aM 0), .int x1, .int x2] [sModel E aM anow aaside anames anamesAside atext aspelled acost afewestFrom afirst afresh aways aundo aslots aisSaved M_thrown M_length M_textSize M_start M_next M_token M_value M_error M_errorAt M_number M_many M_freshMany M_undos, sArrB E atext 600 text] (fun v w => v = some (.int r) ∧ w = [sModel E aM anow aaside anames anamesAside atext aspelled acost afewestFrom afirst afresh aways aundo aslots aisSaved M_thrown M_length M_textSize M_start' M_next' M_token' M_value' M_error' M_errorAt' M_number M_many M_freshMany M_undos, sArrB E atext 600 text] ∧ narrow .boolean (.int r) = .int r) 0 0 := by
  refine g_entry [some (.ref (aM 0)), some (.int x1), some (.int x2)] (by decide) rfl (Nat.le_of_ble_eq_true rfl) rfl ?_
  intro p e s m below meth c A F hnm
  unfold fX10_starts at hf
  refine g_iload_n F dX10_starts_0 rfl ?_
  refine g_ifne F 10 dX10_starts_1 (by decide) (fun hc_1 => ?_) (fun hc_1 => ?_)
  · replace hf := gi_f hc_1 hf
    refine g_aload_n F dX10_starts_10 rfl ?_
    obtain ⟨M_start_1, M_next_1, M_token_1, M_value_1, hg_2, hf⟩ := gb4_el hf
    refine g_callV (C := RX10) (T := TX10) (N := 27) (Lr := []) (As := []) (rest := []) F 0 0 0 (ctX10_advance l E aM anow aaside anames anamesAside atext aspelled acost afewestFrom afirst afresh aways aundo aslots aisSaved M_thrown M_length M_textSize M_start M_next M_token M_value M_error M_errorAt M_number M_many M_freshMany M_undos text M_start_1 M_next_1 M_token_1 M_value_1 hg_2) gX10_starts_X10_advance rfl rfl rfl h0X10_advance ⟨Nat.le_of_ble_eq_true rfl, Nat.le_of_ble_eq_true rfl⟩ rfl rfl rfl [0, 1] [] rfl rfl rfl rfl rfl rfl (Nat.le_of_ble_eq_true rfl) dX10_starts_11 ⟨Nat.le_of_ble_eq_true rfl, Nat.le_of_ble_eq_true rfl⟩ ?_
    rintro v w ⟨rfl, rfl⟩
    refine g_norm (Lw' := [sModel E aM anow aaside anames anamesAside atext aspelled acost afewestFrom afirst afresh aways aundo aslots aisSaved M_thrown M_length M_textSize M_start_1 M_next_1 M_token_1 M_value_1 M_error M_errorAt M_number M_many M_freshMany M_undos, sArrB E atext 600 text]) (st' := []) (pc' := 14) [0, 1] rfl rfl rfl rfl ?_
    refine g_iconst F 1 dX10_starts_14 rfl ?_
    cases hf
    exact g_zret (ty := .boolean) F rfl rfl ⟨rfl, rfl, rfl⟩ dX10_starts_15
  · replace hf := gi_t hc_1 hf
    refine g_aload_n F dX10_starts_4 rfl ?_
    refine g_iload_n F dX10_starts_5 rfl ?_
    obtain ⟨r_1, M_error_1, M_errorAt_1, hg_1, hf⟩ := gb3_el hf
    refine g_callV (C := RX10) (T := TX10) (N := 27) (Lr := [sArrB E atext 600 text]) (As := [.int x1]) (rest := []) F 0 0 1 (ctX10_fails l E aM anow aaside anames anamesAside atext aspelled acost afewestFrom afirst afresh aways aundo aslots aisSaved x1 M_thrown M_length M_textSize M_start M_next M_token M_value M_error M_errorAt M_number M_many M_freshMany M_undos r_1 M_error_1 M_errorAt_1 hg_1) gX10_starts_X10_fails rfl rfl rfl h0X10_fails ⟨Nat.le_of_ble_eq_true rfl, Nat.le_of_ble_eq_true rfl⟩ rfl rfl rfl [0] [1] rfl rfl rfl rfl rfl rfl (Nat.le_of_ble_eq_true rfl) dX10_starts_6 ⟨Nat.le_of_ble_eq_true rfl, Nat.le_of_ble_eq_true rfl⟩ ?_
    rintro v w ⟨rfl, rfl, hz_1⟩
    refine g_norm (Lw' := [sModel E aM anow aaside anames anamesAside atext aspelled acost afewestFrom afirst afresh aways aundo aslots aisSaved M_thrown M_length M_textSize M_start M_next M_token M_value M_error_1 M_errorAt_1 M_number M_many M_freshMany M_undos, sArrB E atext 600 text]) (st' := [.int r_1]) (pc' := 9) [0, 1] rfl rfl rfl rfl ?_
    cases hf
    exact g_zret (ty := .boolean) F rfl hz_1 ⟨rfl, rfl, hz_1⟩ dX10_starts_9
set_option maxHeartbeats 4000000 in
set_option maxRecDepth 100000 in
theorem ctX10_takes (l : Launch) (E : gE) (aM anow aaside anames anamesAside atext aspelled acost afewestFrom afirst afresh aways aundo aslots aisSaved : Nat → Nat) (x1 : Int32) (x2 : Int32) (M_thrown : Int32) (M_length : Int32) (M_textSize : Int32) (M_start : Int32) (M_next : Int32) (M_token : Int32) (M_value : Int32) (M_error : Int32) (M_errorAt : Int32) (M_number : Int32) (M_many : Int32) (M_freshMany : Int32) (M_undos : Int32) (text : (Nat → Int32)) (r : Int32) (M_start' : Int32) (M_next' : Int32) (M_token' : Int32) (M_value' : Int32) (M_error' : Int32) (M_errorAt' : Int32) (M_number' : Int32) (hf : fX10_takes x1 x2 M_textSize M_start M_next M_token M_value M_error M_errorAt M_number text = some (r, M_start', M_next', M_token', M_value', M_error', M_errorAt', M_number')) : gMet l yX10_takes wsX10_takes rmX10_takes vwCl E [.ref (aM 0), .int x1, .int x2] [sModel E aM anow aaside anames anamesAside atext aspelled acost afewestFrom afirst afresh aways aundo aslots aisSaved M_thrown M_length M_textSize M_start M_next M_token M_value M_error M_errorAt M_number M_many M_freshMany M_undos, sArrB E atext 600 text] (fun v w => v = some (.int r) ∧ w = [sModel E aM anow aaside anames anamesAside atext aspelled acost afewestFrom afirst afresh aways aundo aslots aisSaved M_thrown M_length M_textSize M_start' M_next' M_token' M_value' M_error' M_errorAt' M_number' M_many M_freshMany M_undos, sArrB E atext 600 text] ∧ narrow .boolean (.int r) = .int r) 0 0 := by
  refine g_entry [some (.ref (aM 0)), some (.int x1), some (.int x2)] (by decide) rfl (Nat.le_of_ble_eq_true rfl) rfl ?_
  intro p e s m below meth c A F hnm
  unfold fX10_takes at hf
  refine g_aload_n F dX10_takes_0 rfl ?_
  refine g_get (C := RX10) (T := TX10) (N := 27) F 0 0 10 rfl rfl rfl iX10_takes_X10 (by decide) (by decide +kernel) rfl dX10_takes_1 ?_
  refine g_iconst F 2 dX10_takes_4 rfl ?_
  refine g_icmp_eq F 14 dX10_takes_5 (by decide) (fun hc_2 => ?_) (fun hc_2 => ?_)
  · replace hf := gi_t hc_2 hf
    refine g_aload_n F dX10_takes_14 rfl ?_
    refine g_get (C := RX10) (T := TX10) (N := 27) F 0 0 11 rfl rfl rfl iX10_takes_X10 (by decide) (by decide +kernel) rfl dX10_takes_15 ?_
    refine g_iload_n F dX10_takes_18 rfl ?_
    refine g_iload_n F dX10_takes_19 rfl ?_
    obtain ⟨r_1, hg_1, hf⟩ := gb1_el hf
    refine g_callS (Lr := [sModel E aM anow aaside anames anamesAside atext aspelled acost afewestFrom afirst afresh aways aundo aslots aisSaved M_thrown M_length M_textSize M_start M_next M_token M_value M_error M_errorAt M_number M_many M_freshMany M_undos, sArrB E atext 600 text]) (As := [.int M_value, .int x1, .int x2]) (rest := []) F 3 (ctX10_within l E M_value x1 x2 r_1 hg_1) (va_cwS 3 F.2.2.2.2.2.1 gX10_takes_X10_within rfl rfl rfl h0X10_within ⟨Nat.le_of_ble_eq_true rfl, Nat.le_of_ble_eq_true rfl⟩) [] [0, 1] rfl rfl rfl rfl rfl rfl (Nat.le_of_ble_eq_true rfl) dX10_takes_20 ⟨Nat.le_of_ble_eq_true rfl, Nat.le_of_ble_eq_true rfl⟩ ?_
    rintro v w ⟨rfl, rfl, hz_1⟩
    refine g_norm (Lw' := [sModel E aM anow aaside anames anamesAside atext aspelled acost afewestFrom afirst afresh aways aundo aslots aisSaved M_thrown M_length M_textSize M_start M_next M_token M_value M_error M_errorAt M_number M_many M_freshMany M_undos, sArrB E atext 600 text]) (st' := [.int r_1]) (pc' := 23) [0, 1] rfl rfl rfl rfl ?_
    refine g_ifne F 32 dX10_takes_23 (by decide) (fun hc_1 => ?_) (fun hc_1 => ?_)
    · replace hf := gi_f hc_1 hf
      refine g_aload_n F dX10_takes_32 rfl ?_
      refine g_aload_n F dX10_takes_33 rfl ?_
      refine g_get (C := RX10) (T := TX10) (N := 27) F 0 0 11 rfl rfl rfl iX10_takes_X10 (by decide) (by decide +kernel) rfl dX10_takes_34 ?_
      refine g_put (C := RX10) (T := TX10) (N := 27) (tys := tyX10) (Lw' := [sModel E aM anow aaside anames anamesAside atext aspelled acost afewestFrom afirst afresh aways aundo aslots aisSaved M_thrown M_length M_textSize M_start M_next M_token M_value M_error M_errorAt M_value M_many M_freshMany M_undos, sArrB E atext 600 text]) F 0 0 14 rfl rfl rfl iX10_takes_X10 tyX10_ok nmX10 (by decide) (by decide +kernel) rfl rfl rfl rfl (Nat.le_of_ble_eq_true rfl) dX10_takes_37 rfl ?_
      refine g_aload_n F dX10_takes_40 rfl ?_
      obtain ⟨M_start_1, M_next_1, M_token_1, M_value_1, hg_3, hf⟩ := gb4_el hf
      refine g_callV (C := RX10) (T := TX10) (N := 27) (Lr := []) (As := []) (rest := []) F 0 0 0 (ctX10_advance l E aM anow aaside anames anamesAside atext aspelled acost afewestFrom afirst afresh aways aundo aslots aisSaved M_thrown M_length M_textSize M_start M_next M_token M_value M_error M_errorAt M_value M_many M_freshMany M_undos text M_start_1 M_next_1 M_token_1 M_value_1 hg_3) gX10_takes_X10_advance rfl rfl rfl h0X10_advance ⟨Nat.le_of_ble_eq_true rfl, Nat.le_of_ble_eq_true rfl⟩ rfl rfl rfl [0, 1] [] rfl rfl rfl rfl rfl rfl (Nat.le_of_ble_eq_true rfl) dX10_takes_41 ⟨Nat.le_of_ble_eq_true rfl, Nat.le_of_ble_eq_true rfl⟩ ?_
      rintro v w ⟨rfl, rfl⟩
      refine g_norm (Lw' := [sModel E aM anow aaside anames anamesAside atext aspelled acost afewestFrom afirst afresh aways aundo aslots aisSaved M_thrown M_length M_textSize M_start_1 M_next_1 M_token_1 M_value_1 M_error M_errorAt M_value M_many M_freshMany M_undos, sArrB E atext 600 text]) (st' := []) (pc' := 44) [0, 1] rfl rfl rfl rfl ?_
      refine g_iconst F 1 dX10_takes_44 rfl ?_
      cases hf
      exact g_zret (ty := .boolean) F rfl rfl ⟨rfl, rfl, rfl⟩ dX10_takes_45
    · replace hf := gi_t hc_1 hf
      refine g_aload_n F dX10_takes_26 rfl ?_
      refine g_iconst F 3 dX10_takes_27 rfl ?_
      obtain ⟨r_2, M_error_1, M_errorAt_1, hg_2, hf⟩ := gb3_el hf
      refine g_callV (C := RX10) (T := TX10) (N := 27) (Lr := [sArrB E atext 600 text]) (As := [.int 3]) (rest := []) F 0 0 1 (ctX10_fails l E aM anow aaside anames anamesAside atext aspelled acost afewestFrom afirst afresh aways aundo aslots aisSaved 3 M_thrown M_length M_textSize M_start M_next M_token M_value M_error M_errorAt M_number M_many M_freshMany M_undos r_2 M_error_1 M_errorAt_1 hg_2) gX10_takes_X10_fails rfl rfl rfl h0X10_fails ⟨Nat.le_of_ble_eq_true rfl, Nat.le_of_ble_eq_true rfl⟩ rfl rfl rfl [0] [1] rfl rfl rfl rfl rfl rfl (Nat.le_of_ble_eq_true rfl) dX10_takes_28 ⟨Nat.le_of_ble_eq_true rfl, Nat.le_of_ble_eq_true rfl⟩ ?_
      rintro v w ⟨rfl, rfl, hz_2⟩
      refine g_norm (Lw' := [sModel E aM anow aaside anames anamesAside atext aspelled acost afewestFrom afirst afresh aways aundo aslots aisSaved M_thrown M_length M_textSize M_start M_next M_token M_value M_error_1 M_errorAt_1 M_number M_many M_freshMany M_undos, sArrB E atext 600 text]) (st' := [.int r_2]) (pc' := 31) [0, 1] rfl rfl rfl rfl ?_
      cases hf
      exact g_zret (ty := .boolean) F rfl hz_2 ⟨rfl, rfl, hz_2⟩ dX10_takes_31
  · replace hf := gi_f hc_2 hf
    refine g_aload_n F dX10_takes_8 rfl ?_
    refine g_iconst F 1 dX10_takes_9 rfl ?_
    obtain ⟨r_3, M_error_2, M_errorAt_2, hg_4, hf⟩ := gb3_el hf
    refine g_callV (C := RX10) (T := TX10) (N := 27) (Lr := [sArrB E atext 600 text]) (As := [.int 1]) (rest := []) F 0 0 1 (ctX10_fails l E aM anow aaside anames anamesAside atext aspelled acost afewestFrom afirst afresh aways aundo aslots aisSaved 1 M_thrown M_length M_textSize M_start M_next M_token M_value M_error M_errorAt M_number M_many M_freshMany M_undos r_3 M_error_2 M_errorAt_2 hg_4) gX10_takes_X10_fails rfl rfl rfl h0X10_fails ⟨Nat.le_of_ble_eq_true rfl, Nat.le_of_ble_eq_true rfl⟩ rfl rfl rfl [0] [1] rfl rfl rfl rfl rfl rfl (Nat.le_of_ble_eq_true rfl) dX10_takes_10 ⟨Nat.le_of_ble_eq_true rfl, Nat.le_of_ble_eq_true rfl⟩ ?_
    rintro v w ⟨rfl, rfl, hz_3⟩
    refine g_norm (Lw' := [sModel E aM anow aaside anames anamesAside atext aspelled acost afewestFrom afirst afresh aways aundo aslots aisSaved M_thrown M_length M_textSize M_start M_next M_token M_value M_error_2 M_errorAt_2 M_number M_many M_freshMany M_undos, sArrB E atext 600 text]) (st' := [.int r_3]) (pc' := 13) [0, 1] rfl rfl rfl rfl ?_
    cases hf
    exact g_zret (ty := .boolean) F rfl hz_3 ⟨rfl, rfl, hz_3⟩ dX10_takes_13
set_option maxHeartbeats 4000000 in
set_option maxRecDepth 100000 in
theorem ctX10_lays (l : Launch) (E : gE) (aM anow aaside anames anamesAside atext aspelled acost afewestFrom afirst afresh aways aundo aslots aisSaved : Nat → Nat) (x1 : Int32) (x2 : Int32) (x3 : Int32) (M_thrown : Int32) (M_length : Int32) (M_textSize : Int32) (M_start : Int32) (M_next : Int32) (M_token : Int32) (M_value : Int32) (M_error : Int32) (M_errorAt : Int32) (M_number : Int32) (M_many : Int32) (M_freshMany : Int32) (M_undos : Int32) (now : (Nat → Int32)) (text : (Nat → Int32)) (r : Int32) (M_start' : Int32) (M_next' : Int32) (M_token' : Int32) (M_value' : Int32) (M_error' : Int32) (M_errorAt' : Int32) (M_number' : Int32) (now' : (Nat → Int32)) (hf : fX10_lays x1 x2 x3 M_textSize M_start M_next M_token M_value M_error M_errorAt M_number now text = some (r, M_start', M_next', M_token', M_value', M_error', M_errorAt', M_number', now')) : gMet l yX10_lays wsX10_lays rmX10_lays vwCl E [.ref (aM 0), .int x1, .int x2, .int x3] [sModel E aM anow aaside anames anamesAside atext aspelled acost afewestFrom afirst afresh aways aundo aslots aisSaved M_thrown M_length M_textSize M_start M_next M_token M_value M_error M_errorAt M_number M_many M_freshMany M_undos, sArrI E anow 365 now, sArrB E atext 600 text] (fun v w => v = some (.int r) ∧ w = [sModel E aM anow aaside anames anamesAside atext aspelled acost afewestFrom afirst afresh aways aundo aslots aisSaved M_thrown M_length M_textSize M_start' M_next' M_token' M_value' M_error' M_errorAt' M_number' M_many M_freshMany M_undos, sArrI E anow 365 now', sArrB E atext 600 text] ∧ narrow .boolean (.int r) = .int r) 0 0 := by
  refine g_entry [some (.ref (aM 0)), some (.int x1), some (.int x2), some (.int x3)] (by decide) rfl (Nat.le_of_ble_eq_true rfl) rfl ?_
  intro p e s m below meth c A F hnm
  unfold fX10_lays at hf
  refine g_aload_n F dX10_lays_0 rfl ?_
  refine g_iload_n F dX10_lays_1 rfl ?_
  refine g_iload_n F dX10_lays_2 rfl ?_
  obtain ⟨r_1, M_start_1, M_next_1, M_token_1, M_value_1, M_error_1, M_errorAt_1, M_number_1, hg_1, hf⟩ := gb8_el hf
  refine g_callV (C := RX10) (T := TX10) (N := 27) (Lr := [sArrI E anow 365 now]) (As := [.int x2, .int x3]) (rest := []) F 0 0 2 (ctX10_takes l E aM anow aaside anames anamesAside atext aspelled acost afewestFrom afirst afresh aways aundo aslots aisSaved x2 x3 M_thrown M_length M_textSize M_start M_next M_token M_value M_error M_errorAt M_number M_many M_freshMany M_undos text r_1 M_start_1 M_next_1 M_token_1 M_value_1 M_error_1 M_errorAt_1 M_number_1 hg_1) gX10_lays_X10_takes rfl rfl rfl h0X10_takes ⟨Nat.le_of_ble_eq_true rfl, Nat.le_of_ble_eq_true rfl⟩ rfl rfl rfl [0, 2] [1] rfl rfl rfl rfl rfl rfl (Nat.le_of_ble_eq_true rfl) dX10_lays_3 ⟨Nat.le_of_ble_eq_true rfl, Nat.le_of_ble_eq_true rfl⟩ ?_
  rintro v w ⟨rfl, rfl, hz_1⟩
  refine g_norm (Lw' := [sModel E aM anow aaside anames anamesAside atext aspelled acost afewestFrom afirst afresh aways aundo aslots aisSaved M_thrown M_length M_textSize M_start_1 M_next_1 M_token_1 M_value_1 M_error_1 M_errorAt_1 M_number_1 M_many M_freshMany M_undos, sArrI E anow 365 now, sArrB E atext 600 text]) (st' := [.int r_1]) (pc' := 6) [0, 2, 1] rfl rfl rfl rfl ?_
  refine g_ifne F 11 dX10_lays_6 (by decide) (fun hc_1 => ?_) (fun hc_1 => ?_)
  · replace hf := gi_f hc_1 hf
    refine g_aload_n F dX10_lays_11 rfl ?_
    refine g_get (C := RX10) (T := TX10) (N := 27) F 0 0 1 rfl rfl rfl iX10_lays_X10 (by decide) (by decide +kernel) rfl dX10_lays_12 ?_
    refine g_iload_n F dX10_lays_15 rfl ?_
    refine g_aload_n F dX10_lays_16 rfl ?_
    refine g_get (C := RX10) (T := TX10) (N := 27) F 0 0 14 rfl rfl rfl iX10_lays_X10 (by decide) (by decide +kernel) rfl dX10_lays_17 ?_
    obtain ⟨hb_1, hf⟩ := gb_in hf
    obtain ⟨now_1, hnow_1, hf⟩ := Lt_el hf
    refine g_iast (Lw' := [sModel E aM anow aaside anames anamesAside atext aspelled acost afewestFrom afirst afresh aways aundo aslots aisSaved M_thrown M_length M_textSize M_start_1 M_next_1 M_token_1 M_value_1 M_error_1 M_errorAt_1 M_number_1 M_many M_freshMany M_undos, sArrI E anow 365 now_1, sArrB E atext 600 text]) F 1 0 (x1.toNatClampNeg) rfl rfl rfl hb_1 dX10_lays_20 (by subst hnow_1; rfl) ?_
    refine g_iconst F 1 dX10_lays_21 rfl ?_
    cases hf
    exact g_zret (ty := .boolean) F rfl rfl ⟨rfl, rfl, rfl⟩ dX10_lays_22
  · replace hf := gi_t hc_1 hf
    refine g_iconst F 0 dX10_lays_9 rfl ?_
    cases hf
    exact g_zret (ty := .boolean) F rfl rfl ⟨rfl, rfl, rfl⟩ dX10_lays_10
set_option maxHeartbeats 4000000 in
set_option maxRecDepth 100000 in
theorem ctX10_closes (l : Launch) (E : gE) (aM anow aaside anames anamesAside atext aspelled acost afewestFrom afirst afresh aways aundo aslots aisSaved : Nat → Nat) (M_thrown : Int32) (M_length : Int32) (M_textSize : Int32) (M_start : Int32) (M_next : Int32) (M_token : Int32) (M_value : Int32) (M_error : Int32) (M_errorAt : Int32) (M_number : Int32) (M_many : Int32) (M_freshMany : Int32) (M_undos : Int32) (text : (Nat → Int32)) (r : Int32) (M_start' : Int32) (M_next' : Int32) (M_token' : Int32) (M_value' : Int32) (M_error' : Int32) (M_errorAt' : Int32) (hf : fX10_closes M_textSize M_start M_next M_token M_value M_error M_errorAt text = some (r, M_start', M_next', M_token', M_value', M_error', M_errorAt')) : gMet l yX10_closes wsX10_closes rmX10_closes vwCl E [.ref (aM 0)] [sModel E aM anow aaside anames anamesAside atext aspelled acost afewestFrom afirst afresh aways aundo aslots aisSaved M_thrown M_length M_textSize M_start M_next M_token M_value M_error M_errorAt M_number M_many M_freshMany M_undos, sArrB E atext 600 text] (fun v w => v = some (.int r) ∧ w = [sModel E aM anow aaside anames anamesAside atext aspelled acost afewestFrom afirst afresh aways aundo aslots aisSaved M_thrown M_length M_textSize M_start' M_next' M_token' M_value' M_error' M_errorAt' M_number M_many M_freshMany M_undos, sArrB E atext 600 text] ∧ narrow .boolean (.int r) = .int r) 0 0 := by
  refine g_entry [some (.ref (aM 0))] (by decide) rfl (Nat.le_of_ble_eq_true rfl) rfl ?_
  intro p e s m below meth c A F hnm
  unfold fX10_closes at hf
  refine g_aload_n F dX10_closes_0 rfl ?_
  refine g_iconst F 1 dX10_closes_1 rfl ?_
  refine g_aload_n F dX10_closes_2 rfl ?_
  refine g_get (C := RX10) (T := TX10) (N := 27) F 0 0 10 rfl rfl rfl iX10_closes_X10 (by decide) (by decide +kernel) rfl dX10_closes_3 ?_
  refine g_iconst F 3 dX10_closes_6 rfl ?_
  obtain ⟨j_1, hj_1, hf⟩ := Lt_el hf
  have hj_1 : ∀ (t0_1 : Int32), j_1 t0_1 = some (r, M_start', M_next', M_token', M_value', M_error', M_errorAt') → Gj p l e rmX10_closes s m ([.ref (aM 0)] : List Value).toArray below meth c 0 0 (MQ below (gQ vwCl E A (fun v w => v = some (.int r) ∧ w = [sModel E aM anow aaside anames anamesAside atext aspelled acost afewestFrom afirst afresh aways aundo aslots aisSaved M_thrown M_length M_textSize M_start' M_next' M_token' M_value' M_error' M_errorAt' M_number M_many M_freshMany M_undos, sArrB E atext 600 text] ∧ narrow .boolean (.int r) = .int r)) ([.ref (aM 0)] : List Value).toArray s 0 0 A) vwCl E A [sModel E aM anow aaside anames anamesAside atext aspelled acost afewestFrom afirst afresh aways aundo aslots aisSaved M_thrown M_length M_textSize M_start M_next M_token M_value M_error M_errorAt M_number M_many M_freshMany M_undos, sArrB E atext 600 text] [none] [.int t0_1, .int 1, .ref (aM 0)] 15 := by
    intro t0_1 hf
    rw [hj_1] at hf
    obtain ⟨r_1, M_start_1, M_next_1, M_token_1, M_value_1, M_error_1, M_errorAt_1, hg_1, hf⟩ := gb7_el hf
    refine g_callV (C := RX10) (T := TX10) (N := 27) (Lr := []) (As := [.int 1, .int t0_1]) (rest := []) F 0 0 2 (ctX10_starts l E aM anow aaside anames anamesAside atext aspelled acost afewestFrom afirst afresh aways aundo aslots aisSaved 1 t0_1 M_thrown M_length M_textSize M_start M_next M_token M_value M_error M_errorAt M_number M_many M_freshMany M_undos text r_1 M_start_1 M_next_1 M_token_1 M_value_1 M_error_1 M_errorAt_1 hg_1) gX10_closes_X10_starts rfl rfl rfl h0X10_starts ⟨Nat.le_of_ble_eq_true rfl, Nat.le_of_ble_eq_true rfl⟩ rfl rfl rfl [0, 1] [] rfl rfl rfl rfl rfl rfl (Nat.le_of_ble_eq_true rfl) dX10_closes_15 ⟨Nat.le_of_ble_eq_true rfl, Nat.le_of_ble_eq_true rfl⟩ ?_
    rintro v w ⟨rfl, rfl, hz_1⟩
    refine g_norm (Lw' := [sModel E aM anow aaside anames anamesAside atext aspelled acost afewestFrom afirst afresh aways aundo aslots aisSaved M_thrown M_length M_textSize M_start_1 M_next_1 M_token_1 M_value_1 M_error_1 M_errorAt_1 M_number M_many M_freshMany M_undos, sArrB E atext 600 text]) (st' := [.int r_1]) (pc' := 18) [0, 1] rfl rfl rfl rfl ?_
    cases hf
    exact g_zret (ty := .boolean) F rfl hz_1 ⟨rfl, rfl, hz_1⟩ dX10_closes_18
  refine g_icmp_ne F 14 dX10_closes_7 (by decide) (fun hc_1 => ?_) (fun hc_1 => ?_)
  · replace hf := gi_f hc_1 hf
    refine g_iconst F 0 dX10_closes_14 rfl ?_
    refine g_mask [false] rfl ?_
    exact hj_1 0 hf
  · replace hf := gi_t hc_1 hf
    refine g_iconst F 1 dX10_closes_10 rfl ?_
    refine g_goto F 15 dX10_closes_11 (by decide) ?_
    refine g_mask [false] rfl ?_
    exact hj_1 1 hf
set_option maxHeartbeats 4000000 in
set_option maxRecDepth 100000 in
theorem ktX10_spellsToken_L15 {p : Program} {l : Launch} {e : Env} {s : State} {m : MethodId} {args : Array Value} {below : List Frame} {meth : Method} {c : Code} {E : gE} {A : Nat → Prop} (F : gFx p s m args meth c RX10 wsX10_spellsToken cX10_spellsToken 2 none vwCl E A) (aM anow aaside anames anamesAside atext aspelled acost afewestFrom afirst afresh aways aundo aslots aisSaved : Nat → Nat) (M_start : Int32) (M_many : Int32) (text : (Nat → Int32)) (M_thrown : Int32) (M_length : Int32) (M_textSize : Int32) (M_next : Int32) (M_token : Int32) (M_value : Int32) (M_error : Int32) (M_errorAt : Int32) (M_number : Int32) (M_freshMany : Int32) (M_undos : Int32) (M_many' : Int32) (spelled' : (Nat → Int32)) {k : (Nat → Int32) → Option (Int32 × (Nat → Int32))} (hk : ∀ (spelled : (Nat → Int32)), k spelled = some (M_many', spelled') → Gj p l e rmX10_spellsToken s m args below meth c 0 0 (MQ below (gQ vwCl E A (fun v w => v = none ∧ w = [sModel E aM anow aaside anames anamesAside atext aspelled acost afewestFrom afirst afresh aways aundo aslots aisSaved M_thrown M_length M_textSize M_start M_next M_token M_value M_error M_errorAt M_number M_many' M_freshMany M_undos, sArrB E atext 600 text, sArrI E aspelled 12 spelled'])) args s 0 0 A) vwCl E A [sModel E aM anow aaside anames anamesAside atext aspelled acost afewestFrom afirst afresh aways aundo aslots aisSaved M_thrown M_length M_textSize M_start M_next M_token M_value M_error M_errorAt M_number M_many M_freshMany M_undos, sArrB E atext 600 text, sArrI E aspelled 12 spelled] [none, none] [] 49) : ∀ (n : Nat) (x1 : Int32) (spelled : (Nat → Int32)), fX10_spellsToken_L15 M_start M_many text k n x1 spelled = some (M_many', spelled') → Gj p l e rmX10_spellsToken s m args below meth c 0 0 (MQ below (gQ vwCl E A (fun v w => v = none ∧ w = [sModel E aM anow aaside anames anamesAside atext aspelled acost afewestFrom afirst afresh aways aundo aslots aisSaved M_thrown M_length M_textSize M_start M_next M_token M_value M_error M_errorAt M_number M_many' M_freshMany M_undos, sArrB E atext 600 text, sArrI E aspelled 12 spelled'])) args s 0 0 A) vwCl E A [sModel E aM anow aaside anames anamesAside atext aspelled acost afewestFrom afirst afresh aways aundo aslots aisSaved M_thrown M_length M_textSize M_start M_next M_token M_value M_error M_errorAt M_number M_many M_freshMany M_undos, sArrB E atext 600 text, sArrI E aspelled 12 spelled] [some (.ref (aM 0)), some (.int x1)] [] 15
  | 0, _, _, hf => by cases hf
  | n + 1, x1, spelled, hf => by
    have ih := ktX10_spellsToken_L15 F aM anow aaside anames anamesAside atext aspelled acost afewestFrom afirst afresh aways aundo aslots aisSaved M_start M_many text M_thrown M_length M_textSize M_next M_token M_value M_error M_errorAt M_number M_freshMany M_undos M_many' spelled' hk n
    rw [fX10_spellsToken_L15] at hf
    refine g_iload_n F dX10_spellsToken_15 rfl ?_
    refine g_aload_n F dX10_spellsToken_16 rfl ?_
    refine g_get (C := RX10) (T := TX10) (N := 27) F 0 0 16 rfl rfl rfl iX10_spellsToken_X10 (by decide) (by decide +kernel) rfl dX10_spellsToken_17 ?_
    refine g_icmp_ge F 49 dX10_spellsToken_20 (by decide) (fun hc_1 => ?_) (fun hc_1 => ?_)
    · replace hf := gi_t hc_1 hf
      refine g_mask [false, false] rfl ?_
      exact hk spelled hf
    · replace hf := gi_f hc_1 hf
      refine g_aload_n F dX10_spellsToken_23 rfl ?_
      refine g_get (C := RX10) (T := TX10) (N := 27) F 0 0 15 rfl rfl rfl iX10_spellsToken_X10 (by decide) (by decide +kernel) rfl dX10_spellsToken_24 ?_
      refine g_iload_n F dX10_spellsToken_27 rfl ?_
      refine g_aload_n F dX10_spellsToken_28 rfl ?_
      refine g_get (C := RX10) (T := TX10) (N := 27) F 0 0 5 rfl rfl rfl iX10_spellsToken_X10 (by decide) (by decide +kernel) rfl dX10_spellsToken_29 ?_
      refine g_aload_n F dX10_spellsToken_32 rfl ?_
      refine g_get (C := RX10) (T := TX10) (N := 27) F 0 0 8 rfl rfl rfl iX10_spellsToken_X10 (by decide) (by decide +kernel) rfl dX10_spellsToken_33 ?_
      refine g_iload_n F dX10_spellsToken_36 rfl ?_
      refine g_iadd F dX10_spellsToken_37 ?_
      obtain ⟨hb_1, hf⟩ := gb_in hf
      refine g_bald F 1 0 ((M_start + x1).toNatClampNeg) rfl rfl rfl hb_1 dX10_spellsToken_38 ?_
      refine g_bipush F 96 dX10_spellsToken_39 rfl ?_
      refine g_isub F dX10_spellsToken_41 ?_
      obtain ⟨hb_2, hf⟩ := gb_in hf
      obtain ⟨spelled_1, hspelled_1, hf⟩ := Lt_el hf
      refine g_iast (Lw' := [sModel E aM anow aaside anames anamesAside atext aspelled acost afewestFrom afirst afresh aways aundo aslots aisSaved M_thrown M_length M_textSize M_start M_next M_token M_value M_error M_errorAt M_number M_many M_freshMany M_undos, sArrB E atext 600 text, sArrI E aspelled 12 spelled_1]) F 2 0 (x1.toNatClampNeg) rfl rfl rfl hb_2 dX10_spellsToken_42 (by subst hspelled_1; rfl) ?_
      refine g_iinc (lv' := [some (.ref (aM 0)), some (.int (x1 + 1))]) F (x1 + 1) dX10_spellsToken_43 rfl rfl rfl rfl ?_
      refine g_goto F 15 dX10_spellsToken_46 (by decide) ?_
      exact ih (x1 + 1) spelled_1 hf
set_option maxHeartbeats 4000000 in
set_option maxRecDepth 100000 in
theorem ctX10_spellsToken (l : Launch) (E : gE) (aM anow aaside anames anamesAside atext aspelled acost afewestFrom afirst afresh aways aundo aslots aisSaved : Nat → Nat) (M_thrown : Int32) (M_length : Int32) (M_textSize : Int32) (M_start : Int32) (M_next : Int32) (M_token : Int32) (M_value : Int32) (M_error : Int32) (M_errorAt : Int32) (M_number : Int32) (M_many : Int32) (M_freshMany : Int32) (M_undos : Int32) (text : (Nat → Int32)) (spelled : (Nat → Int32)) (M_many' : Int32) (spelled' : (Nat → Int32)) (hf : fX10_spellsToken M_start M_next M_many text spelled = some (M_many', spelled')) : gMet l yX10_spellsToken wsX10_spellsToken rmX10_spellsToken vwCl E [.ref (aM 0)] [sModel E aM anow aaside anames anamesAside atext aspelled acost afewestFrom afirst afresh aways aundo aslots aisSaved M_thrown M_length M_textSize M_start M_next M_token M_value M_error M_errorAt M_number M_many M_freshMany M_undos, sArrB E atext 600 text, sArrI E aspelled 12 spelled] (fun v w => v = none ∧ w = [sModel E aM anow aaside anames anamesAside atext aspelled acost afewestFrom afirst afresh aways aundo aslots aisSaved M_thrown M_length M_textSize M_start M_next M_token M_value M_error M_errorAt M_number M_many' M_freshMany M_undos, sArrB E atext 600 text, sArrI E aspelled 12 spelled']) 0 0 := by
  refine g_entry [some (.ref (aM 0)), none] (by decide) rfl (Nat.le_of_ble_eq_true rfl) rfl ?_
  intro p e s m below meth c A F hnm
  unfold fX10_spellsToken at hf
  refine g_aload_n F dX10_spellsToken_0 rfl ?_
  refine g_aload_n F dX10_spellsToken_1 rfl ?_
  refine g_get (C := RX10) (T := TX10) (N := 27) F 0 0 9 rfl rfl rfl iX10_spellsToken_X10 (by decide) (by decide +kernel) rfl dX10_spellsToken_2 ?_
  refine g_aload_n F dX10_spellsToken_5 rfl ?_
  refine g_get (C := RX10) (T := TX10) (N := 27) F 0 0 8 rfl rfl rfl iX10_spellsToken_X10 (by decide) (by decide +kernel) rfl dX10_spellsToken_6 ?_
  refine g_isub F dX10_spellsToken_9 ?_
  refine g_put (C := RX10) (T := TX10) (N := 27) (tys := tyX10) (Lw' := [sModel E aM anow aaside anames anamesAside atext aspelled acost afewestFrom afirst afresh aways aundo aslots aisSaved M_thrown M_length M_textSize M_start M_next M_token M_value M_error M_errorAt M_number (M_next - M_start) M_freshMany M_undos, sArrB E atext 600 text, sArrI E aspelled 12 spelled]) F 0 0 16 rfl rfl rfl iX10_spellsToken_X10 tyX10_ok nmX10 (by decide) (by decide +kernel) rfl rfl rfl rfl (Nat.le_of_ble_eq_true rfl) dX10_spellsToken_10 rfl ?_
  refine g_iconst F 0 dX10_spellsToken_13 rfl ?_
  refine g_istore_n (lv' := [some (.ref (aM 0)), some (.int 0)]) F dX10_spellsToken_14 (Nat.le_of_ble_eq_true rfl) rfl rfl ?_
  refine ktX10_spellsToken_L15 F aM anow aaside anames anamesAside atext aspelled acost afewestFrom afirst afresh aways aundo aslots aisSaved M_start (M_next - M_start) text M_thrown M_length M_textSize M_next M_token M_value M_error M_errorAt M_number M_freshMany M_undos M_many' spelled' (fun spelled_1 hf => ?_) FU 0 spelled hf
  cases hf
  exact g_vret F rfl ⟨rfl, rfl⟩ dX10_spellsToken_49
set_option maxHeartbeats 4000000 in
set_option maxRecDepth 100000 in
theorem ktX10_name_L4 {p : Program} {l : Launch} {e : Env} {s : State} {m : MethodId} {args : Array Value} {below : List Frame} {meth : Method} {c : Code} {E : gE} {A : Nat → Prop} (F : gFx p s m args meth c RX10 wsX10_name cX10_name 4 (some .long) vwCl E A) (aM anow aaside anames anamesAside atext aspelled acost afewestFrom afirst afresh aways aundo aslots aisSaved : Nat → Nat) (M_many : Int32) (spelled : (Nat → Int32)) (M_thrown : Int32) (M_length : Int32) (M_textSize : Int32) (M_start : Int32) (M_next : Int32) (M_token : Int32) (M_value : Int32) (M_error : Int32) (M_errorAt : Int32) (M_number : Int32) (M_freshMany : Int32) (M_undos : Int32) (r : Int64) {k : Int64 → Option (Int64)} (hk : ∀ (x1 : Int64), k x1 = some r → Gj p l e rmX10_name s m args below meth c 0 0 (MQ below (gQ vwCl E A (fun v w => v = some (.long r) ∧ w = [sModel E aM anow aaside anames anamesAside atext aspelled acost afewestFrom afirst afresh aways aundo aslots aisSaved M_thrown M_length M_textSize M_start M_next M_token M_value M_error M_errorAt M_number M_many M_freshMany M_undos, sArrI E aspelled 12 spelled])) args s 0 0 A) vwCl E A [sModel E aM anow aaside anames anamesAside atext aspelled acost afewestFrom afirst afresh aways aundo aslots aisSaved M_thrown M_length M_textSize M_start M_next M_token M_value M_error M_errorAt M_number M_many M_freshMany M_undos, sArrI E aspelled 12 spelled] [none, some (.long x1), none, none] [] 30) : ∀ (n : Nat) (x1 : Int64) (x3 : Int32), fX10_name_L4 M_many spelled k n x1 x3 = some r → Gj p l e rmX10_name s m args below meth c 0 0 (MQ below (gQ vwCl E A (fun v w => v = some (.long r) ∧ w = [sModel E aM anow aaside anames anamesAside atext aspelled acost afewestFrom afirst afresh aways aundo aslots aisSaved M_thrown M_length M_textSize M_start M_next M_token M_value M_error M_errorAt M_number M_many M_freshMany M_undos, sArrI E aspelled 12 spelled])) args s 0 0 A) vwCl E A [sModel E aM anow aaside anames anamesAside atext aspelled acost afewestFrom afirst afresh aways aundo aslots aisSaved M_thrown M_length M_textSize M_start M_next M_token M_value M_error M_errorAt M_number M_many M_freshMany M_undos, sArrI E aspelled 12 spelled] [some (.ref (aM 0)), some (.long x1), none, some (.int x3)] [] 4
  | 0, _, _, hf => by cases hf
  | n + 1, x1, x3, hf => by
    have ih := ktX10_name_L4 F aM anow aaside anames anamesAside atext aspelled acost afewestFrom afirst afresh aways aundo aslots aisSaved M_many spelled M_thrown M_length M_textSize M_start M_next M_token M_value M_error M_errorAt M_number M_freshMany M_undos r hk n
    rw [fX10_name_L4] at hf
    refine g_iload_n F dX10_name_4 rfl ?_
    refine g_aload_n F dX10_name_5 rfl ?_
    refine g_get (C := RX10) (T := TX10) (N := 27) F 0 0 16 rfl rfl rfl iX10_name_X10 (by decide) (by decide +kernel) rfl dX10_name_6 ?_
    refine g_icmp_ge F 30 dX10_name_9 (by decide) (fun hc_1 => ?_) (fun hc_1 => ?_)
    · replace hf := gi_t hc_1 hf
      refine g_mask [false, true, true, false] rfl ?_
      exact hk x1 hf
    · replace hf := gi_f hc_1 hf
      refine g_lload_n F dX10_name_12 rfl ?_
      refine g_iconst F 5 dX10_name_13 rfl ?_
      refine g_lshl F dX10_name_14 ?_
      refine g_aload_n F dX10_name_15 rfl ?_
      refine g_get (C := RX10) (T := TX10) (N := 27) F 0 0 15 rfl rfl rfl iX10_name_X10 (by decide) (by decide +kernel) rfl dX10_name_16 ?_
      refine g_iload_n F dX10_name_19 rfl ?_
      obtain ⟨hb_1, hf⟩ := gb_in hf
      refine g_iald F 1 0 (x3.toNatClampNeg) rfl rfl rfl hb_1 dX10_name_20 ?_
      refine g_i2l F dX10_name_21 ?_
      refine g_lor F dX10_name_22 ?_
      refine g_lstore_n (lv' := [some (.ref (aM 0)), some (.long ((glshl x1 5) ||| ((spelled (x3.toNatClampNeg)).toInt64))), none, some (.int x3)]) F dX10_name_23 (Nat.le_of_ble_eq_true rfl) rfl rfl ?_
      refine g_iinc (lv' := [some (.ref (aM 0)), some (.long ((glshl x1 5) ||| ((spelled (x3.toNatClampNeg)).toInt64))), none, some (.int (x3 + 1))]) F (x3 + 1) dX10_name_24 rfl rfl rfl rfl ?_
      refine g_goto F 4 dX10_name_27 (by decide) ?_
      exact ih ((glshl x1 5) ||| ((spelled (x3.toNatClampNeg)).toInt64)) (x3 + 1) hf
set_option maxHeartbeats 4000000 in
set_option maxRecDepth 100000 in
theorem ctX10_name (l : Launch) (E : gE) (aM anow aaside anames anamesAside atext aspelled acost afewestFrom afirst afresh aways aundo aslots aisSaved : Nat → Nat) (M_thrown : Int32) (M_length : Int32) (M_textSize : Int32) (M_start : Int32) (M_next : Int32) (M_token : Int32) (M_value : Int32) (M_error : Int32) (M_errorAt : Int32) (M_number : Int32) (M_many : Int32) (M_freshMany : Int32) (M_undos : Int32) (spelled : (Nat → Int32)) (r : Int64) (hf : fX10_name M_many spelled = some r) : gMet l yX10_name wsX10_name rmX10_name vwCl E [.ref (aM 0)] [sModel E aM anow aaside anames anamesAside atext aspelled acost afewestFrom afirst afresh aways aundo aslots aisSaved M_thrown M_length M_textSize M_start M_next M_token M_value M_error M_errorAt M_number M_many M_freshMany M_undos, sArrI E aspelled 12 spelled] (fun v w => v = some (.long r) ∧ w = [sModel E aM anow aaside anames anamesAside atext aspelled acost afewestFrom afirst afresh aways aundo aslots aisSaved M_thrown M_length M_textSize M_start M_next M_token M_value M_error M_errorAt M_number M_many M_freshMany M_undos, sArrI E aspelled 12 spelled]) 0 0 := by
  refine g_entry [some (.ref (aM 0)), none, none, none] (by decide) rfl (Nat.le_of_ble_eq_true rfl) rfl ?_
  intro p e s m below meth c A F hnm
  unfold fX10_name at hf
  refine g_lconst F 0 dX10_name_0 rfl ?_
  refine g_lstore_n (lv' := [some (.ref (aM 0)), some (.long 0), none, none]) F dX10_name_1 (Nat.le_of_ble_eq_true rfl) rfl rfl ?_
  refine g_iconst F 0 dX10_name_2 rfl ?_
  refine g_istore_n (lv' := [some (.ref (aM 0)), some (.long 0), none, some (.int 0)]) F dX10_name_3 (Nat.le_of_ble_eq_true rfl) rfl rfl ?_
  refine ktX10_name_L4 F aM anow aaside anames anamesAside atext aspelled acost afewestFrom afirst afresh aways aundo aslots aisSaved M_many spelled M_thrown M_length M_textSize M_start M_next M_token M_value M_error M_errorAt M_number M_freshMany M_undos r (fun x1_1 hf => ?_) FU 0 0 hf
  refine g_lload_n F dX10_name_30 rfl ?_
  cases hf
  exact g_lret F rfl ⟨rfl, rfl⟩ dX10_name_31
set_option maxHeartbeats 4000000 in
set_option maxRecDepth 100000 in
theorem ktX10_userNamed_L7 {p : Program} {l : Launch} {e : Env} {s : State} {m : MethodId} {args : Array Value} {below : List Frame} {meth : Method} {c : Code} {E : gE} {A : Nat → Prop} (F : gFx p s m args meth c RX10 wsX10_userNamed cX10_userNamed 4 (some .int) vwCl E A) (aM anow aaside anames anamesAside atext aspelled acost afewestFrom afirst afresh aways aundo aslots aisSaved : Nat → Nat) (x1 : Int64) (M_many : Int32) (now : (Nat → Int32)) (names : (Nat → Int64)) (spelled : (Nat → Int32)) (M_thrown : Int32) (M_length : Int32) (M_textSize : Int32) (M_start : Int32) (M_next : Int32) (M_token : Int32) (M_value : Int32) (M_error : Int32) (M_errorAt : Int32) (M_number : Int32) (M_freshMany : Int32) (M_undos : Int32) (r : Int32) {k : Option (Int32)} (hk : k = some r → Gj p l e rmX10_userNamed s m args below meth c 0 0 (MQ below (gQ vwCl E A (fun v w => v = some (.int r) ∧ w = [sModel E aM anow aaside anames anamesAside atext aspelled acost afewestFrom afirst afresh aways aundo aslots aisSaved M_thrown M_length M_textSize M_start M_next M_token M_value M_error M_errorAt M_number M_many M_freshMany M_undos, sArrI E anow 365 now, sArrJ E anames 4 names, sArrI E aspelled 12 spelled])) args s 0 0 A) vwCl E A [sModel E aM anow aaside anames anamesAside atext aspelled acost afewestFrom afirst afresh aways aundo aslots aisSaved M_thrown M_length M_textSize M_start M_next M_token M_value M_error M_errorAt M_number M_many M_freshMany M_undos, sArrI E anow 365 now, sArrJ E anames 4 names, sArrI E aspelled 12 spelled] [none, none, none, none] [] 36) : ∀ (n : Nat) (x3 : Int32), fX10_userNamed_L7 x1 M_many now names spelled k n x3 = some r → Gj p l e rmX10_userNamed s m args below meth c 0 0 (MQ below (gQ vwCl E A (fun v w => v = some (.int r) ∧ w = [sModel E aM anow aaside anames anamesAside atext aspelled acost afewestFrom afirst afresh aways aundo aslots aisSaved M_thrown M_length M_textSize M_start M_next M_token M_value M_error M_errorAt M_number M_many M_freshMany M_undos, sArrI E anow 365 now, sArrJ E anames 4 names, sArrI E aspelled 12 spelled])) args s 0 0 A) vwCl E A [sModel E aM anow aaside anames anamesAside atext aspelled acost afewestFrom afirst afresh aways aundo aslots aisSaved M_thrown M_length M_textSize M_start M_next M_token M_value M_error M_errorAt M_number M_many M_freshMany M_undos, sArrI E anow 365 now, sArrJ E anames 4 names, sArrI E aspelled 12 spelled] [some (.ref (aM 0)), some (.long x1), none, some (.int x3)] [] 7
  | 0, _, hf => by cases hf
  | n + 1, x3, hf => by
    have ih := ktX10_userNamed_L7 F aM anow aaside anames anamesAside atext aspelled acost afewestFrom afirst afresh aways aundo aslots aisSaved x1 M_many now names spelled M_thrown M_length M_textSize M_start M_next M_token M_value M_error M_errorAt M_number M_freshMany M_undos r hk n
    rw [fX10_userNamed_L7] at hf
    refine g_iload_n F dX10_userNamed_7 rfl ?_
    refine g_aload_n F dX10_userNamed_8 rfl ?_
    refine g_get (C := RX10) (T := TX10) (N := 27) F 0 0 1 rfl rfl rfl iX10_userNamed_X10 (by decide) (by decide +kernel) rfl dX10_userNamed_9 ?_
    refine g_iconst F 5 dX10_userNamed_12 rfl ?_
    refine g_iald F 1 0 5 (by decide) rfl rfl (by decide) dX10_userNamed_13 ?_
    refine g_icmp_ge F 36 dX10_userNamed_14 (by decide) (fun hc_2 => ?_) (fun hc_2 => ?_)
    · replace hf := gi_t hc_2 hf
      refine g_mask [false, false, true, false] rfl ?_
      exact hk hf
    · replace hf := gi_f hc_2 hf
      refine g_aload_n F dX10_userNamed_17 rfl ?_
      refine g_get (C := RX10) (T := TX10) (N := 27) F 0 0 3 rfl rfl rfl iX10_userNamed_X10 (by decide) (by decide +kernel) rfl dX10_userNamed_18 ?_
      refine g_iload_n F dX10_userNamed_21 rfl ?_
      obtain ⟨hb_1, hf⟩ := gb_in hf
      refine g_lald F 2 0 (x3.toNatClampNeg) rfl rfl rfl hb_1 dX10_userNamed_22 ?_
      refine g_lload_n F dX10_userNamed_23 rfl ?_
      refine g_lcmp F dX10_userNamed_24 ?_
      refine g_ifne F 30 dX10_userNamed_25 (by decide) (fun hc_1 => ?_) (fun hc_1 => ?_)
      · replace hf := gi_f hc_1 hf
        refine g_iinc (lv' := [some (.ref (aM 0)), some (.long x1), none, some (.int (x3 + 1))]) F (x3 + 1) dX10_userNamed_30 rfl rfl rfl rfl ?_
        refine g_goto F 7 dX10_userNamed_33 (by decide) ?_
        exact ih (x3 + 1) hf
      · replace hf := gi_t hc_1 hf
        refine g_iload_n F dX10_userNamed_28 rfl ?_
        cases hf
        exact g_iret F rfl ⟨rfl, rfl⟩ dX10_userNamed_29
set_option maxHeartbeats 4000000 in
set_option maxRecDepth 100000 in
theorem ctX10_userNamed (l : Launch) (E : gE) (aM anow aaside anames anamesAside atext aspelled acost afewestFrom afirst afresh aways aundo aslots aisSaved : Nat → Nat) (M_thrown : Int32) (M_length : Int32) (M_textSize : Int32) (M_start : Int32) (M_next : Int32) (M_token : Int32) (M_value : Int32) (M_error : Int32) (M_errorAt : Int32) (M_number : Int32) (M_many : Int32) (M_freshMany : Int32) (M_undos : Int32) (now : (Nat → Int32)) (names : (Nat → Int64)) (spelled : (Nat → Int32)) (r : Int32) (hf : fX10_userNamed M_many now names spelled = some r) : gMet l yX10_userNamed wsX10_userNamed rmX10_userNamed vwCl E [.ref (aM 0)] [sModel E aM anow aaside anames anamesAside atext aspelled acost afewestFrom afirst afresh aways aundo aslots aisSaved M_thrown M_length M_textSize M_start M_next M_token M_value M_error M_errorAt M_number M_many M_freshMany M_undos, sArrI E anow 365 now, sArrJ E anames 4 names, sArrI E aspelled 12 spelled] (fun v w => v = some (.int r) ∧ w = [sModel E aM anow aaside anames anamesAside atext aspelled acost afewestFrom afirst afresh aways aundo aslots aisSaved M_thrown M_length M_textSize M_start M_next M_token M_value M_error M_errorAt M_number M_many M_freshMany M_undos, sArrI E anow 365 now, sArrJ E anames 4 names, sArrI E aspelled 12 spelled]) 0 0 := by
  refine g_entry [some (.ref (aM 0)), none, none, none] (by decide) rfl (Nat.le_of_ble_eq_true rfl) rfl ?_
  intro p e s m below meth c A F hnm
  unfold fX10_userNamed at hf
  refine g_aload_n F dX10_userNamed_0 rfl ?_
  obtain ⟨r_1, hg_1, hf⟩ := gb1_el hf
  refine g_callV (C := RX10) (T := TX10) (N := 27) (Lr := [sArrI E anow 365 now, sArrJ E anames 4 names]) (As := []) (rest := []) F 0 0 0 (ctX10_name l E aM anow aaside anames anamesAside atext aspelled acost afewestFrom afirst afresh aways aundo aslots aisSaved M_thrown M_length M_textSize M_start M_next M_token M_value M_error M_errorAt M_number M_many M_freshMany M_undos spelled r_1 hg_1) gX10_userNamed_X10_name rfl rfl rfl h0X10_name ⟨Nat.le_of_ble_eq_true rfl, Nat.le_of_ble_eq_true rfl⟩ rfl rfl rfl [0, 3] [1, 2] rfl rfl rfl rfl rfl rfl (Nat.le_of_ble_eq_true rfl) dX10_userNamed_1 ⟨Nat.le_of_ble_eq_true rfl, Nat.le_of_ble_eq_true rfl⟩ ?_
  rintro v w ⟨rfl, rfl⟩
  refine g_norm (Lw' := [sModel E aM anow aaside anames anamesAside atext aspelled acost afewestFrom afirst afresh aways aundo aslots aisSaved M_thrown M_length M_textSize M_start M_next M_token M_value M_error M_errorAt M_number M_many M_freshMany M_undos, sArrI E anow 365 now, sArrJ E anames 4 names, sArrI E aspelled 12 spelled]) (st' := [.long r_1]) (pc' := 4) [0, 2, 3, 1] rfl rfl rfl rfl ?_
  refine g_lstore_n (lv' := [some (.ref (aM 0)), some (.long r_1), none, none]) F dX10_userNamed_4 (Nat.le_of_ble_eq_true rfl) rfl rfl ?_
  refine g_iconst F 0 dX10_userNamed_5 rfl ?_
  refine g_istore_n (lv' := [some (.ref (aM 0)), some (.long r_1), none, some (.int 0)]) F dX10_userNamed_6 (Nat.le_of_ble_eq_true rfl) rfl rfl ?_
  refine ktX10_userNamed_L7 F aM anow aaside anames anamesAside atext aspelled acost afewestFrom afirst afresh aways aundo aslots aisSaved r_1 M_many now names spelled M_thrown M_length M_textSize M_start M_next M_token M_value M_error M_errorAt M_number M_freshMany M_undos r (fun hf => ?_) FU 0 hf
  refine g_iconst F (-1) dX10_userNamed_36 rfl ?_
  cases hf
  exact g_iret F rfl ⟨rfl, rfl⟩ dX10_userNamed_37
set_option maxHeartbeats 4000000 in
set_option maxRecDepth 100000 in
theorem ctX10_spells (l : Launch) (E : gE) (aM anow aaside anames anamesAside atext aspelled acost afewestFrom afirst afresh aways aundo aslots aisSaved : Nat → Nat) (M_thrown : Int32) (M_length : Int32) (M_textSize : Int32) (M_start : Int32) (M_next : Int32) (M_token : Int32) (M_value : Int32) (M_error : Int32) (M_errorAt : Int32) (M_number : Int32) (M_many : Int32) (M_freshMany : Int32) (M_undos : Int32) (text : (Nat → Int32)) (spelled : (Nat → Int32)) (r : Int32) (M_error' : Int32) (M_errorAt' : Int32) (M_many' : Int32) (spelled' : (Nat → Int32)) (hf : fX10_spells M_start M_next M_token M_error M_errorAt M_many text spelled = some (r, M_error', M_errorAt', M_many', spelled')) : gMet l yX10_spells wsX10_spells rmX10_spells vwCl E [.ref (aM 0)] [sModel E aM anow aaside anames anamesAside atext aspelled acost afewestFrom afirst afresh aways aundo aslots aisSaved M_thrown M_length M_textSize M_start M_next M_token M_value M_error M_errorAt M_number M_many M_freshMany M_undos, sArrB E atext 600 text, sArrI E aspelled 12 spelled] (fun v w => v = some (.int r) ∧ w = [sModel E aM anow aaside anames anamesAside atext aspelled acost afewestFrom afirst afresh aways aundo aslots aisSaved M_thrown M_length M_textSize M_start M_next M_token M_value M_error' M_errorAt' M_number M_many' M_freshMany M_undos, sArrB E atext 600 text, sArrI E aspelled 12 spelled'] ∧ narrow .boolean (.int r) = .int r) 0 0 := by
  refine g_entry [some (.ref (aM 0))] (by decide) rfl (Nat.le_of_ble_eq_true rfl) rfl ?_
  intro p e s m below meth c A F hnm
  unfold fX10_spells at hf
  refine g_aload_n F dX10_spells_0 rfl ?_
  refine g_get (C := RX10) (T := TX10) (N := 27) F 0 0 10 rfl rfl rfl iX10_spells_X10 (by decide) (by decide +kernel) rfl dX10_spells_1 ?_
  refine g_iconst F 1 dX10_spells_4 rfl ?_
  refine g_icmp_eq F 14 dX10_spells_5 (by decide) (fun hc_1 => ?_) (fun hc_1 => ?_)
  · replace hf := gi_t hc_1 hf
    refine g_aload_n F dX10_spells_14 rfl ?_
    obtain ⟨M_many_1, spelled_1, hg_1, hf⟩ := gb2_el hf
    refine g_callV (C := RX10) (T := TX10) (N := 27) (Lr := []) (As := []) (rest := []) F 0 0 0 (ctX10_spellsToken l E aM anow aaside anames anamesAside atext aspelled acost afewestFrom afirst afresh aways aundo aslots aisSaved M_thrown M_length M_textSize M_start M_next M_token M_value M_error M_errorAt M_number M_many M_freshMany M_undos text spelled M_many_1 spelled_1 hg_1) gX10_spells_X10_spellsToken rfl rfl rfl h0X10_spellsToken ⟨Nat.le_of_ble_eq_true rfl, Nat.le_of_ble_eq_true rfl⟩ rfl rfl rfl [0, 1, 2] [] rfl rfl rfl rfl rfl rfl (Nat.le_of_ble_eq_true rfl) dX10_spells_15 ⟨Nat.le_of_ble_eq_true rfl, Nat.le_of_ble_eq_true rfl⟩ ?_
    rintro v w ⟨rfl, rfl⟩
    refine g_norm (Lw' := [sModel E aM anow aaside anames anamesAside atext aspelled acost afewestFrom afirst afresh aways aundo aslots aisSaved M_thrown M_length M_textSize M_start M_next M_token M_value M_error M_errorAt M_number M_many_1 M_freshMany M_undos, sArrB E atext 600 text, sArrI E aspelled 12 spelled_1]) (st' := []) (pc' := 18) [0, 1, 2] rfl rfl rfl rfl ?_
    refine g_iconst F 1 dX10_spells_18 rfl ?_
    cases hf
    exact g_zret (ty := .boolean) F rfl rfl ⟨rfl, rfl, rfl⟩ dX10_spells_19
  · replace hf := gi_f hc_1 hf
    refine g_aload_n F dX10_spells_8 rfl ?_
    refine g_iconst F 1 dX10_spells_9 rfl ?_
    obtain ⟨r_1, M_error_1, M_errorAt_1, hg_2, hf⟩ := gb3_el hf
    refine g_callV (C := RX10) (T := TX10) (N := 27) (Lr := [sArrB E atext 600 text, sArrI E aspelled 12 spelled]) (As := [.int 1]) (rest := []) F 0 0 1 (ctX10_fails l E aM anow aaside anames anamesAside atext aspelled acost afewestFrom afirst afresh aways aundo aslots aisSaved 1 M_thrown M_length M_textSize M_start M_next M_token M_value M_error M_errorAt M_number M_many M_freshMany M_undos r_1 M_error_1 M_errorAt_1 hg_2) gX10_spells_X10_fails rfl rfl rfl h0X10_fails ⟨Nat.le_of_ble_eq_true rfl, Nat.le_of_ble_eq_true rfl⟩ rfl rfl rfl [0] [1, 2] rfl rfl rfl rfl rfl rfl (Nat.le_of_ble_eq_true rfl) dX10_spells_10 ⟨Nat.le_of_ble_eq_true rfl, Nat.le_of_ble_eq_true rfl⟩ ?_
    rintro v w ⟨rfl, rfl, hz_1⟩
    refine g_norm (Lw' := [sModel E aM anow aaside anames anamesAside atext aspelled acost afewestFrom afirst afresh aways aundo aslots aisSaved M_thrown M_length M_textSize M_start M_next M_token M_value M_error_1 M_errorAt_1 M_number M_many M_freshMany M_undos, sArrB E atext 600 text, sArrI E aspelled 12 spelled]) (st' := [.int r_1]) (pc' := 13) [0, 1, 2] rfl rfl rfl rfl ?_
    cases hf
    exact g_zret (ty := .boolean) F rfl hz_1 ⟨rfl, rfl, hz_1⟩ dX10_spells_13
set_option maxHeartbeats 4000000 in
set_option maxRecDepth 100000 in
theorem ctX10_userLine (l : Launch) (E : gE) (aM anow aaside anames anamesAside atext aspelled acost afewestFrom afirst afresh aways aundo aslots aisSaved : Nat → Nat) (M_thrown : Int32) (M_length : Int32) (M_textSize : Int32) (M_start : Int32) (M_next : Int32) (M_token : Int32) (M_value : Int32) (M_error : Int32) (M_errorAt : Int32) (M_number : Int32) (M_many : Int32) (M_freshMany : Int32) (M_undos : Int32) (now : (Nat → Int32)) (names : (Nat → Int64)) (text : (Nat → Int32)) (spelled : (Nat → Int32)) (r : Int32) (M_start' : Int32) (M_next' : Int32) (M_token' : Int32) (M_value' : Int32) (M_error' : Int32) (M_errorAt' : Int32) (M_number' : Int32) (M_many' : Int32) (now' : (Nat → Int32)) (names' : (Nat → Int64)) (spelled' : (Nat → Int32)) (hf : fX10_userLine M_textSize M_start M_next M_token M_value M_error M_errorAt M_number M_many now names text spelled = some (r, M_start', M_next', M_token', M_value', M_error', M_errorAt', M_number', M_many', now', names', spelled')) : gMet l yX10_userLine wsX10_userLine rmX10_userLine vwCl E [.ref (aM 0)] [sModel E aM anow aaside anames anamesAside atext aspelled acost afewestFrom afirst afresh aways aundo aslots aisSaved M_thrown M_length M_textSize M_start M_next M_token M_value M_error M_errorAt M_number M_many M_freshMany M_undos, sArrI E anow 365 now, sArrJ E anames 4 names, sArrB E atext 600 text, sArrI E aspelled 12 spelled] (fun v w => v = some (.int r) ∧ w = [sModel E aM anow aaside anames anamesAside atext aspelled acost afewestFrom afirst afresh aways aundo aslots aisSaved M_thrown M_length M_textSize M_start' M_next' M_token' M_value' M_error' M_errorAt' M_number' M_many' M_freshMany M_undos, sArrI E anow 365 now', sArrJ E anames 4 names', sArrB E atext 600 text, sArrI E aspelled 12 spelled'] ∧ narrow .boolean (.int r) = .int r) 0 0 := by
  refine g_entry [some (.ref (aM 0)), none, none, none] (by decide) rfl (Nat.le_of_ble_eq_true rfl) rfl ?_
  intro p e s m below meth c A F hnm
  unfold fX10_userLine at hf
  refine g_aload_n F dX10_userLine_0 rfl ?_
  refine g_get (C := RX10) (T := TX10) (N := 27) F 0 0 1 rfl rfl rfl iX10_userLine_X10 (by decide) (by decide +kernel) rfl dX10_userLine_1 ?_
  refine g_iconst F 5 dX10_userLine_4 rfl ?_
  refine g_iald F 1 0 5 (by decide) rfl rfl (by decide) dX10_userLine_5 ?_
  refine g_istore_n (lv' := [some (.ref (aM 0)), some (.int (now 5)), none, none]) F dX10_userLine_6 (Nat.le_of_ble_eq_true rfl) rfl rfl ?_
  refine g_aload_n F dX10_userLine_7 rfl ?_
  refine g_iconst F 5 dX10_userLine_8 rfl ?_
  refine g_iload_n F dX10_userLine_9 rfl ?_
  refine g_iconst F 4 dX10_userLine_10 rfl ?_
  obtain ⟨j_1, hj_1, hf⟩ := Lt_el hf
  have hj_1 : ∀ (t0_1 : Int32), j_1 t0_1 = some (r, M_start', M_next', M_token', M_value', M_error', M_errorAt', M_number', M_many', now', names', spelled') → Gj p l e rmX10_userLine s m ([.ref (aM 0)] : List Value).toArray below meth c 0 0 (MQ below (gQ vwCl E A (fun v w => v = some (.int r) ∧ w = [sModel E aM anow aaside anames anamesAside atext aspelled acost afewestFrom afirst afresh aways aundo aslots aisSaved M_thrown M_length M_textSize M_start' M_next' M_token' M_value' M_error' M_errorAt' M_number' M_many' M_freshMany M_undos, sArrI E anow 365 now', sArrJ E anames 4 names', sArrB E atext 600 text, sArrI E aspelled 12 spelled'] ∧ narrow .boolean (.int r) = .int r)) ([.ref (aM 0)] : List Value).toArray s 0 0 A) vwCl E A [sModel E aM anow aaside anames anamesAside atext aspelled acost afewestFrom afirst afresh aways aundo aslots aisSaved M_thrown M_length M_textSize M_start M_next M_token M_value M_error M_errorAt M_number M_many M_freshMany M_undos, sArrI E anow 365 now, sArrJ E anames 4 names, sArrB E atext 600 text, sArrI E aspelled 12 spelled] [some (.ref (aM 0)), some (.int (now 5)), none, none] [.int t0_1, .int 5, .ref (aM 0)] 19 := by
    intro t0_1 hf
    rw [hj_1] at hf
    obtain ⟨r_1, M_start_1, M_next_1, M_token_1, M_value_1, M_error_1, M_errorAt_1, hg_1, hf⟩ := gb7_el hf
    refine g_callV (C := RX10) (T := TX10) (N := 27) (Lr := [sArrI E anow 365 now, sArrJ E anames 4 names, sArrI E aspelled 12 spelled]) (As := [.int 5, .int t0_1]) (rest := []) F 0 0 2 (ctX10_starts l E aM anow aaside anames anamesAside atext aspelled acost afewestFrom afirst afresh aways aundo aslots aisSaved 5 t0_1 M_thrown M_length M_textSize M_start M_next M_token M_value M_error M_errorAt M_number M_many M_freshMany M_undos text r_1 M_start_1 M_next_1 M_token_1 M_value_1 M_error_1 M_errorAt_1 hg_1) gX10_userLine_X10_starts rfl rfl rfl h0X10_starts ⟨Nat.le_of_ble_eq_true rfl, Nat.le_of_ble_eq_true rfl⟩ rfl rfl rfl [0, 3] [1, 2, 4] rfl rfl rfl rfl rfl rfl (Nat.le_of_ble_eq_true rfl) dX10_userLine_19 ⟨Nat.le_of_ble_eq_true rfl, Nat.le_of_ble_eq_true rfl⟩ ?_
    rintro v w ⟨rfl, rfl, hz_1⟩
    refine g_norm (Lw' := [sModel E aM anow aaside anames anamesAside atext aspelled acost afewestFrom afirst afresh aways aundo aslots aisSaved M_thrown M_length M_textSize M_start_1 M_next_1 M_token_1 M_value_1 M_error_1 M_errorAt_1 M_number M_many M_freshMany M_undos, sArrI E anow 365 now, sArrJ E anames 4 names, sArrB E atext 600 text, sArrI E aspelled 12 spelled]) (st' := [.int r_1]) (pc' := 22) [0, 2, 3, 1, 4] rfl rfl rfl rfl ?_
    refine g_ifeq F 32 dX10_userLine_22 (by decide) (fun hc_5 => ?_) (fun hc_5 => ?_)
    · replace hf := gi_t hc_5 hf
      refine g_iconst F 0 dX10_userLine_32 rfl ?_
      cases hf
      exact g_zret (ty := .boolean) F rfl rfl ⟨rfl, rfl, rfl⟩ dX10_userLine_33
    · replace hf := gi_f hc_5 hf
      refine g_aload_n F dX10_userLine_25 rfl ?_
      obtain ⟨r_2, M_error_2, M_errorAt_2, M_many_1, spelled_1, hg_2, hf⟩ := gb5_el hf
      refine g_callV (C := RX10) (T := TX10) (N := 27) (Lr := [sArrI E anow 365 now, sArrJ E anames 4 names]) (As := []) (rest := []) F 0 0 0 (ctX10_spells l E aM anow aaside anames anamesAside atext aspelled acost afewestFrom afirst afresh aways aundo aslots aisSaved M_thrown M_length M_textSize M_start_1 M_next_1 M_token_1 M_value_1 M_error_1 M_errorAt_1 M_number M_many M_freshMany M_undos text spelled r_2 M_error_2 M_errorAt_2 M_many_1 spelled_1 hg_2) gX10_userLine_X10_spells rfl rfl rfl h0X10_spells ⟨Nat.le_of_ble_eq_true rfl, Nat.le_of_ble_eq_true rfl⟩ rfl rfl rfl [0, 3, 4] [1, 2] rfl rfl rfl rfl rfl rfl (Nat.le_of_ble_eq_true rfl) dX10_userLine_26 ⟨Nat.le_of_ble_eq_true rfl, Nat.le_of_ble_eq_true rfl⟩ ?_
      rintro v w ⟨rfl, rfl, hz_2⟩
      refine g_norm (Lw' := [sModel E aM anow aaside anames anamesAside atext aspelled acost afewestFrom afirst afresh aways aundo aslots aisSaved M_thrown M_length M_textSize M_start_1 M_next_1 M_token_1 M_value_1 M_error_2 M_errorAt_2 M_number M_many_1 M_freshMany M_undos, sArrI E anow 365 now, sArrJ E anames 4 names, sArrB E atext 600 text, sArrI E aspelled 12 spelled_1]) (st' := [.int r_2]) (pc' := 29) [0, 3, 4, 1, 2] rfl rfl rfl rfl ?_
      refine g_ifne F 34 dX10_userLine_29 (by decide) (fun hc_4 => ?_) (fun hc_4 => ?_)
      · replace hf := gi_f hc_4 hf
        refine g_aload_n F dX10_userLine_34 rfl ?_
        obtain ⟨r_3, hg_3, hf⟩ := gb1_el hf
        refine g_callV (C := RX10) (T := TX10) (N := 27) (Lr := [sArrI E anow 365 now, sArrJ E anames 4 names, sArrB E atext 600 text]) (As := []) (rest := []) F 0 0 0 (ctX10_name l E aM anow aaside anames anamesAside atext aspelled acost afewestFrom afirst afresh aways aundo aslots aisSaved M_thrown M_length M_textSize M_start_1 M_next_1 M_token_1 M_value_1 M_error_2 M_errorAt_2 M_number M_many_1 M_freshMany M_undos spelled_1 r_3 hg_3) gX10_userLine_X10_name rfl rfl rfl h0X10_name ⟨Nat.le_of_ble_eq_true rfl, Nat.le_of_ble_eq_true rfl⟩ rfl rfl rfl [0, 4] [1, 2, 3] rfl rfl rfl rfl rfl rfl (Nat.le_of_ble_eq_true rfl) dX10_userLine_35 ⟨Nat.le_of_ble_eq_true rfl, Nat.le_of_ble_eq_true rfl⟩ ?_
        rintro v w ⟨rfl, rfl⟩
        refine g_norm (Lw' := [sModel E aM anow aaside anames anamesAside atext aspelled acost afewestFrom afirst afresh aways aundo aslots aisSaved M_thrown M_length M_textSize M_start_1 M_next_1 M_token_1 M_value_1 M_error_2 M_errorAt_2 M_number M_many_1 M_freshMany M_undos, sArrI E anow 365 now, sArrJ E anames 4 names, sArrB E atext 600 text, sArrI E aspelled 12 spelled_1]) (st' := [.long r_3]) (pc' := 38) [0, 2, 3, 4, 1] rfl rfl rfl rfl ?_
        refine g_lstore_n (lv' := [some (.ref (aM 0)), some (.int (now 5)), some (.long r_3), none]) F dX10_userLine_38 (Nat.le_of_ble_eq_true rfl) rfl rfl ?_
        refine g_aload_n F dX10_userLine_39 rfl ?_
        refine g_iconst F 2 dX10_userLine_40 rfl ?_
        refine g_aload_n F dX10_userLine_41 rfl ?_
        obtain ⟨r_4, hg_4, hf⟩ := gb1_el hf
        refine g_callV (C := RX10) (T := TX10) (N := 27) (Lr := [sArrB E atext 600 text]) (As := []) (rest := [.int 2, .ref (aM 0)]) F 0 0 0 (ctX10_userNamed l E aM anow aaside anames anamesAside atext aspelled acost afewestFrom afirst afresh aways aundo aslots aisSaved M_thrown M_length M_textSize M_start_1 M_next_1 M_token_1 M_value_1 M_error_2 M_errorAt_2 M_number M_many_1 M_freshMany M_undos now names spelled_1 r_4 hg_4) gX10_userLine_X10_userNamed rfl rfl rfl h0X10_userNamed ⟨Nat.le_of_ble_eq_true rfl, Nat.le_of_ble_eq_true rfl⟩ rfl rfl rfl [0, 1, 2, 4] [3] rfl rfl rfl rfl rfl rfl (Nat.le_of_ble_eq_true rfl) dX10_userLine_42 ⟨Nat.le_of_ble_eq_true rfl, Nat.le_of_ble_eq_true rfl⟩ ?_
        rintro v w ⟨rfl, rfl⟩
        refine g_norm (Lw' := [sModel E aM anow aaside anames anamesAside atext aspelled acost afewestFrom afirst afresh aways aundo aslots aisSaved M_thrown M_length M_textSize M_start_1 M_next_1 M_token_1 M_value_1 M_error_2 M_errorAt_2 M_number M_many_1 M_freshMany M_undos, sArrI E anow 365 now, sArrJ E anames 4 names, sArrB E atext 600 text, sArrI E aspelled 12 spelled_1]) (st' := [.int r_4, .int 2, .ref (aM 0)]) (pc' := 45) [0, 1, 2, 4, 3] rfl rfl rfl rfl ?_
        refine g_iconst F (-1) dX10_userLine_45 rfl ?_
        obtain ⟨j_2, hj_2, hf⟩ := Lt_el hf
        have hj_2 : ∀ (t0_2 : Int32), j_2 t0_2 = some (r, M_start', M_next', M_token', M_value', M_error', M_errorAt', M_number', M_many', now', names', spelled') → Gj p l e rmX10_userLine s m ([.ref (aM 0)] : List Value).toArray below meth c 0 0 (MQ below (gQ vwCl E A (fun v w => v = some (.int r) ∧ w = [sModel E aM anow aaside anames anamesAside atext aspelled acost afewestFrom afirst afresh aways aundo aslots aisSaved M_thrown M_length M_textSize M_start' M_next' M_token' M_value' M_error' M_errorAt' M_number' M_many' M_freshMany M_undos, sArrI E anow 365 now', sArrJ E anames 4 names', sArrB E atext 600 text, sArrI E aspelled 12 spelled'] ∧ narrow .boolean (.int r) = .int r)) ([.ref (aM 0)] : List Value).toArray s 0 0 A) vwCl E A [sModel E aM anow aaside anames anamesAside atext aspelled acost afewestFrom afirst afresh aways aundo aslots aisSaved M_thrown M_length M_textSize M_start_1 M_next_1 M_token_1 M_value_1 M_error_2 M_errorAt_2 M_number M_many_1 M_freshMany M_undos, sArrI E anow 365 now, sArrJ E anames 4 names, sArrB E atext 600 text, sArrI E aspelled 12 spelled_1] [some (.ref (aM 0)), some (.int (now 5)), some (.long r_3), none] [.int t0_2, .int 2, .ref (aM 0)] 54 := by
          intro t0_2 hf
          rw [hj_2] at hf
          obtain ⟨r_5, M_start_2, M_next_2, M_token_2, M_value_2, M_error_3, M_errorAt_3, hg_5, hf⟩ := gb7_el hf
          refine g_callV (C := RX10) (T := TX10) (N := 27) (Lr := [sArrI E anow 365 now, sArrJ E anames 4 names, sArrI E aspelled 12 spelled_1]) (As := [.int 2, .int t0_2]) (rest := []) F 0 0 2 (ctX10_starts l E aM anow aaside anames anamesAside atext aspelled acost afewestFrom afirst afresh aways aundo aslots aisSaved 2 t0_2 M_thrown M_length M_textSize M_start_1 M_next_1 M_token_1 M_value_1 M_error_2 M_errorAt_2 M_number M_many_1 M_freshMany M_undos text r_5 M_start_2 M_next_2 M_token_2 M_value_2 M_error_3 M_errorAt_3 hg_5) gX10_userLine_X10_starts rfl rfl rfl h0X10_starts ⟨Nat.le_of_ble_eq_true rfl, Nat.le_of_ble_eq_true rfl⟩ rfl rfl rfl [0, 3] [1, 2, 4] rfl rfl rfl rfl rfl rfl (Nat.le_of_ble_eq_true rfl) dX10_userLine_54 ⟨Nat.le_of_ble_eq_true rfl, Nat.le_of_ble_eq_true rfl⟩ ?_
          rintro v w ⟨rfl, rfl, hz_3⟩
          refine g_norm (Lw' := [sModel E aM anow aaside anames anamesAside atext aspelled acost afewestFrom afirst afresh aways aundo aslots aisSaved M_thrown M_length M_textSize M_start_2 M_next_2 M_token_2 M_value_2 M_error_3 M_errorAt_3 M_number M_many_1 M_freshMany M_undos, sArrI E anow 365 now, sArrJ E anames 4 names, sArrB E atext 600 text, sArrI E aspelled 12 spelled_1]) (st' := [.int r_5]) (pc' := 57) [0, 2, 3, 1, 4] rfl rfl rfl rfl ?_
          refine g_ifeq F 75 dX10_userLine_57 (by decide) (fun hc_2 => ?_) (fun hc_2 => ?_)
          · replace hf := gi_t hc_2 hf
            refine g_iconst F 0 dX10_userLine_75 rfl ?_
            cases hf
            exact g_zret (ty := .boolean) F rfl rfl ⟨rfl, rfl, rfl⟩ dX10_userLine_76
          · replace hf := gi_f hc_2 hf
            refine g_aload_n F dX10_userLine_60 rfl ?_
            refine g_bipush F 17 dX10_userLine_61 rfl ?_
            refine g_iload_n F dX10_userLine_63 rfl ?_
            refine g_iadd F dX10_userLine_64 ?_
            refine g_iconst F 0 dX10_userLine_65 rfl ?_
            refine g_sipush F 9999 dX10_userLine_66 rfl ?_
            obtain ⟨r_6, M_start_3, M_next_3, M_token_3, M_value_3, M_error_4, M_errorAt_4, M_number_1, now_1, hg_6, hf⟩ := gb9_el hf
            refine g_callV (C := RX10) (T := TX10) (N := 27) (Lr := [sArrJ E anames 4 names, sArrI E aspelled 12 spelled_1]) (As := [.int (17 + (now 5)), .int 0, .int 9999]) (rest := []) F 0 0 3 (ctX10_lays l E aM anow aaside anames anamesAside atext aspelled acost afewestFrom afirst afresh aways aundo aslots aisSaved (17 + (now 5)) 0 9999 M_thrown M_length M_textSize M_start_2 M_next_2 M_token_2 M_value_2 M_error_3 M_errorAt_3 M_number M_many_1 M_freshMany M_undos now text r_6 M_start_3 M_next_3 M_token_3 M_value_3 M_error_4 M_errorAt_4 M_number_1 now_1 hg_6) gX10_userLine_X10_lays rfl rfl rfl h0X10_lays ⟨Nat.le_of_ble_eq_true rfl, Nat.le_of_ble_eq_true rfl⟩ rfl rfl rfl [0, 1, 3] [2, 4] rfl rfl rfl rfl rfl rfl (Nat.le_of_ble_eq_true rfl) dX10_userLine_69 ⟨Nat.le_of_ble_eq_true rfl, Nat.le_of_ble_eq_true rfl⟩ ?_
            rintro v w ⟨rfl, rfl, hz_4⟩
            refine g_norm (Lw' := [sModel E aM anow aaside anames anamesAside atext aspelled acost afewestFrom afirst afresh aways aundo aslots aisSaved M_thrown M_length M_textSize M_start_3 M_next_3 M_token_3 M_value_3 M_error_4 M_errorAt_4 M_number_1 M_many_1 M_freshMany M_undos, sArrI E anow 365 now_1, sArrJ E anames 4 names, sArrB E atext 600 text, sArrI E aspelled 12 spelled_1]) (st' := [.int r_6]) (pc' := 72) [0, 1, 3, 2, 4] rfl rfl rfl rfl ?_
            refine g_ifne F 77 dX10_userLine_72 (by decide) (fun hc_1 => ?_) (fun hc_1 => ?_)
            · replace hf := gi_f hc_1 hf
              refine g_aload_n F dX10_userLine_77 rfl ?_
              refine g_get (C := RX10) (T := TX10) (N := 27) F 0 0 3 rfl rfl rfl iX10_userLine_X10 (by decide) (by decide +kernel) rfl dX10_userLine_78 ?_
              refine g_iload_n F dX10_userLine_81 rfl ?_
              refine g_lload_n F dX10_userLine_82 rfl ?_
              obtain ⟨hb_1, hf⟩ := gb_in hf
              obtain ⟨names_1, hnames_1, hf⟩ := Lt_el hf
              refine g_last (Lw' := [sModel E aM anow aaside anames anamesAside atext aspelled acost afewestFrom afirst afresh aways aundo aslots aisSaved M_thrown M_length M_textSize M_start_3 M_next_3 M_token_3 M_value_3 M_error_4 M_errorAt_4 M_number_1 M_many_1 M_freshMany M_undos, sArrI E anow 365 now_1, sArrJ E anames 4 names_1, sArrB E atext 600 text, sArrI E aspelled 12 spelled_1]) F 2 0 ((now 5).toNatClampNeg) rfl rfl rfl hb_1 dX10_userLine_83 (by subst hnames_1; rfl) ?_
              refine g_aload_n F dX10_userLine_84 rfl ?_
              refine g_get (C := RX10) (T := TX10) (N := 27) F 0 0 1 rfl rfl rfl iX10_userLine_X10 (by decide) (by decide +kernel) rfl dX10_userLine_85 ?_
              refine g_iconst F 5 dX10_userLine_88 rfl ?_
              refine g_dup2 F dX10_userLine_89 rfl rfl ?_
              refine g_iald F 1 0 5 (by decide) rfl rfl (by decide) dX10_userLine_90 ?_
              refine g_iconst F 1 dX10_userLine_91 rfl ?_
              refine g_iadd F dX10_userLine_92 ?_
              obtain ⟨now_2, hnow_2, hf⟩ := Lt_el hf
              refine g_iast (Lw' := [sModel E aM anow aaside anames anamesAside atext aspelled acost afewestFrom afirst afresh aways aundo aslots aisSaved M_thrown M_length M_textSize M_start_3 M_next_3 M_token_3 M_value_3 M_error_4 M_errorAt_4 M_number_1 M_many_1 M_freshMany M_undos, sArrI E anow 365 now_2, sArrJ E anames 4 names_1, sArrB E atext 600 text, sArrI E aspelled 12 spelled_1]) F 1 0 5 (by decide) rfl rfl (by decide) dX10_userLine_93 (by subst hnow_2; rfl) ?_
              refine g_iconst F 1 dX10_userLine_94 rfl ?_
              cases hf
              exact g_zret (ty := .boolean) F rfl rfl ⟨rfl, rfl, rfl⟩ dX10_userLine_95
            · replace hf := gi_t hc_1 hf
              refine g_iconst F 0 dX10_userLine_75 rfl ?_
              cases hf
              exact g_zret (ty := .boolean) F rfl rfl ⟨rfl, rfl, rfl⟩ dX10_userLine_76
        refine g_icmp_ne F 53 dX10_userLine_46 (by decide) (fun hc_3 => ?_) (fun hc_3 => ?_)
        · replace hf := gi_f hc_3 hf
          refine g_iconst F 0 dX10_userLine_53 rfl ?_
          exact hj_2 0 hf
        · replace hf := gi_t hc_3 hf
          refine g_iconst F 1 dX10_userLine_49 rfl ?_
          refine g_goto F 54 dX10_userLine_50 (by decide) ?_
          exact hj_2 1 hf
      · replace hf := gi_t hc_4 hf
        refine g_iconst F 0 dX10_userLine_32 rfl ?_
        cases hf
        exact g_zret (ty := .boolean) F rfl rfl ⟨rfl, rfl, rfl⟩ dX10_userLine_33
  refine g_icmp_ge F 18 dX10_userLine_11 (by decide) (fun hc_6 => ?_) (fun hc_6 => ?_)
  · replace hf := gi_t hc_6 hf
    refine g_iconst F 0 dX10_userLine_18 rfl ?_
    exact hj_1 0 hf
  · replace hf := gi_f hc_6 hf
    refine g_iconst F 1 dX10_userLine_14 rfl ?_
    refine g_goto F 19 dX10_userLine_15 (by decide) ?_
    exact hj_1 1 hf
set_option maxHeartbeats 4000000 in
set_option maxRecDepth 100000 in
theorem ktX10_code_L5 {p : Program} {l : Launch} {e : Env} {s : State} {m : MethodId} {args : Array Value} {below : List Frame} {meth : Method} {c : Code} {E : gE} {A : Nat → Prop} (F : gFx p s m args meth c RX10 wsX10_code cX10_code 5 (some .int) vwCl E A) (aM anow aaside anames anamesAside atext aspelled acost afewestFrom afirst afresh aways aundo aslots aisSaved : Nat → Nat) (x1 : Int32) (x2 : Int32) (spelled : (Nat → Int32)) (M_thrown : Int32) (M_length : Int32) (M_textSize : Int32) (M_start : Int32) (M_next : Int32) (M_token : Int32) (M_value : Int32) (M_error : Int32) (M_errorAt : Int32) (M_number : Int32) (M_many : Int32) (M_freshMany : Int32) (M_undos : Int32) (r : Int32) {k : Int32 → Option (Int32)} (hk : ∀ (x3 : Int32), k x3 = some r → Gj p l e rmX10_code s m args below meth c 0 0 (MQ below (gQ vwCl E A (fun v w => v = some (.int r) ∧ w = [sModel E aM anow aaside anames anamesAside atext aspelled acost afewestFrom afirst afresh aways aundo aslots aisSaved M_thrown M_length M_textSize M_start M_next M_token M_value M_error M_errorAt M_number M_many M_freshMany M_undos, sArrI E aspelled 12 spelled])) args s 0 0 A) vwCl E A [sModel E aM anow aaside anames anamesAside atext aspelled acost afewestFrom afirst afresh aways aundo aslots aisSaved M_thrown M_length M_textSize M_start M_next M_token M_value M_error M_errorAt M_number M_many M_freshMany M_undos, sArrI E aspelled 12 spelled] [none, none, none, some (.int x3), none] [] 31) : ∀ (n : Nat) (x3 : Int32) (x4 : Int32), fX10_code_L5 x1 x2 spelled k n x3 x4 = some r → Gj p l e rmX10_code s m args below meth c 0 0 (MQ below (gQ vwCl E A (fun v w => v = some (.int r) ∧ w = [sModel E aM anow aaside anames anamesAside atext aspelled acost afewestFrom afirst afresh aways aundo aslots aisSaved M_thrown M_length M_textSize M_start M_next M_token M_value M_error M_errorAt M_number M_many M_freshMany M_undos, sArrI E aspelled 12 spelled])) args s 0 0 A) vwCl E A [sModel E aM anow aaside anames anamesAside atext aspelled acost afewestFrom afirst afresh aways aundo aslots aisSaved M_thrown M_length M_textSize M_start M_next M_token M_value M_error M_errorAt M_number M_many M_freshMany M_undos, sArrI E aspelled 12 spelled] [some (.ref (aM 0)), some (.int x1), some (.int x2), some (.int x3), some (.int x4)] [] 5
  | 0, _, _, hf => by cases hf
  | n + 1, x3, x4, hf => by
    have ih := ktX10_code_L5 F aM anow aaside anames anamesAside atext aspelled acost afewestFrom afirst afresh aways aundo aslots aisSaved x1 x2 spelled M_thrown M_length M_textSize M_start M_next M_token M_value M_error M_errorAt M_number M_many M_freshMany M_undos r hk n
    rw [fX10_code_L5] at hf
    refine g_iload F dX10_code_5 rfl ?_
    refine g_iload_n F dX10_code_7 rfl ?_
    refine g_icmp_ge F 31 dX10_code_8 (by decide) (fun hc_1 => ?_) (fun hc_1 => ?_)
    · replace hf := gi_t hc_1 hf
      refine g_mask [false, false, false, true, false] rfl ?_
      exact hk x3 hf
    · replace hf := gi_f hc_1 hf
      refine g_iload_n F dX10_code_11 rfl ?_
      refine g_iconst F 5 dX10_code_12 rfl ?_
      refine g_ishl F dX10_code_13 ?_
      refine g_aload_n F dX10_code_14 rfl ?_
      refine g_get (C := RX10) (T := TX10) (N := 27) F 0 0 15 rfl rfl rfl iX10_code_X10 (by decide) (by decide +kernel) rfl dX10_code_15 ?_
      refine g_iload_n F dX10_code_18 rfl ?_
      refine g_iload F dX10_code_19 rfl ?_
      refine g_iadd F dX10_code_21 ?_
      obtain ⟨hb_1, hf⟩ := gb_in hf
      refine g_iald F 1 0 ((x1 + x4).toNatClampNeg) rfl rfl rfl hb_1 dX10_code_22 ?_
      refine g_ior F dX10_code_23 ?_
      refine g_istore_n (lv' := [some (.ref (aM 0)), some (.int x1), some (.int x2), some (.int ((x3 <<< (5 &&& 31)) ||| (spelled ((x1 + x4).toNatClampNeg)))), some (.int x4)]) F dX10_code_24 (Nat.le_of_ble_eq_true rfl) rfl rfl ?_
      refine g_iinc (lv' := [some (.ref (aM 0)), some (.int x1), some (.int x2), some (.int ((x3 <<< (5 &&& 31)) ||| (spelled ((x1 + x4).toNatClampNeg)))), some (.int (x4 + 1))]) F (x4 + 1) dX10_code_25 rfl rfl rfl rfl ?_
      refine g_goto F 5 dX10_code_28 (by decide) ?_
      exact ih ((x3 <<< (5 &&& 31)) ||| (spelled ((x1 + x4).toNatClampNeg))) (x4 + 1) hf
set_option maxHeartbeats 4000000 in
set_option maxRecDepth 100000 in
theorem ctX10_code (l : Launch) (E : gE) (aM anow aaside anames anamesAside atext aspelled acost afewestFrom afirst afresh aways aundo aslots aisSaved : Nat → Nat) (x1 : Int32) (x2 : Int32) (M_thrown : Int32) (M_length : Int32) (M_textSize : Int32) (M_start : Int32) (M_next : Int32) (M_token : Int32) (M_value : Int32) (M_error : Int32) (M_errorAt : Int32) (M_number : Int32) (M_many : Int32) (M_freshMany : Int32) (M_undos : Int32) (spelled : (Nat → Int32)) (r : Int32) (hf : fX10_code x1 x2 spelled = some r) : gMet l yX10_code wsX10_code rmX10_code vwCl E [.ref (aM 0), .int x1, .int x2] [sModel E aM anow aaside anames anamesAside atext aspelled acost afewestFrom afirst afresh aways aundo aslots aisSaved M_thrown M_length M_textSize M_start M_next M_token M_value M_error M_errorAt M_number M_many M_freshMany M_undos, sArrI E aspelled 12 spelled] (fun v w => v = some (.int r) ∧ w = [sModel E aM anow aaside anames anamesAside atext aspelled acost afewestFrom afirst afresh aways aundo aslots aisSaved M_thrown M_length M_textSize M_start M_next M_token M_value M_error M_errorAt M_number M_many M_freshMany M_undos, sArrI E aspelled 12 spelled]) 0 0 := by
  refine g_entry [some (.ref (aM 0)), some (.int x1), some (.int x2), none, none] (by decide) rfl (Nat.le_of_ble_eq_true rfl) rfl ?_
  intro p e s m below meth c A F hnm
  unfold fX10_code at hf
  refine g_iconst F 0 dX10_code_0 rfl ?_
  refine g_istore_n (lv' := [some (.ref (aM 0)), some (.int x1), some (.int x2), some (.int 0), none]) F dX10_code_1 (Nat.le_of_ble_eq_true rfl) rfl rfl ?_
  refine g_iconst F 0 dX10_code_2 rfl ?_
  refine g_istore (lv' := [some (.ref (aM 0)), some (.int x1), some (.int x2), some (.int 0), some (.int 0)]) F dX10_code_3 (Nat.le_of_ble_eq_true rfl) rfl rfl ?_
  refine ktX10_code_L5 F aM anow aaside anames anamesAside atext aspelled acost afewestFrom afirst afresh aways aundo aslots aisSaved x1 x2 spelled M_thrown M_length M_textSize M_start M_next M_token M_value M_error M_errorAt M_number M_many M_freshMany M_undos r (fun x3_1 hf => ?_) FU 0 0 hf
  refine g_iload_n F dX10_code_31 rfl ?_
  cases hf
  exact g_iret F rfl ⟨rfl, rfl⟩ dX10_code_32
set_option maxHeartbeats 4000000 in
set_option maxRecDepth 100000 in
theorem ctX10_ofPiece (l : Launch) (E : gE) (aM anow aaside anames anamesAside atext aspelled acost afewestFrom afirst afresh aways aundo aslots aisSaved : Nat → Nat) (x1 : Int32) (x2 : Int32) (M_thrown : Int32) (M_length : Int32) (M_textSize : Int32) (M_start : Int32) (M_next : Int32) (M_token : Int32) (M_value : Int32) (M_error : Int32) (M_errorAt : Int32) (M_number : Int32) (M_many : Int32) (M_freshMany : Int32) (M_undos : Int32) (now : (Nat → Int32)) (r : Int32) (hf : fX10_ofPiece x1 x2 now = some r) : gMet l yX10_ofPiece wsX10_ofPiece rmX10_ofPiece vwCl E [.ref (aM 0), .int x1, .int x2] [sModel E aM anow aaside anames anamesAside atext aspelled acost afewestFrom afirst afresh aways aundo aslots aisSaved M_thrown M_length M_textSize M_start M_next M_token M_value M_error M_errorAt M_number M_many M_freshMany M_undos, sArrI E anow 365 now] (fun v w => v = some (.int r) ∧ w = [sModel E aM anow aaside anames anamesAside atext aspelled acost afewestFrom afirst afresh aways aundo aslots aisSaved M_thrown M_length M_textSize M_start M_next M_token M_value M_error M_errorAt M_number M_many M_freshMany M_undos, sArrI E anow 365 now]) 0 0 := by
  refine g_entry [some (.ref (aM 0)), some (.int x1), some (.int x2)] (by decide) rfl (Nat.le_of_ble_eq_true rfl) rfl ?_
  intro p e s m below meth c A F hnm
  unfold fX10_ofPiece at hf
  refine g_aload_n F dX10_ofPiece_0 rfl ?_
  refine g_get (C := RX10) (T := TX10) (N := 27) F 0 0 1 rfl rfl rfl iX10_ofPiece_X10 (by decide) (by decide +kernel) rfl dX10_ofPiece_1 ?_
  refine g_bipush F 21 dX10_ofPiece_4 rfl ?_
  refine g_iconst F 5 dX10_ofPiece_6 rfl ?_
  refine g_iload_n F dX10_ofPiece_7 rfl ?_
  refine g_imul F dX10_ofPiece_8 ?_
  refine g_iadd F dX10_ofPiece_9 ?_
  refine g_iload_n F dX10_ofPiece_10 rfl ?_
  refine g_iadd F dX10_ofPiece_11 ?_
  obtain ⟨hb_1, hf⟩ := gb_in hf
  refine g_iald F 1 0 (((21 + (5 * x1)) + x2).toNatClampNeg) rfl rfl rfl hb_1 dX10_ofPiece_12 ?_
  cases hf
  exact g_iret F rfl ⟨rfl, rfl⟩ dX10_ofPiece_13
set_option maxHeartbeats 4000000 in
set_option maxRecDepth 100000 in
theorem ktX10_pieceOf_L2 {p : Program} {l : Launch} {e : Env} {s : State} {m : MethodId} {args : Array Value} {below : List Frame} {meth : Method} {c : Code} {E : gE} {A : Nat → Prop} (F : gFx p s m args meth c RX10 wsX10_pieceOf cX10_pieceOf 3 (some .int) vwCl E A) (aM anow aaside anames anamesAside atext aspelled acost afewestFrom afirst afresh aways aundo aslots aisSaved : Nat → Nat) (x1 : Int32) (now : (Nat → Int32)) (M_thrown : Int32) (M_length : Int32) (M_textSize : Int32) (M_start : Int32) (M_next : Int32) (M_token : Int32) (M_value : Int32) (M_error : Int32) (M_errorAt : Int32) (M_number : Int32) (M_many : Int32) (M_freshMany : Int32) (M_undos : Int32) (r : Int32) {k : Option (Int32)} (hk : k = some r → Gj p l e rmX10_pieceOf s m args below meth c 0 0 (MQ below (gQ vwCl E A (fun v w => v = some (.int r) ∧ w = [sModel E aM anow aaside anames anamesAside atext aspelled acost afewestFrom afirst afresh aways aundo aslots aisSaved M_thrown M_length M_textSize M_start M_next M_token M_value M_error M_errorAt M_number M_many M_freshMany M_undos, sArrI E anow 365 now])) args s 0 0 A) vwCl E A [sModel E aM anow aaside anames anamesAside atext aspelled acost afewestFrom afirst afresh aways aundo aslots aisSaved M_thrown M_length M_textSize M_start M_next M_token M_value M_error M_errorAt M_number M_many M_freshMany M_undos, sArrI E anow 365 now] [none, none, none] [] 31) : ∀ (n : Nat) (x2 : Int32), fX10_pieceOf_L2 x1 now k n x2 = some r → Gj p l e rmX10_pieceOf s m args below meth c 0 0 (MQ below (gQ vwCl E A (fun v w => v = some (.int r) ∧ w = [sModel E aM anow aaside anames anamesAside atext aspelled acost afewestFrom afirst afresh aways aundo aslots aisSaved M_thrown M_length M_textSize M_start M_next M_token M_value M_error M_errorAt M_number M_many M_freshMany M_undos, sArrI E anow 365 now])) args s 0 0 A) vwCl E A [sModel E aM anow aaside anames anamesAside atext aspelled acost afewestFrom afirst afresh aways aundo aslots aisSaved M_thrown M_length M_textSize M_start M_next M_token M_value M_error M_errorAt M_number M_many M_freshMany M_undos, sArrI E anow 365 now] [some (.ref (aM 0)), some (.int x1), some (.int x2)] [] 2
  | 0, _, hf => by cases hf
  | n + 1, x2, hf => by
    have ih := ktX10_pieceOf_L2 F aM anow aaside anames anamesAside atext aspelled acost afewestFrom afirst afresh aways aundo aslots aisSaved x1 now M_thrown M_length M_textSize M_start M_next M_token M_value M_error M_errorAt M_number M_many M_freshMany M_undos r hk n
    rw [fX10_pieceOf_L2] at hf
    refine g_iload_n F dX10_pieceOf_2 rfl ?_
    refine g_aload_n F dX10_pieceOf_3 rfl ?_
    refine g_get (C := RX10) (T := TX10) (N := 27) F 0 0 1 rfl rfl rfl iX10_pieceOf_X10 (by decide) (by decide +kernel) rfl dX10_pieceOf_4 ?_
    refine g_bipush F 9 dX10_pieceOf_7 rfl ?_
    refine g_iald F 1 0 9 (by decide) rfl rfl (by decide) dX10_pieceOf_9 ?_
    refine g_icmp_ge F 31 dX10_pieceOf_10 (by decide) (fun hc_2 => ?_) (fun hc_2 => ?_)
    · replace hf := gi_t hc_2 hf
      refine g_mask [false, false, false] rfl ?_
      exact hk hf
    · replace hf := gi_f hc_2 hf
      refine g_aload_n F dX10_pieceOf_13 rfl ?_
      refine g_iload_n F dX10_pieceOf_14 rfl ?_
      refine g_iconst F 0 dX10_pieceOf_15 rfl ?_
      obtain ⟨r_1, hg_1, hf⟩ := gb1_el hf
      refine g_callV (C := RX10) (T := TX10) (N := 27) (Lr := []) (As := [.int x2, .int 0]) (rest := []) F 0 0 2 (ctX10_ofPiece l E aM anow aaside anames anamesAside atext aspelled acost afewestFrom afirst afresh aways aundo aslots aisSaved x2 0 M_thrown M_length M_textSize M_start M_next M_token M_value M_error M_errorAt M_number M_many M_freshMany M_undos now r_1 hg_1) gX10_pieceOf_X10_ofPiece rfl rfl rfl h0X10_ofPiece ⟨Nat.le_of_ble_eq_true rfl, Nat.le_of_ble_eq_true rfl⟩ rfl rfl rfl [0, 1] [] rfl rfl rfl rfl rfl rfl (Nat.le_of_ble_eq_true rfl) dX10_pieceOf_16 ⟨Nat.le_of_ble_eq_true rfl, Nat.le_of_ble_eq_true rfl⟩ ?_
      rintro v w ⟨rfl, rfl⟩
      refine g_norm (Lw' := [sModel E aM anow aaside anames anamesAside atext aspelled acost afewestFrom afirst afresh aways aundo aslots aisSaved M_thrown M_length M_textSize M_start M_next M_token M_value M_error M_errorAt M_number M_many M_freshMany M_undos, sArrI E anow 365 now]) (st' := [.int r_1]) (pc' := 19) [0, 1] rfl rfl rfl rfl ?_
      refine g_iload_n F dX10_pieceOf_19 rfl ?_
      refine g_icmp_ne F 25 dX10_pieceOf_20 (by decide) (fun hc_1 => ?_) (fun hc_1 => ?_)
      · replace hf := gi_f hc_1 hf
        refine g_iinc (lv' := [some (.ref (aM 0)), some (.int x1), some (.int (x2 + 1))]) F (x2 + 1) dX10_pieceOf_25 rfl rfl rfl rfl ?_
        refine g_goto F 2 dX10_pieceOf_28 (by decide) ?_
        exact ih (x2 + 1) hf
      · replace hf := gi_t hc_1 hf
        refine g_iload_n F dX10_pieceOf_23 rfl ?_
        cases hf
        exact g_iret F rfl ⟨rfl, rfl⟩ dX10_pieceOf_24
set_option maxHeartbeats 4000000 in
set_option maxRecDepth 100000 in
theorem ctX10_pieceOf (l : Launch) (E : gE) (aM anow aaside anames anamesAside atext aspelled acost afewestFrom afirst afresh aways aundo aslots aisSaved : Nat → Nat) (x1 : Int32) (M_thrown : Int32) (M_length : Int32) (M_textSize : Int32) (M_start : Int32) (M_next : Int32) (M_token : Int32) (M_value : Int32) (M_error : Int32) (M_errorAt : Int32) (M_number : Int32) (M_many : Int32) (M_freshMany : Int32) (M_undos : Int32) (now : (Nat → Int32)) (r : Int32) (hf : fX10_pieceOf x1 now = some r) : gMet l yX10_pieceOf wsX10_pieceOf rmX10_pieceOf vwCl E [.ref (aM 0), .int x1] [sModel E aM anow aaside anames anamesAside atext aspelled acost afewestFrom afirst afresh aways aundo aslots aisSaved M_thrown M_length M_textSize M_start M_next M_token M_value M_error M_errorAt M_number M_many M_freshMany M_undos, sArrI E anow 365 now] (fun v w => v = some (.int r) ∧ w = [sModel E aM anow aaside anames anamesAside atext aspelled acost afewestFrom afirst afresh aways aundo aslots aisSaved M_thrown M_length M_textSize M_start M_next M_token M_value M_error M_errorAt M_number M_many M_freshMany M_undos, sArrI E anow 365 now]) 0 0 := by
  refine g_entry [some (.ref (aM 0)), some (.int x1), none] (by decide) rfl (Nat.le_of_ble_eq_true rfl) rfl ?_
  intro p e s m below meth c A F hnm
  unfold fX10_pieceOf at hf
  refine g_iconst F 0 dX10_pieceOf_0 rfl ?_
  refine g_istore_n (lv' := [some (.ref (aM 0)), some (.int x1), some (.int 0)]) F dX10_pieceOf_1 (Nat.le_of_ble_eq_true rfl) rfl rfl ?_
  refine ktX10_pieceOf_L2 F aM anow aaside anames anamesAside atext aspelled acost afewestFrom afirst afresh aways aundo aslots aisSaved x1 now M_thrown M_length M_textSize M_start M_next M_token M_value M_error M_errorAt M_number M_many M_freshMany M_undos r (fun hf => ?_) FU 0 hf
  refine g_iconst F (-1) dX10_pieceOf_31 rfl ?_
  cases hf
  exact g_iret F rfl ⟨rfl, rfl⟩ dX10_pieceOf_32
set_option maxHeartbeats 4000000 in
set_option maxRecDepth 100000 in
theorem ctX10_comes (l : Launch) (E : gE) (aM anow aaside anames anamesAside atext aspelled acost afewestFrom afirst afresh aways aundo aslots aisSaved : Nat → Nat) (x1 : Int32) (x2 : Int32) (x3 : Int32) (M_thrown : Int32) (M_length : Int32) (M_textSize : Int32) (M_start : Int32) (M_next : Int32) (M_token : Int32) (M_value : Int32) (M_error : Int32) (M_errorAt : Int32) (M_number : Int32) (M_many : Int32) (M_freshMany : Int32) (M_undos : Int32) (now : (Nat → Int32)) (r : Int32) (now' : (Nat → Int32)) (hf : fX10_comes x1 x2 x3 now = some (r, now')) : gMet l yX10_comes wsX10_comes rmX10_comes vwCl E [.ref (aM 0), .int x1, .int x2, .int x3] [sModel E aM anow aaside anames anamesAside atext aspelled acost afewestFrom afirst afresh aways aundo aslots aisSaved M_thrown M_length M_textSize M_start M_next M_token M_value M_error M_errorAt M_number M_many M_freshMany M_undos, sArrI E anow 365 now] (fun v w => v = some (.int r) ∧ w = [sModel E aM anow aaside anames anamesAside atext aspelled acost afewestFrom afirst afresh aways aundo aslots aisSaved M_thrown M_length M_textSize M_start M_next M_token M_value M_error M_errorAt M_number M_many M_freshMany M_undos, sArrI E anow 365 now']) 0 0 := by
  refine g_entry [some (.ref (aM 0)), some (.int x1), some (.int x2), some (.int x3), none, none] (by decide) rfl (Nat.le_of_ble_eq_true rfl) rfl ?_
  intro p e s m below meth c A F hnm
  unfold fX10_comes at hf
  refine g_aload_n F dX10_comes_0 rfl ?_
  refine g_get (C := RX10) (T := TX10) (N := 27) F 0 0 1 rfl rfl rfl iX10_comes_X10 (by decide) (by decide +kernel) rfl dX10_comes_1 ?_
  refine g_bipush F 9 dX10_comes_4 rfl ?_
  refine g_iald F 1 0 9 (by decide) rfl rfl (by decide) dX10_comes_6 ?_
  refine g_istore (lv' := [some (.ref (aM 0)), some (.int x1), some (.int x2), some (.int x3), some (.int (now 9)), none]) F dX10_comes_7 (Nat.le_of_ble_eq_true rfl) rfl rfl ?_
  refine g_bipush F 21 dX10_comes_9 rfl ?_
  refine g_iconst F 5 dX10_comes_11 rfl ?_
  refine g_iload F dX10_comes_12 rfl ?_
  refine g_imul F dX10_comes_14 ?_
  refine g_iadd F dX10_comes_15 ?_
  refine g_istore (lv' := [some (.ref (aM 0)), some (.int x1), some (.int x2), some (.int x3), some (.int (now 9)), some (.int (21 + (5 * (now 9))))]) F dX10_comes_16 (Nat.le_of_ble_eq_true rfl) rfl rfl ?_
  refine g_aload_n F dX10_comes_18 rfl ?_
  refine g_get (C := RX10) (T := TX10) (N := 27) F 0 0 1 rfl rfl rfl iX10_comes_X10 (by decide) (by decide +kernel) rfl dX10_comes_19 ?_
  refine g_iload F dX10_comes_22 rfl ?_
  refine g_iconst F 0 dX10_comes_24 rfl ?_
  refine g_iadd F dX10_comes_25 ?_
  refine g_iload_n F dX10_comes_26 rfl ?_
  obtain ⟨hb_1, hf⟩ := gb_in hf
  obtain ⟨now_1, hnow_1, hf⟩ := Lt_el hf
  refine g_iast (Lw' := [sModel E aM anow aaside anames anamesAside atext aspelled acost afewestFrom afirst afresh aways aundo aslots aisSaved M_thrown M_length M_textSize M_start M_next M_token M_value M_error M_errorAt M_number M_many M_freshMany M_undos, sArrI E anow 365 now_1]) F 1 0 (((21 + (5 * (now 9))) + 0).toNatClampNeg) rfl rfl rfl hb_1 dX10_comes_27 (by subst hnow_1; rfl) ?_
  refine g_aload_n F dX10_comes_28 rfl ?_
  refine g_get (C := RX10) (T := TX10) (N := 27) F 0 0 1 rfl rfl rfl iX10_comes_X10 (by decide) (by decide +kernel) rfl dX10_comes_29 ?_
  refine g_iload F dX10_comes_32 rfl ?_
  refine g_iconst F 1 dX10_comes_34 rfl ?_
  refine g_iadd F dX10_comes_35 ?_
  refine g_iload_n F dX10_comes_36 rfl ?_
  obtain ⟨hb_2, hf⟩ := gb_in hf
  obtain ⟨now_2, hnow_2, hf⟩ := Lt_el hf
  refine g_iast (Lw' := [sModel E aM anow aaside anames anamesAside atext aspelled acost afewestFrom afirst afresh aways aundo aslots aisSaved M_thrown M_length M_textSize M_start M_next M_token M_value M_error M_errorAt M_number M_many M_freshMany M_undos, sArrI E anow 365 now_2]) F 1 0 (((21 + (5 * (now 9))) + 1).toNatClampNeg) rfl rfl rfl hb_2 dX10_comes_37 (by subst hnow_2; rfl) ?_
  refine g_aload_n F dX10_comes_38 rfl ?_
  refine g_get (C := RX10) (T := TX10) (N := 27) F 0 0 1 rfl rfl rfl iX10_comes_X10 (by decide) (by decide +kernel) rfl dX10_comes_39 ?_
  refine g_iload F dX10_comes_42 rfl ?_
  refine g_iconst F 2 dX10_comes_44 rfl ?_
  refine g_iadd F dX10_comes_45 ?_
  refine g_iload_n F dX10_comes_46 rfl ?_
  obtain ⟨hb_3, hf⟩ := gb_in hf
  obtain ⟨now_3, hnow_3, hf⟩ := Lt_el hf
  refine g_iast (Lw' := [sModel E aM anow aaside anames anamesAside atext aspelled acost afewestFrom afirst afresh aways aundo aslots aisSaved M_thrown M_length M_textSize M_start M_next M_token M_value M_error M_errorAt M_number M_many M_freshMany M_undos, sArrI E anow 365 now_3]) F 1 0 (((21 + (5 * (now 9))) + 2).toNatClampNeg) rfl rfl rfl hb_3 dX10_comes_47 (by subst hnow_3; rfl) ?_
  refine g_aload_n F dX10_comes_48 rfl ?_
  refine g_get (C := RX10) (T := TX10) (N := 27) F 0 0 1 rfl rfl rfl iX10_comes_X10 (by decide) (by decide +kernel) rfl dX10_comes_49 ?_
  refine g_iload F dX10_comes_52 rfl ?_
  refine g_iconst F 3 dX10_comes_54 rfl ?_
  refine g_iadd F dX10_comes_55 ?_
  refine g_iconst F 0 dX10_comes_56 rfl ?_
  obtain ⟨hb_4, hf⟩ := gb_in hf
  obtain ⟨now_4, hnow_4, hf⟩ := Lt_el hf
  refine g_iast (Lw' := [sModel E aM anow aaside anames anamesAside atext aspelled acost afewestFrom afirst afresh aways aundo aslots aisSaved M_thrown M_length M_textSize M_start M_next M_token M_value M_error M_errorAt M_number M_many M_freshMany M_undos, sArrI E anow 365 now_4]) F 1 0 (((21 + (5 * (now 9))) + 3).toNatClampNeg) rfl rfl rfl hb_4 dX10_comes_57 (by subst hnow_4; rfl) ?_
  refine g_aload_n F dX10_comes_58 rfl ?_
  refine g_get (C := RX10) (T := TX10) (N := 27) F 0 0 1 rfl rfl rfl iX10_comes_X10 (by decide) (by decide +kernel) rfl dX10_comes_59 ?_
  refine g_iload F dX10_comes_62 rfl ?_
  refine g_iconst F 4 dX10_comes_64 rfl ?_
  refine g_iadd F dX10_comes_65 ?_
  refine g_aload_n F dX10_comes_66 rfl ?_
  refine g_get (C := RX10) (T := TX10) (N := 27) F 0 0 1 rfl rfl rfl iX10_comes_X10 (by decide) (by decide +kernel) rfl dX10_comes_67 ?_
  refine g_bipush F 6 dX10_comes_70 rfl ?_
  refine g_iald F 1 0 6 (by decide) rfl rfl (by decide) dX10_comes_72 ?_
  obtain ⟨hb_5, hf⟩ := gb_in hf
  obtain ⟨now_5, hnow_5, hf⟩ := Lt_el hf
  refine g_iast (Lw' := [sModel E aM anow aaside anames anamesAside atext aspelled acost afewestFrom afirst afresh aways aundo aslots aisSaved M_thrown M_length M_textSize M_start M_next M_token M_value M_error M_errorAt M_number M_many M_freshMany M_undos, sArrI E anow 365 now_5]) F 1 0 (((21 + (5 * (now 9))) + 4).toNatClampNeg) rfl rfl rfl hb_5 dX10_comes_73 (by subst hnow_5; rfl) ?_
  refine g_aload_n F dX10_comes_74 rfl ?_
  refine g_get (C := RX10) (T := TX10) (N := 27) F 0 0 1 rfl rfl rfl iX10_comes_X10 (by decide) (by decide +kernel) rfl dX10_comes_75 ?_
  refine g_bipush F 9 dX10_comes_78 rfl ?_
  refine g_dup2 F dX10_comes_80 rfl rfl ?_
  refine g_iald F 1 0 9 (by decide) rfl rfl (by decide) dX10_comes_81 ?_
  refine g_iconst F 1 dX10_comes_82 rfl ?_
  refine g_iadd F dX10_comes_83 ?_
  obtain ⟨now_6, hnow_6, hf⟩ := Lt_el hf
  refine g_iast (Lw' := [sModel E aM anow aaside anames anamesAside atext aspelled acost afewestFrom afirst afresh aways aundo aslots aisSaved M_thrown M_length M_textSize M_start M_next M_token M_value M_error M_errorAt M_number M_many M_freshMany M_undos, sArrI E anow 365 now_6]) F 1 0 9 (by decide) rfl rfl (by decide) dX10_comes_84 (by subst hnow_6; rfl) ?_
  refine g_iload F dX10_comes_85 rfl ?_
  cases hf
  exact g_iret F rfl ⟨rfl, rfl⟩ dX10_comes_87
set_option maxHeartbeats 4000000 in
set_option maxRecDepth 100000 in
theorem ctX10_pieceLine (l : Launch) (E : gE) (aM anow aaside anames anamesAside atext aspelled acost afewestFrom afirst afresh aways aundo aslots aisSaved : Nat → Nat) (M_thrown : Int32) (M_length : Int32) (M_textSize : Int32) (M_start : Int32) (M_next : Int32) (M_token : Int32) (M_value : Int32) (M_error : Int32) (M_errorAt : Int32) (M_number : Int32) (M_many : Int32) (M_freshMany : Int32) (M_undos : Int32) (now : (Nat → Int32)) (text : (Nat → Int32)) (spelled : (Nat → Int32)) (r : Int32) (M_start' : Int32) (M_next' : Int32) (M_token' : Int32) (M_value' : Int32) (M_error' : Int32) (M_errorAt' : Int32) (M_many' : Int32) (now' : (Nat → Int32)) (spelled' : (Nat → Int32)) (hf : fX10_pieceLine M_textSize M_start M_next M_token M_value M_error M_errorAt M_many now text spelled = some (r, M_start', M_next', M_token', M_value', M_error', M_errorAt', M_many', now', spelled')) : gMet l yX10_pieceLine wsX10_pieceLine rmX10_pieceLine vwCl E [.ref (aM 0)] [sModel E aM anow aaside anames anamesAside atext aspelled acost afewestFrom afirst afresh aways aundo aslots aisSaved M_thrown M_length M_textSize M_start M_next M_token M_value M_error M_errorAt M_number M_many M_freshMany M_undos, sArrI E anow 365 now, sArrB E atext 600 text, sArrI E aspelled 12 spelled] (fun v w => v = some (.int r) ∧ w = [sModel E aM anow aaside anames anamesAside atext aspelled acost afewestFrom afirst afresh aways aundo aslots aisSaved M_thrown M_length M_textSize M_start' M_next' M_token' M_value' M_error' M_errorAt' M_number M_many' M_freshMany M_undos, sArrI E anow 365 now', sArrB E atext 600 text, sArrI E aspelled 12 spelled'] ∧ narrow .boolean (.int r) = .int r) 0 0 := by
  refine g_entry [some (.ref (aM 0)), none] (by decide) rfl (Nat.le_of_ble_eq_true rfl) rfl ?_
  intro p e s m below meth c A F hnm
  unfold fX10_pieceLine at hf
  refine g_aload_n F dX10_pieceLine_0 rfl ?_
  refine g_iconst F 5 dX10_pieceLine_1 rfl ?_
  refine g_aload_n F dX10_pieceLine_2 rfl ?_
  refine g_get (C := RX10) (T := TX10) (N := 27) F 0 0 1 rfl rfl rfl iX10_pieceLine_X10 (by decide) (by decide +kernel) rfl dX10_pieceLine_3 ?_
  refine g_bipush F 9 dX10_pieceLine_6 rfl ?_
  refine g_iald F 1 0 9 (by decide) rfl rfl (by decide) dX10_pieceLine_8 ?_
  refine g_bipush F 24 dX10_pieceLine_9 rfl ?_
  obtain ⟨j_1, hj_1, hf⟩ := Lt_el hf
  have hj_1 : ∀ (t0_1 : Int32), j_1 t0_1 = some (r, M_start', M_next', M_token', M_value', M_error', M_errorAt', M_many', now', spelled') → Gj p l e rmX10_pieceLine s m ([.ref (aM 0)] : List Value).toArray below meth c 0 0 (MQ below (gQ vwCl E A (fun v w => v = some (.int r) ∧ w = [sModel E aM anow aaside anames anamesAside atext aspelled acost afewestFrom afirst afresh aways aundo aslots aisSaved M_thrown M_length M_textSize M_start' M_next' M_token' M_value' M_error' M_errorAt' M_number M_many' M_freshMany M_undos, sArrI E anow 365 now', sArrB E atext 600 text, sArrI E aspelled 12 spelled'] ∧ narrow .boolean (.int r) = .int r)) ([.ref (aM 0)] : List Value).toArray s 0 0 A) vwCl E A [sModel E aM anow aaside anames anamesAside atext aspelled acost afewestFrom afirst afresh aways aundo aslots aisSaved M_thrown M_length M_textSize M_start M_next M_token M_value M_error M_errorAt M_number M_many M_freshMany M_undos, sArrI E anow 365 now, sArrB E atext 600 text, sArrI E aspelled 12 spelled] [some (.ref (aM 0)), none] [.int t0_1, .int 5, .ref (aM 0)] 19 := by
    intro t0_1 hf
    rw [hj_1] at hf
    obtain ⟨r_1, M_start_1, M_next_1, M_token_1, M_value_1, M_error_1, M_errorAt_1, hg_1, hf⟩ := gb7_el hf
    refine g_callV (C := RX10) (T := TX10) (N := 27) (Lr := [sArrI E anow 365 now, sArrI E aspelled 12 spelled]) (As := [.int 5, .int t0_1]) (rest := []) F 0 0 2 (ctX10_starts l E aM anow aaside anames anamesAside atext aspelled acost afewestFrom afirst afresh aways aundo aslots aisSaved 5 t0_1 M_thrown M_length M_textSize M_start M_next M_token M_value M_error M_errorAt M_number M_many M_freshMany M_undos text r_1 M_start_1 M_next_1 M_token_1 M_value_1 M_error_1 M_errorAt_1 hg_1) gX10_pieceLine_X10_starts rfl rfl rfl h0X10_starts ⟨Nat.le_of_ble_eq_true rfl, Nat.le_of_ble_eq_true rfl⟩ rfl rfl rfl [0, 2] [1, 3] rfl rfl rfl rfl rfl rfl (Nat.le_of_ble_eq_true rfl) dX10_pieceLine_19 ⟨Nat.le_of_ble_eq_true rfl, Nat.le_of_ble_eq_true rfl⟩ ?_
    rintro v w ⟨rfl, rfl, hz_1⟩
    refine g_norm (Lw' := [sModel E aM anow aaside anames anamesAside atext aspelled acost afewestFrom afirst afresh aways aundo aslots aisSaved M_thrown M_length M_textSize M_start_1 M_next_1 M_token_1 M_value_1 M_error_1 M_errorAt_1 M_number M_many M_freshMany M_undos, sArrI E anow 365 now, sArrB E atext 600 text, sArrI E aspelled 12 spelled]) (st' := [.int r_1]) (pc' := 22) [0, 2, 1, 3] rfl rfl rfl rfl ?_
    refine g_ifeq F 32 dX10_pieceLine_22 (by decide) (fun hc_5 => ?_) (fun hc_5 => ?_)
    · replace hf := gi_t hc_5 hf
      refine g_iconst F 0 dX10_pieceLine_32 rfl ?_
      cases hf
      exact g_zret (ty := .boolean) F rfl rfl ⟨rfl, rfl, rfl⟩ dX10_pieceLine_33
    · replace hf := gi_f hc_5 hf
      refine g_aload_n F dX10_pieceLine_25 rfl ?_
      obtain ⟨r_2, M_error_2, M_errorAt_2, M_many_1, spelled_1, hg_2, hf⟩ := gb5_el hf
      refine g_callV (C := RX10) (T := TX10) (N := 27) (Lr := [sArrI E anow 365 now]) (As := []) (rest := []) F 0 0 0 (ctX10_spells l E aM anow aaside anames anamesAside atext aspelled acost afewestFrom afirst afresh aways aundo aslots aisSaved M_thrown M_length M_textSize M_start_1 M_next_1 M_token_1 M_value_1 M_error_1 M_errorAt_1 M_number M_many M_freshMany M_undos text spelled r_2 M_error_2 M_errorAt_2 M_many_1 spelled_1 hg_2) gX10_pieceLine_X10_spells rfl rfl rfl h0X10_spells ⟨Nat.le_of_ble_eq_true rfl, Nat.le_of_ble_eq_true rfl⟩ rfl rfl rfl [0, 2, 3] [1] rfl rfl rfl rfl rfl rfl (Nat.le_of_ble_eq_true rfl) dX10_pieceLine_26 ⟨Nat.le_of_ble_eq_true rfl, Nat.le_of_ble_eq_true rfl⟩ ?_
      rintro v w ⟨rfl, rfl, hz_2⟩
      refine g_norm (Lw' := [sModel E aM anow aaside anames anamesAside atext aspelled acost afewestFrom afirst afresh aways aundo aslots aisSaved M_thrown M_length M_textSize M_start_1 M_next_1 M_token_1 M_value_1 M_error_2 M_errorAt_2 M_number M_many_1 M_freshMany M_undos, sArrI E anow 365 now, sArrB E atext 600 text, sArrI E aspelled 12 spelled_1]) (st' := [.int r_2]) (pc' := 29) [0, 3, 1, 2] rfl rfl rfl rfl ?_
      refine g_ifne F 34 dX10_pieceLine_29 (by decide) (fun hc_4 => ?_) (fun hc_4 => ?_)
      · replace hf := gi_f hc_4 hf
        refine g_aload_n F dX10_pieceLine_34 rfl ?_
        refine g_get (C := RX10) (T := TX10) (N := 27) F 0 0 16 rfl rfl rfl iX10_pieceLine_X10 (by decide) (by decide +kernel) rfl dX10_pieceLine_35 ?_
        refine g_bipush F 6 dX10_pieceLine_38 rfl ?_
        refine g_icmp_le F 49 dX10_pieceLine_40 (by decide) (fun hc_3 => ?_) (fun hc_3 => ?_)
        · replace hf := gi_t hc_3 hf
          refine g_aload_n F dX10_pieceLine_49 rfl ?_
          refine g_iconst F 0 dX10_pieceLine_50 rfl ?_
          refine g_aload_n F dX10_pieceLine_51 rfl ?_
          refine g_get (C := RX10) (T := TX10) (N := 27) F 0 0 16 rfl rfl rfl iX10_pieceLine_X10 (by decide) (by decide +kernel) rfl dX10_pieceLine_52 ?_
          obtain ⟨r_3, hg_3, hf⟩ := gb1_el hf
          refine g_callV (C := RX10) (T := TX10) (N := 27) (Lr := [sArrI E anow 365 now, sArrB E atext 600 text]) (As := [.int 0, .int M_many_1]) (rest := []) F 0 0 2 (ctX10_code l E aM anow aaside anames anamesAside atext aspelled acost afewestFrom afirst afresh aways aundo aslots aisSaved 0 M_many_1 M_thrown M_length M_textSize M_start_1 M_next_1 M_token_1 M_value_1 M_error_2 M_errorAt_2 M_number M_many_1 M_freshMany M_undos spelled_1 r_3 hg_3) gX10_pieceLine_X10_code rfl rfl rfl h0X10_code ⟨Nat.le_of_ble_eq_true rfl, Nat.le_of_ble_eq_true rfl⟩ rfl rfl rfl [0, 3] [1, 2] rfl rfl rfl rfl rfl rfl (Nat.le_of_ble_eq_true rfl) dX10_pieceLine_55 ⟨Nat.le_of_ble_eq_true rfl, Nat.le_of_ble_eq_true rfl⟩ ?_
          rintro v w ⟨rfl, rfl⟩
          refine g_norm (Lw' := [sModel E aM anow aaside anames anamesAside atext aspelled acost afewestFrom afirst afresh aways aundo aslots aisSaved M_thrown M_length M_textSize M_start_1 M_next_1 M_token_1 M_value_1 M_error_2 M_errorAt_2 M_number M_many_1 M_freshMany M_undos, sArrI E anow 365 now, sArrB E atext 600 text, sArrI E aspelled 12 spelled_1]) (st' := [.int r_3]) (pc' := 58) [0, 2, 3, 1] rfl rfl rfl rfl ?_
          refine g_istore_n (lv' := [some (.ref (aM 0)), some (.int r_3)]) F dX10_pieceLine_58 (Nat.le_of_ble_eq_true rfl) rfl rfl ?_
          refine g_aload_n F dX10_pieceLine_59 rfl ?_
          refine g_iconst F 2 dX10_pieceLine_60 rfl ?_
          refine g_aload_n F dX10_pieceLine_61 rfl ?_
          refine g_iload_n F dX10_pieceLine_62 rfl ?_
          obtain ⟨r_4, hg_4, hf⟩ := gb1_el hf
          refine g_callV (C := RX10) (T := TX10) (N := 27) (Lr := [sArrB E atext 600 text, sArrI E aspelled 12 spelled_1]) (As := [.int r_3]) (rest := [.int 2, .ref (aM 0)]) F 0 0 1 (ctX10_pieceOf l E aM anow aaside anames anamesAside atext aspelled acost afewestFrom afirst afresh aways aundo aslots aisSaved r_3 M_thrown M_length M_textSize M_start_1 M_next_1 M_token_1 M_value_1 M_error_2 M_errorAt_2 M_number M_many_1 M_freshMany M_undos now r_4 hg_4) gX10_pieceLine_X10_pieceOf rfl rfl rfl h0X10_pieceOf ⟨Nat.le_of_ble_eq_true rfl, Nat.le_of_ble_eq_true rfl⟩ rfl rfl rfl [0, 1] [2, 3] rfl rfl rfl rfl rfl rfl (Nat.le_of_ble_eq_true rfl) dX10_pieceLine_63 ⟨Nat.le_of_ble_eq_true rfl, Nat.le_of_ble_eq_true rfl⟩ ?_
          rintro v w ⟨rfl, rfl⟩
          refine g_norm (Lw' := [sModel E aM anow aaside anames anamesAside atext aspelled acost afewestFrom afirst afresh aways aundo aslots aisSaved M_thrown M_length M_textSize M_start_1 M_next_1 M_token_1 M_value_1 M_error_2 M_errorAt_2 M_number M_many_1 M_freshMany M_undos, sArrI E anow 365 now, sArrB E atext 600 text, sArrI E aspelled 12 spelled_1]) (st' := [.int r_4, .int 2, .ref (aM 0)]) (pc' := 66) [0, 1, 2, 3] rfl rfl rfl rfl ?_
          refine g_iconst F (-1) dX10_pieceLine_66 rfl ?_
          obtain ⟨j_2, hj_2, hf⟩ := Lt_el hf
          have hj_2 : ∀ (t0_2 : Int32), j_2 t0_2 = some (r, M_start', M_next', M_token', M_value', M_error', M_errorAt', M_many', now', spelled') → Gj p l e rmX10_pieceLine s m ([.ref (aM 0)] : List Value).toArray below meth c 0 0 (MQ below (gQ vwCl E A (fun v w => v = some (.int r) ∧ w = [sModel E aM anow aaside anames anamesAside atext aspelled acost afewestFrom afirst afresh aways aundo aslots aisSaved M_thrown M_length M_textSize M_start' M_next' M_token' M_value' M_error' M_errorAt' M_number M_many' M_freshMany M_undos, sArrI E anow 365 now', sArrB E atext 600 text, sArrI E aspelled 12 spelled'] ∧ narrow .boolean (.int r) = .int r)) ([.ref (aM 0)] : List Value).toArray s 0 0 A) vwCl E A [sModel E aM anow aaside anames anamesAside atext aspelled acost afewestFrom afirst afresh aways aundo aslots aisSaved M_thrown M_length M_textSize M_start_1 M_next_1 M_token_1 M_value_1 M_error_2 M_errorAt_2 M_number M_many_1 M_freshMany M_undos, sArrI E anow 365 now, sArrB E atext 600 text, sArrI E aspelled 12 spelled_1] [some (.ref (aM 0)), some (.int r_3)] [.int t0_2, .int 2, .ref (aM 0)] 75 := by
            intro t0_2 hf
            rw [hj_2] at hf
            obtain ⟨r_5, M_start_2, M_next_2, M_token_2, M_value_2, M_error_3, M_errorAt_3, hg_5, hf⟩ := gb7_el hf
            refine g_callV (C := RX10) (T := TX10) (N := 27) (Lr := [sArrI E anow 365 now, sArrI E aspelled 12 spelled_1]) (As := [.int 2, .int t0_2]) (rest := []) F 0 0 2 (ctX10_starts l E aM anow aaside anames anamesAside atext aspelled acost afewestFrom afirst afresh aways aundo aslots aisSaved 2 t0_2 M_thrown M_length M_textSize M_start_1 M_next_1 M_token_1 M_value_1 M_error_2 M_errorAt_2 M_number M_many_1 M_freshMany M_undos text r_5 M_start_2 M_next_2 M_token_2 M_value_2 M_error_3 M_errorAt_3 hg_5) gX10_pieceLine_X10_starts rfl rfl rfl h0X10_starts ⟨Nat.le_of_ble_eq_true rfl, Nat.le_of_ble_eq_true rfl⟩ rfl rfl rfl [0, 2] [1, 3] rfl rfl rfl rfl rfl rfl (Nat.le_of_ble_eq_true rfl) dX10_pieceLine_75 ⟨Nat.le_of_ble_eq_true rfl, Nat.le_of_ble_eq_true rfl⟩ ?_
            rintro v w ⟨rfl, rfl, hz_3⟩
            refine g_norm (Lw' := [sModel E aM anow aaside anames anamesAside atext aspelled acost afewestFrom afirst afresh aways aundo aslots aisSaved M_thrown M_length M_textSize M_start_2 M_next_2 M_token_2 M_value_2 M_error_3 M_errorAt_3 M_number M_many_1 M_freshMany M_undos, sArrI E anow 365 now, sArrB E atext 600 text, sArrI E aspelled 12 spelled_1]) (st' := [.int r_5]) (pc' := 78) [0, 2, 1, 3] rfl rfl rfl rfl ?_
            refine g_ifne F 83 dX10_pieceLine_78 (by decide) (fun hc_1 => ?_) (fun hc_1 => ?_)
            · replace hf := gi_f hc_1 hf
              refine g_aload_n F dX10_pieceLine_83 rfl ?_
              refine g_iload_n F dX10_pieceLine_84 rfl ?_
              refine g_iconst F 0 dX10_pieceLine_85 rfl ?_
              refine g_iconst F (-1) dX10_pieceLine_86 rfl ?_
              obtain ⟨r_6, now_1, hg_6, hf⟩ := gb2_el hf
              refine g_callV (C := RX10) (T := TX10) (N := 27) (Lr := [sArrB E atext 600 text, sArrI E aspelled 12 spelled_1]) (As := [.int r_3, .int 0, .int (-1)]) (rest := []) F 0 0 3 (ctX10_comes l E aM anow aaside anames anamesAside atext aspelled acost afewestFrom afirst afresh aways aundo aslots aisSaved r_3 0 (-1) M_thrown M_length M_textSize M_start_2 M_next_2 M_token_2 M_value_2 M_error_3 M_errorAt_3 M_number M_many_1 M_freshMany M_undos now r_6 now_1 hg_6) gX10_pieceLine_X10_comes rfl rfl rfl h0X10_comes ⟨Nat.le_of_ble_eq_true rfl, Nat.le_of_ble_eq_true rfl⟩ rfl rfl rfl [0, 1] [2, 3] rfl rfl rfl rfl rfl rfl (Nat.le_of_ble_eq_true rfl) dX10_pieceLine_87 ⟨Nat.le_of_ble_eq_true rfl, Nat.le_of_ble_eq_true rfl⟩ ?_
              rintro v w ⟨rfl, rfl⟩
              refine g_norm (Lw' := [sModel E aM anow aaside anames anamesAside atext aspelled acost afewestFrom afirst afresh aways aundo aslots aisSaved M_thrown M_length M_textSize M_start_2 M_next_2 M_token_2 M_value_2 M_error_3 M_errorAt_3 M_number M_many_1 M_freshMany M_undos, sArrI E anow 365 now_1, sArrB E atext 600 text, sArrI E aspelled 12 spelled_1]) (st' := [.int r_6]) (pc' := 90) [0, 1, 2, 3] rfl rfl rfl rfl ?_
              refine g_pop F dX10_pieceLine_90 rfl ?_
              refine g_iconst F 1 dX10_pieceLine_91 rfl ?_
              cases hf
              exact g_zret (ty := .boolean) F rfl rfl ⟨rfl, rfl, rfl⟩ dX10_pieceLine_92
            · replace hf := gi_t hc_1 hf
              refine g_iconst F 0 dX10_pieceLine_81 rfl ?_
              cases hf
              exact g_zret (ty := .boolean) F rfl rfl ⟨rfl, rfl, rfl⟩ dX10_pieceLine_82
          refine g_icmp_ne F 74 dX10_pieceLine_67 (by decide) (fun hc_2 => ?_) (fun hc_2 => ?_)
          · replace hf := gi_f hc_2 hf
            refine g_iconst F 0 dX10_pieceLine_74 rfl ?_
            exact hj_2 0 hf
          · replace hf := gi_t hc_2 hf
            refine g_iconst F 1 dX10_pieceLine_70 rfl ?_
            refine g_goto F 75 dX10_pieceLine_71 (by decide) ?_
            exact hj_2 1 hf
        · replace hf := gi_f hc_3 hf
          refine g_aload_n F dX10_pieceLine_43 rfl ?_
          refine g_iconst F 3 dX10_pieceLine_44 rfl ?_
          obtain ⟨r_7, M_error_4, M_errorAt_4, hg_7, hf⟩ := gb3_el hf
          refine g_callV (C := RX10) (T := TX10) (N := 27) (Lr := [sArrI E anow 365 now, sArrB E atext 600 text, sArrI E aspelled 12 spelled_1]) (As := [.int 3]) (rest := []) F 0 0 1 (ctX10_fails l E aM anow aaside anames anamesAside atext aspelled acost afewestFrom afirst afresh aways aundo aslots aisSaved 3 M_thrown M_length M_textSize M_start_1 M_next_1 M_token_1 M_value_1 M_error_2 M_errorAt_2 M_number M_many_1 M_freshMany M_undos r_7 M_error_4 M_errorAt_4 hg_7) gX10_pieceLine_X10_fails rfl rfl rfl h0X10_fails ⟨Nat.le_of_ble_eq_true rfl, Nat.le_of_ble_eq_true rfl⟩ rfl rfl rfl [0] [1, 2, 3] rfl rfl rfl rfl rfl rfl (Nat.le_of_ble_eq_true rfl) dX10_pieceLine_45 ⟨Nat.le_of_ble_eq_true rfl, Nat.le_of_ble_eq_true rfl⟩ ?_
          rintro v w ⟨rfl, rfl, hz_4⟩
          refine g_norm (Lw' := [sModel E aM anow aaside anames anamesAside atext aspelled acost afewestFrom afirst afresh aways aundo aslots aisSaved M_thrown M_length M_textSize M_start_1 M_next_1 M_token_1 M_value_1 M_error_4 M_errorAt_4 M_number M_many_1 M_freshMany M_undos, sArrI E anow 365 now, sArrB E atext 600 text, sArrI E aspelled 12 spelled_1]) (st' := [.int r_7]) (pc' := 48) [0, 1, 2, 3] rfl rfl rfl rfl ?_
          cases hf
          exact g_zret (ty := .boolean) F rfl hz_4 ⟨rfl, rfl, hz_4⟩ dX10_pieceLine_48
      · replace hf := gi_t hc_4 hf
        refine g_iconst F 0 dX10_pieceLine_32 rfl ?_
        cases hf
        exact g_zret (ty := .boolean) F rfl rfl ⟨rfl, rfl, rfl⟩ dX10_pieceLine_33
  refine g_icmp_ge F 18 dX10_pieceLine_11 (by decide) (fun hc_6 => ?_) (fun hc_6 => ?_)
  · replace hf := gi_t hc_6 hf
    refine g_iconst F 0 dX10_pieceLine_18 rfl ?_
    exact hj_1 0 hf
  · replace hf := gi_f hc_6 hf
    refine g_iconst F 1 dX10_pieceLine_14 rfl ?_
    refine g_goto F 19 dX10_pieceLine_15 (by decide) ?_
    exact hj_1 1 hf
set_option maxHeartbeats 4000000 in
set_option maxRecDepth 100000 in
theorem ktX10_lettersOf_L4 {p : Program} {l : Launch} {e : Env} {s : State} {m : MethodId} {args : Array Value} {below : List Frame} {meth : Method} {c : Code} {E : gE} {A : Nat → Prop} (F : gFx p s m args meth c RX10 wsX10_lettersOf cX10_lettersOf 3 (some .int) vwCl E A) (r : Int32) {k : Int32 → Option (Int32)} (hk : ∀ (x1 : Int32), k x1 = some r → Gj p l e rmX10_lettersOf s m args below meth c 0 0 (MQ below (gQ vwCl E A (fun v w => v = some (.int r) ∧ w = [])) args s 0 0 A) vwCl E A [] [none, some (.int x1), none] [] 18) : ∀ (n : Nat) (x1 : Int32) (x2 : Int32), fX10_lettersOf_L4 k n x1 x2 = some r → Gj p l e rmX10_lettersOf s m args below meth c 0 0 (MQ below (gQ vwCl E A (fun v w => v = some (.int r) ∧ w = [])) args s 0 0 A) vwCl E A [] [none, some (.int x1), some (.int x2)] [] 4
  | 0, _, _, hf => by cases hf
  | n + 1, x1, x2, hf => by
    have ih := ktX10_lettersOf_L4 F  r hk n
    rw [fX10_lettersOf_L4] at hf
    refine g_iload_n F dX10_lettersOf_4 rfl ?_
    refine g_ifle F 18 dX10_lettersOf_5 (by decide) (fun hc_1 => ?_) (fun hc_1 => ?_)
    · replace hf := gi_t hc_1 hf
      refine g_mask [true, true, false] rfl ?_
      exact hk x1 hf
    · replace hf := gi_f hc_1 hf
      refine g_iinc (lv' := [none, some (.int (x1 + 1)), some (.int x2)]) F (x1 + 1) dX10_lettersOf_8 rfl rfl rfl rfl ?_
      refine g_iload_n F dX10_lettersOf_11 rfl ?_
      refine g_iconst F 5 dX10_lettersOf_12 rfl ?_
      refine g_ishr F dX10_lettersOf_13 ?_
      refine g_istore_n (lv' := [none, some (.int (x1 + 1)), some (.int (x2 >>> (5 &&& 31)))]) F dX10_lettersOf_14 (Nat.le_of_ble_eq_true rfl) rfl rfl ?_
      refine g_goto F 4 dX10_lettersOf_15 (by decide) ?_
      exact ih (x1 + 1) (x2 >>> (5 &&& 31)) hf
set_option maxHeartbeats 4000000 in
set_option maxRecDepth 100000 in
theorem ctX10_lettersOf (l : Launch) (E : gE) (x0 : Int32) (r : Int32) (hf : fX10_lettersOf x0 = some r) : gMet l yX10_lettersOf wsX10_lettersOf rmX10_lettersOf vwCl E [.int x0] [] (fun v w => v = some (.int r) ∧ w = []) 0 0 := by
  refine g_entry [some (.int x0), none, none] (by decide) rfl (Nat.le_of_ble_eq_true rfl) rfl ?_
  intro p e s m below meth c A F hnm
  unfold fX10_lettersOf at hf
  refine g_iconst F 0 dX10_lettersOf_0 rfl ?_
  refine g_istore_n (lv' := [some (.int x0), some (.int 0), none]) F dX10_lettersOf_1 (Nat.le_of_ble_eq_true rfl) rfl rfl ?_
  refine g_iload_n F dX10_lettersOf_2 rfl ?_
  refine g_istore_n (lv' := [some (.int x0), some (.int 0), some (.int x0)]) F dX10_lettersOf_3 (Nat.le_of_ble_eq_true rfl) rfl rfl ?_
  refine g_mask [false, true, true] rfl ?_
  refine ktX10_lettersOf_L4 F  r (fun x1_1 hf => ?_) FU 0 x0 hf
  refine g_iload_n F dX10_lettersOf_18 rfl ?_
  cases hf
  exact g_iret F rfl ⟨rfl, rfl⟩ dX10_lettersOf_19
set_option maxHeartbeats 4000000 in
set_option maxRecDepth 100000 in
theorem ctX10_priceOf (l : Launch) (E : gE) (aM anow aaside anames anamesAside atext aspelled acost afewestFrom afirst afresh aways aundo aslots aisSaved : Nat → Nat) (x1 : Int32) (M_thrown : Int32) (M_length : Int32) (M_textSize : Int32) (M_start : Int32) (M_next : Int32) (M_token : Int32) (M_value : Int32) (M_error : Int32) (M_errorAt : Int32) (M_number : Int32) (M_many : Int32) (M_freshMany : Int32) (M_undos : Int32) (now : (Nat → Int32)) (r : Int32) (hf : fX10_priceOf x1 now = some r) : gMet l yX10_priceOf wsX10_priceOf rmX10_priceOf vwCl E [.ref (aM 0), .int x1] [sModel E aM anow aaside anames anamesAside atext aspelled acost afewestFrom afirst afresh aways aundo aslots aisSaved M_thrown M_length M_textSize M_start M_next M_token M_value M_error M_errorAt M_number M_many M_freshMany M_undos, sArrI E anow 365 now] (fun v w => v = some (.int r) ∧ w = [sModel E aM anow aaside anames anamesAside atext aspelled acost afewestFrom afirst afresh aways aundo aslots aisSaved M_thrown M_length M_textSize M_start M_next M_token M_value M_error M_errorAt M_number M_many M_freshMany M_undos, sArrI E anow 365 now]) 0 0 := by
  refine g_entry [some (.ref (aM 0)), some (.int x1)] (by decide) rfl (Nat.le_of_ble_eq_true rfl) rfl ?_
  intro p e s m below meth c A F hnm
  unfold fX10_priceOf at hf
  refine g_aload_n F dX10_priceOf_0 rfl ?_
  refine g_get (C := RX10) (T := TX10) (N := 27) F 0 0 1 rfl rfl rfl iX10_priceOf_X10 (by decide) (by decide +kernel) rfl dX10_priceOf_1 ?_
  refine g_iconst F 0 dX10_priceOf_4 rfl ?_
  refine g_iald F 1 0 0 (by decide) rfl rfl (by decide) dX10_priceOf_5 ?_
  refine g_aload_n F dX10_priceOf_6 rfl ?_
  refine g_get (C := RX10) (T := TX10) (N := 27) F 0 0 1 rfl rfl rfl iX10_priceOf_X10 (by decide) (by decide +kernel) rfl dX10_priceOf_7 ?_
  refine g_iconst F 1 dX10_priceOf_10 rfl ?_
  refine g_iald F 1 0 1 (by decide) rfl rfl (by decide) dX10_priceOf_11 ?_
  refine g_iload_n F dX10_priceOf_12 rfl ?_
  obtain ⟨r_1, hg_1, hf⟩ := gb1_el hf
  refine g_callS (Lr := [sModel E aM anow aaside anames anamesAside atext aspelled acost afewestFrom afirst afresh aways aundo aslots aisSaved M_thrown M_length M_textSize M_start M_next M_token M_value M_error M_errorAt M_number M_many M_freshMany M_undos, sArrI E anow 365 now]) (As := [.int x1]) (rest := [.int (now 1), .int (now 0)]) F 1 (ctX10_lettersOf l E x1 r_1 hg_1) (va_cwS 1 F.2.2.2.2.2.1 gX10_priceOf_X10_lettersOf rfl rfl rfl h0X10_lettersOf ⟨Nat.le_of_ble_eq_true rfl, Nat.le_of_ble_eq_true rfl⟩) [] [0, 1] rfl rfl rfl rfl rfl rfl (Nat.le_of_ble_eq_true rfl) dX10_priceOf_13 ⟨Nat.le_of_ble_eq_true rfl, Nat.le_of_ble_eq_true rfl⟩ ?_
  rintro v w ⟨rfl, rfl⟩
  refine g_norm (Lw' := [sModel E aM anow aaside anames anamesAside atext aspelled acost afewestFrom afirst afresh aways aundo aslots aisSaved M_thrown M_length M_textSize M_start M_next M_token M_value M_error M_errorAt M_number M_many M_freshMany M_undos, sArrI E anow 365 now]) (st' := [.int r_1, .int (now 1), .int (now 0)]) (pc' := 16) [0, 1] rfl rfl rfl rfl ?_
  refine g_imul F dX10_priceOf_16 ?_
  refine g_iadd F dX10_priceOf_17 ?_
  cases hf
  exact g_iret F rfl ⟨rfl, rfl⟩ dX10_priceOf_18
set_option maxHeartbeats 4000000 in
set_option maxRecDepth 100000 in
theorem ctX10_triesFirst (l : Launch) (E : gE) (aM anow aaside anames anamesAside atext aspelled acost afewestFrom afirst afresh aways aundo aslots aisSaved : Nat → Nat) (x1 : Int32) (x2 : Int32) (x3 : Int32) (x4 : Int32) (M_thrown : Int32) (M_length : Int32) (M_textSize : Int32) (M_start : Int32) (M_next : Int32) (M_token : Int32) (M_value : Int32) (M_error : Int32) (M_errorAt : Int32) (M_number : Int32) (M_many : Int32) (M_freshMany : Int32) (M_undos : Int32) (now : (Nat → Int32)) (spelled : (Nat → Int32)) (cost : (Nat → Int32)) (fewestFrom : (Nat → Int32)) (first : (Nat → Int32)) (cost' : (Nat → Int32)) (fewestFrom' : (Nat → Int32)) (first' : (Nat → Int32)) (hf : fX10_triesFirst x1 x2 x3 x4 now spelled cost fewestFrom first = some (cost', fewestFrom', first')) : gMet l yX10_triesFirst wsX10_triesFirst rmX10_triesFirst vwCl E [.ref (aM 0), .int x1, .int x2, .int x3, .int x4] [sModel E aM anow aaside anames anamesAside atext aspelled acost afewestFrom afirst afresh aways aundo aslots aisSaved M_thrown M_length M_textSize M_start M_next M_token M_value M_error M_errorAt M_number M_many M_freshMany M_undos, sArrI E anow 365 now, sArrI E aspelled 12 spelled, sArrI E acost 13 cost, sArrI E afewestFrom 13 fewestFrom, sArrI E afirst 13 first] (fun v w => v = none ∧ w = [sModel E aM anow aaside anames anamesAside atext aspelled acost afewestFrom afirst afresh aways aundo aslots aisSaved M_thrown M_length M_textSize M_start M_next M_token M_value M_error M_errorAt M_number M_many M_freshMany M_undos, sArrI E anow 365 now, sArrI E aspelled 12 spelled, sArrI E acost 13 cost', sArrI E afewestFrom 13 fewestFrom', sArrI E afirst 13 first']) 0 0 := by
  refine g_entry [some (.ref (aM 0)), some (.int x1), some (.int x2), some (.int x3), some (.int x4), none, none, none, none] (by decide) rfl (Nat.le_of_ble_eq_true rfl) rfl ?_
  intro p e s m below meth c A F hnm
  unfold fX10_triesFirst at hf
  refine g_aload_n F dX10_triesFirst_0 rfl ?_
  refine g_iload_n F dX10_triesFirst_1 rfl ?_
  refine g_iload_n F dX10_triesFirst_2 rfl ?_
  obtain ⟨r_1, hg_1, hf⟩ := gb1_el hf
  refine g_callV (C := RX10) (T := TX10) (N := 27) (Lr := [sArrI E anow 365 now, sArrI E acost 13 cost, sArrI E afewestFrom 13 fewestFrom, sArrI E afirst 13 first]) (As := [.int x1, .int x2]) (rest := []) F 0 0 2 (ctX10_code l E aM anow aaside anames anamesAside atext aspelled acost afewestFrom afirst afresh aways aundo aslots aisSaved x1 x2 M_thrown M_length M_textSize M_start M_next M_token M_value M_error M_errorAt M_number M_many M_freshMany M_undos spelled r_1 hg_1) gX10_triesFirst_X10_code rfl rfl rfl h0X10_code ⟨Nat.le_of_ble_eq_true rfl, Nat.le_of_ble_eq_true rfl⟩ rfl rfl rfl [0, 2] [1, 3, 4, 5] rfl rfl rfl rfl rfl rfl (Nat.le_of_ble_eq_true rfl) dX10_triesFirst_3 ⟨Nat.le_of_ble_eq_true rfl, Nat.le_of_ble_eq_true rfl⟩ ?_
  rintro v w ⟨rfl, rfl⟩
  refine g_norm (Lw' := [sModel E aM anow aaside anames anamesAside atext aspelled acost afewestFrom afirst afresh aways aundo aslots aisSaved M_thrown M_length M_textSize M_start M_next M_token M_value M_error M_errorAt M_number M_many M_freshMany M_undos, sArrI E anow 365 now, sArrI E aspelled 12 spelled, sArrI E acost 13 cost, sArrI E afewestFrom 13 fewestFrom, sArrI E afirst 13 first]) (st' := [.int r_1]) (pc' := 6) [0, 2, 1, 3, 4, 5] rfl rfl rfl rfl ?_
  refine g_istore (lv' := [some (.ref (aM 0)), some (.int x1), some (.int x2), some (.int x3), some (.int x4), some (.int r_1), none, none, none]) F dX10_triesFirst_6 (Nat.le_of_ble_eq_true rfl) rfl rfl ?_
  refine g_iload F dX10_triesFirst_8 rfl ?_
  refine g_iload F dX10_triesFirst_10 rfl ?_
  obtain ⟨j_1, hj_1, hf⟩ := Lt_el hf
  have hj_1 : ∀ (t0_1 : Int32), j_1 t0_1 = some (cost', fewestFrom', first') → Gj p l e rmX10_triesFirst s m ([.ref (aM 0), .int x1, .int x2, .int x3, .int x4] : List Value).toArray below meth c 0 0 (MQ below (gQ vwCl E A (fun v w => v = none ∧ w = [sModel E aM anow aaside anames anamesAside atext aspelled acost afewestFrom afirst afresh aways aundo aslots aisSaved M_thrown M_length M_textSize M_start M_next M_token M_value M_error M_errorAt M_number M_many M_freshMany M_undos, sArrI E anow 365 now, sArrI E aspelled 12 spelled, sArrI E acost 13 cost', sArrI E afewestFrom 13 fewestFrom', sArrI E afirst 13 first'])) ([.ref (aM 0), .int x1, .int x2, .int x3, .int x4] : List Value).toArray s 0 0 A) vwCl E A [sModel E aM anow aaside anames anamesAside atext aspelled acost afewestFrom afirst afresh aways aundo aslots aisSaved M_thrown M_length M_textSize M_start M_next M_token M_value M_error M_errorAt M_number M_many M_freshMany M_undos, sArrI E anow 365 now, sArrI E aspelled 12 spelled, sArrI E acost 13 cost, sArrI E afewestFrom 13 fewestFrom, sArrI E afirst 13 first] [some (.ref (aM 0)), some (.int x1), some (.int x2), some (.int x3), none, some (.int r_1), none, none, none] [.int t0_1] 30 := by
    intro t0_1 hf
    rw [hj_1] at hf
    refine g_istore (lv' := [some (.ref (aM 0)), some (.int x1), some (.int x2), some (.int x3), none, some (.int r_1), some (.int t0_1), none, none]) F dX10_triesFirst_30 (Nat.le_of_ble_eq_true rfl) rfl rfl ?_
    refine g_iload F dX10_triesFirst_32 rfl ?_
    obtain ⟨j_2, hj_2, hf⟩ := Lt_el hf
    have hj_2 : j_2 = some (cost', fewestFrom', first') → Gj p l e rmX10_triesFirst s m ([.ref (aM 0), .int x1, .int x2, .int x3, .int x4] : List Value).toArray below meth c 0 0 (MQ below (gQ vwCl E A (fun v w => v = none ∧ w = [sModel E aM anow aaside anames anamesAside atext aspelled acost afewestFrom afirst afresh aways aundo aslots aisSaved M_thrown M_length M_textSize M_start M_next M_token M_value M_error M_errorAt M_number M_many M_freshMany M_undos, sArrI E anow 365 now, sArrI E aspelled 12 spelled, sArrI E acost 13 cost', sArrI E afewestFrom 13 fewestFrom', sArrI E afirst 13 first'])) ([.ref (aM 0), .int x1, .int x2, .int x3, .int x4] : List Value).toArray s 0 0 A) vwCl E A [sModel E aM anow aaside anames anamesAside atext aspelled acost afewestFrom afirst afresh aways aundo aslots aisSaved M_thrown M_length M_textSize M_start M_next M_token M_value M_error M_errorAt M_number M_many M_freshMany M_undos, sArrI E anow 365 now, sArrI E aspelled 12 spelled, sArrI E acost 13 cost, sArrI E afewestFrom 13 fewestFrom, sArrI E afirst 13 first] [some (.ref (aM 0)), some (.int x1), some (.int x2), none, none, some (.int r_1), some (.int t0_1), none, none] [] 41 := by
      intro hf
      rw [hj_2] at hf
      refine g_aload_n F dX10_triesFirst_41 rfl ?_
      refine g_get (C := RX10) (T := TX10) (N := 27) F 0 0 17 rfl rfl rfl iX10_triesFirst_X10 (by decide) (by decide +kernel) rfl dX10_triesFirst_42 ?_
      refine g_iload_n F dX10_triesFirst_45 rfl ?_
      refine g_iload_n F dX10_triesFirst_46 rfl ?_
      refine g_iadd F dX10_triesFirst_47 ?_
      obtain ⟨hb_1, hf⟩ := gb_in hf
      refine g_iald F 3 0 ((x1 + x2).toNatClampNeg) rfl rfl rfl hb_1 dX10_triesFirst_48 ?_
      refine g_ldc F 1000000 (by decide +kernel) dX10_triesFirst_49 ?_
      refine g_icmp_lt F 55 dX10_triesFirst_51 (by decide) (fun hc_5 => ?_) (fun hc_5 => ?_)
      · replace hf := gi_t hc_5 hf
        refine g_aload_n F dX10_triesFirst_55 rfl ?_
        refine g_get (C := RX10) (T := TX10) (N := 27) F 0 0 17 rfl rfl rfl iX10_triesFirst_X10 (by decide) (by decide +kernel) rfl dX10_triesFirst_56 ?_
        refine g_iload_n F dX10_triesFirst_59 rfl ?_
        refine g_iload_n F dX10_triesFirst_60 rfl ?_
        refine g_iadd F dX10_triesFirst_61 ?_
        obtain ⟨hb_2, hf⟩ := gb_in hf
        refine g_iald F 3 0 ((x1 + x2).toNatClampNeg) rfl rfl rfl hb_2 dX10_triesFirst_62 ?_
        refine g_aload_n F dX10_triesFirst_63 rfl ?_
        refine g_get (C := RX10) (T := TX10) (N := 27) F 0 0 1 rfl rfl rfl iX10_triesFirst_X10 (by decide) (by decide +kernel) rfl dX10_triesFirst_64 ?_
        refine g_iconst F 2 dX10_triesFirst_67 rfl ?_
        refine g_iald F 1 0 2 (by decide) rfl rfl (by decide) dX10_triesFirst_68 ?_
        refine g_iadd F dX10_triesFirst_69 ?_
        refine g_iload F dX10_triesFirst_70 rfl ?_
        obtain ⟨j_3, hj_3, hf⟩ := Lt_el hf
        have hj_3 : ∀ (t0_2 : Int32), j_3 t0_2 = some (cost', fewestFrom', first') → Gj p l e rmX10_triesFirst s m ([.ref (aM 0), .int x1, .int x2, .int x3, .int x4] : List Value).toArray below meth c 0 0 (MQ below (gQ vwCl E A (fun v w => v = none ∧ w = [sModel E aM anow aaside anames anamesAside atext aspelled acost afewestFrom afirst afresh aways aundo aslots aisSaved M_thrown M_length M_textSize M_start M_next M_token M_value M_error M_errorAt M_number M_many M_freshMany M_undos, sArrI E anow 365 now, sArrI E aspelled 12 spelled, sArrI E acost 13 cost', sArrI E afewestFrom 13 fewestFrom', sArrI E afirst 13 first'])) ([.ref (aM 0), .int x1, .int x2, .int x3, .int x4] : List Value).toArray s 0 0 A) vwCl E A [sModel E aM anow aaside anames anamesAside atext aspelled acost afewestFrom afirst afresh aways aundo aslots aisSaved M_thrown M_length M_textSize M_start M_next M_token M_value M_error M_errorAt M_number M_many M_freshMany M_undos, sArrI E anow 365 now, sArrI E aspelled 12 spelled, sArrI E acost 13 cost, sArrI E afewestFrom 13 fewestFrom, sArrI E afirst 13 first] [some (.ref (aM 0)), some (.int x1), some (.int x2), none, none, none, none, none, none] [.int t0_2, .int ((cost ((x1 + x2).toNatClampNeg)) + (now 2))] 85 := by
          intro t0_2 hf
          rw [hj_3] at hf
          refine g_iadd F dX10_triesFirst_85 ?_
          refine g_istore (lv' := [some (.ref (aM 0)), some (.int x1), some (.int x2), none, none, none, none, some (.int (((cost ((x1 + x2).toNatClampNeg)) + (now 2)) + t0_2)), none]) F dX10_triesFirst_86 (Nat.le_of_ble_eq_true rfl) rfl rfl ?_
          refine g_aload_n F dX10_triesFirst_88 rfl ?_
          refine g_get (C := RX10) (T := TX10) (N := 27) F 0 0 18 rfl rfl rfl iX10_triesFirst_X10 (by decide) (by decide +kernel) rfl dX10_triesFirst_89 ?_
          refine g_iload_n F dX10_triesFirst_92 rfl ?_
          refine g_iload_n F dX10_triesFirst_93 rfl ?_
          refine g_iadd F dX10_triesFirst_94 ?_
          obtain ⟨hb_3, hf⟩ := gb_in hf
          refine g_iald F 4 0 ((x1 + x2).toNatClampNeg) rfl rfl rfl hb_3 dX10_triesFirst_95 ?_
          refine g_iconst F 1 dX10_triesFirst_96 rfl ?_
          refine g_iadd F dX10_triesFirst_97 ?_
          refine g_istore (lv' := [some (.ref (aM 0)), some (.int x1), some (.int x2), none, none, none, none, some (.int (((cost ((x1 + x2).toNatClampNeg)) + (now 2)) + t0_2)), some (.int ((fewestFrom ((x1 + x2).toNatClampNeg)) + 1))]) F dX10_triesFirst_98 (Nat.le_of_ble_eq_true rfl) rfl rfl ?_
          refine g_iload F dX10_triesFirst_100 rfl ?_
          refine g_aload_n F dX10_triesFirst_102 rfl ?_
          refine g_get (C := RX10) (T := TX10) (N := 27) F 0 0 17 rfl rfl rfl iX10_triesFirst_X10 (by decide) (by decide +kernel) rfl dX10_triesFirst_103 ?_
          refine g_iload_n F dX10_triesFirst_106 rfl ?_
          obtain ⟨hb_4, hf⟩ := gb_in hf
          refine g_iald F 3 0 (x1.toNatClampNeg) rfl rfl rfl hb_4 dX10_triesFirst_107 ?_
          obtain ⟨j_4, hj_4, hf⟩ := Lt_el hf
          have hj_4 : j_4 = some (cost', fewestFrom', first') → Gj p l e rmX10_triesFirst s m ([.ref (aM 0), .int x1, .int x2, .int x3, .int x4] : List Value).toArray below meth c 0 0 (MQ below (gQ vwCl E A (fun v w => v = none ∧ w = [sModel E aM anow aaside anames anamesAside atext aspelled acost afewestFrom afirst afresh aways aundo aslots aisSaved M_thrown M_length M_textSize M_start M_next M_token M_value M_error M_errorAt M_number M_many M_freshMany M_undos, sArrI E anow 365 now, sArrI E aspelled 12 spelled, sArrI E acost 13 cost', sArrI E afewestFrom 13 fewestFrom', sArrI E afirst 13 first'])) ([.ref (aM 0), .int x1, .int x2, .int x3, .int x4] : List Value).toArray s 0 0 A) vwCl E A [sModel E aM anow aaside anames anamesAside atext aspelled acost afewestFrom afirst afresh aways aundo aslots aisSaved M_thrown M_length M_textSize M_start M_next M_token M_value M_error M_errorAt M_number M_many M_freshMany M_undos, sArrI E anow 365 now, sArrI E aspelled 12 spelled, sArrI E acost 13 cost, sArrI E afewestFrom 13 fewestFrom, sArrI E afirst 13 first] [some (.ref (aM 0)), some (.int x1), some (.int x2), none, none, none, none, some (.int (((cost ((x1 + x2).toNatClampNeg)) + (now 2)) + t0_2)), some (.int ((fewestFrom ((x1 + x2).toNatClampNeg)) + 1))] [] 133 := by
            intro hf
            rw [hj_4] at hf
            refine g_aload_n F dX10_triesFirst_133 rfl ?_
            refine g_get (C := RX10) (T := TX10) (N := 27) F 0 0 17 rfl rfl rfl iX10_triesFirst_X10 (by decide) (by decide +kernel) rfl dX10_triesFirst_134 ?_
            refine g_iload_n F dX10_triesFirst_137 rfl ?_
            refine g_iload F dX10_triesFirst_138 rfl ?_
            obtain ⟨hb_5, hf⟩ := gb_in hf
            obtain ⟨cost_1, hcost_1, hf⟩ := Lt_el hf
            refine g_iast (Lw' := [sModel E aM anow aaside anames anamesAside atext aspelled acost afewestFrom afirst afresh aways aundo aslots aisSaved M_thrown M_length M_textSize M_start M_next M_token M_value M_error M_errorAt M_number M_many M_freshMany M_undos, sArrI E anow 365 now, sArrI E aspelled 12 spelled, sArrI E acost 13 cost_1, sArrI E afewestFrom 13 fewestFrom, sArrI E afirst 13 first]) F 3 0 (x1.toNatClampNeg) rfl rfl rfl hb_5 dX10_triesFirst_140 (by subst hcost_1; rfl) ?_
            refine g_aload_n F dX10_triesFirst_141 rfl ?_
            refine g_get (C := RX10) (T := TX10) (N := 27) F 0 0 18 rfl rfl rfl iX10_triesFirst_X10 (by decide) (by decide +kernel) rfl dX10_triesFirst_142 ?_
            refine g_iload_n F dX10_triesFirst_145 rfl ?_
            refine g_iload F dX10_triesFirst_146 rfl ?_
            obtain ⟨hb_6, hf⟩ := gb_in hf
            obtain ⟨fewestFrom_1, hfewestFrom_1, hf⟩ := Lt_el hf
            refine g_iast (Lw' := [sModel E aM anow aaside anames anamesAside atext aspelled acost afewestFrom afirst afresh aways aundo aslots aisSaved M_thrown M_length M_textSize M_start M_next M_token M_value M_error M_errorAt M_number M_many M_freshMany M_undos, sArrI E anow 365 now, sArrI E aspelled 12 spelled, sArrI E acost 13 cost_1, sArrI E afewestFrom 13 fewestFrom_1, sArrI E afirst 13 first]) F 4 0 (x1.toNatClampNeg) rfl rfl rfl hb_6 dX10_triesFirst_148 (by subst hfewestFrom_1; rfl) ?_
            refine g_aload_n F dX10_triesFirst_149 rfl ?_
            refine g_get (C := RX10) (T := TX10) (N := 27) F 0 0 19 rfl rfl rfl iX10_triesFirst_X10 (by decide) (by decide +kernel) rfl dX10_triesFirst_150 ?_
            refine g_iload_n F dX10_triesFirst_153 rfl ?_
            refine g_iload_n F dX10_triesFirst_154 rfl ?_
            obtain ⟨hb_7, hf⟩ := gb_in hf
            obtain ⟨first_1, hfirst_1, hf⟩ := Lt_el hf
            refine g_iast (Lw' := [sModel E aM anow aaside anames anamesAside atext aspelled acost afewestFrom afirst afresh aways aundo aslots aisSaved M_thrown M_length M_textSize M_start M_next M_token M_value M_error M_errorAt M_number M_many M_freshMany M_undos, sArrI E anow 365 now, sArrI E aspelled 12 spelled, sArrI E acost 13 cost_1, sArrI E afewestFrom 13 fewestFrom_1, sArrI E afirst 13 first_1]) F 5 0 (x1.toNatClampNeg) rfl rfl rfl hb_7 dX10_triesFirst_155 (by subst hfirst_1; rfl) ?_
            cases hf
            exact g_vret F rfl ⟨rfl, rfl⟩ dX10_triesFirst_156
          refine g_icmp_lt F 133 dX10_triesFirst_108 (by decide) (fun hc_3 => ?_) (fun hc_3 => ?_)
          · replace hf := gi_t hc_3 hf
            exact hj_4 hf
          · replace hf := gi_f hc_3 hf
            refine g_iload F dX10_triesFirst_111 rfl ?_
            refine g_aload_n F dX10_triesFirst_113 rfl ?_
            refine g_get (C := RX10) (T := TX10) (N := 27) F 0 0 17 rfl rfl rfl iX10_triesFirst_X10 (by decide) (by decide +kernel) rfl dX10_triesFirst_114 ?_
            refine g_iload_n F dX10_triesFirst_117 rfl ?_
            obtain ⟨hb_8, hf⟩ := gb_in hf
            refine g_iald F 3 0 (x1.toNatClampNeg) rfl rfl rfl hb_8 dX10_triesFirst_118 ?_
            refine g_icmp_ne F 156 dX10_triesFirst_119 (by decide) (fun hc_2 => ?_) (fun hc_2 => ?_)
            · replace hf := gi_f hc_2 hf
              cases hf
              exact g_vret F rfl ⟨rfl, rfl⟩ dX10_triesFirst_156
            · replace hf := gi_t hc_2 hf
              refine g_iload F dX10_triesFirst_122 rfl ?_
              refine g_aload_n F dX10_triesFirst_124 rfl ?_
              refine g_get (C := RX10) (T := TX10) (N := 27) F 0 0 18 rfl rfl rfl iX10_triesFirst_X10 (by decide) (by decide +kernel) rfl dX10_triesFirst_125 ?_
              refine g_iload_n F dX10_triesFirst_128 rfl ?_
              obtain ⟨hb_9, hf⟩ := gb_in hf
              refine g_iald F 4 0 (x1.toNatClampNeg) rfl rfl rfl hb_9 dX10_triesFirst_129 ?_
              refine g_icmp_ge F 156 dX10_triesFirst_130 (by decide) (fun hc_1 => ?_) (fun hc_1 => ?_)
              · replace hf := gi_t hc_1 hf
                cases hf
                exact g_vret F rfl ⟨rfl, rfl⟩ dX10_triesFirst_156
              · replace hf := gi_f hc_1 hf
                exact hj_4 hf
        refine g_ifeq F 79 dX10_triesFirst_72 (by decide) (fun hc_4 => ?_) (fun hc_4 => ?_)
        · replace hf := gi_t hc_4 hf
          refine g_aload_n F dX10_triesFirst_79 rfl ?_
          refine g_iload F dX10_triesFirst_80 rfl ?_
          obtain ⟨r_2, hg_2, hf⟩ := gb1_el hf
          refine g_callV (C := RX10) (T := TX10) (N := 27) (Lr := [sArrI E aspelled 12 spelled, sArrI E acost 13 cost, sArrI E afewestFrom 13 fewestFrom, sArrI E afirst 13 first]) (As := [.int r_1]) (rest := [.int ((cost ((x1 + x2).toNatClampNeg)) + (now 2))]) F 0 0 1 (ctX10_priceOf l E aM anow aaside anames anamesAside atext aspelled acost afewestFrom afirst afresh aways aundo aslots aisSaved r_1 M_thrown M_length M_textSize M_start M_next M_token M_value M_error M_errorAt M_number M_many M_freshMany M_undos now r_2 hg_2) gX10_triesFirst_X10_priceOf rfl rfl rfl h0X10_priceOf ⟨Nat.le_of_ble_eq_true rfl, Nat.le_of_ble_eq_true rfl⟩ rfl rfl rfl [0, 1] [2, 3, 4, 5] rfl rfl rfl rfl rfl rfl (Nat.le_of_ble_eq_true rfl) dX10_triesFirst_82 ⟨Nat.le_of_ble_eq_true rfl, Nat.le_of_ble_eq_true rfl⟩ ?_
          rintro v w ⟨rfl, rfl⟩
          refine g_norm (Lw' := [sModel E aM anow aaside anames anamesAside atext aspelled acost afewestFrom afirst afresh aways aundo aslots aisSaved M_thrown M_length M_textSize M_start M_next M_token M_value M_error M_errorAt M_number M_many M_freshMany M_undos, sArrI E anow 365 now, sArrI E aspelled 12 spelled, sArrI E acost 13 cost, sArrI E afewestFrom 13 fewestFrom, sArrI E afirst 13 first]) (st' := [.int r_2, .int ((cost ((x1 + x2).toNatClampNeg)) + (now 2))]) (pc' := 85) [0, 1, 2, 3, 4, 5] rfl rfl rfl rfl ?_
          refine g_mask [true, true, true, true, true, false, false, true, true] rfl ?_
          exact hj_3 r_2 hf
        · replace hf := gi_f hc_4 hf
          refine g_iconst F 0 dX10_triesFirst_75 rfl ?_
          refine g_goto F 85 dX10_triesFirst_76 (by decide) ?_
          refine g_mask [true, true, true, true, true, false, false, true, true] rfl ?_
          exact hj_3 0 hf
      · replace hf := gi_f hc_5 hf
        cases hf
        exact g_vret F rfl ⟨rfl, rfl⟩ dX10_triesFirst_54
    refine g_ifne F 41 dX10_triesFirst_34 (by decide) (fun hc_7 => ?_) (fun hc_7 => ?_)
    · replace hf := gi_f hc_7 hf
      refine g_mask [true, true, true, false, true, true, true, true, true] rfl ?_
      exact hj_2 hf
    · replace hf := gi_t hc_7 hf
      refine g_iload_n F dX10_triesFirst_37 rfl ?_
      refine g_ifeq F 54 dX10_triesFirst_38 (by decide) (fun hc_6 => ?_) (fun hc_6 => ?_)
      · replace hf := gi_t hc_6 hf
        cases hf
        exact g_vret F rfl ⟨rfl, rfl⟩ dX10_triesFirst_54
      · replace hf := gi_f hc_6 hf
        refine g_mask [true, true, true, false, true, true, true, true, true] rfl ?_
        exact hj_2 hf
  obtain ⟨j_5, hj_5, hf⟩ := Lt_el hf
  have hj_5 : j_5 = some (cost', fewestFrom', first') → Gj p l e rmX10_triesFirst s m ([.ref (aM 0), .int x1, .int x2, .int x3, .int x4] : List Value).toArray below meth c 0 0 (MQ below (gQ vwCl E A (fun v w => v = none ∧ w = [sModel E aM anow aaside anames anamesAside atext aspelled acost afewestFrom afirst afresh aways aundo aslots aisSaved M_thrown M_length M_textSize M_start M_next M_token M_value M_error M_errorAt M_number M_many M_freshMany M_undos, sArrI E anow 365 now, sArrI E aspelled 12 spelled, sArrI E acost 13 cost', sArrI E afewestFrom 13 fewestFrom', sArrI E afirst 13 first'])) ([.ref (aM 0), .int x1, .int x2, .int x3, .int x4] : List Value).toArray s 0 0 A) vwCl E A [sModel E aM anow aaside anames anamesAside atext aspelled acost afewestFrom afirst afresh aways aundo aslots aisSaved M_thrown M_length M_textSize M_start M_next M_token M_value M_error M_errorAt M_number M_many M_freshMany M_undos, sArrI E anow 365 now, sArrI E aspelled 12 spelled, sArrI E acost 13 cost, sArrI E afewestFrom 13 fewestFrom, sArrI E afirst 13 first] [some (.ref (aM 0)), some (.int x1), some (.int x2), some (.int x3), none, some (.int r_1), none, none, none] [] 25 := by
    intro hf
    rw [hj_5] at hf
    refine g_iconst F 1 dX10_triesFirst_25 rfl ?_
    refine g_goto F 30 dX10_triesFirst_26 (by decide) ?_
    exact hj_1 1 hf
  refine g_icmp_eq F 25 dX10_triesFirst_12 (by decide) (fun hc_9 => ?_) (fun hc_9 => ?_)
  · replace hf := gi_t hc_9 hf
    refine g_mask [true, true, true, true, false, true, true, true, true] rfl ?_
    exact hj_5 hf
  · replace hf := gi_f hc_9 hf
    refine g_aload_n F dX10_triesFirst_15 rfl ?_
    refine g_iload F dX10_triesFirst_16 rfl ?_
    obtain ⟨r_3, hg_3, hf⟩ := gb1_el hf
    refine g_callV (C := RX10) (T := TX10) (N := 27) (Lr := [sArrI E aspelled 12 spelled, sArrI E acost 13 cost, sArrI E afewestFrom 13 fewestFrom, sArrI E afirst 13 first]) (As := [.int r_1]) (rest := []) F 0 0 1 (ctX10_pieceOf l E aM anow aaside anames anamesAside atext aspelled acost afewestFrom afirst afresh aways aundo aslots aisSaved r_1 M_thrown M_length M_textSize M_start M_next M_token M_value M_error M_errorAt M_number M_many M_freshMany M_undos now r_3 hg_3) gX10_triesFirst_X10_pieceOf rfl rfl rfl h0X10_pieceOf ⟨Nat.le_of_ble_eq_true rfl, Nat.le_of_ble_eq_true rfl⟩ rfl rfl rfl [0, 1] [2, 3, 4, 5] rfl rfl rfl rfl rfl rfl (Nat.le_of_ble_eq_true rfl) dX10_triesFirst_18 ⟨Nat.le_of_ble_eq_true rfl, Nat.le_of_ble_eq_true rfl⟩ ?_
    rintro v w ⟨rfl, rfl⟩
    refine g_norm (Lw' := [sModel E aM anow aaside anames anamesAside atext aspelled acost afewestFrom afirst afresh aways aundo aslots aisSaved M_thrown M_length M_textSize M_start M_next M_token M_value M_error M_errorAt M_number M_many M_freshMany M_undos, sArrI E anow 365 now, sArrI E aspelled 12 spelled, sArrI E acost 13 cost, sArrI E afewestFrom 13 fewestFrom, sArrI E afirst 13 first]) (st' := [.int r_3]) (pc' := 21) [0, 1, 2, 3, 4, 5] rfl rfl rfl rfl ?_
    refine g_iconst F (-1) dX10_triesFirst_21 rfl ?_
    refine g_icmp_eq F 29 dX10_triesFirst_22 (by decide) (fun hc_8 => ?_) (fun hc_8 => ?_)
    · replace hf := gi_t hc_8 hf
      refine g_iconst F 0 dX10_triesFirst_29 rfl ?_
      refine g_mask [true, true, true, true, false, true, true, true, true] rfl ?_
      exact hj_1 0 hf
    · replace hf := gi_f hc_8 hf
      refine g_mask [true, true, true, true, false, true, true, true, true] rfl ?_
      exact hj_5 hf
