abbrev rmX5_kindOf : Room := { frames := 0, cells := 0, slots := 0, locals := 0 }
theorem h0X5_kindOf : yX5_kindOf.cls ≠ "java/lang/invoke/MethodHandle" ∧ yX5_kindOf.cls ≠ "java/lang/invoke/VarHandle" ∧ (parseMethodDescriptor yX5_kindOf.desc).map (fun d => d.parameters.length) = some 1 := by decide +kernel
abbrev rmX5_valueOf : Room := { frames := 0, cells := 0, slots := 0, locals := 0 }
theorem iX5_valueOf_X5 : ∀ w ∈ u_ws RX5 TX5 11, w ∈ wsX5_valueOf := by decide +kernel
theorem h0X5_valueOf : yX5_valueOf.cls = RX5 ∧ yX5_valueOf.cls ≠ "java/lang/invoke/MethodHandle" ∧ yX5_valueOf.cls ≠ "java/lang/invoke/VarHandle" ∧ (parseMethodDescriptor yX5_valueOf.desc).map (fun d => d.parameters.length) = some 2 := by decide +kernel
abbrev rmX5_readToken : Room := { frames := 1, cells := 0, slots := 0, locals := 25 }
theorem iX5_readToken_X5 : ∀ w ∈ u_ws RX5 TX5 11, w ∈ wsX5_readToken := by decide +kernel
theorem h0X5_readToken : yX5_readToken.cls = RX5 ∧ yX5_readToken.cls ≠ "java/lang/invoke/MethodHandle" ∧ yX5_readToken.cls ≠ "java/lang/invoke/VarHandle" ∧ (parseMethodDescriptor yX5_readToken.desc).map (fun d => d.parameters.length) = some 0 := by decide +kernel
abbrev rmX5_fail : Room := { frames := 0, cells := 0, slots := 0, locals := 0 }
theorem iX5_fail_X5 : ∀ w ∈ u_ws RX5 TX5 11, w ∈ wsX5_fail := by decide +kernel
theorem h0X5_fail : yX5_fail.cls = RX5 ∧ yX5_fail.cls ≠ "java/lang/invoke/MethodHandle" ∧ yX5_fail.cls ≠ "java/lang/invoke/VarHandle" ∧ (parseMethodDescriptor yX5_fail.desc).map (fun d => d.parameters.length) = some 1 := by decide +kernel
abbrev rmX5_readNumber : Room := { frames := 2, cells := 0, slots := 0, locals := 46 }
theorem iX5_readNumber_X5 : ∀ w ∈ u_ws RX5 TX5 11, w ∈ wsX5_readNumber := by decide +kernel
theorem h0X5_readNumber : yX5_readNumber.cls = RX5 ∧ yX5_readNumber.cls ≠ "java/lang/invoke/MethodHandle" ∧ yX5_readNumber.cls ≠ "java/lang/invoke/VarHandle" ∧ (parseMethodDescriptor yX5_readNumber.desc).map (fun d => d.parameters.length) = some 2 := by decide +kernel
abbrev rmX5_readSemicolon : Room := { frames := 2, cells := 0, slots := 0, locals := 46 }
theorem iX5_readSemicolon_X5 : ∀ w ∈ u_ws RX5 TX5 11, w ∈ wsX5_readSemicolon := by decide +kernel
theorem h0X5_readSemicolon : yX5_readSemicolon.cls = RX5 ∧ yX5_readSemicolon.cls ≠ "java/lang/invoke/MethodHandle" ∧ yX5_readSemicolon.cls ≠ "java/lang/invoke/VarHandle" ∧ (parseMethodDescriptor yX5_readSemicolon.desc).map (fun d => d.parameters.length) = some 0 := by decide +kernel
abbrev rmX5_readHeader : Room := { frames := 5, cells := 0, slots := 0, locals := 108 }
theorem iX5_readHeader_X1 : ∀ w ∈ u_ws RX1 TX1 8, w ∈ wsX5_readHeader := by decide +kernel
theorem iX5_readHeader_X5 : ∀ w ∈ u_ws RX5 TX5 11, w ∈ wsX5_readHeader := by decide +kernel
theorem h0X5_readHeader : yX5_readHeader.cls = RX5 ∧ yX5_readHeader.cls ≠ "java/lang/invoke/MethodHandle" ∧ yX5_readHeader.cls ≠ "java/lang/invoke/VarHandle" ∧ (parseMethodDescriptor yX5_readHeader.desc).map (fun d => d.parameters.length) = some 0 := by decide +kernel
abbrev rmX5_readLetters : Room := { frames := 2, cells := 0, slots := 0, locals := 46 }
theorem iX5_readLetters_X5 : ∀ w ∈ u_ws RX5 TX5 11, w ∈ wsX5_readLetters := by decide +kernel
theorem h0X5_readLetters : yX5_readLetters.cls = RX5 ∧ yX5_readLetters.cls ≠ "java/lang/invoke/MethodHandle" ∧ yX5_readLetters.cls ≠ "java/lang/invoke/VarHandle" ∧ (parseMethodDescriptor yX5_readLetters.desc).map (fun d => d.parameters.length) = some 0 := by decide +kernel
abbrev rmX5_readUser : Room := { frames := 3, cells := 0, slots := 0, locals := 68 }
theorem iX5_readUser_X1 : ∀ w ∈ u_ws RX1 TX1 8, w ∈ wsX5_readUser := by decide +kernel
theorem iX5_readUser_X5 : ∀ w ∈ u_ws RX5 TX5 11, w ∈ wsX5_readUser := by decide +kernel
theorem h0X5_readUser : yX5_readUser.cls = RX5 ∧ yX5_readUser.cls ≠ "java/lang/invoke/MethodHandle" ∧ yX5_readUser.cls ≠ "java/lang/invoke/VarHandle" ∧ (parseMethodDescriptor yX5_readUser.desc).map (fun d => d.parameters.length) = some 0 := by decide +kernel
abbrev rmX5_readPiece : Room := { frames := 3, cells := 0, slots := 0, locals := 66 }
theorem iX5_readPiece_X1 : ∀ w ∈ u_ws RX1 TX1 8, w ∈ wsX5_readPiece := by decide +kernel
theorem iX5_readPiece_X5 : ∀ w ∈ u_ws RX5 TX5 11, w ∈ wsX5_readPiece := by decide +kernel
theorem h0X5_readPiece : yX5_readPiece.cls = RX5 ∧ yX5_readPiece.cls ≠ "java/lang/invoke/MethodHandle" ∧ yX5_readPiece.cls ≠ "java/lang/invoke/VarHandle" ∧ (parseMethodDescriptor yX5_readPiece.desc).map (fun d => d.parameters.length) = some 0 := by decide +kernel
abbrev rmX5_readStoredWord : Room := { frames := 4, cells := 0, slots := 0, locals := 100 }
theorem iX5_readStoredWord_X1 : ∀ w ∈ u_ws RX1 TX1 8, w ∈ wsX5_readStoredWord := by decide +kernel
theorem iX5_readStoredWord_X5 : ∀ w ∈ u_ws RX5 TX5 11, w ∈ wsX5_readStoredWord := by decide +kernel
theorem h0X5_readStoredWord : yX5_readStoredWord.cls = RX5 ∧ yX5_readStoredWord.cls ≠ "java/lang/invoke/MethodHandle" ∧ yX5_readStoredWord.cls ≠ "java/lang/invoke/VarHandle" ∧ (parseMethodDescriptor yX5_readStoredWord.desc).map (fun d => d.parameters.length) = some 0 := by decide +kernel
abbrev rmX5_readStatement : Room := { frames := 5, cells := 0, slots := 0, locals := 121 }
theorem iX5_readStatement_X5 : ∀ w ∈ u_ws RX5 TX5 11, w ∈ wsX5_readStatement := by decide +kernel
theorem h0X5_readStatement : yX5_readStatement.cls = RX5 ∧ yX5_readStatement.cls ≠ "java/lang/invoke/MethodHandle" ∧ yX5_readStatement.cls ≠ "java/lang/invoke/VarHandle" ∧ (parseMethodDescriptor yX5_readStatement.desc).map (fun d => d.parameters.length) = some 0 := by decide +kernel
abbrev rmX5_readText : Room := { frames := 6, cells := 0, slots := 0, locals := 141 }
theorem iX5_readText_X5 : ∀ w ∈ u_ws RX5 TX5 11, w ∈ wsX5_readText := by decide +kernel
theorem h0X5_readText : yX5_readText.cls = RX5 ∧ yX5_readText.cls ≠ "java/lang/invoke/MethodHandle" ∧ yX5_readText.cls ≠ "java/lang/invoke/VarHandle" ∧ (parseMethodDescriptor yX5_readText.desc).map (fun d => d.parameters.length) = some 2 := by decide +kernel
def fX5_kindOf (x0 : Int32) : Option (Int32) := if x0 = 32 then (some 1) else (if x0 = 10 then (some 1) else (Lt ((Lt ((if x0 = 59 then (some 5) else (some 2)) : Option (Int32)) fun (j_2 : Option (Int32)) => if x0 < 48 then (j_2) else (if 57 < x0 then (j_2) else (some 4))) : Option (Int32)) fun (j_1 : Option (Int32)) => if x0 < 97 then (j_1) else (if 122 < x0 then (j_1) else (some 3))))
def fX5_valueOf_L5 (x2 : Int32) (text : (Nat → Int32)) (k : Int32 → Option (Int32)) : Nat → Int32 → Int32 → Option (Int32)
  | 0, _, _ => none
  | n + 1, x3, x4 => if x2 ≤ x4 then (k x3) else (if x4 < 0 ∨ 600 ≤ x4.toNatClampNeg then none else fX5_valueOf_L5 x2 text k n (((x3 * 10) + (text (x4.toNatClampNeg))) - 48) (x4 + 1))
def fX5_valueOf (x1 : Int32) (x2 : Int32) (text : (Nat → Int32)) : Option (Int32) := fX5_valueOf_L5 x2 text (fun (x3_1 : Int32) => (some x3_1)) FU 0 x1
def fX5_readToken_L0 (Pr_length : Int32) (text : (Nat → Int32)) (k : Int32 → Option (Int32 × Int32 × Int32 × Int64 × Int32)) : Nat → Int32 → Option (Int32 × Int32 × Int32 × Int64 × Int32)
  | 0, _ => none
  | n + 1, Pr_next => if Pr_length ≤ Pr_next then (k Pr_next) else (if Pr_next < 0 ∨ 600 ≤ Pr_next.toNatClampNeg then none else gb1 (fX5_kindOf (text (Pr_next.toNatClampNeg))) fun (r_1 : Int32) => if r_1 = 1 then (fX5_readToken_L0 Pr_length text k n (Pr_next + 1)) else (k Pr_next))
def fX5_readToken_L113 (x1 : Int32) (Pr_length : Int32) (Pr_kind : Int32) (text : (Nat → Int32)) (k : Int32 → Option (Int32 × Int32 × Int32 × Int64 × Int32)) : Nat → Int32 → Option (Int32 × Int32 × Int32 × Int64 × Int32)
  | 0, _ => none
  | n + 1, Pr_next => if x1 = 0 then (k Pr_next) else (if Pr_length ≤ Pr_next then (k Pr_next) else (if Pr_next < 0 ∨ 600 ≤ Pr_next.toNatClampNeg then none else gb1 (fX5_kindOf (text (Pr_next.toNatClampNeg))) fun (r_1 : Int32) => if r_1 = Pr_kind then (fX5_readToken_L113 x1 Pr_length Pr_kind text k n (Pr_next + 1)) else (k Pr_next)))
def fX5_readToken (Pr_length : Int32) (Pr_next : Int32) (Pr_kind : Int32) (Pr_tokenAt : Int32) (Pr_letters : Int64) (Pr_number : Int32) (text : (Nat → Int32)) : Option (Int32 × Int32 × Int32 × Int64 × Int32) := fX5_readToken_L0 Pr_length text (fun (Pr_next_1 : Int32) => (if Pr_next_1 < Pr_length then (if Pr_next_1 < 0 ∨ 600 ≤ Pr_next_1.toNatClampNeg then none else gb1 (fX5_kindOf (text (Pr_next_1.toNatClampNeg))) fun (r_1 : Int32) => Lt (fun (t0_1 : Int32) => (fX5_readToken_L113 t0_1 Pr_length r_1 text (fun (Pr_next_2 : Int32) => (Lt (fun (Pr_kind_1 : Int32) => (if Pr_kind_1 = 3 then (gb1 (fX4_read 600 Pr_next_1 Pr_next_2 text) fun (r_2 : Int64) => some (Pr_next_2, Pr_kind_1, Pr_next_1, r_2, Pr_number)) else (if Pr_kind_1 = 4 then (gb1 (fX5_valueOf Pr_next_1 Pr_next_2 text) fun (r_3 : Int32) => some (Pr_next_2, Pr_kind_1, Pr_next_1, Pr_letters, r_3)) else (some (Pr_next_2, Pr_kind_1, Pr_next_1, Pr_letters, Pr_number))))) fun (j_2 : Int32 → Option (Int32 × Int32 × Int32 × Int64 × Int32)) => if t0_1 = 0 then (j_2 r_1) else (Lt (fun (t0_2 : Int32) => (if (Pr_next_2 - Pr_next_1) ≤ t0_2 then (j_2 r_1) else (j_2 2))) fun (j_3 : Int32 → Option (Int32 × Int32 × Int32 × Int64 × Int32)) => if r_1 = 3 then (j_3 12) else (j_3 4)))) FU (Pr_next_1 + 1))) fun (j_1 : Int32 → Option (Int32 × Int32 × Int32 × Int64 × Int32)) => Lt ((j_1 1) : Option (Int32 × Int32 × Int32 × Int64 × Int32)) fun (j_4 : Option (Int32 × Int32 × Int32 × Int64 × Int32)) => if r_1 = 3 then (j_4) else (if r_1 = 4 then (j_4) else (j_1 0))) else (some (Pr_next_1, 0, Pr_next_1, Pr_letters, Pr_number)))) FU Pr_next
def fX5_fail (x1 : Int32) (Pr_errorAt : Int32) (Pr_errorCode : Int32) (Pr_tokenAt : Int32) : Option (Int32 × Int32 × Int32) := some (0, Pr_tokenAt, x1)
def fX5_readNumber (x1 : Int32) (x2 : Int32) (Pr_errorAt : Int32) (Pr_length : Int32) (Pr_next : Int32) (Pr_errorCode : Int32) (Pr_kind : Int32) (Pr_tokenAt : Int32) (Pr_letters : Int64) (Pr_number : Int32) (text : (Nat → Int32)) : Option (Int32 × Int32 × Int32 × Int32 × Int32 × Int32 × Int64 × Int32) := gb5 (fX5_readToken Pr_length Pr_next Pr_kind Pr_tokenAt Pr_letters Pr_number text) fun (Pr_next_1 : Int32) (Pr_kind_1 : Int32) (Pr_tokenAt_1 : Int32) (Pr_letters_1 : Int64) (Pr_number_1 : Int32) => if Pr_kind_1 = 4 then (Lt ((gb3 (fX5_fail 3 Pr_errorAt Pr_errorCode Pr_tokenAt_1) fun (r_1 : Int32) (Pr_errorAt_1 : Int32) (Pr_errorCode_1 : Int32) => if r_1 = 0 then (some (0, Pr_errorAt_1, Pr_next_1, Pr_errorCode_1, Pr_kind_1, Pr_tokenAt_1, Pr_letters_1, Pr_number_1)) else (some (1, Pr_errorAt_1, Pr_next_1, Pr_errorCode_1, Pr_kind_1, Pr_tokenAt_1, Pr_letters_1, Pr_number_1))) : Option (Int32 × Int32 × Int32 × Int32 × Int32 × Int32 × Int64 × Int32)) fun (j_1 : Option (Int32 × Int32 × Int32 × Int32 × Int32 × Int32 × Int64 × Int32)) => if Pr_number_1 < x1 then (j_1) else (if Pr_number_1 ≤ x2 then (some (1, Pr_errorAt, Pr_next_1, Pr_errorCode, Pr_kind_1, Pr_tokenAt_1, Pr_letters_1, Pr_number_1)) else (j_1))) else (gb3 (fX5_fail 1 Pr_errorAt Pr_errorCode Pr_tokenAt_1) fun (r_2 : Int32) (Pr_errorAt_2 : Int32) (Pr_errorCode_2 : Int32) => some (r_2, Pr_errorAt_2, Pr_next_1, Pr_errorCode_2, Pr_kind_1, Pr_tokenAt_1, Pr_letters_1, Pr_number_1))
def fX5_readSemicolon (Pr_errorAt : Int32) (Pr_length : Int32) (Pr_next : Int32) (Pr_errorCode : Int32) (Pr_kind : Int32) (Pr_tokenAt : Int32) (Pr_letters : Int64) (Pr_number : Int32) (text : (Nat → Int32)) : Option (Int32 × Int32 × Int32 × Int32 × Int32 × Int32 × Int64 × Int32) := gb5 (fX5_readToken Pr_length Pr_next Pr_kind Pr_tokenAt Pr_letters Pr_number text) fun (Pr_next_1 : Int32) (Pr_kind_1 : Int32) (Pr_tokenAt_1 : Int32) (Pr_letters_1 : Int64) (Pr_number_1 : Int32) => if Pr_kind_1 = 5 then (some (1, Pr_errorAt, Pr_next_1, Pr_errorCode, Pr_kind_1, Pr_tokenAt_1, Pr_letters_1, Pr_number_1)) else (gb3 (fX5_fail 1 Pr_errorAt Pr_errorCode Pr_tokenAt_1) fun (r_1 : Int32) (Pr_errorAt_1 : Int32) (Pr_errorCode_1 : Int32) => if r_1 = 0 then (some (0, Pr_errorAt_1, Pr_next_1, Pr_errorCode_1, Pr_kind_1, Pr_tokenAt_1, Pr_letters_1, Pr_number_1)) else (some (1, Pr_errorAt_1, Pr_next_1, Pr_errorCode_1, Pr_kind_1, Pr_tokenAt_1, Pr_letters_1, Pr_number_1)))
def fX5_readHeader_L32 (Pr_length : Int32) (text : (Nat → Int32)) (k : Int32 → Int32 → Int32 → Int32 → Int32 → Int64 → Int32 → (Nat → Int32) → Option (Int32 × Int32 × Int32 × Int32 × Int32 × Int32 × Int64 × Int32 × (Nat → Int32))) : Nat → Int32 → Int32 → Int32 → Int32 → Int32 → Int32 → Int64 → Int32 → (Nat → Int32) → Option (Int32 × Int32 × Int32 × Int32 × Int32 × Int32 × Int64 × Int32 × (Nat → Int32))
  | 0, _, _, _, _, _, _, _, _, _ => none
  | n + 1, x1, Pr_errorAt, Pr_next, Pr_errorCode, Pr_kind, Pr_tokenAt, Pr_letters, Pr_number, settings => if 5 ≤ x1 then (k Pr_errorAt Pr_next Pr_errorCode Pr_kind Pr_tokenAt Pr_letters Pr_number settings) else (if x1 < 0 ∨ 5 ≤ x1.toNatClampNeg then none else if x1 < 0 ∨ 5 ≤ x1.toNatClampNeg then none else gb8 (fX5_readNumber (gLS x1.toNatClampNeg) (gMS x1.toNatClampNeg) Pr_errorAt Pr_length Pr_next Pr_errorCode Pr_kind Pr_tokenAt Pr_letters Pr_number text) fun (r_1 : Int32) (Pr_errorAt_1 : Int32) (Pr_next_1 : Int32) (Pr_errorCode_1 : Int32) (Pr_kind_1 : Int32) (Pr_tokenAt_1 : Int32) (Pr_letters_1 : Int64) (Pr_number_1 : Int32) => if r_1 = 0 then (some (0, Pr_errorAt_1, Pr_next_1, Pr_errorCode_1, Pr_kind_1, Pr_tokenAt_1, Pr_letters_1, Pr_number_1, settings)) else (if x1 < 0 ∨ 5 ≤ x1.toNatClampNeg then none else Lt (upd settings (x1.toNatClampNeg) Pr_number_1) fun (settings_1 : (Nat → Int32)) => fX5_readHeader_L32 Pr_length text k n (x1 + 1) Pr_errorAt_1 Pr_next_1 Pr_errorCode_1 Pr_kind_1 Pr_tokenAt_1 Pr_letters_1 Pr_number_1 settings_1))
def fX5_readHeader (Pr_errorAt : Int32) (Pr_length : Int32) (Pr_next : Int32) (Pr_errorCode : Int32) (Pr_kind : Int32) (Pr_tokenAt : Int32) (Pr_letters : Int64) (Pr_number : Int32) (settings : (Nat → Int32)) (text : (Nat → Int32)) : Option (Int32 × Int32 × Int32 × Int32 × Int32 × Int32 × Int64 × Int32 × (Nat → Int32)) := gb5 (fX5_readToken Pr_length Pr_next Pr_kind Pr_tokenAt Pr_letters Pr_number text) fun (Pr_next_1 : Int32) (Pr_kind_1 : Int32) (Pr_tokenAt_1 : Int32) (Pr_letters_1 : Int64) (Pr_number_1 : Int32) => Lt ((gb3 (fX5_fail 1 Pr_errorAt Pr_errorCode Pr_tokenAt_1) fun (r_1 : Int32) (Pr_errorAt_1 : Int32) (Pr_errorCode_1 : Int32) => some (r_1, Pr_errorAt_1, Pr_next_1, Pr_errorCode_1, Pr_kind_1, Pr_tokenAt_1, Pr_letters_1, Pr_number_1, settings)) : Option (Int32 × Int32 × Int32 × Int32 × Int32 × Int32 × Int64 × Int32 × (Nat → Int32))) fun (j_1 : Option (Int32 × Int32 × Int32 × Int32 × Int32 × Int32 × Int64 × Int32 × (Nat → Int32))) => if Pr_kind_1 = 3 then (gb1 (fX4_spell 0 Pr_letters_1) fun (r_2 : Int32) => if r_2 = 0 then (j_1) else (fX5_readHeader_L32 Pr_length text (fun (Pr_errorAt_2 : Int32) (Pr_next_2 : Int32) (Pr_errorCode_2 : Int32) (Pr_kind_2 : Int32) (Pr_tokenAt_2 : Int32) (Pr_letters_2 : Int64) (Pr_number_2 : Int32) (settings_1 : (Nat → Int32)) => (gb8 (fX5_readSemicolon Pr_errorAt_2 Pr_length Pr_next_2 Pr_errorCode_2 Pr_kind_2 Pr_tokenAt_2 Pr_letters_2 Pr_number_2 text) fun (r_3 : Int32) (Pr_errorAt_3 : Int32) (Pr_next_3 : Int32) (Pr_errorCode_3 : Int32) (Pr_kind_3 : Int32) (Pr_tokenAt_3 : Int32) (Pr_letters_3 : Int64) (Pr_number_3 : Int32) => some (r_3, Pr_errorAt_3, Pr_next_3, Pr_errorCode_3, Pr_kind_3, Pr_tokenAt_3, Pr_letters_3, Pr_number_3, settings_1))) FU 0 Pr_errorAt Pr_next_1 Pr_errorCode Pr_kind_1 Pr_tokenAt_1 Pr_letters_1 Pr_number_1 settings)) else (j_1)
def fX5_readLetters (Pr_errorAt : Int32) (Pr_length : Int32) (Pr_next : Int32) (Pr_errorCode : Int32) (Pr_kind : Int32) (Pr_tokenAt : Int32) (Pr_letters : Int64) (Pr_number : Int32) (text : (Nat → Int32)) : Option (Int32 × Int32 × Int32 × Int32 × Int32 × Int32 × Int64 × Int32) := gb5 (fX5_readToken Pr_length Pr_next Pr_kind Pr_tokenAt Pr_letters Pr_number text) fun (Pr_next_1 : Int32) (Pr_kind_1 : Int32) (Pr_tokenAt_1 : Int32) (Pr_letters_1 : Int64) (Pr_number_1 : Int32) => if Pr_kind_1 = 3 then (some (1, Pr_errorAt, Pr_next_1, Pr_errorCode, Pr_kind_1, Pr_tokenAt_1, Pr_letters_1, Pr_number_1)) else (gb3 (fX5_fail 1 Pr_errorAt Pr_errorCode Pr_tokenAt_1) fun (r_1 : Int32) (Pr_errorAt_1 : Int32) (Pr_errorCode_1 : Int32) => if r_1 = 0 then (some (0, Pr_errorAt_1, Pr_next_1, Pr_errorCode_1, Pr_kind_1, Pr_tokenAt_1, Pr_letters_1, Pr_number_1)) else (some (1, Pr_errorAt_1, Pr_next_1, Pr_errorCode_1, Pr_kind_1, Pr_tokenAt_1, Pr_letters_1, Pr_number_1)))
def fX5_readUser (Pr_errorAt : Int32) (Pr_length : Int32) (Pr_next : Int32) (Pr_errorCode : Int32) (Pr_kind : Int32) (Pr_tokenAt : Int32) (Pr_letters : Int64) (Pr_number : Int32) (U : tUsers) (text : (Nat → Int32)) : Option (Int32 × Int32 × Int32 × Int32 × Int32 × Int32 × Int64 × Int32 × tUsers) := gb1 (fX7_isFull U) fun (r_1 : Int32) => if r_1 = 0 then (gb8 (fX5_readLetters Pr_errorAt Pr_length Pr_next Pr_errorCode Pr_kind Pr_tokenAt Pr_letters Pr_number text) fun (r_2 : Int32) (Pr_errorAt_1 : Int32) (Pr_next_1 : Int32) (Pr_errorCode_1 : Int32) (Pr_kind_1 : Int32) (Pr_tokenAt_1 : Int32) (Pr_letters_1 : Int64) (Pr_number_1 : Int32) => if r_2 = 0 then (some (0, Pr_errorAt_1, Pr_next_1, Pr_errorCode_1, Pr_kind_1, Pr_tokenAt_1, Pr_letters_1, Pr_number_1, U)) else (gb1 (fX7_numberOf Pr_letters_1 U) fun (r_3 : Int32) => if r_3 = (-1) then (gb8 (fX5_readNumber 0 9999 Pr_errorAt_1 Pr_length Pr_next_1 Pr_errorCode_1 Pr_kind_1 Pr_tokenAt_1 Pr_letters_1 Pr_number_1 text) fun (r_4 : Int32) (Pr_errorAt_2 : Int32) (Pr_next_2 : Int32) (Pr_errorCode_2 : Int32) (Pr_kind_2 : Int32) (Pr_tokenAt_2 : Int32) (Pr_letters_2 : Int64) (Pr_number_2 : Int32) => if r_4 = 0 then (some (0, Pr_errorAt_2, Pr_next_2, Pr_errorCode_2, Pr_kind_2, Pr_tokenAt_2, Pr_letters_2, Pr_number_2, U)) else (gb1 (fX7_add Pr_letters_1 Pr_number_2 U) fun (U_1 : tUsers) => gb8 (fX5_readSemicolon Pr_errorAt_2 Pr_length Pr_next_2 Pr_errorCode_2 Pr_kind_2 Pr_tokenAt_2 Pr_letters_2 Pr_number_2 text) fun (r_5 : Int32) (Pr_errorAt_3 : Int32) (Pr_next_3 : Int32) (Pr_errorCode_3 : Int32) (Pr_kind_3 : Int32) (Pr_tokenAt_3 : Int32) (Pr_letters_3 : Int64) (Pr_number_3 : Int32) => some (r_5, Pr_errorAt_3, Pr_next_3, Pr_errorCode_3, Pr_kind_3, Pr_tokenAt_3, Pr_letters_3, Pr_number_3, U_1))) else (gb3 (fX5_fail 2 Pr_errorAt_1 Pr_errorCode_1 Pr_tokenAt_1) fun (r_6 : Int32) (Pr_errorAt_4 : Int32) (Pr_errorCode_4 : Int32) => some (r_6, Pr_errorAt_4, Pr_next_1, Pr_errorCode_4, Pr_kind_1, Pr_tokenAt_1, Pr_letters_1, Pr_number_1, U)))) else (gb3 (fX5_fail 5 Pr_errorAt Pr_errorCode Pr_tokenAt) fun (r_7 : Int32) (Pr_errorAt_5 : Int32) (Pr_errorCode_5 : Int32) => some (r_7, Pr_errorAt_5, Pr_next, Pr_errorCode_5, Pr_kind, Pr_tokenAt, Pr_letters, Pr_number, U))
def fX5_readPiece (Pr_errorAt : Int32) (Pr_length : Int32) (Pr_next : Int32) (Pr_errorCode : Int32) (Pr_kind : Int32) (Pr_tokenAt : Int32) (Pr_letters : Int64) (Pr_number : Int32) (P : tPieces) (text : (Nat → Int32)) : Option (Int32 × Int32 × Int32 × Int32 × Int32 × Int32 × Int64 × Int32 × tPieces) := gb1 (fX6_isFull P) fun (r_1 : Int32) => if r_1 = 0 then (gb8 (fX5_readLetters Pr_errorAt Pr_length Pr_next Pr_errorCode Pr_kind Pr_tokenAt Pr_letters Pr_number text) fun (r_2 : Int32) (Pr_errorAt_1 : Int32) (Pr_next_1 : Int32) (Pr_errorCode_1 : Int32) (Pr_kind_1 : Int32) (Pr_tokenAt_1 : Int32) (Pr_letters_1 : Int64) (Pr_number_1 : Int32) => if r_2 = 0 then (some (0, Pr_errorAt_1, Pr_next_1, Pr_errorCode_1, Pr_kind_1, Pr_tokenAt_1, Pr_letters_1, Pr_number_1, P)) else (gb1 (fX6_numberOf Pr_letters_1 P) fun (r_3 : Int32) => if r_3 = (-1) then (gb1 (fX4_lengthOf Pr_letters_1) fun (r_4 : Int32) => if r_4 ≤ 6 then (gb2 (fX6_add Pr_letters_1 0 (-1) 0 P) fun (r_5 : Int32) (P_1 : tPieces) => gb8 (fX5_readSemicolon Pr_errorAt_1 Pr_length Pr_next_1 Pr_errorCode_1 Pr_kind_1 Pr_tokenAt_1 Pr_letters_1 Pr_number_1 text) fun (r_6 : Int32) (Pr_errorAt_2 : Int32) (Pr_next_2 : Int32) (Pr_errorCode_2 : Int32) (Pr_kind_2 : Int32) (Pr_tokenAt_2 : Int32) (Pr_letters_2 : Int64) (Pr_number_2 : Int32) => some (r_6, Pr_errorAt_2, Pr_next_2, Pr_errorCode_2, Pr_kind_2, Pr_tokenAt_2, Pr_letters_2, Pr_number_2, P_1)) else (gb3 (fX5_fail 3 Pr_errorAt_1 Pr_errorCode_1 Pr_tokenAt_1) fun (r_7 : Int32) (Pr_errorAt_3 : Int32) (Pr_errorCode_3 : Int32) => some (r_7, Pr_errorAt_3, Pr_next_1, Pr_errorCode_3, Pr_kind_1, Pr_tokenAt_1, Pr_letters_1, Pr_number_1, P))) else (gb3 (fX5_fail 2 Pr_errorAt_1 Pr_errorCode_1 Pr_tokenAt_1) fun (r_8 : Int32) (Pr_errorAt_4 : Int32) (Pr_errorCode_4 : Int32) => some (r_8, Pr_errorAt_4, Pr_next_1, Pr_errorCode_4, Pr_kind_1, Pr_tokenAt_1, Pr_letters_1, Pr_number_1, P)))) else (gb3 (fX5_fail 5 Pr_errorAt Pr_errorCode Pr_tokenAt) fun (r_9 : Int32) (Pr_errorAt_5 : Int32) (Pr_errorCode_5 : Int32) => some (r_9, Pr_errorAt_5, Pr_next, Pr_errorCode_5, Pr_kind, Pr_tokenAt, Pr_letters, Pr_number, P))
def fX5_readStoredWord (Pr_errorAt : Int32) (Pr_length : Int32) (Pr_next : Int32) (Pr_errorCode : Int32) (Pr_kind : Int32) (Pr_tokenAt : Int32) (Pr_letters : Int64) (Pr_number : Int32) (B_time : Int32) (B_chest : Int32) (B_fund : Int32) (settings : (Nat → Int32)) (sums : (Nat → Int32)) (U : tUsers) (P : tPieces) (W : tWords) (C : tCut) (S : tCutR) (text : (Nat → Int32)) : Option (Int32 × Int32 × Int32 × Int32 × Int32 × Int32 × Int64 × Int32 × Int32 × Int32 × (Nat → Int32) × tUsers × tPieces × tWords × tCut × tCutR) := gb1 (fX8_isFull W) fun (r_1 : Int32) => if r_1 = 0 then (gb8 (fX5_readLetters Pr_errorAt Pr_length Pr_next Pr_errorCode Pr_kind Pr_tokenAt Pr_letters Pr_number text) fun (r_2 : Int32) (Pr_errorAt_1 : Int32) (Pr_next_1 : Int32) (Pr_errorCode_1 : Int32) (Pr_kind_1 : Int32) (Pr_tokenAt_1 : Int32) (Pr_letters_1 : Int64) (Pr_number_1 : Int32) => if r_2 = 0 then (some (0, Pr_errorAt_1, Pr_next_1, Pr_errorCode_1, Pr_kind_1, Pr_tokenAt_1, Pr_letters_1, Pr_number_1, B_chest, B_fund, sums, U, P, W, C, S)) else (gb1 (fX7_numberOf Pr_letters_1 U) fun (r_3 : Int32) => if r_3 = (-1) then (gb3 (fX5_fail 4 Pr_errorAt_1 Pr_errorCode_1 Pr_tokenAt_1) fun (r_4 : Int32) (Pr_errorAt_2 : Int32) (Pr_errorCode_2 : Int32) => some (r_4, Pr_errorAt_2, Pr_next_1, Pr_errorCode_2, Pr_kind_1, Pr_tokenAt_1, Pr_letters_1, Pr_number_1, B_chest, B_fund, sums, U, P, W, C, S)) else (gb8 (fX5_readLetters Pr_errorAt_1 Pr_length Pr_next_1 Pr_errorCode_1 Pr_kind_1 Pr_tokenAt_1 Pr_letters_1 Pr_number_1 text) fun (r_5 : Int32) (Pr_errorAt_3 : Int32) (Pr_next_2 : Int32) (Pr_errorCode_3 : Int32) (Pr_kind_2 : Int32) (Pr_tokenAt_2 : Int32) (Pr_letters_2 : Int64) (Pr_number_2 : Int32) => if r_5 = 0 then (some (0, Pr_errorAt_3, Pr_next_2, Pr_errorCode_3, Pr_kind_2, Pr_tokenAt_2, Pr_letters_2, Pr_number_2, B_chest, B_fund, sums, U, P, W, C, S)) else (gb2 (fX2_cutCheapest Pr_letters_2 C S settings P) fun (C_1 : tCut) (S_1 : tCutR) => gb1 (fX1_refusal r_3 settings U P W C_1) fun (r_6 : Int32) => if r_6 = 0 then (gb7 (fX1_storeCutting r_3 Pr_letters_2 B_time B_chest B_fund settings sums U P W C_1) fun (r_7 : Int32) (B_chest_1 : Int32) (B_fund_1 : Int32) (sums_1 : (Nat → Int32)) (U_1 : tUsers) (P_1 : tPieces) (W_1 : tWords) => gb8 (fX5_readSemicolon Pr_errorAt_3 Pr_length Pr_next_2 Pr_errorCode_3 Pr_kind_2 Pr_tokenAt_2 Pr_letters_2 Pr_number_2 text) fun (r_8 : Int32) (Pr_errorAt_4 : Int32) (Pr_next_3 : Int32) (Pr_errorCode_4 : Int32) (Pr_kind_3 : Int32) (Pr_tokenAt_3 : Int32) (Pr_letters_3 : Int64) (Pr_number_3 : Int32) => some (r_8, Pr_errorAt_4, Pr_next_3, Pr_errorCode_4, Pr_kind_3, Pr_tokenAt_3, Pr_letters_3, Pr_number_3, B_chest_1, B_fund_1, sums_1, U_1, P_1, W_1, C_1, S_1)) else (gb3 (fX5_fail 6 Pr_errorAt_3 Pr_errorCode_3 Pr_tokenAt_2) fun (r_9 : Int32) (Pr_errorAt_5 : Int32) (Pr_errorCode_5 : Int32) => some (r_9, Pr_errorAt_5, Pr_next_2, Pr_errorCode_5, Pr_kind_2, Pr_tokenAt_2, Pr_letters_2, Pr_number_2, B_chest, B_fund, sums, U, P, W, C_1, S_1)))))) else (gb3 (fX5_fail 5 Pr_errorAt Pr_errorCode Pr_tokenAt) fun (r_10 : Int32) (Pr_errorAt_6 : Int32) (Pr_errorCode_6 : Int32) => some (r_10, Pr_errorAt_6, Pr_next, Pr_errorCode_6, Pr_kind, Pr_tokenAt, Pr_letters, Pr_number, B_chest, B_fund, sums, U, P, W, C, S))
def fX5_readStatement (Pr_errorAt : Int32) (Pr_length : Int32) (Pr_next : Int32) (Pr_errorCode : Int32) (Pr_kind : Int32) (Pr_tokenAt : Int32) (Pr_letters : Int64) (Pr_number : Int32) (B_time : Int32) (B_chest : Int32) (B_fund : Int32) (settings : (Nat → Int32)) (sums : (Nat → Int32)) (U : tUsers) (P : tPieces) (W : tWords) (C : tCut) (S : tCutR) (text : (Nat → Int32)) : Option (Int32 × Int32 × Int32 × Int32 × Int32 × Int32 × Int64 × Int32 × Int32 × Int32 × (Nat → Int32) × tUsers × tPieces × tWords × tCut × tCutR) := Lt ((Lt ((Lt ((gb3 (fX5_fail 1 Pr_errorAt Pr_errorCode Pr_tokenAt) fun (r_1 : Int32) (Pr_errorAt_1 : Int32) (Pr_errorCode_1 : Int32) => some (r_1, Pr_errorAt_1, Pr_next, Pr_errorCode_1, Pr_kind, Pr_tokenAt, Pr_letters, Pr_number, B_chest, B_fund, sums, U, P, W, C, S)) : Option (Int32 × Int32 × Int32 × Int32 × Int32 × Int32 × Int64 × Int32 × Int32 × Int32 × (Nat → Int32) × tUsers × tPieces × tWords × tCut × tCutR)) fun (j_3 : Option (Int32 × Int32 × Int32 × Int32 × Int32 × Int32 × Int64 × Int32 × Int32 × Int32 × (Nat → Int32) × tUsers × tPieces × tWords × tCut × tCutR)) => if Pr_kind = 3 then (gb1 (fX4_spell 3 Pr_letters) fun (r_2 : Int32) => if r_2 = 0 then (j_3) else (gb16 (fX5_readStoredWord Pr_errorAt Pr_length Pr_next Pr_errorCode Pr_kind Pr_tokenAt Pr_letters Pr_number B_time B_chest B_fund settings sums U P W C S text) fun (r_3 : Int32) (Pr_errorAt_2 : Int32) (Pr_next_1 : Int32) (Pr_errorCode_2 : Int32) (Pr_kind_1 : Int32) (Pr_tokenAt_1 : Int32) (Pr_letters_1 : Int64) (Pr_number_1 : Int32) (B_chest_1 : Int32) (B_fund_1 : Int32) (sums_1 : (Nat → Int32)) (U_1 : tUsers) (P_1 : tPieces) (W_1 : tWords) (C_1 : tCut) (S_1 : tCutR) => some (r_3, Pr_errorAt_2, Pr_next_1, Pr_errorCode_2, Pr_kind_1, Pr_tokenAt_1, Pr_letters_1, Pr_number_1, B_chest_1, B_fund_1, sums_1, U_1, P_1, W_1, C_1, S_1))) else (j_3)) : Option (Int32 × Int32 × Int32 × Int32 × Int32 × Int32 × Int64 × Int32 × Int32 × Int32 × (Nat → Int32) × tUsers × tPieces × tWords × tCut × tCutR)) fun (j_2 : Option (Int32 × Int32 × Int32 × Int32 × Int32 × Int32 × Int64 × Int32 × Int32 × Int32 × (Nat → Int32) × tUsers × tPieces × tWords × tCut × tCutR)) => if Pr_kind = 3 then (gb1 (fX4_spell 2 Pr_letters) fun (r_4 : Int32) => if r_4 = 0 then (j_2) else (gb9 (fX5_readPiece Pr_errorAt Pr_length Pr_next Pr_errorCode Pr_kind Pr_tokenAt Pr_letters Pr_number P text) fun (r_5 : Int32) (Pr_errorAt_3 : Int32) (Pr_next_2 : Int32) (Pr_errorCode_3 : Int32) (Pr_kind_2 : Int32) (Pr_tokenAt_2 : Int32) (Pr_letters_2 : Int64) (Pr_number_2 : Int32) (P_2 : tPieces) => some (r_5, Pr_errorAt_3, Pr_next_2, Pr_errorCode_3, Pr_kind_2, Pr_tokenAt_2, Pr_letters_2, Pr_number_2, B_chest, B_fund, sums, U, P_2, W, C, S))) else (j_2)) : Option (Int32 × Int32 × Int32 × Int32 × Int32 × Int32 × Int64 × Int32 × Int32 × Int32 × (Nat → Int32) × tUsers × tPieces × tWords × tCut × tCutR)) fun (j_1 : Option (Int32 × Int32 × Int32 × Int32 × Int32 × Int32 × Int64 × Int32 × Int32 × Int32 × (Nat → Int32) × tUsers × tPieces × tWords × tCut × tCutR)) => if Pr_kind = 3 then (gb1 (fX4_spell 1 Pr_letters) fun (r_6 : Int32) => if r_6 = 0 then (j_1) else (gb9 (fX5_readUser Pr_errorAt Pr_length Pr_next Pr_errorCode Pr_kind Pr_tokenAt Pr_letters Pr_number U text) fun (r_7 : Int32) (Pr_errorAt_4 : Int32) (Pr_next_3 : Int32) (Pr_errorCode_4 : Int32) (Pr_kind_3 : Int32) (Pr_tokenAt_3 : Int32) (Pr_letters_3 : Int64) (Pr_number_3 : Int32) (U_2 : tUsers) => some (r_7, Pr_errorAt_4, Pr_next_3, Pr_errorCode_4, Pr_kind_3, Pr_tokenAt_3, Pr_letters_3, Pr_number_3, B_chest, B_fund, sums, U_2, P, W, C, S))) else (j_1)
def fX5_readText_L60 (n_p1 : Nat) (Pr_length : Int32) (B_time : Int32) (settings : (Nat → Int32)) (text : (Nat → Int32)) (p1 : (Nat → Int32)) (k : Int32 → Int32 → Int32 → Int32 → Int32 → Int64 → Int32 → Int32 → Int32 → (Nat → Int32) → tUsers → tPieces → tWords → tCut → tCutR → Option (Int32 × Int32 × Int32 × Int32 × Int32 × Int32 × Int32 × Int64 × Int32 × Int32 × Int32 × Int32 × (Nat → Int32) × (Nat → Int32) × tUsers × tPieces × tWords × tCut × tCutR × (Nat → Int32))) : Nat → Int32 → Int32 → Int32 → Int32 → Int32 → Int32 → Int32 → Int64 → Int32 → Int32 → Int32 → (Nat → Int32) → tUsers → tPieces → tWords → tCut → tCutR → Option (Int32 × Int32 × Int32 × Int32 × Int32 × Int32 × Int32 × Int64 × Int32 × Int32 × Int32 × Int32 × (Nat → Int32) × (Nat → Int32) × tUsers × tPieces × tWords × tCut × tCutR × (Nat → Int32))
  | 0, _, _, _, _, _, _, _, _, _, _, _, _, _, _, _, _, _ => none
  | n + 1, x3, x4, Pr_errorAt, Pr_next, Pr_errorCode, Pr_kind, Pr_tokenAt, Pr_letters, Pr_number, B_chest, B_fund, sums, U, P, W, C, S => if x3 = 0 then (k Pr_errorAt Pr_next Pr_errorCode Pr_kind Pr_tokenAt Pr_letters Pr_number B_chest B_fund sums U P W C S) else (if Pr_length < x4 then (k Pr_errorAt Pr_next Pr_errorCode Pr_kind Pr_tokenAt Pr_letters Pr_number B_chest B_fund sums U P W C S) else (gb5 (fX5_readToken Pr_length Pr_next Pr_kind Pr_tokenAt Pr_letters Pr_number text) fun (Pr_next_1 : Int32) (Pr_kind_1 : Int32) (Pr_tokenAt_1 : Int32) (Pr_letters_1 : Int64) (Pr_number_1 : Int32) => if Pr_kind_1 = 0 then (some (0, Pr_errorAt, Pr_length, Pr_next_1, Pr_errorCode, Pr_kind_1, Pr_tokenAt_1, Pr_letters_1, Pr_number_1, B_time, B_chest, B_fund, settings, sums, U, P, W, C, S, text)) else (gb16 (fX5_readStatement Pr_errorAt Pr_length Pr_next_1 Pr_errorCode Pr_kind_1 Pr_tokenAt_1 Pr_letters_1 Pr_number_1 B_time B_chest B_fund settings sums U P W C S text) fun (r_1 : Int32) (Pr_errorAt_1 : Int32) (Pr_next_2 : Int32) (Pr_errorCode_1 : Int32) (Pr_kind_2 : Int32) (Pr_tokenAt_2 : Int32) (Pr_letters_2 : Int64) (Pr_number_2 : Int32) (B_chest_1 : Int32) (B_fund_1 : Int32) (sums_1 : (Nat → Int32)) (U_1 : tUsers) (P_1 : tPieces) (W_1 : tWords) (C_1 : tCut) (S_1 : tCutR) => fX5_readText_L60 n_p1 Pr_length B_time settings text p1 k n r_1 (x4 + 1) Pr_errorAt_1 Pr_next_2 Pr_errorCode_1 Pr_kind_2 Pr_tokenAt_2 Pr_letters_2 Pr_number_2 B_chest_1 B_fund_1 sums_1 U_1 P_1 W_1 C_1 S_1)))
def fX5_readText (n_p1 : Nat) (x2 : Int32) (Pr_errorAt : Int32) (Pr_length : Int32) (Pr_next : Int32) (Pr_errorCode : Int32) (Pr_kind : Int32) (Pr_tokenAt : Int32) (Pr_letters : Int64) (Pr_number : Int32) (B_time : Int32) (B_chest : Int32) (B_fund : Int32) (settings : (Nat → Int32)) (sums : (Nat → Int32)) (U : tUsers) (P : tPieces) (W : tWords) (C : tCut) (S : tCutR) (text : (Nat → Int32)) (p1 : (Nat → Int32)) : Option (Int32 × Int32 × Int32 × Int32 × Int32 × Int32 × Int32 × Int64 × Int32 × Int32 × Int32 × Int32 × (Nat → Int32) × (Nat → Int32) × tUsers × tPieces × tWords × tCut × tCutR × (Nat → Int32)) := Lt (if 600 < (Int32.ofNat n_p1) then 600 else (Int32.ofNat n_p1)) fun (z_1 : Int32) => Lt (if z_1 < x2 then z_1 else x2) fun (z_2 : Int32) => if (0 : Int32) < 0 ∨ (0 : Int32) < 0 ∨ z_2 < 0 ∨ n_p1 < 0 + z_2.toNatClampNeg ∨ 600 < 0 + z_2.toNatClampNeg then none else if ∀ i, i < z_2.toNatClampNeg → fits .byte (.int (p1 (0 + i))) = true then ( Lt (va_cpy p1 text 0 0 z_2.toNatClampNeg) fun (text_1 : (Nat → Int32)) => gb7 (fX1_clear B_time B_chest B_fund sums U P W) fun (B_time_1 : Int32) (B_chest_1 : Int32) (B_fund_1 : Int32) (sums_1 : (Nat → Int32)) (U_1 : tUsers) (P_1 : tPieces) (W_1 : tWords) => gb9 (fX5_readHeader (-1) z_2 0 0 Pr_kind Pr_tokenAt Pr_letters Pr_number settings text_1) fun (r_1 : Int32) (Pr_errorAt_1 : Int32) (Pr_next_1 : Int32) (Pr_errorCode_1 : Int32) (Pr_kind_1 : Int32) (Pr_tokenAt_1 : Int32) (Pr_letters_1 : Int64) (Pr_number_1 : Int32) (settings_1 : (Nat → Int32)) => fX5_readText_L60 n_p1 z_2 B_time_1 settings_1 text_1 p1 (fun (Pr_errorAt_2 : Int32) (Pr_next_2 : Int32) (Pr_errorCode_2 : Int32) (Pr_kind_2 : Int32) (Pr_tokenAt_2 : Int32) (Pr_letters_2 : Int64) (Pr_number_2 : Int32) (B_chest_2 : Int32) (B_fund_2 : Int32) (sums_2 : (Nat → Int32)) (U_2 : tUsers) (P_2 : tPieces) (W_2 : tWords) (C_1 : tCut) (S_1 : tCutR) => (some (Pr_errorCode_2, Pr_errorAt_2, z_2, Pr_next_2, Pr_errorCode_2, Pr_kind_2, Pr_tokenAt_2, Pr_letters_2, Pr_number_2, B_time_1, B_chest_2, B_fund_2, settings_1, sums_2, U_2, P_2, W_2, C_1, S_1, text_1))) FU r_1 0 Pr_errorAt_1 Pr_next_1 Pr_errorCode_1 Pr_kind_1 Pr_tokenAt_1 Pr_letters_1 Pr_number_1 B_chest_1 B_fund_1 sums_1 U_1 P_1 W_1 C S ) else none
set_option maxHeartbeats 4000000 in
set_option maxRecDepth 100000 in
theorem ctX5_kindOf (l : Launch) (E : gE) (x0 : Int32) (r : Int32) (hf : fX5_kindOf x0 = some r) : gMet l yX5_kindOf wsX5_kindOf rmX5_kindOf vwCl E [.int x0] [] (fun v w => v = some (.int r) ∧ w = []) 0 0 := by
  refine g_entry [some (.int x0)] (by decide) rfl (Nat.le_of_ble_eq_true rfl) rfl ?_
  intro p e s m below meth c A F hnm
  unfold fX5_kindOf at hf
  refine g_iload_n F dX5_kindOf_0 rfl ?_
  refine g_bipush F 32 dX5_kindOf_1 rfl ?_
  refine g_icmp_eq F 12 dX5_kindOf_3 (by decide) (fun hc_7 => ?_) (fun hc_7 => ?_)
  · replace hf := gi_t hc_7 hf
    refine g_iconst F 1 dX5_kindOf_12 rfl ?_
    cases hf
    exact g_iret F rfl ⟨rfl, rfl⟩ dX5_kindOf_13
  · replace hf := gi_f hc_7 hf
    refine g_iload_n F dX5_kindOf_6 rfl ?_
    refine g_bipush F 10 dX5_kindOf_7 rfl ?_
    refine g_icmp_ne F 14 dX5_kindOf_9 (by decide) (fun hc_6 => ?_) (fun hc_6 => ?_)
    · replace hf := gi_f hc_6 hf
      refine g_iload_n F dX5_kindOf_14 rfl ?_
      refine g_bipush F 97 dX5_kindOf_15 rfl ?_
      obtain ⟨j_1, hj_1, hf⟩ := Lt_el hf
      have hj_1 : j_1 = some r → Gj p l e rmX5_kindOf s m ([.int x0] : List Value).toArray below meth c 0 0 (MQ below (gQ vwCl E A (fun v w => v = some (.int r) ∧ w = [])) ([.int x0] : List Value).toArray s 0 0 A) vwCl E A [] [some (.int x0)] [] 28 := by
        intro hf
        rw [hj_1] at hf
        refine g_iload_n F dX5_kindOf_28 rfl ?_
        refine g_bipush F 48 dX5_kindOf_29 rfl ?_
        obtain ⟨j_2, hj_2, hf⟩ := Lt_el hf
        have hj_2 : j_2 = some r → Gj p l e rmX5_kindOf s m ([.int x0] : List Value).toArray below meth c 0 0 (MQ below (gQ vwCl E A (fun v w => v = some (.int r) ∧ w = [])) ([.int x0] : List Value).toArray s 0 0 A) vwCl E A [] [some (.int x0)] [] 42 := by
          intro hf
          rw [hj_2] at hf
          refine g_iload_n F dX5_kindOf_42 rfl ?_
          refine g_bipush F 59 dX5_kindOf_43 rfl ?_
          refine g_icmp_ne F 52 dX5_kindOf_45 (by decide) (fun hc_1 => ?_) (fun hc_1 => ?_)
          · replace hf := gi_f hc_1 hf
            refine g_iconst F 2 dX5_kindOf_52 rfl ?_
            cases hf
            exact g_iret F rfl ⟨rfl, rfl⟩ dX5_kindOf_53
          · replace hf := gi_t hc_1 hf
            refine g_iconst F 5 dX5_kindOf_48 rfl ?_
            refine g_goto F 53 dX5_kindOf_49 (by decide) ?_
            cases hf
            exact g_iret F rfl ⟨rfl, rfl⟩ dX5_kindOf_53
        refine g_icmp_lt F 42 dX5_kindOf_31 (by decide) (fun hc_3 => ?_) (fun hc_3 => ?_)
        · replace hf := gi_t hc_3 hf
          exact hj_2 hf
        · replace hf := gi_f hc_3 hf
          refine g_iload_n F dX5_kindOf_34 rfl ?_
          refine g_bipush F 57 dX5_kindOf_35 rfl ?_
          refine g_icmp_gt F 42 dX5_kindOf_37 (by decide) (fun hc_2 => ?_) (fun hc_2 => ?_)
          · replace hf := gi_t hc_2 hf
            exact hj_2 hf
          · replace hf := gi_f hc_2 hf
            refine g_iconst F 4 dX5_kindOf_40 rfl ?_
            cases hf
            exact g_iret F rfl ⟨rfl, rfl⟩ dX5_kindOf_41
      refine g_icmp_lt F 28 dX5_kindOf_17 (by decide) (fun hc_5 => ?_) (fun hc_5 => ?_)
      · replace hf := gi_t hc_5 hf
        exact hj_1 hf
      · replace hf := gi_f hc_5 hf
        refine g_iload_n F dX5_kindOf_20 rfl ?_
        refine g_bipush F 122 dX5_kindOf_21 rfl ?_
        refine g_icmp_gt F 28 dX5_kindOf_23 (by decide) (fun hc_4 => ?_) (fun hc_4 => ?_)
        · replace hf := gi_t hc_4 hf
          exact hj_1 hf
        · replace hf := gi_f hc_4 hf
          refine g_iconst F 3 dX5_kindOf_26 rfl ?_
          cases hf
          exact g_iret F rfl ⟨rfl, rfl⟩ dX5_kindOf_27
    · replace hf := gi_t hc_6 hf
      refine g_iconst F 1 dX5_kindOf_12 rfl ?_
      cases hf
      exact g_iret F rfl ⟨rfl, rfl⟩ dX5_kindOf_13
set_option maxHeartbeats 4000000 in
set_option maxRecDepth 100000 in
theorem ktX5_valueOf_L5 {p : Program} {l : Launch} {e : Env} {s : State} {m : MethodId} {args : Array Value} {below : List Frame} {meth : Method} {c : Code} {E : gE} {A : Nat → Prop} (F : gFx p s m args meth c RX5 wsX5_valueOf cX5_valueOf 5 (some .int) vwCl E A) (aPr aB aC atext : Nat → Nat) (x2 : Int32) (text : (Nat → Int32)) (Pr_errorAt : Int32) (Pr_length : Int32) (Pr_next : Int32) (Pr_errorCode : Int32) (Pr_kind : Int32) (Pr_tokenAt : Int32) (Pr_letters : Int64) (Pr_number : Int32) (r : Int32) {k : Int32 → Option (Int32)} (hk : ∀ (x3 : Int32), k x3 = some r → Gj p l e rmX5_valueOf s m args below meth c 0 0 (MQ below (gQ vwCl E A (fun v w => v = some (.int r) ∧ w = [sPar E aPr aB aC atext Pr_errorAt Pr_length Pr_next Pr_errorCode Pr_kind Pr_tokenAt Pr_letters Pr_number, sArrB E atext 600 text])) args s 0 0 A) vwCl E A [sPar E aPr aB aC atext Pr_errorAt Pr_length Pr_next Pr_errorCode Pr_kind Pr_tokenAt Pr_letters Pr_number, sArrB E atext 600 text] [none, none, none, some (.int x3), none] [] 33) : ∀ (n : Nat) (x3 : Int32) (x4 : Int32), fX5_valueOf_L5 x2 text k n x3 x4 = some r → Gj p l e rmX5_valueOf s m args below meth c 0 0 (MQ below (gQ vwCl E A (fun v w => v = some (.int r) ∧ w = [sPar E aPr aB aC atext Pr_errorAt Pr_length Pr_next Pr_errorCode Pr_kind Pr_tokenAt Pr_letters Pr_number, sArrB E atext 600 text])) args s 0 0 A) vwCl E A [sPar E aPr aB aC atext Pr_errorAt Pr_length Pr_next Pr_errorCode Pr_kind Pr_tokenAt Pr_letters Pr_number, sArrB E atext 600 text] [some (.ref (aPr 0)), none, some (.int x2), some (.int x3), some (.int x4)] [] 5
  | 0, _, _, hf => by cases hf
  | n + 1, x3, x4, hf => by
    have ih := ktX5_valueOf_L5 F aPr aB aC atext x2 text Pr_errorAt Pr_length Pr_next Pr_errorCode Pr_kind Pr_tokenAt Pr_letters Pr_number r hk n
    rw [fX5_valueOf_L5] at hf
    refine g_iload F dX5_valueOf_5 rfl ?_
    refine g_iload_n F dX5_valueOf_7 rfl ?_
    refine g_icmp_ge F 33 dX5_valueOf_8 (by decide) (fun hc_1 => ?_) (fun hc_1 => ?_)
    · replace hf := gi_t hc_1 hf
      refine g_mask [false, true, false, true, false] rfl ?_
      exact hk x3 hf
    · replace hf := gi_f hc_1 hf
      refine g_iload_n F dX5_valueOf_11 rfl ?_
      refine g_bipush F 10 dX5_valueOf_12 rfl ?_
      refine g_imul F dX5_valueOf_14 ?_
      refine g_aload_n F dX5_valueOf_15 rfl ?_
      refine g_get (C := RX5) (T := TX5) (N := 11) F 0 0 3 rfl rfl rfl iX5_valueOf_X5 (by decide) (by decide +kernel) rfl dX5_valueOf_16 ?_
      refine g_iload F dX5_valueOf_19 rfl ?_
      obtain ⟨hb_1, hf⟩ := gb_in hf
      refine g_bald F 1 0 (x4.toNatClampNeg) rfl rfl rfl hb_1 dX5_valueOf_21 ?_
      refine g_iadd F dX5_valueOf_22 ?_
      refine g_bipush F 48 dX5_valueOf_23 rfl ?_
      refine g_isub F dX5_valueOf_25 ?_
      refine g_istore_n (lv' := [some (.ref (aPr 0)), none, some (.int x2), some (.int (((x3 * 10) + (text (x4.toNatClampNeg))) - 48)), some (.int x4)]) F dX5_valueOf_26 (Nat.le_of_ble_eq_true rfl) rfl rfl ?_
      refine g_iinc (lv' := [some (.ref (aPr 0)), none, some (.int x2), some (.int (((x3 * 10) + (text (x4.toNatClampNeg))) - 48)), some (.int (x4 + 1))]) F (x4 + 1) dX5_valueOf_27 rfl rfl rfl rfl ?_
      refine g_goto F 5 dX5_valueOf_30 (by decide) ?_
      exact ih (((x3 * 10) + (text (x4.toNatClampNeg))) - 48) (x4 + 1) hf
set_option maxHeartbeats 4000000 in
set_option maxRecDepth 100000 in
theorem ctX5_valueOf (l : Launch) (E : gE) (aPr aB aC atext : Nat → Nat) (x1 : Int32) (x2 : Int32) (Pr_errorAt : Int32) (Pr_length : Int32) (Pr_next : Int32) (Pr_errorCode : Int32) (Pr_kind : Int32) (Pr_tokenAt : Int32) (Pr_letters : Int64) (Pr_number : Int32) (text : (Nat → Int32)) (r : Int32) (hf : fX5_valueOf x1 x2 text = some r) : gMet l yX5_valueOf wsX5_valueOf rmX5_valueOf vwCl E [.ref (aPr 0), .int x1, .int x2] [sPar E aPr aB aC atext Pr_errorAt Pr_length Pr_next Pr_errorCode Pr_kind Pr_tokenAt Pr_letters Pr_number, sArrB E atext 600 text] (fun v w => v = some (.int r) ∧ w = [sPar E aPr aB aC atext Pr_errorAt Pr_length Pr_next Pr_errorCode Pr_kind Pr_tokenAt Pr_letters Pr_number, sArrB E atext 600 text]) 0 0 := by
  refine g_entry [some (.ref (aPr 0)), some (.int x1), some (.int x2), none, none] (by decide) rfl (Nat.le_of_ble_eq_true rfl) rfl ?_
  intro p e s m below meth c A F hnm
  unfold fX5_valueOf at hf
  refine g_iconst F 0 dX5_valueOf_0 rfl ?_
  refine g_istore_n (lv' := [some (.ref (aPr 0)), some (.int x1), some (.int x2), some (.int 0), none]) F dX5_valueOf_1 (Nat.le_of_ble_eq_true rfl) rfl rfl ?_
  refine g_iload_n F dX5_valueOf_2 rfl ?_
  refine g_istore (lv' := [some (.ref (aPr 0)), some (.int x1), some (.int x2), some (.int 0), some (.int x1)]) F dX5_valueOf_3 (Nat.le_of_ble_eq_true rfl) rfl rfl ?_
  refine g_mask [true, false, true, true, true] rfl ?_
  refine ktX5_valueOf_L5 F aPr aB aC atext x2 text Pr_errorAt Pr_length Pr_next Pr_errorCode Pr_kind Pr_tokenAt Pr_letters Pr_number r (fun x3_1 hf => ?_) FU 0 x1 hf
  refine g_iload_n F dX5_valueOf_33 rfl ?_
  cases hf
  exact g_iret F rfl ⟨rfl, rfl⟩ dX5_valueOf_34
set_option maxHeartbeats 4000000 in
set_option maxRecDepth 100000 in
theorem ktX5_readToken_L0 {p : Program} {l : Launch} {e : Env} {s : State} {m : MethodId} {args : Array Value} {below : List Frame} {meth : Method} {c : Code} {E : gE} {A : Nat → Prop} (F : gFx p s m args meth c RX5 wsX5_readToken cX5_readToken 2 none vwCl E A) (aPr aB aC atext : Nat → Nat) (Pr_length : Int32) (text : (Nat → Int32)) (Pr_errorAt : Int32) (Pr_errorCode : Int32) (Pr_kind : Int32) (Pr_tokenAt : Int32) (Pr_letters : Int64) (Pr_number : Int32) (Pr_next' : Int32) (Pr_kind' : Int32) (Pr_tokenAt' : Int32) (Pr_letters' : Int64) (Pr_number' : Int32) {k : Int32 → Option (Int32 × Int32 × Int32 × Int64 × Int32)} (hk : ∀ (Pr_next : Int32), k Pr_next = some (Pr_next', Pr_kind', Pr_tokenAt', Pr_letters', Pr_number') → Gj p l e rmX5_readToken s m args below meth c 0 0 (MQ below (gQ vwCl E A (fun v w => v = none ∧ w = [sPar E aPr aB aC atext Pr_errorAt Pr_length Pr_next' Pr_errorCode Pr_kind' Pr_tokenAt' Pr_letters' Pr_number', sArrB E atext 600 text])) args s 0 0 A) vwCl E A [sPar E aPr aB aC atext Pr_errorAt Pr_length Pr_next Pr_errorCode Pr_kind Pr_tokenAt Pr_letters Pr_number, sArrB E atext 600 text] [some (.ref (aPr 0)), none] [] 40) : ∀ (n : Nat) (Pr_next : Int32), fX5_readToken_L0 Pr_length text k n Pr_next = some (Pr_next', Pr_kind', Pr_tokenAt', Pr_letters', Pr_number') → Gj p l e rmX5_readToken s m args below meth c 0 0 (MQ below (gQ vwCl E A (fun v w => v = none ∧ w = [sPar E aPr aB aC atext Pr_errorAt Pr_length Pr_next' Pr_errorCode Pr_kind' Pr_tokenAt' Pr_letters' Pr_number', sArrB E atext 600 text])) args s 0 0 A) vwCl E A [sPar E aPr aB aC atext Pr_errorAt Pr_length Pr_next Pr_errorCode Pr_kind Pr_tokenAt Pr_letters Pr_number, sArrB E atext 600 text] [some (.ref (aPr 0)), none] [] 0
  | 0, _, hf => by cases hf
  | n + 1, Pr_next, hf => by
    have ih := ktX5_readToken_L0 F aPr aB aC atext Pr_length text Pr_errorAt Pr_errorCode Pr_kind Pr_tokenAt Pr_letters Pr_number Pr_next' Pr_kind' Pr_tokenAt' Pr_letters' Pr_number' hk n
    rw [fX5_readToken_L0] at hf
    refine g_aload_n F dX5_readToken_0 rfl ?_
    refine g_get (C := RX5) (T := TX5) (N := 11) F 0 0 5 rfl rfl rfl iX5_readToken_X5 (by decide) (by decide +kernel) rfl dX5_readToken_1 ?_
    refine g_aload_n F dX5_readToken_4 rfl ?_
    refine g_get (C := RX5) (T := TX5) (N := 11) F 0 0 4 rfl rfl rfl iX5_readToken_X5 (by decide) (by decide +kernel) rfl dX5_readToken_5 ?_
    refine g_icmp_ge F 40 dX5_readToken_8 (by decide) (fun hc_2 => ?_) (fun hc_2 => ?_)
    · replace hf := gi_t hc_2 hf
      exact hk Pr_next hf
    · replace hf := gi_f hc_2 hf
      refine g_aload_n F dX5_readToken_11 rfl ?_
      refine g_get (C := RX5) (T := TX5) (N := 11) F 0 0 3 rfl rfl rfl iX5_readToken_X5 (by decide) (by decide +kernel) rfl dX5_readToken_12 ?_
      refine g_aload_n F dX5_readToken_15 rfl ?_
      refine g_get (C := RX5) (T := TX5) (N := 11) F 0 0 5 rfl rfl rfl iX5_readToken_X5 (by decide) (by decide +kernel) rfl dX5_readToken_16 ?_
      obtain ⟨hb_1, hf⟩ := gb_in hf
      refine g_bald F 1 0 (Pr_next.toNatClampNeg) rfl rfl rfl hb_1 dX5_readToken_19 ?_
      obtain ⟨r_1, hg_1, hf⟩ := gb1_el hf
      refine g_callS (Lr := [sPar E aPr aB aC atext Pr_errorAt Pr_length Pr_next Pr_errorCode Pr_kind Pr_tokenAt Pr_letters Pr_number, sArrB E atext 600 text]) (As := [.int (text (Pr_next.toNatClampNeg))]) (rest := []) F 1 (ctX5_kindOf l E (text (Pr_next.toNatClampNeg)) r_1 hg_1) (va_cwS 1 F.2.2.2.2.2.1 gX5_readToken_X5_kindOf rfl rfl rfl h0X5_kindOf ⟨Nat.le_of_ble_eq_true rfl, Nat.le_of_ble_eq_true rfl⟩) [] [0, 1] rfl rfl rfl rfl rfl rfl (Nat.le_of_ble_eq_true rfl) dX5_readToken_20 ⟨(Nat.le_of_ble_eq_true rfl), (Nat.le_of_ble_eq_true rfl)⟩ ?_
      rintro v w ⟨rfl, rfl⟩
      refine g_norm (Lw' := [sPar E aPr aB aC atext Pr_errorAt Pr_length Pr_next Pr_errorCode Pr_kind Pr_tokenAt Pr_letters Pr_number, sArrB E atext 600 text]) (st' := [.int r_1]) (pc' := 23) [0, 1] rfl rfl rfl rfl ?_
      refine g_iconst F 1 dX5_readToken_23 rfl ?_
      refine g_icmp_ne F 40 dX5_readToken_24 (by decide) (fun hc_1 => ?_) (fun hc_1 => ?_)
      · replace hf := gi_f hc_1 hf
        exact hk Pr_next hf
      · replace hf := gi_t hc_1 hf
        refine g_aload_n F dX5_readToken_27 rfl ?_
        refine g_dup F dX5_readToken_28 rfl ?_
        refine g_get (C := RX5) (T := TX5) (N := 11) F 0 0 5 rfl rfl rfl iX5_readToken_X5 (by decide) (by decide +kernel) rfl dX5_readToken_29 ?_
        refine g_iconst F 1 dX5_readToken_32 rfl ?_
        refine g_iadd F dX5_readToken_33 ?_
        refine g_put (C := RX5) (T := TX5) (N := 11) (tys := tyX5) (Lw' := [sPar E aPr aB aC atext Pr_errorAt Pr_length (Pr_next + 1) Pr_errorCode Pr_kind Pr_tokenAt Pr_letters Pr_number, sArrB E atext 600 text]) F 0 0 5 rfl rfl rfl iX5_readToken_X5 tyX5_ok nmX5 (by decide) (by decide +kernel) rfl rfl rfl rfl (Nat.le_of_ble_eq_true rfl) dX5_readToken_34 rfl ?_
        refine g_goto F 0 dX5_readToken_37 (by decide) ?_
        exact ih (Pr_next + 1) hf
set_option maxHeartbeats 4000000 in
set_option maxRecDepth 100000 in
theorem ktX5_readToken_L113 {p : Program} {l : Launch} {e : Env} {s : State} {m : MethodId} {args : Array Value} {below : List Frame} {meth : Method} {c : Code} {E : gE} {A : Nat → Prop} (F : gFx p s m args meth c RX5 wsX5_readToken cX5_readToken 2 none vwCl E A) (aPr aB aC atext : Nat → Nat) (x1 : Int32) (Pr_length : Int32) (Pr_kind : Int32) (text : (Nat → Int32)) (Pr_errorAt : Int32) (Pr_errorCode : Int32) (Pr_tokenAt : Int32) (Pr_letters : Int64) (Pr_number : Int32) (Pr_next' : Int32) (Pr_kind' : Int32) (Pr_tokenAt' : Int32) (Pr_letters' : Int64) (Pr_number' : Int32) {k : Int32 → Option (Int32 × Int32 × Int32 × Int64 × Int32)} (hk : ∀ (Pr_next : Int32), k Pr_next = some (Pr_next', Pr_kind', Pr_tokenAt', Pr_letters', Pr_number') → Gj p l e rmX5_readToken s m args below meth c 0 0 (MQ below (gQ vwCl E A (fun v w => v = none ∧ w = [sPar E aPr aB aC atext Pr_errorAt Pr_length Pr_next' Pr_errorCode Pr_kind' Pr_tokenAt' Pr_letters' Pr_number', sArrB E atext 600 text])) args s 0 0 A) vwCl E A [sPar E aPr aB aC atext Pr_errorAt Pr_length Pr_next Pr_errorCode Pr_kind Pr_tokenAt Pr_letters Pr_number, sArrB E atext 600 text] [some (.ref (aPr 0)), some (.int x1)] [] 160) : ∀ (n : Nat) (Pr_next : Int32), fX5_readToken_L113 x1 Pr_length Pr_kind text k n Pr_next = some (Pr_next', Pr_kind', Pr_tokenAt', Pr_letters', Pr_number') → Gj p l e rmX5_readToken s m args below meth c 0 0 (MQ below (gQ vwCl E A (fun v w => v = none ∧ w = [sPar E aPr aB aC atext Pr_errorAt Pr_length Pr_next' Pr_errorCode Pr_kind' Pr_tokenAt' Pr_letters' Pr_number', sArrB E atext 600 text])) args s 0 0 A) vwCl E A [sPar E aPr aB aC atext Pr_errorAt Pr_length Pr_next Pr_errorCode Pr_kind Pr_tokenAt Pr_letters Pr_number, sArrB E atext 600 text] [some (.ref (aPr 0)), some (.int x1)] [] 113
  | 0, _, hf => by cases hf
  | n + 1, Pr_next, hf => by
    have ih := ktX5_readToken_L113 F aPr aB aC atext x1 Pr_length Pr_kind text Pr_errorAt Pr_errorCode Pr_tokenAt Pr_letters Pr_number Pr_next' Pr_kind' Pr_tokenAt' Pr_letters' Pr_number' hk n
    rw [fX5_readToken_L113] at hf
    refine g_iload_n F dX5_readToken_113 rfl ?_
    refine g_ifeq F 160 dX5_readToken_114 (by decide) (fun hc_3 => ?_) (fun hc_3 => ?_)
    · replace hf := gi_t hc_3 hf
      exact hk Pr_next hf
    · replace hf := gi_f hc_3 hf
      refine g_aload_n F dX5_readToken_117 rfl ?_
      refine g_get (C := RX5) (T := TX5) (N := 11) F 0 0 5 rfl rfl rfl iX5_readToken_X5 (by decide) (by decide +kernel) rfl dX5_readToken_118 ?_
      refine g_aload_n F dX5_readToken_121 rfl ?_
      refine g_get (C := RX5) (T := TX5) (N := 11) F 0 0 4 rfl rfl rfl iX5_readToken_X5 (by decide) (by decide +kernel) rfl dX5_readToken_122 ?_
      refine g_icmp_ge F 160 dX5_readToken_125 (by decide) (fun hc_2 => ?_) (fun hc_2 => ?_)
      · replace hf := gi_t hc_2 hf
        exact hk Pr_next hf
      · replace hf := gi_f hc_2 hf
        refine g_aload_n F dX5_readToken_128 rfl ?_
        refine g_get (C := RX5) (T := TX5) (N := 11) F 0 0 3 rfl rfl rfl iX5_readToken_X5 (by decide) (by decide +kernel) rfl dX5_readToken_129 ?_
        refine g_aload_n F dX5_readToken_132 rfl ?_
        refine g_get (C := RX5) (T := TX5) (N := 11) F 0 0 5 rfl rfl rfl iX5_readToken_X5 (by decide) (by decide +kernel) rfl dX5_readToken_133 ?_
        obtain ⟨hb_1, hf⟩ := gb_in hf
        refine g_bald F 1 0 (Pr_next.toNatClampNeg) rfl rfl rfl hb_1 dX5_readToken_136 ?_
        obtain ⟨r_1, hg_1, hf⟩ := gb1_el hf
        refine g_callS (Lr := [sPar E aPr aB aC atext Pr_errorAt Pr_length Pr_next Pr_errorCode Pr_kind Pr_tokenAt Pr_letters Pr_number, sArrB E atext 600 text]) (As := [.int (text (Pr_next.toNatClampNeg))]) (rest := []) F 1 (ctX5_kindOf l E (text (Pr_next.toNatClampNeg)) r_1 hg_1) (va_cwS 1 F.2.2.2.2.2.1 gX5_readToken_X5_kindOf rfl rfl rfl h0X5_kindOf ⟨Nat.le_of_ble_eq_true rfl, Nat.le_of_ble_eq_true rfl⟩) [] [0, 1] rfl rfl rfl rfl rfl rfl (Nat.le_of_ble_eq_true rfl) dX5_readToken_137 ⟨(Nat.le_of_ble_eq_true rfl), (Nat.le_of_ble_eq_true rfl)⟩ ?_
        rintro v w ⟨rfl, rfl⟩
        refine g_norm (Lw' := [sPar E aPr aB aC atext Pr_errorAt Pr_length Pr_next Pr_errorCode Pr_kind Pr_tokenAt Pr_letters Pr_number, sArrB E atext 600 text]) (st' := [.int r_1]) (pc' := 140) [0, 1] rfl rfl rfl rfl ?_
        refine g_aload_n F dX5_readToken_140 rfl ?_
        refine g_get (C := RX5) (T := TX5) (N := 11) F 0 0 7 rfl rfl rfl iX5_readToken_X5 (by decide) (by decide +kernel) rfl dX5_readToken_141 ?_
        refine g_icmp_ne F 160 dX5_readToken_144 (by decide) (fun hc_1 => ?_) (fun hc_1 => ?_)
        · replace hf := gi_f hc_1 hf
          exact hk Pr_next hf
        · replace hf := gi_t hc_1 hf
          refine g_aload_n F dX5_readToken_147 rfl ?_
          refine g_dup F dX5_readToken_148 rfl ?_
          refine g_get (C := RX5) (T := TX5) (N := 11) F 0 0 5 rfl rfl rfl iX5_readToken_X5 (by decide) (by decide +kernel) rfl dX5_readToken_149 ?_
          refine g_iconst F 1 dX5_readToken_152 rfl ?_
          refine g_iadd F dX5_readToken_153 ?_
          refine g_put (C := RX5) (T := TX5) (N := 11) (tys := tyX5) (Lw' := [sPar E aPr aB aC atext Pr_errorAt Pr_length (Pr_next + 1) Pr_errorCode Pr_kind Pr_tokenAt Pr_letters Pr_number, sArrB E atext 600 text]) F 0 0 5 rfl rfl rfl iX5_readToken_X5 tyX5_ok nmX5 (by decide) (by decide +kernel) rfl rfl rfl rfl (Nat.le_of_ble_eq_true rfl) dX5_readToken_154 rfl ?_
          refine g_goto F 113 dX5_readToken_157 (by decide) ?_
          exact ih (Pr_next + 1) hf
set_option maxHeartbeats 4000000 in
set_option maxRecDepth 100000 in
theorem ctX5_readToken (l : Launch) (E : gE) (aPr aB aC atext : Nat → Nat) (Pr_errorAt : Int32) (Pr_length : Int32) (Pr_next : Int32) (Pr_errorCode : Int32) (Pr_kind : Int32) (Pr_tokenAt : Int32) (Pr_letters : Int64) (Pr_number : Int32) (text : (Nat → Int32)) (Pr_next' : Int32) (Pr_kind' : Int32) (Pr_tokenAt' : Int32) (Pr_letters' : Int64) (Pr_number' : Int32) (hf : fX5_readToken Pr_length Pr_next Pr_kind Pr_tokenAt Pr_letters Pr_number text = some (Pr_next', Pr_kind', Pr_tokenAt', Pr_letters', Pr_number')) : gMet l yX5_readToken wsX5_readToken rmX5_readToken vwCl E [.ref (aPr 0)] [sPar E aPr aB aC atext Pr_errorAt Pr_length Pr_next Pr_errorCode Pr_kind Pr_tokenAt Pr_letters Pr_number, sArrB E atext 600 text] (fun v w => v = none ∧ w = [sPar E aPr aB aC atext Pr_errorAt Pr_length Pr_next' Pr_errorCode Pr_kind' Pr_tokenAt' Pr_letters' Pr_number', sArrB E atext 600 text]) 0 0 := by
  refine g_entry [some (.ref (aPr 0)), none] (by decide) rfl (Nat.le_of_ble_eq_true rfl) rfl ?_
  intro p e s m below meth c A F hnm
  unfold fX5_readToken at hf
  refine ktX5_readToken_L0 F aPr aB aC atext Pr_length text Pr_errorAt Pr_errorCode Pr_kind Pr_tokenAt Pr_letters Pr_number Pr_next' Pr_kind' Pr_tokenAt' Pr_letters' Pr_number' (fun Pr_next_1 hf => ?_) FU Pr_next hf
  refine g_aload_n F dX5_readToken_40 rfl ?_
  refine g_aload_n F dX5_readToken_41 rfl ?_
  refine g_get (C := RX5) (T := TX5) (N := 11) F 0 0 5 rfl rfl rfl iX5_readToken_X5 (by decide) (by decide +kernel) rfl dX5_readToken_42 ?_
  refine g_put (C := RX5) (T := TX5) (N := 11) (tys := tyX5) (Lw' := [sPar E aPr aB aC atext Pr_errorAt Pr_length Pr_next_1 Pr_errorCode Pr_kind Pr_next_1 Pr_letters Pr_number, sArrB E atext 600 text]) F 0 0 8 rfl rfl rfl iX5_readToken_X5 tyX5_ok nmX5 (by decide) (by decide +kernel) rfl rfl rfl rfl (Nat.le_of_ble_eq_true rfl) dX5_readToken_45 rfl ?_
  refine g_aload_n F dX5_readToken_48 rfl ?_
  refine g_get (C := RX5) (T := TX5) (N := 11) F 0 0 5 rfl rfl rfl iX5_readToken_X5 (by decide) (by decide +kernel) rfl dX5_readToken_49 ?_
  refine g_aload_n F dX5_readToken_52 rfl ?_
  refine g_get (C := RX5) (T := TX5) (N := 11) F 0 0 4 rfl rfl rfl iX5_readToken_X5 (by decide) (by decide +kernel) rfl dX5_readToken_53 ?_
  refine g_icmp_lt F 65 dX5_readToken_56 (by decide) (fun hc_8 => ?_) (fun hc_8 => ?_)
  · replace hf := gi_t hc_8 hf
    refine g_aload_n F dX5_readToken_65 rfl ?_
    refine g_aload_n F dX5_readToken_66 rfl ?_
    refine g_get (C := RX5) (T := TX5) (N := 11) F 0 0 3 rfl rfl rfl iX5_readToken_X5 (by decide) (by decide +kernel) rfl dX5_readToken_67 ?_
    refine g_aload_n F dX5_readToken_70 rfl ?_
    refine g_get (C := RX5) (T := TX5) (N := 11) F 0 0 5 rfl rfl rfl iX5_readToken_X5 (by decide) (by decide +kernel) rfl dX5_readToken_71 ?_
    obtain ⟨hb_1, hf⟩ := gb_in hf
    refine g_bald F 1 0 (Pr_next_1.toNatClampNeg) rfl rfl rfl hb_1 dX5_readToken_74 ?_
    obtain ⟨r_1, hg_1, hf⟩ := gb1_el hf
    refine g_callS (Lr := [sPar E aPr aB aC atext Pr_errorAt Pr_length Pr_next_1 Pr_errorCode Pr_kind Pr_next_1 Pr_letters Pr_number, sArrB E atext 600 text]) (As := [.int (text (Pr_next_1.toNatClampNeg))]) (rest := [.ref (aPr 0)]) F 1 (ctX5_kindOf l E (text (Pr_next_1.toNatClampNeg)) r_1 hg_1) (va_cwS 1 F.2.2.2.2.2.1 gX5_readToken_X5_kindOf rfl rfl rfl h0X5_kindOf ⟨Nat.le_of_ble_eq_true rfl, Nat.le_of_ble_eq_true rfl⟩) [] [0, 1] rfl rfl rfl rfl rfl rfl (Nat.le_of_ble_eq_true rfl) dX5_readToken_75 ⟨(Nat.le_of_ble_eq_true rfl), (Nat.le_of_ble_eq_true rfl)⟩ ?_
    rintro v w ⟨rfl, rfl⟩
    refine g_norm (Lw' := [sPar E aPr aB aC atext Pr_errorAt Pr_length Pr_next_1 Pr_errorCode Pr_kind Pr_next_1 Pr_letters Pr_number, sArrB E atext 600 text]) (st' := [.int r_1, .ref (aPr 0)]) (pc' := 78) [0, 1] rfl rfl rfl rfl ?_
    refine g_put (C := RX5) (T := TX5) (N := 11) (tys := tyX5) (Lw' := [sPar E aPr aB aC atext Pr_errorAt Pr_length Pr_next_1 Pr_errorCode r_1 Pr_next_1 Pr_letters Pr_number, sArrB E atext 600 text]) F 0 0 7 rfl rfl rfl iX5_readToken_X5 tyX5_ok nmX5 (by decide) (by decide +kernel) rfl rfl rfl rfl (Nat.le_of_ble_eq_true rfl) dX5_readToken_78 rfl ?_
    refine g_aload_n F dX5_readToken_81 rfl ?_
    refine g_dup F dX5_readToken_82 rfl ?_
    refine g_get (C := RX5) (T := TX5) (N := 11) F 0 0 5 rfl rfl rfl iX5_readToken_X5 (by decide) (by decide +kernel) rfl dX5_readToken_83 ?_
    refine g_iconst F 1 dX5_readToken_86 rfl ?_
    refine g_iadd F dX5_readToken_87 ?_
    refine g_put (C := RX5) (T := TX5) (N := 11) (tys := tyX5) (Lw' := [sPar E aPr aB aC atext Pr_errorAt Pr_length (Pr_next_1 + 1) Pr_errorCode r_1 Pr_next_1 Pr_letters Pr_number, sArrB E atext 600 text]) F 0 0 5 rfl rfl rfl iX5_readToken_X5 tyX5_ok nmX5 (by decide) (by decide +kernel) rfl rfl rfl rfl (Nat.le_of_ble_eq_true rfl) dX5_readToken_88 rfl ?_
    refine g_aload_n F dX5_readToken_91 rfl ?_
    refine g_get (C := RX5) (T := TX5) (N := 11) F 0 0 7 rfl rfl rfl iX5_readToken_X5 (by decide) (by decide +kernel) rfl dX5_readToken_92 ?_
    refine g_iconst F 3 dX5_readToken_95 rfl ?_
    obtain ⟨j_1, hj_1, hf⟩ := Lt_el hf
    have hj_1 : ∀ (t0_1 : Int32), j_1 t0_1 = some (Pr_next', Pr_kind', Pr_tokenAt', Pr_letters', Pr_number') → Gj p l e rmX5_readToken s m ([.ref (aPr 0)] : List Value).toArray below meth c 0 0 (MQ below (gQ vwCl E A (fun v w => v = none ∧ w = [sPar E aPr aB aC atext Pr_errorAt Pr_length Pr_next' Pr_errorCode Pr_kind' Pr_tokenAt' Pr_letters' Pr_number', sArrB E atext 600 text])) ([.ref (aPr 0)] : List Value).toArray s 0 0 A) vwCl E A [sPar E aPr aB aC atext Pr_errorAt Pr_length (Pr_next_1 + 1) Pr_errorCode r_1 Pr_next_1 Pr_letters Pr_number, sArrB E atext 600 text] [some (.ref (aPr 0)), none] [.int t0_1] 112 := by
      intro t0_1 hf
      rw [hj_1] at hf
      refine g_istore_n (lv' := [some (.ref (aPr 0)), some (.int t0_1)]) F dX5_readToken_112 (Nat.le_of_ble_eq_true rfl) rfl rfl ?_
      refine ktX5_readToken_L113 F aPr aB aC atext t0_1 Pr_length r_1 text Pr_errorAt Pr_errorCode Pr_next_1 Pr_letters Pr_number Pr_next' Pr_kind' Pr_tokenAt' Pr_letters' Pr_number' (fun Pr_next_2 hf => ?_) FU (Pr_next_1 + 1) hf
      refine g_iload_n F dX5_readToken_160 rfl ?_
      obtain ⟨j_2, hj_2, hf⟩ := Lt_el hf
      have hj_2 : ∀ (Pr_kind_1 : Int32), j_2 Pr_kind_1 = some (Pr_next', Pr_kind', Pr_tokenAt', Pr_letters', Pr_number') → Gj p l e rmX5_readToken s m ([.ref (aPr 0)] : List Value).toArray below meth c 0 0 (MQ below (gQ vwCl E A (fun v w => v = none ∧ w = [sPar E aPr aB aC atext Pr_errorAt Pr_length Pr_next' Pr_errorCode Pr_kind' Pr_tokenAt' Pr_letters' Pr_number', sArrB E atext 600 text])) ([.ref (aPr 0)] : List Value).toArray s 0 0 A) vwCl E A [sPar E aPr aB aC atext Pr_errorAt Pr_length Pr_next_2 Pr_errorCode Pr_kind_1 Pr_next_1 Pr_letters Pr_number, sArrB E atext 600 text] [some (.ref (aPr 0)), none] [] 195 := by
        intro Pr_kind_1 hf
        rw [hj_2] at hf
        refine g_aload_n F dX5_readToken_195 rfl ?_
        refine g_get (C := RX5) (T := TX5) (N := 11) F 0 0 7 rfl rfl rfl iX5_readToken_X5 (by decide) (by decide +kernel) rfl dX5_readToken_196 ?_
        refine g_iconst F 3 dX5_readToken_199 rfl ?_
        refine g_icmp_ne F 225 dX5_readToken_200 (by decide) (fun hc_2 => ?_) (fun hc_2 => ?_)
        · replace hf := gi_f hc_2 hf
          refine g_aload_n F dX5_readToken_225 rfl ?_
          refine g_get (C := RX5) (T := TX5) (N := 11) F 0 0 7 rfl rfl rfl iX5_readToken_X5 (by decide) (by decide +kernel) rfl dX5_readToken_226 ?_
          refine g_iconst F 4 dX5_readToken_229 rfl ?_
          refine g_icmp_ne F 249 dX5_readToken_230 (by decide) (fun hc_1 => ?_) (fun hc_1 => ?_)
          · replace hf := gi_f hc_1 hf
            cases hf
            exact g_vret F rfl ⟨rfl, rfl⟩ dX5_readToken_249
          · replace hf := gi_t hc_1 hf
            refine g_aload_n F dX5_readToken_233 rfl ?_
            refine g_aload_n F dX5_readToken_234 rfl ?_
            refine g_aload_n F dX5_readToken_235 rfl ?_
            refine g_get (C := RX5) (T := TX5) (N := 11) F 0 0 8 rfl rfl rfl iX5_readToken_X5 (by decide) (by decide +kernel) rfl dX5_readToken_236 ?_
            refine g_aload_n F dX5_readToken_239 rfl ?_
            refine g_get (C := RX5) (T := TX5) (N := 11) F 0 0 5 rfl rfl rfl iX5_readToken_X5 (by decide) (by decide +kernel) rfl dX5_readToken_240 ?_
            obtain ⟨r_3, hg_3, hf⟩ := gb1_el hf
            refine g_callV (C := RX5) (T := TX5) (N := 11) (Lr := []) (As := [.int Pr_next_1, .int Pr_next_2]) (rest := [.ref (aPr 0)]) F 0 0 2 (ctX5_valueOf l E aPr aB aC atext Pr_next_1 Pr_next_2 Pr_errorAt Pr_length Pr_next_2 Pr_errorCode Pr_kind_1 Pr_next_1 Pr_letters Pr_number text r_3 hg_3) gX5_readToken_X5_valueOf rfl rfl rfl h0X5_valueOf ⟨Nat.le_of_ble_eq_true rfl, Nat.le_of_ble_eq_true rfl⟩ rfl rfl rfl [0, 1] [] rfl rfl rfl rfl rfl rfl (Nat.le_of_ble_eq_true rfl) dX5_readToken_243 ⟨(Nat.le_of_ble_eq_true rfl), (Nat.le_of_ble_eq_true rfl)⟩ ?_
            rintro v w ⟨rfl, rfl⟩
            refine g_norm (Lw' := [sPar E aPr aB aC atext Pr_errorAt Pr_length Pr_next_2 Pr_errorCode Pr_kind_1 Pr_next_1 Pr_letters Pr_number, sArrB E atext 600 text]) (st' := [.int r_3, .ref (aPr 0)]) (pc' := 246) [0, 1] rfl rfl rfl rfl ?_
            refine g_put (C := RX5) (T := TX5) (N := 11) (tys := tyX5) (Lw' := [sPar E aPr aB aC atext Pr_errorAt Pr_length Pr_next_2 Pr_errorCode Pr_kind_1 Pr_next_1 Pr_letters r_3, sArrB E atext 600 text]) F 0 0 10 rfl rfl rfl iX5_readToken_X5 tyX5_ok nmX5 (by decide) (by decide +kernel) rfl rfl rfl rfl (Nat.le_of_ble_eq_true rfl) dX5_readToken_246 rfl ?_
            cases hf
            exact g_vret F rfl ⟨rfl, rfl⟩ dX5_readToken_249
        · replace hf := gi_t hc_2 hf
          refine g_aload_n F dX5_readToken_203 rfl ?_
          refine g_aload_n F dX5_readToken_204 rfl ?_
          refine g_get (C := RX5) (T := TX5) (N := 11) F 0 0 3 rfl rfl rfl iX5_readToken_X5 (by decide) (by decide +kernel) rfl dX5_readToken_205 ?_
          refine g_aload_n F dX5_readToken_208 rfl ?_
          refine g_get (C := RX5) (T := TX5) (N := 11) F 0 0 8 rfl rfl rfl iX5_readToken_X5 (by decide) (by decide +kernel) rfl dX5_readToken_209 ?_
          refine g_aload_n F dX5_readToken_212 rfl ?_
          refine g_get (C := RX5) (T := TX5) (N := 11) F 0 0 5 rfl rfl rfl iX5_readToken_X5 (by decide) (by decide +kernel) rfl dX5_readToken_213 ?_
          obtain ⟨r_2, hg_2, hf⟩ := gb1_el hf
          refine g_callS (Lr := [sPar E aPr aB aC atext Pr_errorAt Pr_length Pr_next_2 Pr_errorCode Pr_kind_1 Pr_next_1 Pr_letters Pr_number]) (As := [.ref (atext 0), .int Pr_next_1, .int Pr_next_2]) (rest := [.ref (aPr 0)]) F 3 (ctX4_read l E atext 600 Pr_next_1 Pr_next_2 text r_2 hg_2) (va_cwS 3 F.2.2.2.2.2.1 gX5_readToken_X4_read rfl rfl rfl h0X4_read ⟨Nat.le_of_ble_eq_true rfl, Nat.le_of_ble_eq_true rfl⟩) [1] [0] rfl rfl rfl rfl rfl rfl (Nat.le_of_ble_eq_true rfl) dX5_readToken_216 ⟨(Nat.le_of_ble_eq_true rfl), (Nat.le_of_ble_eq_true rfl)⟩ ?_
          rintro v w ⟨rfl, rfl⟩
          refine g_norm (Lw' := [sPar E aPr aB aC atext Pr_errorAt Pr_length Pr_next_2 Pr_errorCode Pr_kind_1 Pr_next_1 Pr_letters Pr_number, sArrB E atext 600 text]) (st' := [.long r_2, .ref (aPr 0)]) (pc' := 219) [1, 0] rfl rfl rfl rfl ?_
          refine g_put (C := RX5) (T := TX5) (N := 11) (tys := tyX5) (Lw' := [sPar E aPr aB aC atext Pr_errorAt Pr_length Pr_next_2 Pr_errorCode Pr_kind_1 Pr_next_1 r_2 Pr_number, sArrB E atext 600 text]) F 0 0 9 rfl rfl rfl iX5_readToken_X5 tyX5_ok nmX5 (by decide) (by decide +kernel) rfl rfl rfl rfl (Nat.le_of_ble_eq_true rfl) dX5_readToken_219 rfl ?_
          refine g_goto F 249 dX5_readToken_222 (by decide) ?_
          cases hf
          exact g_vret F rfl ⟨rfl, rfl⟩ dX5_readToken_249
      refine g_ifeq F 195 dX5_readToken_161 (by decide) (fun hc_5 => ?_) (fun hc_5 => ?_)
      · replace hf := gi_t hc_5 hf
        refine g_mask [true, false] rfl ?_
        exact hj_2 r_1 hf
      · replace hf := gi_f hc_5 hf
        refine g_aload_n F dX5_readToken_164 rfl ?_
        refine g_get (C := RX5) (T := TX5) (N := 11) F 0 0 5 rfl rfl rfl iX5_readToken_X5 (by decide) (by decide +kernel) rfl dX5_readToken_165 ?_
        refine g_aload_n F dX5_readToken_168 rfl ?_
        refine g_get (C := RX5) (T := TX5) (N := 11) F 0 0 8 rfl rfl rfl iX5_readToken_X5 (by decide) (by decide +kernel) rfl dX5_readToken_169 ?_
        refine g_isub F dX5_readToken_172 ?_
        refine g_aload_n F dX5_readToken_173 rfl ?_
        refine g_get (C := RX5) (T := TX5) (N := 11) F 0 0 7 rfl rfl rfl iX5_readToken_X5 (by decide) (by decide +kernel) rfl dX5_readToken_174 ?_
        refine g_iconst F 3 dX5_readToken_177 rfl ?_
        obtain ⟨j_3, hj_3, hf⟩ := Lt_el hf
        have hj_3 : ∀ (t0_2 : Int32), j_3 t0_2 = some (Pr_next', Pr_kind', Pr_tokenAt', Pr_letters', Pr_number') → Gj p l e rmX5_readToken s m ([.ref (aPr 0)] : List Value).toArray below meth c 0 0 (MQ below (gQ vwCl E A (fun v w => v = none ∧ w = [sPar E aPr aB aC atext Pr_errorAt Pr_length Pr_next' Pr_errorCode Pr_kind' Pr_tokenAt' Pr_letters' Pr_number', sArrB E atext 600 text])) ([.ref (aPr 0)] : List Value).toArray s 0 0 A) vwCl E A [sPar E aPr aB aC atext Pr_errorAt Pr_length Pr_next_2 Pr_errorCode r_1 Pr_next_1 Pr_letters Pr_number, sArrB E atext 600 text] [some (.ref (aPr 0)), none] [.int t0_2, .int (Pr_next_2 - Pr_next_1)] 187 := by
          intro t0_2 hf
          rw [hj_3] at hf
          refine g_icmp_le F 195 dX5_readToken_187 (by decide) (fun hc_3 => ?_) (fun hc_3 => ?_)
          · replace hf := gi_t hc_3 hf
            exact hj_2 r_1 hf
          · replace hf := gi_f hc_3 hf
            refine g_aload_n F dX5_readToken_190 rfl ?_
            refine g_iconst F 2 dX5_readToken_191 rfl ?_
            refine g_put (C := RX5) (T := TX5) (N := 11) (tys := tyX5) (Lw' := [sPar E aPr aB aC atext Pr_errorAt Pr_length Pr_next_2 Pr_errorCode 2 Pr_next_1 Pr_letters Pr_number, sArrB E atext 600 text]) F 0 0 7 rfl rfl rfl iX5_readToken_X5 tyX5_ok nmX5 (by decide) (by decide +kernel) rfl rfl rfl rfl (Nat.le_of_ble_eq_true rfl) dX5_readToken_192 rfl ?_
            exact hj_2 2 hf
        refine g_icmp_ne F 186 dX5_readToken_178 (by decide) (fun hc_4 => ?_) (fun hc_4 => ?_)
        · replace hf := gi_f hc_4 hf
          refine g_iconst F 4 dX5_readToken_186 rfl ?_
          refine g_mask [true, false] rfl ?_
          exact hj_3 4 hf
        · replace hf := gi_t hc_4 hf
          refine g_bipush F 12 dX5_readToken_181 rfl ?_
          refine g_goto F 187 dX5_readToken_183 (by decide) ?_
          refine g_mask [true, false] rfl ?_
          exact hj_3 12 hf
    obtain ⟨j_4, hj_4, hf⟩ := Lt_el hf
    have hj_4 : j_4 = some (Pr_next', Pr_kind', Pr_tokenAt', Pr_letters', Pr_number') → Gj p l e rmX5_readToken s m ([.ref (aPr 0)] : List Value).toArray below meth c 0 0 (MQ below (gQ vwCl E A (fun v w => v = none ∧ w = [sPar E aPr aB aC atext Pr_errorAt Pr_length Pr_next' Pr_errorCode Pr_kind' Pr_tokenAt' Pr_letters' Pr_number', sArrB E atext 600 text])) ([.ref (aPr 0)] : List Value).toArray s 0 0 A) vwCl E A [sPar E aPr aB aC atext Pr_errorAt Pr_length (Pr_next_1 + 1) Pr_errorCode r_1 Pr_next_1 Pr_letters Pr_number, sArrB E atext 600 text] [some (.ref (aPr 0)), none] [] 107 := by
      intro hf
      rw [hj_4] at hf
      refine g_iconst F 1 dX5_readToken_107 rfl ?_
      refine g_goto F 112 dX5_readToken_108 (by decide) ?_
      exact hj_1 1 hf
    refine g_icmp_eq F 107 dX5_readToken_96 (by decide) (fun hc_7 => ?_) (fun hc_7 => ?_)
    · replace hf := gi_t hc_7 hf
      exact hj_4 hf
    · replace hf := gi_f hc_7 hf
      refine g_aload_n F dX5_readToken_99 rfl ?_
      refine g_get (C := RX5) (T := TX5) (N := 11) F 0 0 7 rfl rfl rfl iX5_readToken_X5 (by decide) (by decide +kernel) rfl dX5_readToken_100 ?_
      refine g_iconst F 4 dX5_readToken_103 rfl ?_
      refine g_icmp_ne F 111 dX5_readToken_104 (by decide) (fun hc_6 => ?_) (fun hc_6 => ?_)
      · replace hf := gi_f hc_6 hf
        refine g_iconst F 0 dX5_readToken_111 rfl ?_
        exact hj_1 0 hf
      · replace hf := gi_t hc_6 hf
        exact hj_4 hf
  · replace hf := gi_f hc_8 hf
    refine g_aload_n F dX5_readToken_59 rfl ?_
    refine g_iconst F 0 dX5_readToken_60 rfl ?_
    refine g_put (C := RX5) (T := TX5) (N := 11) (tys := tyX5) (Lw' := [sPar E aPr aB aC atext Pr_errorAt Pr_length Pr_next_1 Pr_errorCode 0 Pr_next_1 Pr_letters Pr_number, sArrB E atext 600 text]) F 0 0 7 rfl rfl rfl iX5_readToken_X5 tyX5_ok nmX5 (by decide) (by decide +kernel) rfl rfl rfl rfl (Nat.le_of_ble_eq_true rfl) dX5_readToken_61 rfl ?_
    cases hf
    exact g_vret F rfl ⟨rfl, rfl⟩ dX5_readToken_64
set_option maxHeartbeats 4000000 in
set_option maxRecDepth 100000 in
theorem ctX5_fail (l : Launch) (E : gE) (aPr aB aC atext : Nat → Nat) (x1 : Int32) (Pr_errorAt : Int32) (Pr_length : Int32) (Pr_next : Int32) (Pr_errorCode : Int32) (Pr_kind : Int32) (Pr_tokenAt : Int32) (Pr_letters : Int64) (Pr_number : Int32) (r : Int32) (Pr_errorAt' : Int32) (Pr_errorCode' : Int32) (hf : fX5_fail x1 Pr_errorAt Pr_errorCode Pr_tokenAt = some (r, Pr_errorAt', Pr_errorCode')) : gMet l yX5_fail wsX5_fail rmX5_fail vwCl E [.ref (aPr 0), .int x1] [sPar E aPr aB aC atext Pr_errorAt Pr_length Pr_next Pr_errorCode Pr_kind Pr_tokenAt Pr_letters Pr_number] (fun v w => v = some (.int r) ∧ w = [sPar E aPr aB aC atext Pr_errorAt' Pr_length Pr_next Pr_errorCode' Pr_kind Pr_tokenAt Pr_letters Pr_number] ∧ narrow .boolean (.int r) = .int r) 0 0 := by
  refine g_entry [some (.ref (aPr 0)), some (.int x1)] (by decide) rfl (Nat.le_of_ble_eq_true rfl) rfl ?_
  intro p e s m below meth c A F hnm
  unfold fX5_fail at hf
  refine g_aload_n F dX5_fail_0 rfl ?_
  refine g_iload_n F dX5_fail_1 rfl ?_
  refine g_put (C := RX5) (T := TX5) (N := 11) (tys := tyX5) (Lw' := [sPar E aPr aB aC atext Pr_errorAt Pr_length Pr_next x1 Pr_kind Pr_tokenAt Pr_letters Pr_number]) F 0 0 6 rfl rfl rfl iX5_fail_X5 tyX5_ok nmX5 (by decide) (by decide +kernel) rfl rfl rfl rfl (Nat.le_of_ble_eq_true rfl) dX5_fail_2 rfl ?_
  refine g_aload_n F dX5_fail_5 rfl ?_
  refine g_aload_n F dX5_fail_6 rfl ?_
  refine g_get (C := RX5) (T := TX5) (N := 11) F 0 0 8 rfl rfl rfl iX5_fail_X5 (by decide) (by decide +kernel) rfl dX5_fail_7 ?_
  refine g_put (C := RX5) (T := TX5) (N := 11) (tys := tyX5) (Lw' := [sPar E aPr aB aC atext Pr_tokenAt Pr_length Pr_next x1 Pr_kind Pr_tokenAt Pr_letters Pr_number]) F 0 0 1 rfl rfl rfl iX5_fail_X5 tyX5_ok nmX5 (by decide) (by decide +kernel) rfl rfl rfl rfl (Nat.le_of_ble_eq_true rfl) dX5_fail_10 rfl ?_
  refine g_iconst F 0 dX5_fail_13 rfl ?_
  cases hf
  exact g_zret (ty := .boolean) F rfl rfl ⟨rfl, rfl, rfl⟩ dX5_fail_14
set_option maxHeartbeats 4000000 in
set_option maxRecDepth 100000 in
theorem ctX5_readNumber (l : Launch) (E : gE) (aPr aB aC atext : Nat → Nat) (x1 : Int32) (x2 : Int32) (Pr_errorAt : Int32) (Pr_length : Int32) (Pr_next : Int32) (Pr_errorCode : Int32) (Pr_kind : Int32) (Pr_tokenAt : Int32) (Pr_letters : Int64) (Pr_number : Int32) (text : (Nat → Int32)) (r : Int32) (Pr_errorAt' : Int32) (Pr_next' : Int32) (Pr_errorCode' : Int32) (Pr_kind' : Int32) (Pr_tokenAt' : Int32) (Pr_letters' : Int64) (Pr_number' : Int32) (hf : fX5_readNumber x1 x2 Pr_errorAt Pr_length Pr_next Pr_errorCode Pr_kind Pr_tokenAt Pr_letters Pr_number text = some (r, Pr_errorAt', Pr_next', Pr_errorCode', Pr_kind', Pr_tokenAt', Pr_letters', Pr_number')) : gMet l yX5_readNumber wsX5_readNumber rmX5_readNumber vwCl E [.ref (aPr 0), .int x1, .int x2] [sPar E aPr aB aC atext Pr_errorAt Pr_length Pr_next Pr_errorCode Pr_kind Pr_tokenAt Pr_letters Pr_number, sArrB E atext 600 text] (fun v w => v = some (.int r) ∧ w = [sPar E aPr aB aC atext Pr_errorAt' Pr_length Pr_next' Pr_errorCode' Pr_kind' Pr_tokenAt' Pr_letters' Pr_number', sArrB E atext 600 text] ∧ narrow .boolean (.int r) = .int r) 0 0 := by
  refine g_entry [some (.ref (aPr 0)), some (.int x1), some (.int x2)] (by decide) rfl (Nat.le_of_ble_eq_true rfl) rfl ?_
  intro p e s m below meth c A F hnm
  unfold fX5_readNumber at hf
  refine g_aload_n F dX5_readNumber_0 rfl ?_
  obtain ⟨Pr_next_1, Pr_kind_1, Pr_tokenAt_1, Pr_letters_1, Pr_number_1, hg_1, hf⟩ := gb5_el hf
  refine g_callV (C := RX5) (T := TX5) (N := 11) (Lr := []) (As := []) (rest := []) F 0 0 0 (ctX5_readToken l E aPr aB aC atext Pr_errorAt Pr_length Pr_next Pr_errorCode Pr_kind Pr_tokenAt Pr_letters Pr_number text Pr_next_1 Pr_kind_1 Pr_tokenAt_1 Pr_letters_1 Pr_number_1 hg_1) gX5_readNumber_X5_readToken rfl rfl rfl h0X5_readToken ⟨Nat.le_of_ble_eq_true rfl, Nat.le_of_ble_eq_true rfl⟩ rfl rfl rfl [0, 1] [] rfl rfl rfl rfl rfl rfl (Nat.le_of_ble_eq_true rfl) dX5_readNumber_1 ⟨(Nat.le_of_ble_eq_true rfl), (Nat.le_of_ble_eq_true rfl)⟩ ?_
  rintro v w ⟨rfl, rfl⟩
  refine g_norm (Lw' := [sPar E aPr aB aC atext Pr_errorAt Pr_length Pr_next_1 Pr_errorCode Pr_kind_1 Pr_tokenAt_1 Pr_letters_1 Pr_number_1, sArrB E atext 600 text]) (st' := []) (pc' := 4) [0, 1] rfl rfl rfl rfl ?_
  refine g_aload_n F dX5_readNumber_4 rfl ?_
  refine g_get (C := RX5) (T := TX5) (N := 11) F 0 0 7 rfl rfl rfl iX5_readNumber_X5 (by decide) (by decide +kernel) rfl dX5_readNumber_5 ?_
  refine g_iconst F 4 dX5_readNumber_8 rfl ?_
  refine g_icmp_eq F 18 dX5_readNumber_9 (by decide) (fun hc_4 => ?_) (fun hc_4 => ?_)
  · replace hf := gi_t hc_4 hf
    refine g_aload_n F dX5_readNumber_18 rfl ?_
    refine g_get (C := RX5) (T := TX5) (N := 11) F 0 0 10 rfl rfl rfl iX5_readNumber_X5 (by decide) (by decide +kernel) rfl dX5_readNumber_19 ?_
    refine g_iload_n F dX5_readNumber_22 rfl ?_
    obtain ⟨j_1, hj_1, hf⟩ := Lt_el hf
    have hj_1 : j_1 = some (r, Pr_errorAt', Pr_next', Pr_errorCode', Pr_kind', Pr_tokenAt', Pr_letters', Pr_number') → Gj p l e rmX5_readNumber s m ([.ref (aPr 0), .int x1, .int x2] : List Value).toArray below meth c 0 0 (MQ below (gQ vwCl E A (fun v w => v = some (.int r) ∧ w = [sPar E aPr aB aC atext Pr_errorAt' Pr_length Pr_next' Pr_errorCode' Pr_kind' Pr_tokenAt' Pr_letters' Pr_number', sArrB E atext 600 text] ∧ narrow .boolean (.int r) = .int r)) ([.ref (aPr 0), .int x1, .int x2] : List Value).toArray s 0 0 A) vwCl E A [sPar E aPr aB aC atext Pr_errorAt Pr_length Pr_next_1 Pr_errorCode Pr_kind_1 Pr_tokenAt_1 Pr_letters_1 Pr_number_1, sArrB E atext 600 text] [some (.ref (aPr 0)), none, none] [] 34 := by
      intro hf
      rw [hj_1] at hf
      refine g_aload_n F dX5_readNumber_34 rfl ?_
      refine g_iconst F 3 dX5_readNumber_35 rfl ?_
      obtain ⟨r_1, Pr_errorAt_1, Pr_errorCode_1, hg_2, hf⟩ := gb3_el hf
      refine g_callV (C := RX5) (T := TX5) (N := 11) (Lr := [sArrB E atext 600 text]) (As := [.int 3]) (rest := []) F 0 0 1 (ctX5_fail l E aPr aB aC atext 3 Pr_errorAt Pr_length Pr_next_1 Pr_errorCode Pr_kind_1 Pr_tokenAt_1 Pr_letters_1 Pr_number_1 r_1 Pr_errorAt_1 Pr_errorCode_1 hg_2) gX5_readNumber_X5_fail rfl rfl rfl h0X5_fail ⟨Nat.le_of_ble_eq_true rfl, Nat.le_of_ble_eq_true rfl⟩ rfl rfl rfl [0] [1] rfl rfl rfl rfl rfl rfl (Nat.le_of_ble_eq_true rfl) dX5_readNumber_36 ⟨(Nat.le_of_ble_eq_true rfl), (Nat.le_of_ble_eq_true rfl)⟩ ?_
      rintro v w ⟨rfl, rfl, hz_1⟩
      refine g_norm (Lw' := [sPar E aPr aB aC atext Pr_errorAt_1 Pr_length Pr_next_1 Pr_errorCode_1 Pr_kind_1 Pr_tokenAt_1 Pr_letters_1 Pr_number_1, sArrB E atext 600 text]) (st' := [.int r_1]) (pc' := 39) [0, 1] rfl rfl rfl rfl ?_
      refine g_ifeq F 46 dX5_readNumber_39 (by decide) (fun hc_1 => ?_) (fun hc_1 => ?_)
      · replace hf := gi_t hc_1 hf
        refine g_iconst F 0 dX5_readNumber_46 rfl ?_
        cases hf
        exact g_zret (ty := .boolean) F rfl rfl ⟨rfl, rfl, rfl⟩ dX5_readNumber_47
      · replace hf := gi_f hc_1 hf
        refine g_iconst F 1 dX5_readNumber_42 rfl ?_
        refine g_goto F 47 dX5_readNumber_43 (by decide) ?_
        cases hf
        exact g_zret (ty := .boolean) F rfl rfl ⟨rfl, rfl, rfl⟩ dX5_readNumber_47
    refine g_icmp_lt F 34 dX5_readNumber_23 (by decide) (fun hc_3 => ?_) (fun hc_3 => ?_)
    · replace hf := gi_t hc_3 hf
      refine g_mask [true, false, false] rfl ?_
      exact hj_1 hf
    · replace hf := gi_f hc_3 hf
      refine g_aload_n F dX5_readNumber_26 rfl ?_
      refine g_get (C := RX5) (T := TX5) (N := 11) F 0 0 10 rfl rfl rfl iX5_readNumber_X5 (by decide) (by decide +kernel) rfl dX5_readNumber_27 ?_
      refine g_iload_n F dX5_readNumber_30 rfl ?_
      refine g_icmp_le F 42 dX5_readNumber_31 (by decide) (fun hc_2 => ?_) (fun hc_2 => ?_)
      · replace hf := gi_t hc_2 hf
        refine g_iconst F 1 dX5_readNumber_42 rfl ?_
        refine g_goto F 47 dX5_readNumber_43 (by decide) ?_
        cases hf
        exact g_zret (ty := .boolean) F rfl rfl ⟨rfl, rfl, rfl⟩ dX5_readNumber_47
      · replace hf := gi_f hc_2 hf
        refine g_mask [true, false, false] rfl ?_
        exact hj_1 hf
  · replace hf := gi_f hc_4 hf
    refine g_aload_n F dX5_readNumber_12 rfl ?_
    refine g_iconst F 1 dX5_readNumber_13 rfl ?_
    obtain ⟨r_2, Pr_errorAt_2, Pr_errorCode_2, hg_3, hf⟩ := gb3_el hf
    refine g_callV (C := RX5) (T := TX5) (N := 11) (Lr := [sArrB E atext 600 text]) (As := [.int 1]) (rest := []) F 0 0 1 (ctX5_fail l E aPr aB aC atext 1 Pr_errorAt Pr_length Pr_next_1 Pr_errorCode Pr_kind_1 Pr_tokenAt_1 Pr_letters_1 Pr_number_1 r_2 Pr_errorAt_2 Pr_errorCode_2 hg_3) gX5_readNumber_X5_fail rfl rfl rfl h0X5_fail ⟨Nat.le_of_ble_eq_true rfl, Nat.le_of_ble_eq_true rfl⟩ rfl rfl rfl [0] [1] rfl rfl rfl rfl rfl rfl (Nat.le_of_ble_eq_true rfl) dX5_readNumber_14 ⟨(Nat.le_of_ble_eq_true rfl), (Nat.le_of_ble_eq_true rfl)⟩ ?_
    rintro v w ⟨rfl, rfl, hz_2⟩
    refine g_norm (Lw' := [sPar E aPr aB aC atext Pr_errorAt_2 Pr_length Pr_next_1 Pr_errorCode_2 Pr_kind_1 Pr_tokenAt_1 Pr_letters_1 Pr_number_1, sArrB E atext 600 text]) (st' := [.int r_2]) (pc' := 17) [0, 1] rfl rfl rfl rfl ?_
    cases hf
    exact g_zret (ty := .boolean) F rfl hz_2 ⟨rfl, rfl, hz_2⟩ dX5_readNumber_17
set_option maxHeartbeats 4000000 in
set_option maxRecDepth 100000 in
theorem ctX5_readSemicolon (l : Launch) (E : gE) (aPr aB aC atext : Nat → Nat) (Pr_errorAt : Int32) (Pr_length : Int32) (Pr_next : Int32) (Pr_errorCode : Int32) (Pr_kind : Int32) (Pr_tokenAt : Int32) (Pr_letters : Int64) (Pr_number : Int32) (text : (Nat → Int32)) (r : Int32) (Pr_errorAt' : Int32) (Pr_next' : Int32) (Pr_errorCode' : Int32) (Pr_kind' : Int32) (Pr_tokenAt' : Int32) (Pr_letters' : Int64) (Pr_number' : Int32) (hf : fX5_readSemicolon Pr_errorAt Pr_length Pr_next Pr_errorCode Pr_kind Pr_tokenAt Pr_letters Pr_number text = some (r, Pr_errorAt', Pr_next', Pr_errorCode', Pr_kind', Pr_tokenAt', Pr_letters', Pr_number')) : gMet l yX5_readSemicolon wsX5_readSemicolon rmX5_readSemicolon vwCl E [.ref (aPr 0)] [sPar E aPr aB aC atext Pr_errorAt Pr_length Pr_next Pr_errorCode Pr_kind Pr_tokenAt Pr_letters Pr_number, sArrB E atext 600 text] (fun v w => v = some (.int r) ∧ w = [sPar E aPr aB aC atext Pr_errorAt' Pr_length Pr_next' Pr_errorCode' Pr_kind' Pr_tokenAt' Pr_letters' Pr_number', sArrB E atext 600 text] ∧ narrow .boolean (.int r) = .int r) 0 0 := by
  refine g_entry [some (.ref (aPr 0))] (by decide) rfl (Nat.le_of_ble_eq_true rfl) rfl ?_
  intro p e s m below meth c A F hnm
  unfold fX5_readSemicolon at hf
  refine g_aload_n F dX5_readSemicolon_0 rfl ?_
  obtain ⟨Pr_next_1, Pr_kind_1, Pr_tokenAt_1, Pr_letters_1, Pr_number_1, hg_1, hf⟩ := gb5_el hf
  refine g_callV (C := RX5) (T := TX5) (N := 11) (Lr := []) (As := []) (rest := []) F 0 0 0 (ctX5_readToken l E aPr aB aC atext Pr_errorAt Pr_length Pr_next Pr_errorCode Pr_kind Pr_tokenAt Pr_letters Pr_number text Pr_next_1 Pr_kind_1 Pr_tokenAt_1 Pr_letters_1 Pr_number_1 hg_1) gX5_readSemicolon_X5_readToken rfl rfl rfl h0X5_readToken ⟨Nat.le_of_ble_eq_true rfl, Nat.le_of_ble_eq_true rfl⟩ rfl rfl rfl [0, 1] [] rfl rfl rfl rfl rfl rfl (Nat.le_of_ble_eq_true rfl) dX5_readSemicolon_1 ⟨(Nat.le_of_ble_eq_true rfl), (Nat.le_of_ble_eq_true rfl)⟩ ?_
  rintro v w ⟨rfl, rfl⟩
  refine g_norm (Lw' := [sPar E aPr aB aC atext Pr_errorAt Pr_length Pr_next_1 Pr_errorCode Pr_kind_1 Pr_tokenAt_1 Pr_letters_1 Pr_number_1, sArrB E atext 600 text]) (st' := []) (pc' := 4) [0, 1] rfl rfl rfl rfl ?_
  refine g_aload_n F dX5_readSemicolon_4 rfl ?_
  refine g_get (C := RX5) (T := TX5) (N := 11) F 0 0 7 rfl rfl rfl iX5_readSemicolon_X5 (by decide) (by decide +kernel) rfl dX5_readSemicolon_5 ?_
  refine g_iconst F 5 dX5_readSemicolon_8 rfl ?_
  refine g_icmp_eq F 20 dX5_readSemicolon_9 (by decide) (fun hc_2 => ?_) (fun hc_2 => ?_)
  · replace hf := gi_t hc_2 hf
    refine g_iconst F 1 dX5_readSemicolon_20 rfl ?_
    refine g_goto F 25 dX5_readSemicolon_21 (by decide) ?_
    cases hf
    exact g_zret (ty := .boolean) F rfl rfl ⟨rfl, rfl, rfl⟩ dX5_readSemicolon_25
  · replace hf := gi_f hc_2 hf
    refine g_aload_n F dX5_readSemicolon_12 rfl ?_
    refine g_iconst F 1 dX5_readSemicolon_13 rfl ?_
    obtain ⟨r_1, Pr_errorAt_1, Pr_errorCode_1, hg_2, hf⟩ := gb3_el hf
    refine g_callV (C := RX5) (T := TX5) (N := 11) (Lr := [sArrB E atext 600 text]) (As := [.int 1]) (rest := []) F 0 0 1 (ctX5_fail l E aPr aB aC atext 1 Pr_errorAt Pr_length Pr_next_1 Pr_errorCode Pr_kind_1 Pr_tokenAt_1 Pr_letters_1 Pr_number_1 r_1 Pr_errorAt_1 Pr_errorCode_1 hg_2) gX5_readSemicolon_X5_fail rfl rfl rfl h0X5_fail ⟨Nat.le_of_ble_eq_true rfl, Nat.le_of_ble_eq_true rfl⟩ rfl rfl rfl [0] [1] rfl rfl rfl rfl rfl rfl (Nat.le_of_ble_eq_true rfl) dX5_readSemicolon_14 ⟨(Nat.le_of_ble_eq_true rfl), (Nat.le_of_ble_eq_true rfl)⟩ ?_
    rintro v w ⟨rfl, rfl, hz_1⟩
    refine g_norm (Lw' := [sPar E aPr aB aC atext Pr_errorAt_1 Pr_length Pr_next_1 Pr_errorCode_1 Pr_kind_1 Pr_tokenAt_1 Pr_letters_1 Pr_number_1, sArrB E atext 600 text]) (st' := [.int r_1]) (pc' := 17) [0, 1] rfl rfl rfl rfl ?_
    refine g_ifeq F 24 dX5_readSemicolon_17 (by decide) (fun hc_1 => ?_) (fun hc_1 => ?_)
    · replace hf := gi_t hc_1 hf
      refine g_iconst F 0 dX5_readSemicolon_24 rfl ?_
      cases hf
      exact g_zret (ty := .boolean) F rfl rfl ⟨rfl, rfl, rfl⟩ dX5_readSemicolon_25
    · replace hf := gi_f hc_1 hf
      refine g_iconst F 1 dX5_readSemicolon_20 rfl ?_
      refine g_goto F 25 dX5_readSemicolon_21 (by decide) ?_
      cases hf
      exact g_zret (ty := .boolean) F rfl rfl ⟨rfl, rfl, rfl⟩ dX5_readSemicolon_25
set_option maxHeartbeats 4000000 in
set_option maxRecDepth 100000 in
theorem ktX5_readHeader_L32 {p : Program} {l : Launch} {e : Env} {s : State} {m : MethodId} {args : Array Value} {below : List Frame} {meth : Method} {c : Code} {E : gE} {A : Nat → Prop} (F : gFx p s m args meth c RX5 wsX5_readHeader cX5_readHeader 2 (some .boolean) vwCl E A) (aPr aB aC atext asettings asums aU aP aW : Nat → Nat) (Pr_length : Int32) (text : (Nat → Int32)) (B_time : Int32) (B_chest : Int32) (B_fund : Int32) (r : Int32) (Pr_errorAt' : Int32) (Pr_next' : Int32) (Pr_errorCode' : Int32) (Pr_kind' : Int32) (Pr_tokenAt' : Int32) (Pr_letters' : Int64) (Pr_number' : Int32) (settings' : (Nat → Int32)) {k : Int32 → Int32 → Int32 → Int32 → Int32 → Int64 → Int32 → (Nat → Int32) → Option (Int32 × Int32 × Int32 × Int32 × Int32 × Int32 × Int64 × Int32 × (Nat → Int32))} (hk : ∀ (Pr_errorAt : Int32) (Pr_next : Int32) (Pr_errorCode : Int32) (Pr_kind : Int32) (Pr_tokenAt : Int32) (Pr_letters : Int64) (Pr_number : Int32) (settings : (Nat → Int32)), k Pr_errorAt Pr_next Pr_errorCode Pr_kind Pr_tokenAt Pr_letters Pr_number settings = some (r, Pr_errorAt', Pr_next', Pr_errorCode', Pr_kind', Pr_tokenAt', Pr_letters', Pr_number', settings') → Gj p l e rmX5_readHeader s m args below meth c 0 0 (MQ below (gQ vwCl E A (fun v w => v = some (.int r) ∧ w = [sPar E aPr aB aC atext Pr_errorAt' Pr_length Pr_next' Pr_errorCode' Pr_kind' Pr_tokenAt' Pr_letters' Pr_number', sBook E aB asettings asums aU aP aW B_time B_chest B_fund, sArrI E asettings 5 settings', sArrB E atext 600 text] ∧ narrow .boolean (.int r) = .int r)) args s 0 0 A) vwCl E A [sPar E aPr aB aC atext Pr_errorAt Pr_length Pr_next Pr_errorCode Pr_kind Pr_tokenAt Pr_letters Pr_number, sBook E aB asettings asums aU aP aW B_time B_chest B_fund, sArrI E asettings 5 settings, sArrB E atext 600 text] [some (.ref (aPr 0)), none] [] 75) : ∀ (n : Nat) (x1 : Int32) (Pr_errorAt : Int32) (Pr_next : Int32) (Pr_errorCode : Int32) (Pr_kind : Int32) (Pr_tokenAt : Int32) (Pr_letters : Int64) (Pr_number : Int32) (settings : (Nat → Int32)), fX5_readHeader_L32 Pr_length text k n x1 Pr_errorAt Pr_next Pr_errorCode Pr_kind Pr_tokenAt Pr_letters Pr_number settings = some (r, Pr_errorAt', Pr_next', Pr_errorCode', Pr_kind', Pr_tokenAt', Pr_letters', Pr_number', settings') → Gj p l e rmX5_readHeader s m args below meth c 0 0 (MQ below (gQ vwCl E A (fun v w => v = some (.int r) ∧ w = [sPar E aPr aB aC atext Pr_errorAt' Pr_length Pr_next' Pr_errorCode' Pr_kind' Pr_tokenAt' Pr_letters' Pr_number', sBook E aB asettings asums aU aP aW B_time B_chest B_fund, sArrI E asettings 5 settings', sArrB E atext 600 text] ∧ narrow .boolean (.int r) = .int r)) args s 0 0 A) vwCl E A [sPar E aPr aB aC atext Pr_errorAt Pr_length Pr_next Pr_errorCode Pr_kind Pr_tokenAt Pr_letters Pr_number, sBook E aB asettings asums aU aP aW B_time B_chest B_fund, sArrI E asettings 5 settings, sArrB E atext 600 text] [some (.ref (aPr 0)), some (.int x1)] [] 32
  | 0, _, _, _, _, _, _, _, _, _, hf => by cases hf
  | n + 1, x1, Pr_errorAt, Pr_next, Pr_errorCode, Pr_kind, Pr_tokenAt, Pr_letters, Pr_number, settings, hf => by
    have ih := ktX5_readHeader_L32 F aPr aB aC atext asettings asums aU aP aW Pr_length text B_time B_chest B_fund r Pr_errorAt' Pr_next' Pr_errorCode' Pr_kind' Pr_tokenAt' Pr_letters' Pr_number' settings' hk n
    rw [fX5_readHeader_L32] at hf
    refine g_iload_n F dX5_readHeader_32 rfl ?_
    refine g_iconst F 5 dX5_readHeader_33 rfl ?_
    refine g_icmp_ge F 75 dX5_readHeader_34 (by decide) (fun hc_2 => ?_) (fun hc_2 => ?_)
    · replace hf := gi_t hc_2 hf
      refine g_mask [true, false] rfl ?_
      exact hk Pr_errorAt Pr_next Pr_errorCode Pr_kind Pr_tokenAt Pr_letters Pr_number settings hf
    · replace hf := gi_f hc_2 hf
      refine g_aload_n F dX5_readHeader_37 rfl ?_
      refine g_getsL F dX5_readHeader_38 ?_
      refine g_iload_n F dX5_readHeader_41 rfl ?_
      obtain ⟨hb_1, hf⟩ := gb_in hf
      refine g_staL F hb_1 dX5_readHeader_42 ?_
      refine g_getsM F dX5_readHeader_43 ?_
      refine g_iload_n F dX5_readHeader_46 rfl ?_
      obtain ⟨hb_2, hf⟩ := gb_in hf
      refine g_staM F hb_2 dX5_readHeader_47 ?_
      obtain ⟨r_1, Pr_errorAt_1, Pr_next_1, Pr_errorCode_1, Pr_kind_1, Pr_tokenAt_1, Pr_letters_1, Pr_number_1, hg_1, hf⟩ := gb8_el hf
      refine g_callV (C := RX5) (T := TX5) (N := 11) (Lr := [sBook E aB asettings asums aU aP aW B_time B_chest B_fund, sArrI E asettings 5 settings]) (As := [.int (gLS x1.toNatClampNeg), .int (gMS x1.toNatClampNeg)]) (rest := []) F 0 0 2 (ctX5_readNumber l E aPr aB aC atext (gLS x1.toNatClampNeg) (gMS x1.toNatClampNeg) Pr_errorAt Pr_length Pr_next Pr_errorCode Pr_kind Pr_tokenAt Pr_letters Pr_number text r_1 Pr_errorAt_1 Pr_next_1 Pr_errorCode_1 Pr_kind_1 Pr_tokenAt_1 Pr_letters_1 Pr_number_1 hg_1) gX5_readHeader_X5_readNumber rfl rfl rfl h0X5_readNumber ⟨Nat.le_of_ble_eq_true rfl, Nat.le_of_ble_eq_true rfl⟩ rfl rfl rfl [0, 3] [1, 2] rfl rfl rfl rfl rfl rfl (Nat.le_of_ble_eq_true rfl) dX5_readHeader_48 ⟨(Nat.le_of_ble_eq_true rfl), (Nat.le_of_ble_eq_true rfl)⟩ ?_
      rintro v w ⟨rfl, rfl, hz_1⟩
      refine g_norm (Lw' := [sPar E aPr aB aC atext Pr_errorAt_1 Pr_length Pr_next_1 Pr_errorCode_1 Pr_kind_1 Pr_tokenAt_1 Pr_letters_1 Pr_number_1, sBook E aB asettings asums aU aP aW B_time B_chest B_fund, sArrI E asettings 5 settings, sArrB E atext 600 text]) (st' := [.int r_1]) (pc' := 51) [0, 2, 3, 1] rfl rfl rfl rfl ?_
      refine g_ifne F 56 dX5_readHeader_51 (by decide) (fun hc_1 => ?_) (fun hc_1 => ?_)
      · replace hf := gi_f hc_1 hf
        refine g_aload_n F dX5_readHeader_56 rfl ?_
        refine g_get (C := RX5) (T := TX5) (N := 11) F 0 0 0 rfl rfl rfl iX5_readHeader_X5 (by decide) (by decide +kernel) rfl dX5_readHeader_57 ?_
        refine g_get (C := RX1) (T := TX1) (N := 8) F 1 0 0 rfl rfl rfl iX5_readHeader_X1 (by decide) (by decide +kernel) rfl dX5_readHeader_60 ?_
        refine g_iload_n F dX5_readHeader_63 rfl ?_
        refine g_aload_n F dX5_readHeader_64 rfl ?_
        refine g_get (C := RX5) (T := TX5) (N := 11) F 0 0 10 rfl rfl rfl iX5_readHeader_X5 (by decide) (by decide +kernel) rfl dX5_readHeader_65 ?_
        obtain ⟨hb_3, hf⟩ := gb_in hf
        obtain ⟨settings_1, hsettings_1, hf⟩ := Lt_el hf
        refine g_iast (Lw' := [sPar E aPr aB aC atext Pr_errorAt_1 Pr_length Pr_next_1 Pr_errorCode_1 Pr_kind_1 Pr_tokenAt_1 Pr_letters_1 Pr_number_1, sBook E aB asettings asums aU aP aW B_time B_chest B_fund, sArrI E asettings 5 settings_1, sArrB E atext 600 text]) F 2 0 (x1.toNatClampNeg) rfl rfl rfl hb_3 dX5_readHeader_68 (by subst hsettings_1; rfl) ?_
        refine g_iinc (lv' := [some (.ref (aPr 0)), some (.int (x1 + 1))]) F (x1 + 1) dX5_readHeader_69 rfl rfl rfl rfl ?_
        refine g_goto F 32 dX5_readHeader_72 (by decide) ?_
        exact ih (x1 + 1) Pr_errorAt_1 Pr_next_1 Pr_errorCode_1 Pr_kind_1 Pr_tokenAt_1 Pr_letters_1 Pr_number_1 settings_1 hf
      · replace hf := gi_t hc_1 hf
        refine g_iconst F 0 dX5_readHeader_54 rfl ?_
        cases hf
        exact g_zret (ty := .boolean) F rfl rfl ⟨rfl, rfl, rfl⟩ dX5_readHeader_55
set_option maxHeartbeats 4000000 in
set_option maxRecDepth 100000 in
theorem ctX5_readHeader (l : Launch) (E : gE) (aPr aB aC atext asettings asums aU aP aW : Nat → Nat) (Pr_errorAt : Int32) (Pr_length : Int32) (Pr_next : Int32) (Pr_errorCode : Int32) (Pr_kind : Int32) (Pr_tokenAt : Int32) (Pr_letters : Int64) (Pr_number : Int32) (B_time : Int32) (B_chest : Int32) (B_fund : Int32) (settings : (Nat → Int32)) (text : (Nat → Int32)) (r : Int32) (Pr_errorAt' : Int32) (Pr_next' : Int32) (Pr_errorCode' : Int32) (Pr_kind' : Int32) (Pr_tokenAt' : Int32) (Pr_letters' : Int64) (Pr_number' : Int32) (settings' : (Nat → Int32)) (hf : fX5_readHeader Pr_errorAt Pr_length Pr_next Pr_errorCode Pr_kind Pr_tokenAt Pr_letters Pr_number settings text = some (r, Pr_errorAt', Pr_next', Pr_errorCode', Pr_kind', Pr_tokenAt', Pr_letters', Pr_number', settings')) : gMet l yX5_readHeader wsX5_readHeader rmX5_readHeader vwCl E [.ref (aPr 0)] [sPar E aPr aB aC atext Pr_errorAt Pr_length Pr_next Pr_errorCode Pr_kind Pr_tokenAt Pr_letters Pr_number, sBook E aB asettings asums aU aP aW B_time B_chest B_fund, sArrI E asettings 5 settings, sArrB E atext 600 text] (fun v w => v = some (.int r) ∧ w = [sPar E aPr aB aC atext Pr_errorAt' Pr_length Pr_next' Pr_errorCode' Pr_kind' Pr_tokenAt' Pr_letters' Pr_number', sBook E aB asettings asums aU aP aW B_time B_chest B_fund, sArrI E asettings 5 settings', sArrB E atext 600 text] ∧ narrow .boolean (.int r) = .int r) 0 0 := by
  refine g_entry [some (.ref (aPr 0)), none] (by decide) rfl (Nat.le_of_ble_eq_true rfl) rfl ?_
  intro p e s m below meth c A F hnm
  unfold fX5_readHeader at hf
  refine g_aload_n F dX5_readHeader_0 rfl ?_
  obtain ⟨Pr_next_1, Pr_kind_1, Pr_tokenAt_1, Pr_letters_1, Pr_number_1, hg_1, hf⟩ := gb5_el hf
  refine g_callV (C := RX5) (T := TX5) (N := 11) (Lr := [sBook E aB asettings asums aU aP aW B_time B_chest B_fund, sArrI E asettings 5 settings]) (As := []) (rest := []) F 0 0 0 (ctX5_readToken l E aPr aB aC atext Pr_errorAt Pr_length Pr_next Pr_errorCode Pr_kind Pr_tokenAt Pr_letters Pr_number text Pr_next_1 Pr_kind_1 Pr_tokenAt_1 Pr_letters_1 Pr_number_1 hg_1) gX5_readHeader_X5_readToken rfl rfl rfl h0X5_readToken ⟨Nat.le_of_ble_eq_true rfl, Nat.le_of_ble_eq_true rfl⟩ rfl rfl rfl [0, 3] [1, 2] rfl rfl rfl rfl rfl rfl (Nat.le_of_ble_eq_true rfl) dX5_readHeader_1 ⟨(Nat.le_of_ble_eq_true rfl), (Nat.le_of_ble_eq_true rfl)⟩ ?_
  rintro v w ⟨rfl, rfl⟩
  refine g_norm (Lw' := [sPar E aPr aB aC atext Pr_errorAt Pr_length Pr_next_1 Pr_errorCode Pr_kind_1 Pr_tokenAt_1 Pr_letters_1 Pr_number_1, sBook E aB asettings asums aU aP aW B_time B_chest B_fund, sArrI E asettings 5 settings, sArrB E atext 600 text]) (st' := []) (pc' := 4) [0, 2, 3, 1] rfl rfl rfl rfl ?_
  refine g_aload_n F dX5_readHeader_4 rfl ?_
  refine g_get (C := RX5) (T := TX5) (N := 11) F 0 0 7 rfl rfl rfl iX5_readHeader_X5 (by decide) (by decide +kernel) rfl dX5_readHeader_5 ?_
  refine g_iconst F 3 dX5_readHeader_8 rfl ?_
  obtain ⟨j_1, hj_1, hf⟩ := Lt_el hf
  have hj_1 : j_1 = some (r, Pr_errorAt', Pr_next', Pr_errorCode', Pr_kind', Pr_tokenAt', Pr_letters', Pr_number', settings') → Gj p l e rmX5_readHeader s m ([.ref (aPr 0)] : List Value).toArray below meth c 0 0 (MQ below (gQ vwCl E A (fun v w => v = some (.int r) ∧ w = [sPar E aPr aB aC atext Pr_errorAt' Pr_length Pr_next' Pr_errorCode' Pr_kind' Pr_tokenAt' Pr_letters' Pr_number', sBook E aB asettings asums aU aP aW B_time B_chest B_fund, sArrI E asettings 5 settings', sArrB E atext 600 text] ∧ narrow .boolean (.int r) = .int r)) ([.ref (aPr 0)] : List Value).toArray s 0 0 A) vwCl E A [sPar E aPr aB aC atext Pr_errorAt Pr_length Pr_next_1 Pr_errorCode Pr_kind_1 Pr_tokenAt_1 Pr_letters_1 Pr_number_1, sBook E aB asettings asums aU aP aW B_time B_chest B_fund, sArrI E asettings 5 settings, sArrB E atext 600 text] [some (.ref (aPr 0)), none] [] 24 := by
    intro hf
    rw [hj_1] at hf
    refine g_aload_n F dX5_readHeader_24 rfl ?_
    refine g_iconst F 1 dX5_readHeader_25 rfl ?_
    obtain ⟨r_1, Pr_errorAt_1, Pr_errorCode_1, hg_2, hf⟩ := gb3_el hf
    refine g_callV (C := RX5) (T := TX5) (N := 11) (Lr := [sBook E aB asettings asums aU aP aW B_time B_chest B_fund, sArrI E asettings 5 settings, sArrB E atext 600 text]) (As := [.int 1]) (rest := []) F 0 0 1 (ctX5_fail l E aPr aB aC atext 1 Pr_errorAt Pr_length Pr_next_1 Pr_errorCode Pr_kind_1 Pr_tokenAt_1 Pr_letters_1 Pr_number_1 r_1 Pr_errorAt_1 Pr_errorCode_1 hg_2) gX5_readHeader_X5_fail rfl rfl rfl h0X5_fail ⟨Nat.le_of_ble_eq_true rfl, Nat.le_of_ble_eq_true rfl⟩ rfl rfl rfl [0] [1, 2, 3] rfl rfl rfl rfl rfl rfl (Nat.le_of_ble_eq_true rfl) dX5_readHeader_26 ⟨(Nat.le_of_ble_eq_true rfl), (Nat.le_of_ble_eq_true rfl)⟩ ?_
    rintro v w ⟨rfl, rfl, hz_1⟩
    refine g_norm (Lw' := [sPar E aPr aB aC atext Pr_errorAt_1 Pr_length Pr_next_1 Pr_errorCode_1 Pr_kind_1 Pr_tokenAt_1 Pr_letters_1 Pr_number_1, sBook E aB asettings asums aU aP aW B_time B_chest B_fund, sArrI E asettings 5 settings, sArrB E atext 600 text]) (st' := [.int r_1]) (pc' := 29) [0, 1, 2, 3] rfl rfl rfl rfl ?_
    cases hf
    exact g_zret (ty := .boolean) F rfl hz_1 ⟨rfl, rfl, hz_1⟩ dX5_readHeader_29
  refine g_icmp_ne F 24 dX5_readHeader_9 (by decide) (fun hc_2 => ?_) (fun hc_2 => ?_)
  · replace hf := gi_f hc_2 hf
    exact hj_1 hf
  · replace hf := gi_t hc_2 hf
    refine g_aload_n F dX5_readHeader_12 rfl ?_
    refine g_get (C := RX5) (T := TX5) (N := 11) F 0 0 9 rfl rfl rfl iX5_readHeader_X5 (by decide) (by decide +kernel) rfl dX5_readHeader_13 ?_
    refine g_ldcS (tx := "book") (i := 0) F (by decide) dX5_readHeader_16 ?_
    obtain ⟨r_2, hg_3, hf⟩ := gb1_el hf
    refine g_callS (Lr := [sPar E aPr aB aC atext Pr_errorAt Pr_length Pr_next_1 Pr_errorCode Pr_kind_1 Pr_tokenAt_1 Pr_letters_1 Pr_number_1, sBook E aB asettings asums aU aP aW B_time B_chest B_fund, sArrI E asettings 5 settings, sArrB E atext 600 text]) (As := [.long Pr_letters_1, .ref (E.2.2 0)]) (rest := []) F 2 (ctX4_spell l E 0 Pr_letters_1 (by decide) r_2 hg_3) (va_cwS 2 F.2.2.2.2.2.1 gX5_readHeader_X4_spell rfl rfl rfl h0X4_spell ⟨Nat.le_of_ble_eq_true rfl, Nat.le_of_ble_eq_true rfl⟩) [] [0, 1, 2, 3] rfl rfl rfl rfl rfl rfl (Nat.le_of_ble_eq_true rfl) dX5_readHeader_18 ⟨(Nat.le_of_ble_eq_true rfl), (Nat.le_of_ble_eq_true rfl)⟩ ?_
    rintro v w ⟨rfl, rfl, hz_2⟩
    refine g_norm (Lw' := [sPar E aPr aB aC atext Pr_errorAt Pr_length Pr_next_1 Pr_errorCode Pr_kind_1 Pr_tokenAt_1 Pr_letters_1 Pr_number_1, sBook E aB asettings asums aU aP aW B_time B_chest B_fund, sArrI E asettings 5 settings, sArrB E atext 600 text]) (st' := [.int r_2]) (pc' := 21) [0, 1, 2, 3] rfl rfl rfl rfl ?_
    refine g_ifne F 30 dX5_readHeader_21 (by decide) (fun hc_1 => ?_) (fun hc_1 => ?_)
    · replace hf := gi_f hc_1 hf
      refine g_iconst F 0 dX5_readHeader_30 rfl ?_
      refine g_istore_n (lv' := [some (.ref (aPr 0)), some (.int 0)]) F dX5_readHeader_31 (Nat.le_of_ble_eq_true rfl) rfl rfl ?_
      refine ktX5_readHeader_L32 F aPr aB aC atext asettings asums aU aP aW Pr_length text B_time B_chest B_fund r Pr_errorAt' Pr_next' Pr_errorCode' Pr_kind' Pr_tokenAt' Pr_letters' Pr_number' settings' (fun Pr_errorAt_2 Pr_next_2 Pr_errorCode_2 Pr_kind_2 Pr_tokenAt_2 Pr_letters_2 Pr_number_2 settings_1 hf => ?_) FU 0 Pr_errorAt Pr_next_1 Pr_errorCode Pr_kind_1 Pr_tokenAt_1 Pr_letters_1 Pr_number_1 settings hf
      refine g_aload_n F dX5_readHeader_75 rfl ?_
      obtain ⟨r_3, Pr_errorAt_3, Pr_next_3, Pr_errorCode_3, Pr_kind_3, Pr_tokenAt_3, Pr_letters_3, Pr_number_3, hg_4, hf⟩ := gb8_el hf
      refine g_callV (C := RX5) (T := TX5) (N := 11) (Lr := [sBook E aB asettings asums aU aP aW B_time B_chest B_fund, sArrI E asettings 5 settings_1]) (As := []) (rest := []) F 0 0 0 (ctX5_readSemicolon l E aPr aB aC atext Pr_errorAt_2 Pr_length Pr_next_2 Pr_errorCode_2 Pr_kind_2 Pr_tokenAt_2 Pr_letters_2 Pr_number_2 text r_3 Pr_errorAt_3 Pr_next_3 Pr_errorCode_3 Pr_kind_3 Pr_tokenAt_3 Pr_letters_3 Pr_number_3 hg_4) gX5_readHeader_X5_readSemicolon rfl rfl rfl h0X5_readSemicolon ⟨Nat.le_of_ble_eq_true rfl, Nat.le_of_ble_eq_true rfl⟩ rfl rfl rfl [0, 3] [1, 2] rfl rfl rfl rfl rfl rfl (Nat.le_of_ble_eq_true rfl) dX5_readHeader_76 ⟨(Nat.le_of_ble_eq_true rfl), (Nat.le_of_ble_eq_true rfl)⟩ ?_
      rintro v w ⟨rfl, rfl, hz_3⟩
      refine g_norm (Lw' := [sPar E aPr aB aC atext Pr_errorAt_3 Pr_length Pr_next_3 Pr_errorCode_3 Pr_kind_3 Pr_tokenAt_3 Pr_letters_3 Pr_number_3, sBook E aB asettings asums aU aP aW B_time B_chest B_fund, sArrI E asettings 5 settings_1, sArrB E atext 600 text]) (st' := [.int r_3]) (pc' := 79) [0, 2, 3, 1] rfl rfl rfl rfl ?_
      cases hf
      exact g_zret (ty := .boolean) F rfl hz_3 ⟨rfl, rfl, hz_3⟩ dX5_readHeader_79
    · replace hf := gi_t hc_1 hf
      exact hj_1 hf
set_option maxHeartbeats 4000000 in
set_option maxRecDepth 100000 in
theorem ctX5_readLetters (l : Launch) (E : gE) (aPr aB aC atext : Nat → Nat) (Pr_errorAt : Int32) (Pr_length : Int32) (Pr_next : Int32) (Pr_errorCode : Int32) (Pr_kind : Int32) (Pr_tokenAt : Int32) (Pr_letters : Int64) (Pr_number : Int32) (text : (Nat → Int32)) (r : Int32) (Pr_errorAt' : Int32) (Pr_next' : Int32) (Pr_errorCode' : Int32) (Pr_kind' : Int32) (Pr_tokenAt' : Int32) (Pr_letters' : Int64) (Pr_number' : Int32) (hf : fX5_readLetters Pr_errorAt Pr_length Pr_next Pr_errorCode Pr_kind Pr_tokenAt Pr_letters Pr_number text = some (r, Pr_errorAt', Pr_next', Pr_errorCode', Pr_kind', Pr_tokenAt', Pr_letters', Pr_number')) : gMet l yX5_readLetters wsX5_readLetters rmX5_readLetters vwCl E [.ref (aPr 0)] [sPar E aPr aB aC atext Pr_errorAt Pr_length Pr_next Pr_errorCode Pr_kind Pr_tokenAt Pr_letters Pr_number, sArrB E atext 600 text] (fun v w => v = some (.int r) ∧ w = [sPar E aPr aB aC atext Pr_errorAt' Pr_length Pr_next' Pr_errorCode' Pr_kind' Pr_tokenAt' Pr_letters' Pr_number', sArrB E atext 600 text] ∧ narrow .boolean (.int r) = .int r) 0 0 := by
  refine g_entry [some (.ref (aPr 0))] (by decide) rfl (Nat.le_of_ble_eq_true rfl) rfl ?_
  intro p e s m below meth c A F hnm
  unfold fX5_readLetters at hf
  refine g_aload_n F dX5_readLetters_0 rfl ?_
  obtain ⟨Pr_next_1, Pr_kind_1, Pr_tokenAt_1, Pr_letters_1, Pr_number_1, hg_1, hf⟩ := gb5_el hf
  refine g_callV (C := RX5) (T := TX5) (N := 11) (Lr := []) (As := []) (rest := []) F 0 0 0 (ctX5_readToken l E aPr aB aC atext Pr_errorAt Pr_length Pr_next Pr_errorCode Pr_kind Pr_tokenAt Pr_letters Pr_number text Pr_next_1 Pr_kind_1 Pr_tokenAt_1 Pr_letters_1 Pr_number_1 hg_1) gX5_readLetters_X5_readToken rfl rfl rfl h0X5_readToken ⟨Nat.le_of_ble_eq_true rfl, Nat.le_of_ble_eq_true rfl⟩ rfl rfl rfl [0, 1] [] rfl rfl rfl rfl rfl rfl (Nat.le_of_ble_eq_true rfl) dX5_readLetters_1 ⟨(Nat.le_of_ble_eq_true rfl), (Nat.le_of_ble_eq_true rfl)⟩ ?_
  rintro v w ⟨rfl, rfl⟩
  refine g_norm (Lw' := [sPar E aPr aB aC atext Pr_errorAt Pr_length Pr_next_1 Pr_errorCode Pr_kind_1 Pr_tokenAt_1 Pr_letters_1 Pr_number_1, sArrB E atext 600 text]) (st' := []) (pc' := 4) [0, 1] rfl rfl rfl rfl ?_
  refine g_aload_n F dX5_readLetters_4 rfl ?_
  refine g_get (C := RX5) (T := TX5) (N := 11) F 0 0 7 rfl rfl rfl iX5_readLetters_X5 (by decide) (by decide +kernel) rfl dX5_readLetters_5 ?_
  refine g_iconst F 3 dX5_readLetters_8 rfl ?_
  refine g_icmp_eq F 20 dX5_readLetters_9 (by decide) (fun hc_2 => ?_) (fun hc_2 => ?_)
  · replace hf := gi_t hc_2 hf
    refine g_iconst F 1 dX5_readLetters_20 rfl ?_
    refine g_goto F 25 dX5_readLetters_21 (by decide) ?_
    cases hf
    exact g_zret (ty := .boolean) F rfl rfl ⟨rfl, rfl, rfl⟩ dX5_readLetters_25
  · replace hf := gi_f hc_2 hf
    refine g_aload_n F dX5_readLetters_12 rfl ?_
    refine g_iconst F 1 dX5_readLetters_13 rfl ?_
    obtain ⟨r_1, Pr_errorAt_1, Pr_errorCode_1, hg_2, hf⟩ := gb3_el hf
    refine g_callV (C := RX5) (T := TX5) (N := 11) (Lr := [sArrB E atext 600 text]) (As := [.int 1]) (rest := []) F 0 0 1 (ctX5_fail l E aPr aB aC atext 1 Pr_errorAt Pr_length Pr_next_1 Pr_errorCode Pr_kind_1 Pr_tokenAt_1 Pr_letters_1 Pr_number_1 r_1 Pr_errorAt_1 Pr_errorCode_1 hg_2) gX5_readLetters_X5_fail rfl rfl rfl h0X5_fail ⟨Nat.le_of_ble_eq_true rfl, Nat.le_of_ble_eq_true rfl⟩ rfl rfl rfl [0] [1] rfl rfl rfl rfl rfl rfl (Nat.le_of_ble_eq_true rfl) dX5_readLetters_14 ⟨(Nat.le_of_ble_eq_true rfl), (Nat.le_of_ble_eq_true rfl)⟩ ?_
    rintro v w ⟨rfl, rfl, hz_1⟩
    refine g_norm (Lw' := [sPar E aPr aB aC atext Pr_errorAt_1 Pr_length Pr_next_1 Pr_errorCode_1 Pr_kind_1 Pr_tokenAt_1 Pr_letters_1 Pr_number_1, sArrB E atext 600 text]) (st' := [.int r_1]) (pc' := 17) [0, 1] rfl rfl rfl rfl ?_
    refine g_ifeq F 24 dX5_readLetters_17 (by decide) (fun hc_1 => ?_) (fun hc_1 => ?_)
    · replace hf := gi_t hc_1 hf
      refine g_iconst F 0 dX5_readLetters_24 rfl ?_
      cases hf
      exact g_zret (ty := .boolean) F rfl rfl ⟨rfl, rfl, rfl⟩ dX5_readLetters_25
    · replace hf := gi_f hc_1 hf
      refine g_iconst F 1 dX5_readLetters_20 rfl ?_
      refine g_goto F 25 dX5_readLetters_21 (by decide) ?_
      cases hf
      exact g_zret (ty := .boolean) F rfl rfl ⟨rfl, rfl, rfl⟩ dX5_readLetters_25
set_option maxHeartbeats 4000000 in
set_option maxRecDepth 100000 in
theorem ctX5_readUser (l : Launch) (E : gE) (aPr aB aC atext asettings asums aU aP aW : Nat → Nat) (Pr_errorAt : Int32) (Pr_length : Int32) (Pr_next : Int32) (Pr_errorCode : Int32) (Pr_kind : Int32) (Pr_tokenAt : Int32) (Pr_letters : Int64) (Pr_number : Int32) (B_time : Int32) (B_chest : Int32) (B_fund : Int32) (U : tUsers) (text : (Nat → Int32)) (r : Int32) (Pr_errorAt' : Int32) (Pr_next' : Int32) (Pr_errorCode' : Int32) (Pr_kind' : Int32) (Pr_tokenAt' : Int32) (Pr_letters' : Int64) (Pr_number' : Int32) (U' : tUsers) (hf : fX5_readUser Pr_errorAt Pr_length Pr_next Pr_errorCode Pr_kind Pr_tokenAt Pr_letters Pr_number U text = some (r, Pr_errorAt', Pr_next', Pr_errorCode', Pr_kind', Pr_tokenAt', Pr_letters', Pr_number', U')) : gMet l yX5_readUser wsX5_readUser rmX5_readUser vwCl E [.ref (aPr 0)] [sPar E aPr aB aC atext Pr_errorAt Pr_length Pr_next Pr_errorCode Pr_kind Pr_tokenAt Pr_letters Pr_number, sBook E aB asettings asums aU aP aW B_time B_chest B_fund, sUsers E aU U, sArrB E atext 600 text] (fun v w => v = some (.int r) ∧ w = [sPar E aPr aB aC atext Pr_errorAt' Pr_length Pr_next' Pr_errorCode' Pr_kind' Pr_tokenAt' Pr_letters' Pr_number', sBook E aB asettings asums aU aP aW B_time B_chest B_fund, sUsers E aU U', sArrB E atext 600 text] ∧ narrow .boolean (.int r) = .int r) 0 0 := by
  refine g_entry [some (.ref (aPr 0)), none, none] (by decide) rfl (Nat.le_of_ble_eq_true rfl) rfl ?_
  intro p e s m below meth c A F hnm
  unfold fX5_readUser at hf
  refine g_aload_n F dX5_readUser_0 rfl ?_
  refine g_get (C := RX5) (T := TX5) (N := 11) F 0 0 0 rfl rfl rfl iX5_readUser_X5 (by decide) (by decide +kernel) rfl dX5_readUser_1 ?_
  refine g_get (C := RX1) (T := TX1) (N := 8) F 1 0 2 rfl rfl rfl iX5_readUser_X1 (by decide) (by decide +kernel) rfl dX5_readUser_4 ?_
  obtain ⟨r_1, hg_1, hf⟩ := gb1_el hf
  refine g_callV (C := RX7) (T := TX7) (N := 3) (Lr := [sPar E aPr aB aC atext Pr_errorAt Pr_length Pr_next Pr_errorCode Pr_kind Pr_tokenAt Pr_letters Pr_number, sBook E aB asettings asums aU aP aW B_time B_chest B_fund, sArrB E atext 600 text]) (As := []) (rest := []) F 2 0 0 (ctX7_isFull l E aU U r_1 hg_1) gX5_readUser_X7_isFull rfl rfl rfl h0X7_isFull ⟨Nat.le_of_ble_eq_true rfl, Nat.le_of_ble_eq_true rfl⟩ rfl rfl rfl [2] [0, 1, 3] rfl rfl rfl rfl rfl rfl (Nat.le_of_ble_eq_true rfl) dX5_readUser_7 ⟨(Nat.le_of_ble_eq_true rfl), (Nat.le_of_ble_eq_true rfl)⟩ ?_
  rintro v w ⟨rfl, rfl, hz_1⟩
  refine g_norm (Lw' := [sPar E aPr aB aC atext Pr_errorAt Pr_length Pr_next Pr_errorCode Pr_kind Pr_tokenAt Pr_letters Pr_number, sBook E aB asettings asums aU aP aW B_time B_chest B_fund, sUsers E aU U, sArrB E atext 600 text]) (st' := [.int r_1]) (pc' := 10) [1, 2, 0, 3] rfl rfl rfl rfl ?_
  refine g_ifeq F 19 dX5_readUser_10 (by decide) (fun hc_4 => ?_) (fun hc_4 => ?_)
  · replace hf := gi_t hc_4 hf
    refine g_aload_n F dX5_readUser_19 rfl ?_
    obtain ⟨r_2, Pr_errorAt_1, Pr_next_1, Pr_errorCode_1, Pr_kind_1, Pr_tokenAt_1, Pr_letters_1, Pr_number_1, hg_2, hf⟩ := gb8_el hf
    refine g_callV (C := RX5) (T := TX5) (N := 11) (Lr := [sBook E aB asettings asums aU aP aW B_time B_chest B_fund, sUsers E aU U]) (As := []) (rest := []) F 0 0 0 (ctX5_readLetters l E aPr aB aC atext Pr_errorAt Pr_length Pr_next Pr_errorCode Pr_kind Pr_tokenAt Pr_letters Pr_number text r_2 Pr_errorAt_1 Pr_next_1 Pr_errorCode_1 Pr_kind_1 Pr_tokenAt_1 Pr_letters_1 Pr_number_1 hg_2) gX5_readUser_X5_readLetters rfl rfl rfl h0X5_readLetters ⟨Nat.le_of_ble_eq_true rfl, Nat.le_of_ble_eq_true rfl⟩ rfl rfl rfl [0, 3] [1, 2] rfl rfl rfl rfl rfl rfl (Nat.le_of_ble_eq_true rfl) dX5_readUser_20 ⟨(Nat.le_of_ble_eq_true rfl), (Nat.le_of_ble_eq_true rfl)⟩ ?_
    rintro v w ⟨rfl, rfl, hz_2⟩
    refine g_norm (Lw' := [sPar E aPr aB aC atext Pr_errorAt_1 Pr_length Pr_next_1 Pr_errorCode_1 Pr_kind_1 Pr_tokenAt_1 Pr_letters_1 Pr_number_1, sBook E aB asettings asums aU aP aW B_time B_chest B_fund, sUsers E aU U, sArrB E atext 600 text]) (st' := [.int r_2]) (pc' := 23) [0, 2, 3, 1] rfl rfl rfl rfl ?_
    refine g_ifne F 28 dX5_readUser_23 (by decide) (fun hc_3 => ?_) (fun hc_3 => ?_)
    · replace hf := gi_f hc_3 hf
      refine g_aload_n F dX5_readUser_28 rfl ?_
      refine g_get (C := RX5) (T := TX5) (N := 11) F 0 0 0 rfl rfl rfl iX5_readUser_X5 (by decide) (by decide +kernel) rfl dX5_readUser_29 ?_
      refine g_get (C := RX1) (T := TX1) (N := 8) F 1 0 2 rfl rfl rfl iX5_readUser_X1 (by decide) (by decide +kernel) rfl dX5_readUser_32 ?_
      refine g_aload_n F dX5_readUser_35 rfl ?_
      refine g_get (C := RX5) (T := TX5) (N := 11) F 0 0 9 rfl rfl rfl iX5_readUser_X5 (by decide) (by decide +kernel) rfl dX5_readUser_36 ?_
      obtain ⟨r_3, hg_3, hf⟩ := gb1_el hf
      refine g_callV (C := RX7) (T := TX7) (N := 3) (Lr := [sPar E aPr aB aC atext Pr_errorAt_1 Pr_length Pr_next_1 Pr_errorCode_1 Pr_kind_1 Pr_tokenAt_1 Pr_letters_1 Pr_number_1, sBook E aB asettings asums aU aP aW B_time B_chest B_fund, sArrB E atext 600 text]) (As := [.long Pr_letters_1]) (rest := []) F 2 0 1 (ctX7_numberOf l E aU Pr_letters_1 U r_3 hg_3) gX5_readUser_X7_numberOf rfl rfl rfl h0X7_numberOf ⟨Nat.le_of_ble_eq_true rfl, Nat.le_of_ble_eq_true rfl⟩ rfl rfl rfl [2] [0, 1, 3] rfl rfl rfl rfl rfl rfl (Nat.le_of_ble_eq_true rfl) dX5_readUser_39 ⟨(Nat.le_of_ble_eq_true rfl), (Nat.le_of_ble_eq_true rfl)⟩ ?_
      rintro v w ⟨rfl, rfl⟩
      refine g_norm (Lw' := [sPar E aPr aB aC atext Pr_errorAt_1 Pr_length Pr_next_1 Pr_errorCode_1 Pr_kind_1 Pr_tokenAt_1 Pr_letters_1 Pr_number_1, sBook E aB asettings asums aU aP aW B_time B_chest B_fund, sUsers E aU U, sArrB E atext 600 text]) (st' := [.int r_3]) (pc' := 42) [1, 2, 0, 3] rfl rfl rfl rfl ?_
      refine g_iconst F (-1) dX5_readUser_42 rfl ?_
      refine g_icmp_eq F 52 dX5_readUser_43 (by decide) (fun hc_2 => ?_) (fun hc_2 => ?_)
      · replace hf := gi_t hc_2 hf
        refine g_aload_n F dX5_readUser_52 rfl ?_
        refine g_get (C := RX5) (T := TX5) (N := 11) F 0 0 9 rfl rfl rfl iX5_readUser_X5 (by decide) (by decide +kernel) rfl dX5_readUser_53 ?_
        refine g_lstore_n (lv' := [some (.ref (aPr 0)), some (.long Pr_letters_1), none]) F dX5_readUser_56 (Nat.le_of_ble_eq_true rfl) rfl rfl ?_
        refine g_aload_n F dX5_readUser_57 rfl ?_
        refine g_iconst F 0 dX5_readUser_58 rfl ?_
        refine g_sipush F 9999 dX5_readUser_59 rfl ?_
        obtain ⟨r_4, Pr_errorAt_2, Pr_next_2, Pr_errorCode_2, Pr_kind_2, Pr_tokenAt_2, Pr_letters_2, Pr_number_2, hg_4, hf⟩ := gb8_el hf
        refine g_callV (C := RX5) (T := TX5) (N := 11) (Lr := [sBook E aB asettings asums aU aP aW B_time B_chest B_fund, sUsers E aU U]) (As := [.int 0, .int 9999]) (rest := []) F 0 0 2 (ctX5_readNumber l E aPr aB aC atext 0 9999 Pr_errorAt_1 Pr_length Pr_next_1 Pr_errorCode_1 Pr_kind_1 Pr_tokenAt_1 Pr_letters_1 Pr_number_1 text r_4 Pr_errorAt_2 Pr_next_2 Pr_errorCode_2 Pr_kind_2 Pr_tokenAt_2 Pr_letters_2 Pr_number_2 hg_4) gX5_readUser_X5_readNumber rfl rfl rfl h0X5_readNumber ⟨Nat.le_of_ble_eq_true rfl, Nat.le_of_ble_eq_true rfl⟩ rfl rfl rfl [0, 3] [1, 2] rfl rfl rfl rfl rfl rfl (Nat.le_of_ble_eq_true rfl) dX5_readUser_62 ⟨(Nat.le_of_ble_eq_true rfl), (Nat.le_of_ble_eq_true rfl)⟩ ?_
        rintro v w ⟨rfl, rfl, hz_3⟩
        refine g_norm (Lw' := [sPar E aPr aB aC atext Pr_errorAt_2 Pr_length Pr_next_2 Pr_errorCode_2 Pr_kind_2 Pr_tokenAt_2 Pr_letters_2 Pr_number_2, sBook E aB asettings asums aU aP aW B_time B_chest B_fund, sUsers E aU U, sArrB E atext 600 text]) (st' := [.int r_4]) (pc' := 65) [0, 2, 3, 1] rfl rfl rfl rfl ?_
        refine g_ifne F 70 dX5_readUser_65 (by decide) (fun hc_1 => ?_) (fun hc_1 => ?_)
        · replace hf := gi_f hc_1 hf
          refine g_aload_n F dX5_readUser_70 rfl ?_
          refine g_get (C := RX5) (T := TX5) (N := 11) F 0 0 0 rfl rfl rfl iX5_readUser_X5 (by decide) (by decide +kernel) rfl dX5_readUser_71 ?_
          refine g_get (C := RX1) (T := TX1) (N := 8) F 1 0 2 rfl rfl rfl iX5_readUser_X1 (by decide) (by decide +kernel) rfl dX5_readUser_74 ?_
          refine g_lload_n F dX5_readUser_77 rfl ?_
          refine g_aload_n F dX5_readUser_78 rfl ?_
          refine g_get (C := RX5) (T := TX5) (N := 11) F 0 0 10 rfl rfl rfl iX5_readUser_X5 (by decide) (by decide +kernel) rfl dX5_readUser_79 ?_
          obtain ⟨U_1, hg_5, hf⟩ := gb1_el hf
          refine g_callV (C := RX7) (T := TX7) (N := 3) (Lr := [sPar E aPr aB aC atext Pr_errorAt_2 Pr_length Pr_next_2 Pr_errorCode_2 Pr_kind_2 Pr_tokenAt_2 Pr_letters_2 Pr_number_2, sBook E aB asettings asums aU aP aW B_time B_chest B_fund, sArrB E atext 600 text]) (As := [.long Pr_letters_1, .int Pr_number_2]) (rest := []) F 2 0 2 (ctX7_add l E aU Pr_letters_1 Pr_number_2 U U_1 hg_5) gX5_readUser_X7_add rfl rfl rfl h0X7_add ⟨Nat.le_of_ble_eq_true rfl, Nat.le_of_ble_eq_true rfl⟩ rfl rfl rfl [2] [0, 1, 3] rfl rfl rfl rfl rfl rfl (Nat.le_of_ble_eq_true rfl) dX5_readUser_82 ⟨(Nat.le_of_ble_eq_true rfl), (Nat.le_of_ble_eq_true rfl)⟩ ?_
          rintro v w ⟨rfl, rfl⟩
          refine g_norm (Lw' := [sPar E aPr aB aC atext Pr_errorAt_2 Pr_length Pr_next_2 Pr_errorCode_2 Pr_kind_2 Pr_tokenAt_2 Pr_letters_2 Pr_number_2, sBook E aB asettings asums aU aP aW B_time B_chest B_fund, sUsers E aU U_1, sArrB E atext 600 text]) (st' := []) (pc' := 85) [1, 2, 0, 3] rfl rfl rfl rfl ?_
          refine g_aload_n F dX5_readUser_85 rfl ?_
          obtain ⟨r_5, Pr_errorAt_3, Pr_next_3, Pr_errorCode_3, Pr_kind_3, Pr_tokenAt_3, Pr_letters_3, Pr_number_3, hg_6, hf⟩ := gb8_el hf
          refine g_callV (C := RX5) (T := TX5) (N := 11) (Lr := [sBook E aB asettings asums aU aP aW B_time B_chest B_fund, sUsers E aU U_1]) (As := []) (rest := []) F 0 0 0 (ctX5_readSemicolon l E aPr aB aC atext Pr_errorAt_2 Pr_length Pr_next_2 Pr_errorCode_2 Pr_kind_2 Pr_tokenAt_2 Pr_letters_2 Pr_number_2 text r_5 Pr_errorAt_3 Pr_next_3 Pr_errorCode_3 Pr_kind_3 Pr_tokenAt_3 Pr_letters_3 Pr_number_3 hg_6) gX5_readUser_X5_readSemicolon rfl rfl rfl h0X5_readSemicolon ⟨Nat.le_of_ble_eq_true rfl, Nat.le_of_ble_eq_true rfl⟩ rfl rfl rfl [0, 3] [1, 2] rfl rfl rfl rfl rfl rfl (Nat.le_of_ble_eq_true rfl) dX5_readUser_86 ⟨(Nat.le_of_ble_eq_true rfl), (Nat.le_of_ble_eq_true rfl)⟩ ?_
          rintro v w ⟨rfl, rfl, hz_4⟩
          refine g_norm (Lw' := [sPar E aPr aB aC atext Pr_errorAt_3 Pr_length Pr_next_3 Pr_errorCode_3 Pr_kind_3 Pr_tokenAt_3 Pr_letters_3 Pr_number_3, sBook E aB asettings asums aU aP aW B_time B_chest B_fund, sUsers E aU U_1, sArrB E atext 600 text]) (st' := [.int r_5]) (pc' := 89) [0, 2, 3, 1] rfl rfl rfl rfl ?_
          cases hf
          exact g_zret (ty := .boolean) F rfl hz_4 ⟨rfl, rfl, hz_4⟩ dX5_readUser_89
        · replace hf := gi_t hc_1 hf
          refine g_iconst F 0 dX5_readUser_68 rfl ?_
          cases hf
          exact g_zret (ty := .boolean) F rfl rfl ⟨rfl, rfl, rfl⟩ dX5_readUser_69
      · replace hf := gi_f hc_2 hf
        refine g_aload_n F dX5_readUser_46 rfl ?_
        refine g_iconst F 2 dX5_readUser_47 rfl ?_
        obtain ⟨r_6, Pr_errorAt_4, Pr_errorCode_4, hg_7, hf⟩ := gb3_el hf
        refine g_callV (C := RX5) (T := TX5) (N := 11) (Lr := [sBook E aB asettings asums aU aP aW B_time B_chest B_fund, sUsers E aU U, sArrB E atext 600 text]) (As := [.int 2]) (rest := []) F 0 0 1 (ctX5_fail l E aPr aB aC atext 2 Pr_errorAt_1 Pr_length Pr_next_1 Pr_errorCode_1 Pr_kind_1 Pr_tokenAt_1 Pr_letters_1 Pr_number_1 r_6 Pr_errorAt_4 Pr_errorCode_4 hg_7) gX5_readUser_X5_fail rfl rfl rfl h0X5_fail ⟨Nat.le_of_ble_eq_true rfl, Nat.le_of_ble_eq_true rfl⟩ rfl rfl rfl [0] [1, 2, 3] rfl rfl rfl rfl rfl rfl (Nat.le_of_ble_eq_true rfl) dX5_readUser_48 ⟨(Nat.le_of_ble_eq_true rfl), (Nat.le_of_ble_eq_true rfl)⟩ ?_
        rintro v w ⟨rfl, rfl, hz_5⟩
        refine g_norm (Lw' := [sPar E aPr aB aC atext Pr_errorAt_4 Pr_length Pr_next_1 Pr_errorCode_4 Pr_kind_1 Pr_tokenAt_1 Pr_letters_1 Pr_number_1, sBook E aB asettings asums aU aP aW B_time B_chest B_fund, sUsers E aU U, sArrB E atext 600 text]) (st' := [.int r_6]) (pc' := 51) [0, 1, 2, 3] rfl rfl rfl rfl ?_
        cases hf
        exact g_zret (ty := .boolean) F rfl hz_5 ⟨rfl, rfl, hz_5⟩ dX5_readUser_51
    · replace hf := gi_t hc_3 hf
      refine g_iconst F 0 dX5_readUser_26 rfl ?_
      cases hf
      exact g_zret (ty := .boolean) F rfl rfl ⟨rfl, rfl, rfl⟩ dX5_readUser_27
  · replace hf := gi_f hc_4 hf
    refine g_aload_n F dX5_readUser_13 rfl ?_
    refine g_iconst F 5 dX5_readUser_14 rfl ?_
    obtain ⟨r_7, Pr_errorAt_5, Pr_errorCode_5, hg_8, hf⟩ := gb3_el hf
    refine g_callV (C := RX5) (T := TX5) (N := 11) (Lr := [sBook E aB asettings asums aU aP aW B_time B_chest B_fund, sUsers E aU U, sArrB E atext 600 text]) (As := [.int 5]) (rest := []) F 0 0 1 (ctX5_fail l E aPr aB aC atext 5 Pr_errorAt Pr_length Pr_next Pr_errorCode Pr_kind Pr_tokenAt Pr_letters Pr_number r_7 Pr_errorAt_5 Pr_errorCode_5 hg_8) gX5_readUser_X5_fail rfl rfl rfl h0X5_fail ⟨Nat.le_of_ble_eq_true rfl, Nat.le_of_ble_eq_true rfl⟩ rfl rfl rfl [0] [1, 2, 3] rfl rfl rfl rfl rfl rfl (Nat.le_of_ble_eq_true rfl) dX5_readUser_15 ⟨(Nat.le_of_ble_eq_true rfl), (Nat.le_of_ble_eq_true rfl)⟩ ?_
    rintro v w ⟨rfl, rfl, hz_6⟩
    refine g_norm (Lw' := [sPar E aPr aB aC atext Pr_errorAt_5 Pr_length Pr_next Pr_errorCode_5 Pr_kind Pr_tokenAt Pr_letters Pr_number, sBook E aB asettings asums aU aP aW B_time B_chest B_fund, sUsers E aU U, sArrB E atext 600 text]) (st' := [.int r_7]) (pc' := 18) [0, 1, 2, 3] rfl rfl rfl rfl ?_
    cases hf
    exact g_zret (ty := .boolean) F rfl hz_6 ⟨rfl, rfl, hz_6⟩ dX5_readUser_18
set_option maxHeartbeats 4000000 in
set_option maxRecDepth 100000 in
theorem ctX5_readPiece (l : Launch) (E : gE) (aPr aB aC atext asettings asums aU aP aW : Nat → Nat) (Pr_errorAt : Int32) (Pr_length : Int32) (Pr_next : Int32) (Pr_errorCode : Int32) (Pr_kind : Int32) (Pr_tokenAt : Int32) (Pr_letters : Int64) (Pr_number : Int32) (B_time : Int32) (B_chest : Int32) (B_fund : Int32) (P : tPieces) (text : (Nat → Int32)) (r : Int32) (Pr_errorAt' : Int32) (Pr_next' : Int32) (Pr_errorCode' : Int32) (Pr_kind' : Int32) (Pr_tokenAt' : Int32) (Pr_letters' : Int64) (Pr_number' : Int32) (P' : tPieces) (hf : fX5_readPiece Pr_errorAt Pr_length Pr_next Pr_errorCode Pr_kind Pr_tokenAt Pr_letters Pr_number P text = some (r, Pr_errorAt', Pr_next', Pr_errorCode', Pr_kind', Pr_tokenAt', Pr_letters', Pr_number', P')) : gMet l yX5_readPiece wsX5_readPiece rmX5_readPiece vwCl E [.ref (aPr 0)] [sPar E aPr aB aC atext Pr_errorAt Pr_length Pr_next Pr_errorCode Pr_kind Pr_tokenAt Pr_letters Pr_number, sBook E aB asettings asums aU aP aW B_time B_chest B_fund, sPieces E aP P, sArrB E atext 600 text] (fun v w => v = some (.int r) ∧ w = [sPar E aPr aB aC atext Pr_errorAt' Pr_length Pr_next' Pr_errorCode' Pr_kind' Pr_tokenAt' Pr_letters' Pr_number', sBook E aB asettings asums aU aP aW B_time B_chest B_fund, sPieces E aP P', sArrB E atext 600 text] ∧ narrow .boolean (.int r) = .int r) 0 0 := by
  refine g_entry [some (.ref (aPr 0))] (by decide) rfl (Nat.le_of_ble_eq_true rfl) rfl ?_
  intro p e s m below meth c A F hnm
  unfold fX5_readPiece at hf
  refine g_aload_n F dX5_readPiece_0 rfl ?_
  refine g_get (C := RX5) (T := TX5) (N := 11) F 0 0 0 rfl rfl rfl iX5_readPiece_X5 (by decide) (by decide +kernel) rfl dX5_readPiece_1 ?_
  refine g_get (C := RX1) (T := TX1) (N := 8) F 1 0 3 rfl rfl rfl iX5_readPiece_X1 (by decide) (by decide +kernel) rfl dX5_readPiece_4 ?_
  obtain ⟨r_1, hg_1, hf⟩ := gb1_el hf
  refine g_callV (C := RX6) (T := TX6) (N := 6) (Lr := [sPar E aPr aB aC atext Pr_errorAt Pr_length Pr_next Pr_errorCode Pr_kind Pr_tokenAt Pr_letters Pr_number, sBook E aB asettings asums aU aP aW B_time B_chest B_fund, sArrB E atext 600 text]) (As := []) (rest := []) F 2 0 0 (ctX6_isFull l E aP P r_1 hg_1) gX5_readPiece_X6_isFull rfl rfl rfl h0X6_isFull ⟨Nat.le_of_ble_eq_true rfl, Nat.le_of_ble_eq_true rfl⟩ rfl rfl rfl [2] [0, 1, 3] rfl rfl rfl rfl rfl rfl (Nat.le_of_ble_eq_true rfl) dX5_readPiece_7 ⟨(Nat.le_of_ble_eq_true rfl), (Nat.le_of_ble_eq_true rfl)⟩ ?_
  rintro v w ⟨rfl, rfl, hz_1⟩
  refine g_norm (Lw' := [sPar E aPr aB aC atext Pr_errorAt Pr_length Pr_next Pr_errorCode Pr_kind Pr_tokenAt Pr_letters Pr_number, sBook E aB asettings asums aU aP aW B_time B_chest B_fund, sPieces E aP P, sArrB E atext 600 text]) (st' := [.int r_1]) (pc' := 10) [1, 2, 0, 3] rfl rfl rfl rfl ?_
  refine g_ifeq F 19 dX5_readPiece_10 (by decide) (fun hc_4 => ?_) (fun hc_4 => ?_)
  · replace hf := gi_t hc_4 hf
    refine g_aload_n F dX5_readPiece_19 rfl ?_
    obtain ⟨r_2, Pr_errorAt_1, Pr_next_1, Pr_errorCode_1, Pr_kind_1, Pr_tokenAt_1, Pr_letters_1, Pr_number_1, hg_2, hf⟩ := gb8_el hf
    refine g_callV (C := RX5) (T := TX5) (N := 11) (Lr := [sBook E aB asettings asums aU aP aW B_time B_chest B_fund, sPieces E aP P]) (As := []) (rest := []) F 0 0 0 (ctX5_readLetters l E aPr aB aC atext Pr_errorAt Pr_length Pr_next Pr_errorCode Pr_kind Pr_tokenAt Pr_letters Pr_number text r_2 Pr_errorAt_1 Pr_next_1 Pr_errorCode_1 Pr_kind_1 Pr_tokenAt_1 Pr_letters_1 Pr_number_1 hg_2) gX5_readPiece_X5_readLetters rfl rfl rfl h0X5_readLetters ⟨Nat.le_of_ble_eq_true rfl, Nat.le_of_ble_eq_true rfl⟩ rfl rfl rfl [0, 3] [1, 2] rfl rfl rfl rfl rfl rfl (Nat.le_of_ble_eq_true rfl) dX5_readPiece_20 ⟨(Nat.le_of_ble_eq_true rfl), (Nat.le_of_ble_eq_true rfl)⟩ ?_
    rintro v w ⟨rfl, rfl, hz_2⟩
    refine g_norm (Lw' := [sPar E aPr aB aC atext Pr_errorAt_1 Pr_length Pr_next_1 Pr_errorCode_1 Pr_kind_1 Pr_tokenAt_1 Pr_letters_1 Pr_number_1, sBook E aB asettings asums aU aP aW B_time B_chest B_fund, sPieces E aP P, sArrB E atext 600 text]) (st' := [.int r_2]) (pc' := 23) [0, 2, 3, 1] rfl rfl rfl rfl ?_
    refine g_ifne F 28 dX5_readPiece_23 (by decide) (fun hc_3 => ?_) (fun hc_3 => ?_)
    · replace hf := gi_f hc_3 hf
      refine g_aload_n F dX5_readPiece_28 rfl ?_
      refine g_get (C := RX5) (T := TX5) (N := 11) F 0 0 0 rfl rfl rfl iX5_readPiece_X5 (by decide) (by decide +kernel) rfl dX5_readPiece_29 ?_
      refine g_get (C := RX1) (T := TX1) (N := 8) F 1 0 3 rfl rfl rfl iX5_readPiece_X1 (by decide) (by decide +kernel) rfl dX5_readPiece_32 ?_
      refine g_aload_n F dX5_readPiece_35 rfl ?_
      refine g_get (C := RX5) (T := TX5) (N := 11) F 0 0 9 rfl rfl rfl iX5_readPiece_X5 (by decide) (by decide +kernel) rfl dX5_readPiece_36 ?_
      obtain ⟨r_3, hg_3, hf⟩ := gb1_el hf
      refine g_callV (C := RX6) (T := TX6) (N := 6) (Lr := [sPar E aPr aB aC atext Pr_errorAt_1 Pr_length Pr_next_1 Pr_errorCode_1 Pr_kind_1 Pr_tokenAt_1 Pr_letters_1 Pr_number_1, sBook E aB asettings asums aU aP aW B_time B_chest B_fund, sArrB E atext 600 text]) (As := [.long Pr_letters_1]) (rest := []) F 2 0 1 (ctX6_numberOf l E aP Pr_letters_1 P r_3 hg_3) gX5_readPiece_X6_numberOf rfl rfl rfl h0X6_numberOf ⟨Nat.le_of_ble_eq_true rfl, Nat.le_of_ble_eq_true rfl⟩ rfl rfl rfl [2] [0, 1, 3] rfl rfl rfl rfl rfl rfl (Nat.le_of_ble_eq_true rfl) dX5_readPiece_39 ⟨(Nat.le_of_ble_eq_true rfl), (Nat.le_of_ble_eq_true rfl)⟩ ?_
      rintro v w ⟨rfl, rfl⟩
      refine g_norm (Lw' := [sPar E aPr aB aC atext Pr_errorAt_1 Pr_length Pr_next_1 Pr_errorCode_1 Pr_kind_1 Pr_tokenAt_1 Pr_letters_1 Pr_number_1, sBook E aB asettings asums aU aP aW B_time B_chest B_fund, sPieces E aP P, sArrB E atext 600 text]) (st' := [.int r_3]) (pc' := 42) [1, 2, 0, 3] rfl rfl rfl rfl ?_
      refine g_iconst F (-1) dX5_readPiece_42 rfl ?_
      refine g_icmp_eq F 52 dX5_readPiece_43 (by decide) (fun hc_2 => ?_) (fun hc_2 => ?_)
      · replace hf := gi_t hc_2 hf
        refine g_aload_n F dX5_readPiece_52 rfl ?_
        refine g_get (C := RX5) (T := TX5) (N := 11) F 0 0 9 rfl rfl rfl iX5_readPiece_X5 (by decide) (by decide +kernel) rfl dX5_readPiece_53 ?_
        obtain ⟨r_4, hg_4, hf⟩ := gb1_el hf
        refine g_callS (Lr := [sPar E aPr aB aC atext Pr_errorAt_1 Pr_length Pr_next_1 Pr_errorCode_1 Pr_kind_1 Pr_tokenAt_1 Pr_letters_1 Pr_number_1, sBook E aB asettings asums aU aP aW B_time B_chest B_fund, sPieces E aP P, sArrB E atext 600 text]) (As := [.long Pr_letters_1]) (rest := []) F 1 (ctX4_lengthOf l E Pr_letters_1 r_4 hg_4) (va_cwS 1 F.2.2.2.2.2.1 gX5_readPiece_X4_lengthOf rfl rfl rfl h0X4_lengthOf ⟨Nat.le_of_ble_eq_true rfl, Nat.le_of_ble_eq_true rfl⟩) [] [0, 1, 2, 3] rfl rfl rfl rfl rfl rfl (Nat.le_of_ble_eq_true rfl) dX5_readPiece_56 ⟨(Nat.le_of_ble_eq_true rfl), (Nat.le_of_ble_eq_true rfl)⟩ ?_
        rintro v w ⟨rfl, rfl⟩
        refine g_norm (Lw' := [sPar E aPr aB aC atext Pr_errorAt_1 Pr_length Pr_next_1 Pr_errorCode_1 Pr_kind_1 Pr_tokenAt_1 Pr_letters_1 Pr_number_1, sBook E aB asettings asums aU aP aW B_time B_chest B_fund, sPieces E aP P, sArrB E atext 600 text]) (st' := [.int r_4]) (pc' := 59) [0, 1, 2, 3] rfl rfl rfl rfl ?_
        refine g_bipush F 6 dX5_readPiece_59 rfl ?_
        refine g_icmp_le F 70 dX5_readPiece_61 (by decide) (fun hc_1 => ?_) (fun hc_1 => ?_)
        · replace hf := gi_t hc_1 hf
          refine g_aload_n F dX5_readPiece_70 rfl ?_
          refine g_get (C := RX5) (T := TX5) (N := 11) F 0 0 0 rfl rfl rfl iX5_readPiece_X5 (by decide) (by decide +kernel) rfl dX5_readPiece_71 ?_
          refine g_get (C := RX1) (T := TX1) (N := 8) F 1 0 3 rfl rfl rfl iX5_readPiece_X1 (by decide) (by decide +kernel) rfl dX5_readPiece_74 ?_
          refine g_aload_n F dX5_readPiece_77 rfl ?_
          refine g_get (C := RX5) (T := TX5) (N := 11) F 0 0 9 rfl rfl rfl iX5_readPiece_X5 (by decide) (by decide +kernel) rfl dX5_readPiece_78 ?_
          refine g_iconst F 0 dX5_readPiece_81 rfl ?_
          refine g_iconst F (-1) dX5_readPiece_82 rfl ?_
          refine g_iconst F 0 dX5_readPiece_83 rfl ?_
          obtain ⟨r_5, P_1, hg_5, hf⟩ := gb2_el hf
          refine g_callV (C := RX6) (T := TX6) (N := 6) (Lr := [sPar E aPr aB aC atext Pr_errorAt_1 Pr_length Pr_next_1 Pr_errorCode_1 Pr_kind_1 Pr_tokenAt_1 Pr_letters_1 Pr_number_1, sBook E aB asettings asums aU aP aW B_time B_chest B_fund, sArrB E atext 600 text]) (As := [.long Pr_letters_1, .int 0, .int (-1), .int 0]) (rest := []) F 2 0 4 (ctX6_add l E aP Pr_letters_1 0 (-1) 0 P r_5 P_1 hg_5) gX5_readPiece_X6_add rfl rfl rfl h0X6_add ⟨Nat.le_of_ble_eq_true rfl, Nat.le_of_ble_eq_true rfl⟩ rfl rfl rfl [2] [0, 1, 3] rfl rfl rfl rfl rfl rfl (Nat.le_of_ble_eq_true rfl) dX5_readPiece_84 ⟨(Nat.le_of_ble_eq_true rfl), (Nat.le_of_ble_eq_true rfl)⟩ ?_
          rintro v w ⟨rfl, rfl⟩
          refine g_norm (Lw' := [sPar E aPr aB aC atext Pr_errorAt_1 Pr_length Pr_next_1 Pr_errorCode_1 Pr_kind_1 Pr_tokenAt_1 Pr_letters_1 Pr_number_1, sBook E aB asettings asums aU aP aW B_time B_chest B_fund, sPieces E aP P_1, sArrB E atext 600 text]) (st' := [.int r_5]) (pc' := 87) [1, 2, 0, 3] rfl rfl rfl rfl ?_
          refine g_pop F dX5_readPiece_87 rfl ?_
          refine g_aload_n F dX5_readPiece_88 rfl ?_
          obtain ⟨r_6, Pr_errorAt_2, Pr_next_2, Pr_errorCode_2, Pr_kind_2, Pr_tokenAt_2, Pr_letters_2, Pr_number_2, hg_6, hf⟩ := gb8_el hf
          refine g_callV (C := RX5) (T := TX5) (N := 11) (Lr := [sBook E aB asettings asums aU aP aW B_time B_chest B_fund, sPieces E aP P_1]) (As := []) (rest := []) F 0 0 0 (ctX5_readSemicolon l E aPr aB aC atext Pr_errorAt_1 Pr_length Pr_next_1 Pr_errorCode_1 Pr_kind_1 Pr_tokenAt_1 Pr_letters_1 Pr_number_1 text r_6 Pr_errorAt_2 Pr_next_2 Pr_errorCode_2 Pr_kind_2 Pr_tokenAt_2 Pr_letters_2 Pr_number_2 hg_6) gX5_readPiece_X5_readSemicolon rfl rfl rfl h0X5_readSemicolon ⟨Nat.le_of_ble_eq_true rfl, Nat.le_of_ble_eq_true rfl⟩ rfl rfl rfl [0, 3] [1, 2] rfl rfl rfl rfl rfl rfl (Nat.le_of_ble_eq_true rfl) dX5_readPiece_89 ⟨(Nat.le_of_ble_eq_true rfl), (Nat.le_of_ble_eq_true rfl)⟩ ?_
          rintro v w ⟨rfl, rfl, hz_3⟩
          refine g_norm (Lw' := [sPar E aPr aB aC atext Pr_errorAt_2 Pr_length Pr_next_2 Pr_errorCode_2 Pr_kind_2 Pr_tokenAt_2 Pr_letters_2 Pr_number_2, sBook E aB asettings asums aU aP aW B_time B_chest B_fund, sPieces E aP P_1, sArrB E atext 600 text]) (st' := [.int r_6]) (pc' := 92) [0, 2, 3, 1] rfl rfl rfl rfl ?_
          cases hf
          exact g_zret (ty := .boolean) F rfl hz_3 ⟨rfl, rfl, hz_3⟩ dX5_readPiece_92
        · replace hf := gi_f hc_1 hf
          refine g_aload_n F dX5_readPiece_64 rfl ?_
          refine g_iconst F 3 dX5_readPiece_65 rfl ?_
          obtain ⟨r_7, Pr_errorAt_3, Pr_errorCode_3, hg_7, hf⟩ := gb3_el hf
          refine g_callV (C := RX5) (T := TX5) (N := 11) (Lr := [sBook E aB asettings asums aU aP aW B_time B_chest B_fund, sPieces E aP P, sArrB E atext 600 text]) (As := [.int 3]) (rest := []) F 0 0 1 (ctX5_fail l E aPr aB aC atext 3 Pr_errorAt_1 Pr_length Pr_next_1 Pr_errorCode_1 Pr_kind_1 Pr_tokenAt_1 Pr_letters_1 Pr_number_1 r_7 Pr_errorAt_3 Pr_errorCode_3 hg_7) gX5_readPiece_X5_fail rfl rfl rfl h0X5_fail ⟨Nat.le_of_ble_eq_true rfl, Nat.le_of_ble_eq_true rfl⟩ rfl rfl rfl [0] [1, 2, 3] rfl rfl rfl rfl rfl rfl (Nat.le_of_ble_eq_true rfl) dX5_readPiece_66 ⟨(Nat.le_of_ble_eq_true rfl), (Nat.le_of_ble_eq_true rfl)⟩ ?_
          rintro v w ⟨rfl, rfl, hz_4⟩
          refine g_norm (Lw' := [sPar E aPr aB aC atext Pr_errorAt_3 Pr_length Pr_next_1 Pr_errorCode_3 Pr_kind_1 Pr_tokenAt_1 Pr_letters_1 Pr_number_1, sBook E aB asettings asums aU aP aW B_time B_chest B_fund, sPieces E aP P, sArrB E atext 600 text]) (st' := [.int r_7]) (pc' := 69) [0, 1, 2, 3] rfl rfl rfl rfl ?_
          cases hf
          exact g_zret (ty := .boolean) F rfl hz_4 ⟨rfl, rfl, hz_4⟩ dX5_readPiece_69
      · replace hf := gi_f hc_2 hf
        refine g_aload_n F dX5_readPiece_46 rfl ?_
        refine g_iconst F 2 dX5_readPiece_47 rfl ?_
        obtain ⟨r_8, Pr_errorAt_4, Pr_errorCode_4, hg_8, hf⟩ := gb3_el hf
        refine g_callV (C := RX5) (T := TX5) (N := 11) (Lr := [sBook E aB asettings asums aU aP aW B_time B_chest B_fund, sPieces E aP P, sArrB E atext 600 text]) (As := [.int 2]) (rest := []) F 0 0 1 (ctX5_fail l E aPr aB aC atext 2 Pr_errorAt_1 Pr_length Pr_next_1 Pr_errorCode_1 Pr_kind_1 Pr_tokenAt_1 Pr_letters_1 Pr_number_1 r_8 Pr_errorAt_4 Pr_errorCode_4 hg_8) gX5_readPiece_X5_fail rfl rfl rfl h0X5_fail ⟨Nat.le_of_ble_eq_true rfl, Nat.le_of_ble_eq_true rfl⟩ rfl rfl rfl [0] [1, 2, 3] rfl rfl rfl rfl rfl rfl (Nat.le_of_ble_eq_true rfl) dX5_readPiece_48 ⟨(Nat.le_of_ble_eq_true rfl), (Nat.le_of_ble_eq_true rfl)⟩ ?_
        rintro v w ⟨rfl, rfl, hz_5⟩
        refine g_norm (Lw' := [sPar E aPr aB aC atext Pr_errorAt_4 Pr_length Pr_next_1 Pr_errorCode_4 Pr_kind_1 Pr_tokenAt_1 Pr_letters_1 Pr_number_1, sBook E aB asettings asums aU aP aW B_time B_chest B_fund, sPieces E aP P, sArrB E atext 600 text]) (st' := [.int r_8]) (pc' := 51) [0, 1, 2, 3] rfl rfl rfl rfl ?_
        cases hf
        exact g_zret (ty := .boolean) F rfl hz_5 ⟨rfl, rfl, hz_5⟩ dX5_readPiece_51
    · replace hf := gi_t hc_3 hf
      refine g_iconst F 0 dX5_readPiece_26 rfl ?_
      cases hf
      exact g_zret (ty := .boolean) F rfl rfl ⟨rfl, rfl, rfl⟩ dX5_readPiece_27
  · replace hf := gi_f hc_4 hf
    refine g_aload_n F dX5_readPiece_13 rfl ?_
    refine g_iconst F 5 dX5_readPiece_14 rfl ?_
    obtain ⟨r_9, Pr_errorAt_5, Pr_errorCode_5, hg_9, hf⟩ := gb3_el hf
    refine g_callV (C := RX5) (T := TX5) (N := 11) (Lr := [sBook E aB asettings asums aU aP aW B_time B_chest B_fund, sPieces E aP P, sArrB E atext 600 text]) (As := [.int 5]) (rest := []) F 0 0 1 (ctX5_fail l E aPr aB aC atext 5 Pr_errorAt Pr_length Pr_next Pr_errorCode Pr_kind Pr_tokenAt Pr_letters Pr_number r_9 Pr_errorAt_5 Pr_errorCode_5 hg_9) gX5_readPiece_X5_fail rfl rfl rfl h0X5_fail ⟨Nat.le_of_ble_eq_true rfl, Nat.le_of_ble_eq_true rfl⟩ rfl rfl rfl [0] [1, 2, 3] rfl rfl rfl rfl rfl rfl (Nat.le_of_ble_eq_true rfl) dX5_readPiece_15 ⟨(Nat.le_of_ble_eq_true rfl), (Nat.le_of_ble_eq_true rfl)⟩ ?_
    rintro v w ⟨rfl, rfl, hz_6⟩
    refine g_norm (Lw' := [sPar E aPr aB aC atext Pr_errorAt_5 Pr_length Pr_next Pr_errorCode_5 Pr_kind Pr_tokenAt Pr_letters Pr_number, sBook E aB asettings asums aU aP aW B_time B_chest B_fund, sPieces E aP P, sArrB E atext 600 text]) (st' := [.int r_9]) (pc' := 18) [0, 1, 2, 3] rfl rfl rfl rfl ?_
    cases hf
    exact g_zret (ty := .boolean) F rfl hz_6 ⟨rfl, rfl, hz_6⟩ dX5_readPiece_18
set_option maxHeartbeats 4000000 in
set_option maxRecDepth 100000 in
theorem ctX5_readStoredWord (l : Launch) (E : gE) (aPr aB aC atext asettings asums aU aP aW aS : Nat → Nat) (Pr_errorAt : Int32) (Pr_length : Int32) (Pr_next : Int32) (Pr_errorCode : Int32) (Pr_kind : Int32) (Pr_tokenAt : Int32) (Pr_letters : Int64) (Pr_number : Int32) (B_time : Int32) (B_chest : Int32) (B_fund : Int32) (settings : (Nat → Int32)) (sums : (Nat → Int32)) (U : tUsers) (P : tPieces) (W : tWords) (C : tCut) (S : tCutR) (text : (Nat → Int32)) (r : Int32) (Pr_errorAt' : Int32) (Pr_next' : Int32) (Pr_errorCode' : Int32) (Pr_kind' : Int32) (Pr_tokenAt' : Int32) (Pr_letters' : Int64) (Pr_number' : Int32) (B_chest' : Int32) (B_fund' : Int32) (sums' : (Nat → Int32)) (U' : tUsers) (P' : tPieces) (W' : tWords) (C' : tCut) (S' : tCutR) (hf : fX5_readStoredWord Pr_errorAt Pr_length Pr_next Pr_errorCode Pr_kind Pr_tokenAt Pr_letters Pr_number B_time B_chest B_fund settings sums U P W C S text = some (r, Pr_errorAt', Pr_next', Pr_errorCode', Pr_kind', Pr_tokenAt', Pr_letters', Pr_number', B_chest', B_fund', sums', U', P', W', C', S')) : gMet l yX5_readStoredWord wsX5_readStoredWord rmX5_readStoredWord vwCl E [.ref (aPr 0)] [sPar E aPr aB aC atext Pr_errorAt Pr_length Pr_next Pr_errorCode Pr_kind Pr_tokenAt Pr_letters Pr_number, sBook E aB asettings asums aU aP aW B_time B_chest B_fund, sArrI E asettings 5 settings, sArrI E asums 6 sums, sUsers E aU U, sPieces E aP P, sWords E aW W, sCut E aC aS C, sCutR E aS S, sArrB E atext 600 text] (fun v w => v = some (.int r) ∧ w = [sPar E aPr aB aC atext Pr_errorAt' Pr_length Pr_next' Pr_errorCode' Pr_kind' Pr_tokenAt' Pr_letters' Pr_number', sBook E aB asettings asums aU aP aW B_time B_chest' B_fund', sArrI E asettings 5 settings, sArrI E asums 6 sums', sUsers E aU U', sPieces E aP P', sWords E aW W', sCut E aC aS C', sCutR E aS S', sArrB E atext 600 text] ∧ narrow .boolean (.int r) = .int r) 0 0 := by
  refine g_entry [some (.ref (aPr 0)), none] (by decide) rfl (Nat.le_of_ble_eq_true rfl) rfl ?_
  intro p e s m below meth c A F hnm
  unfold fX5_readStoredWord at hf
  refine g_aload_n F dX5_readStoredWord_0 rfl ?_
  refine g_get (C := RX5) (T := TX5) (N := 11) F 0 0 0 rfl rfl rfl iX5_readStoredWord_X5 (by decide) (by decide +kernel) rfl dX5_readStoredWord_1 ?_
  refine g_get (C := RX1) (T := TX1) (N := 8) F 1 0 4 rfl rfl rfl iX5_readStoredWord_X1 (by decide) (by decide +kernel) rfl dX5_readStoredWord_4 ?_
  obtain ⟨r_1, hg_1, hf⟩ := gb1_el hf
  refine g_callV (C := RX8) (T := TX8) (N := 5) (Lr := [sPar E aPr aB aC atext Pr_errorAt Pr_length Pr_next Pr_errorCode Pr_kind Pr_tokenAt Pr_letters Pr_number, sBook E aB asettings asums aU aP aW B_time B_chest B_fund, sArrI E asettings 5 settings, sArrI E asums 6 sums, sUsers E aU U, sPieces E aP P, sCut E aC aS C, sCutR E aS S, sArrB E atext 600 text]) (As := []) (rest := []) F 6 0 0 (ctX8_isFull l E aW W r_1 hg_1) gX5_readStoredWord_X8_isFull rfl rfl rfl h0X8_isFull ⟨Nat.le_of_ble_eq_true rfl, Nat.le_of_ble_eq_true rfl⟩ rfl rfl rfl [6] [0, 1, 2, 3, 4, 5, 7, 8, 9] rfl rfl rfl rfl rfl rfl (Nat.le_of_ble_eq_true rfl) dX5_readStoredWord_7 ⟨(Nat.le_of_ble_eq_true rfl), (Nat.le_of_ble_eq_true rfl)⟩ ?_
  rintro v w ⟨rfl, rfl, hz_1⟩
  refine g_norm (Lw' := [sPar E aPr aB aC atext Pr_errorAt Pr_length Pr_next Pr_errorCode Pr_kind Pr_tokenAt Pr_letters Pr_number, sBook E aB asettings asums aU aP aW B_time B_chest B_fund, sArrI E asettings 5 settings, sArrI E asums 6 sums, sUsers E aU U, sPieces E aP P, sWords E aW W, sCut E aC aS C, sCutR E aS S, sArrB E atext 600 text]) (st' := [.int r_1]) (pc' := 10) [1, 2, 3, 4, 5, 6, 0, 7, 8, 9] rfl rfl rfl rfl ?_
  refine g_ifeq F 19 dX5_readStoredWord_10 (by decide) (fun hc_5 => ?_) (fun hc_5 => ?_)
  · replace hf := gi_t hc_5 hf
    refine g_aload_n F dX5_readStoredWord_19 rfl ?_
    obtain ⟨r_2, Pr_errorAt_1, Pr_next_1, Pr_errorCode_1, Pr_kind_1, Pr_tokenAt_1, Pr_letters_1, Pr_number_1, hg_2, hf⟩ := gb8_el hf
    refine g_callV (C := RX5) (T := TX5) (N := 11) (Lr := [sBook E aB asettings asums aU aP aW B_time B_chest B_fund, sArrI E asettings 5 settings, sArrI E asums 6 sums, sUsers E aU U, sPieces E aP P, sWords E aW W, sCut E aC aS C, sCutR E aS S]) (As := []) (rest := []) F 0 0 0 (ctX5_readLetters l E aPr aB aC atext Pr_errorAt Pr_length Pr_next Pr_errorCode Pr_kind Pr_tokenAt Pr_letters Pr_number text r_2 Pr_errorAt_1 Pr_next_1 Pr_errorCode_1 Pr_kind_1 Pr_tokenAt_1 Pr_letters_1 Pr_number_1 hg_2) gX5_readStoredWord_X5_readLetters rfl rfl rfl h0X5_readLetters ⟨Nat.le_of_ble_eq_true rfl, Nat.le_of_ble_eq_true rfl⟩ rfl rfl rfl [0, 9] [1, 2, 3, 4, 5, 6, 7, 8] rfl rfl rfl rfl rfl rfl (Nat.le_of_ble_eq_true rfl) dX5_readStoredWord_20 ⟨(Nat.le_of_ble_eq_true rfl), (Nat.le_of_ble_eq_true rfl)⟩ ?_
    rintro v w ⟨rfl, rfl, hz_2⟩
    refine g_norm (Lw' := [sPar E aPr aB aC atext Pr_errorAt_1 Pr_length Pr_next_1 Pr_errorCode_1 Pr_kind_1 Pr_tokenAt_1 Pr_letters_1 Pr_number_1, sBook E aB asettings asums aU aP aW B_time B_chest B_fund, sArrI E asettings 5 settings, sArrI E asums 6 sums, sUsers E aU U, sPieces E aP P, sWords E aW W, sCut E aC aS C, sCutR E aS S, sArrB E atext 600 text]) (st' := [.int r_2]) (pc' := 23) [0, 2, 3, 4, 5, 6, 7, 8, 9, 1] rfl rfl rfl rfl ?_
    refine g_ifne F 28 dX5_readStoredWord_23 (by decide) (fun hc_4 => ?_) (fun hc_4 => ?_)
    · replace hf := gi_f hc_4 hf
      refine g_aload_n F dX5_readStoredWord_28 rfl ?_
      refine g_get (C := RX5) (T := TX5) (N := 11) F 0 0 0 rfl rfl rfl iX5_readStoredWord_X5 (by decide) (by decide +kernel) rfl dX5_readStoredWord_29 ?_
      refine g_get (C := RX1) (T := TX1) (N := 8) F 1 0 2 rfl rfl rfl iX5_readStoredWord_X1 (by decide) (by decide +kernel) rfl dX5_readStoredWord_32 ?_
      refine g_aload_n F dX5_readStoredWord_35 rfl ?_
      refine g_get (C := RX5) (T := TX5) (N := 11) F 0 0 9 rfl rfl rfl iX5_readStoredWord_X5 (by decide) (by decide +kernel) rfl dX5_readStoredWord_36 ?_
      obtain ⟨r_3, hg_3, hf⟩ := gb1_el hf
      refine g_callV (C := RX7) (T := TX7) (N := 3) (Lr := [sPar E aPr aB aC atext Pr_errorAt_1 Pr_length Pr_next_1 Pr_errorCode_1 Pr_kind_1 Pr_tokenAt_1 Pr_letters_1 Pr_number_1, sBook E aB asettings asums aU aP aW B_time B_chest B_fund, sArrI E asettings 5 settings, sArrI E asums 6 sums, sPieces E aP P, sWords E aW W, sCut E aC aS C, sCutR E aS S, sArrB E atext 600 text]) (As := [.long Pr_letters_1]) (rest := []) F 4 0 1 (ctX7_numberOf l E aU Pr_letters_1 U r_3 hg_3) gX5_readStoredWord_X7_numberOf rfl rfl rfl h0X7_numberOf ⟨Nat.le_of_ble_eq_true rfl, Nat.le_of_ble_eq_true rfl⟩ rfl rfl rfl [4] [0, 1, 2, 3, 5, 6, 7, 8, 9] rfl rfl rfl rfl rfl rfl (Nat.le_of_ble_eq_true rfl) dX5_readStoredWord_39 ⟨(Nat.le_of_ble_eq_true rfl), (Nat.le_of_ble_eq_true rfl)⟩ ?_
      rintro v w ⟨rfl, rfl⟩
      refine g_norm (Lw' := [sPar E aPr aB aC atext Pr_errorAt_1 Pr_length Pr_next_1 Pr_errorCode_1 Pr_kind_1 Pr_tokenAt_1 Pr_letters_1 Pr_number_1, sBook E aB asettings asums aU aP aW B_time B_chest B_fund, sArrI E asettings 5 settings, sArrI E asums 6 sums, sUsers E aU U, sPieces E aP P, sWords E aW W, sCut E aC aS C, sCutR E aS S, sArrB E atext 600 text]) (st' := [.int r_3]) (pc' := 42) [1, 2, 3, 4, 0, 5, 6, 7, 8, 9] rfl rfl rfl rfl ?_
      refine g_istore_n (lv' := [some (.ref (aPr 0)), some (.int r_3)]) F dX5_readStoredWord_42 (Nat.le_of_ble_eq_true rfl) rfl rfl ?_
      refine g_iload_n F dX5_readStoredWord_43 rfl ?_
      refine g_iconst F (-1) dX5_readStoredWord_44 rfl ?_
      refine g_icmp_ne F 54 dX5_readStoredWord_45 (by decide) (fun hc_3 => ?_) (fun hc_3 => ?_)
      · replace hf := gi_f hc_3 hf
        refine g_aload_n F dX5_readStoredWord_54 rfl ?_
        obtain ⟨r_5, Pr_errorAt_3, Pr_next_2, Pr_errorCode_3, Pr_kind_2, Pr_tokenAt_2, Pr_letters_2, Pr_number_2, hg_5, hf⟩ := gb8_el hf
        refine g_callV (C := RX5) (T := TX5) (N := 11) (Lr := [sBook E aB asettings asums aU aP aW B_time B_chest B_fund, sArrI E asettings 5 settings, sArrI E asums 6 sums, sUsers E aU U, sPieces E aP P, sWords E aW W, sCut E aC aS C, sCutR E aS S]) (As := []) (rest := []) F 0 0 0 (ctX5_readLetters l E aPr aB aC atext Pr_errorAt_1 Pr_length Pr_next_1 Pr_errorCode_1 Pr_kind_1 Pr_tokenAt_1 Pr_letters_1 Pr_number_1 text r_5 Pr_errorAt_3 Pr_next_2 Pr_errorCode_3 Pr_kind_2 Pr_tokenAt_2 Pr_letters_2 Pr_number_2 hg_5) gX5_readStoredWord_X5_readLetters rfl rfl rfl h0X5_readLetters ⟨Nat.le_of_ble_eq_true rfl, Nat.le_of_ble_eq_true rfl⟩ rfl rfl rfl [0, 9] [1, 2, 3, 4, 5, 6, 7, 8] rfl rfl rfl rfl rfl rfl (Nat.le_of_ble_eq_true rfl) dX5_readStoredWord_55 ⟨(Nat.le_of_ble_eq_true rfl), (Nat.le_of_ble_eq_true rfl)⟩ ?_
        rintro v w ⟨rfl, rfl, hz_4⟩
        refine g_norm (Lw' := [sPar E aPr aB aC atext Pr_errorAt_3 Pr_length Pr_next_2 Pr_errorCode_3 Pr_kind_2 Pr_tokenAt_2 Pr_letters_2 Pr_number_2, sBook E aB asettings asums aU aP aW B_time B_chest B_fund, sArrI E asettings 5 settings, sArrI E asums 6 sums, sUsers E aU U, sPieces E aP P, sWords E aW W, sCut E aC aS C, sCutR E aS S, sArrB E atext 600 text]) (st' := [.int r_5]) (pc' := 58) [0, 2, 3, 4, 5, 6, 7, 8, 9, 1] rfl rfl rfl rfl ?_
        refine g_ifne F 63 dX5_readStoredWord_58 (by decide) (fun hc_2 => ?_) (fun hc_2 => ?_)
        · replace hf := gi_f hc_2 hf
          refine g_aload_n F dX5_readStoredWord_63 rfl ?_
          refine g_get (C := RX5) (T := TX5) (N := 11) F 0 0 2 rfl rfl rfl iX5_readStoredWord_X5 (by decide) (by decide +kernel) rfl dX5_readStoredWord_64 ?_
          refine g_aload_n F dX5_readStoredWord_67 rfl ?_
          refine g_get (C := RX5) (T := TX5) (N := 11) F 0 0 0 rfl rfl rfl iX5_readStoredWord_X5 (by decide) (by decide +kernel) rfl dX5_readStoredWord_68 ?_
          refine g_aload_n F dX5_readStoredWord_71 rfl ?_
          refine g_get (C := RX5) (T := TX5) (N := 11) F 0 0 9 rfl rfl rfl iX5_readStoredWord_X5 (by decide) (by decide +kernel) rfl dX5_readStoredWord_72 ?_
          obtain ⟨C_1, S_1, hg_6, hf⟩ := gb2_el hf
          refine g_callV (C := RX2) (T := TX2) (N := 12) (Lr := [sPar E aPr aB aC atext Pr_errorAt_3 Pr_length Pr_next_2 Pr_errorCode_3 Pr_kind_2 Pr_tokenAt_2 Pr_letters_2 Pr_number_2, sArrI E asums 6 sums, sUsers E aU U, sWords E aW W, sArrB E atext 600 text]) (As := [.ref (aB 0), .long Pr_letters_2]) (rest := []) F 7 0 2 (ctX2_cutCheapest l E aC aS aB asettings asums aU aP aW Pr_letters_2 C S B_time B_chest B_fund settings P C_1 S_1 hg_6) gX5_readStoredWord_X2_cutCheapest rfl rfl rfl h0X2_cutCheapest ⟨Nat.le_of_ble_eq_true rfl, Nat.le_of_ble_eq_true rfl⟩ rfl rfl rfl [7, 8, 1, 2, 5] [0, 3, 4, 6, 9] rfl rfl rfl rfl rfl rfl (Nat.le_of_ble_eq_true rfl) dX5_readStoredWord_75 ⟨(Nat.le_of_ble_eq_true rfl), (Nat.le_of_ble_eq_true rfl)⟩ ?_
          rintro v w ⟨rfl, rfl⟩
          refine g_norm (Lw' := [sPar E aPr aB aC atext Pr_errorAt_3 Pr_length Pr_next_2 Pr_errorCode_3 Pr_kind_2 Pr_tokenAt_2 Pr_letters_2 Pr_number_2, sBook E aB asettings asums aU aP aW B_time B_chest B_fund, sArrI E asettings 5 settings, sArrI E asums 6 sums, sUsers E aU U, sPieces E aP P, sWords E aW W, sCut E aC aS C_1, sCutR E aS S_1, sArrB E atext 600 text]) (st' := []) (pc' := 78) [5, 2, 3, 6, 7, 4, 8, 0, 1, 9] rfl rfl rfl rfl ?_
          refine g_aload_n F dX5_readStoredWord_78 rfl ?_
          refine g_get (C := RX5) (T := TX5) (N := 11) F 0 0 0 rfl rfl rfl iX5_readStoredWord_X5 (by decide) (by decide +kernel) rfl dX5_readStoredWord_79 ?_
          refine g_iload_n F dX5_readStoredWord_82 rfl ?_
          refine g_aload_n F dX5_readStoredWord_83 rfl ?_
          refine g_get (C := RX5) (T := TX5) (N := 11) F 0 0 2 rfl rfl rfl iX5_readStoredWord_X5 (by decide) (by decide +kernel) rfl dX5_readStoredWord_84 ?_
          obtain ⟨r_6, hg_7, hf⟩ := gb1_el hf
          refine g_callV (C := RX1) (T := TX1) (N := 8) (Lr := [sPar E aPr aB aC atext Pr_errorAt_3 Pr_length Pr_next_2 Pr_errorCode_3 Pr_kind_2 Pr_tokenAt_2 Pr_letters_2 Pr_number_2, sArrI E asums 6 sums, sCutR E aS S_1, sArrB E atext 600 text]) (As := [.int r_3, .ref (aC 0)]) (rest := []) F 1 0 2 (ctX1_refusal l E aB asettings asums aU aP aW aC aS r_3 B_time B_chest B_fund settings U P W C_1 r_6 hg_7) gX5_readStoredWord_X1_refusal rfl rfl rfl h0X1_refusal ⟨Nat.le_of_ble_eq_true rfl, Nat.le_of_ble_eq_true rfl⟩ rfl rfl rfl [1, 2, 4, 5, 6, 7] [0, 3, 8, 9] rfl rfl rfl rfl rfl rfl (Nat.le_of_ble_eq_true rfl) dX5_readStoredWord_87 ⟨(Nat.le_of_ble_eq_true rfl), (Nat.le_of_ble_eq_true rfl)⟩ ?_
          rintro v w ⟨rfl, rfl⟩
          refine g_norm (Lw' := [sPar E aPr aB aC atext Pr_errorAt_3 Pr_length Pr_next_2 Pr_errorCode_3 Pr_kind_2 Pr_tokenAt_2 Pr_letters_2 Pr_number_2, sBook E aB asettings asums aU aP aW B_time B_chest B_fund, sArrI E asettings 5 settings, sArrI E asums 6 sums, sUsers E aU U, sPieces E aP P, sWords E aW W, sCut E aC aS C_1, sCutR E aS S_1, sArrB E atext 600 text]) (st' := [.int r_6]) (pc' := 90) [6, 0, 1, 7, 2, 3, 4, 5, 8, 9] rfl rfl rfl rfl ?_
          refine g_ifeq F 100 dX5_readStoredWord_90 (by decide) (fun hc_1 => ?_) (fun hc_1 => ?_)
          · replace hf := gi_t hc_1 hf
            refine g_aload_n F dX5_readStoredWord_100 rfl ?_
            refine g_get (C := RX5) (T := TX5) (N := 11) F 0 0 0 rfl rfl rfl iX5_readStoredWord_X5 (by decide) (by decide +kernel) rfl dX5_readStoredWord_101 ?_
            refine g_iload_n F dX5_readStoredWord_104 rfl ?_
            refine g_aload_n F dX5_readStoredWord_105 rfl ?_
            refine g_get (C := RX5) (T := TX5) (N := 11) F 0 0 9 rfl rfl rfl iX5_readStoredWord_X5 (by decide) (by decide +kernel) rfl dX5_readStoredWord_106 ?_
            refine g_aload_n F dX5_readStoredWord_109 rfl ?_
            refine g_get (C := RX5) (T := TX5) (N := 11) F 0 0 2 rfl rfl rfl iX5_readStoredWord_X5 (by decide) (by decide +kernel) rfl dX5_readStoredWord_110 ?_
            obtain ⟨r_7, B_chest_1, B_fund_1, sums_1, U_1, P_1, W_1, hg_8, hf⟩ := gb7_el hf
            refine g_callV (C := RX1) (T := TX1) (N := 8) (Lr := [sPar E aPr aB aC atext Pr_errorAt_3 Pr_length Pr_next_2 Pr_errorCode_3 Pr_kind_2 Pr_tokenAt_2 Pr_letters_2 Pr_number_2, sCutR E aS S_1, sArrB E atext 600 text]) (As := [.int r_3, .long Pr_letters_2, .ref (aC 0)]) (rest := []) F 1 0 3 (ctX1_storeCutting l E aB asettings asums aU aP aW aC aS r_3 Pr_letters_2 B_time B_chest B_fund settings sums U P W C_1 r_7 B_chest_1 B_fund_1 sums_1 U_1 P_1 W_1 hg_8) gX5_readStoredWord_X1_storeCutting rfl rfl rfl h0X1_storeCutting ⟨Nat.le_of_ble_eq_true rfl, Nat.le_of_ble_eq_true rfl⟩ rfl rfl rfl [1, 2, 3, 4, 5, 6, 7] [0, 8, 9] rfl rfl rfl rfl rfl rfl (Nat.le_of_ble_eq_true rfl) dX5_readStoredWord_113 ⟨(Nat.le_of_ble_eq_true rfl), (Nat.le_of_ble_eq_true rfl)⟩ ?_
            rintro v w ⟨rfl, rfl⟩
            refine g_norm (Lw' := [sPar E aPr aB aC atext Pr_errorAt_3 Pr_length Pr_next_2 Pr_errorCode_3 Pr_kind_2 Pr_tokenAt_2 Pr_letters_2 Pr_number_2, sBook E aB asettings asums aU aP aW B_time B_chest_1 B_fund_1, sArrI E asettings 5 settings, sArrI E asums 6 sums_1, sUsers E aU U_1, sPieces E aP P_1, sWords E aW W_1, sCut E aC aS C_1, sCutR E aS S_1, sArrB E atext 600 text]) (st' := [.int r_7]) (pc' := 116) [7, 0, 1, 2, 3, 4, 5, 6, 8, 9] rfl rfl rfl rfl ?_
            refine g_pop F dX5_readStoredWord_116 rfl ?_
            refine g_aload_n F dX5_readStoredWord_117 rfl ?_
            obtain ⟨r_8, Pr_errorAt_4, Pr_next_3, Pr_errorCode_4, Pr_kind_3, Pr_tokenAt_3, Pr_letters_3, Pr_number_3, hg_9, hf⟩ := gb8_el hf
            refine g_callV (C := RX5) (T := TX5) (N := 11) (Lr := [sBook E aB asettings asums aU aP aW B_time B_chest_1 B_fund_1, sArrI E asettings 5 settings, sArrI E asums 6 sums_1, sUsers E aU U_1, sPieces E aP P_1, sWords E aW W_1, sCut E aC aS C_1, sCutR E aS S_1]) (As := []) (rest := []) F 0 0 0 (ctX5_readSemicolon l E aPr aB aC atext Pr_errorAt_3 Pr_length Pr_next_2 Pr_errorCode_3 Pr_kind_2 Pr_tokenAt_2 Pr_letters_2 Pr_number_2 text r_8 Pr_errorAt_4 Pr_next_3 Pr_errorCode_4 Pr_kind_3 Pr_tokenAt_3 Pr_letters_3 Pr_number_3 hg_9) gX5_readStoredWord_X5_readSemicolon rfl rfl rfl h0X5_readSemicolon ⟨Nat.le_of_ble_eq_true rfl, Nat.le_of_ble_eq_true rfl⟩ rfl rfl rfl [0, 9] [1, 2, 3, 4, 5, 6, 7, 8] rfl rfl rfl rfl rfl rfl (Nat.le_of_ble_eq_true rfl) dX5_readStoredWord_118 ⟨(Nat.le_of_ble_eq_true rfl), (Nat.le_of_ble_eq_true rfl)⟩ ?_
            rintro v w ⟨rfl, rfl, hz_5⟩
            refine g_norm (Lw' := [sPar E aPr aB aC atext Pr_errorAt_4 Pr_length Pr_next_3 Pr_errorCode_4 Pr_kind_3 Pr_tokenAt_3 Pr_letters_3 Pr_number_3, sBook E aB asettings asums aU aP aW B_time B_chest_1 B_fund_1, sArrI E asettings 5 settings, sArrI E asums 6 sums_1, sUsers E aU U_1, sPieces E aP P_1, sWords E aW W_1, sCut E aC aS C_1, sCutR E aS S_1, sArrB E atext 600 text]) (st' := [.int r_8]) (pc' := 121) [0, 2, 3, 4, 5, 6, 7, 8, 9, 1] rfl rfl rfl rfl ?_
            cases hf
            exact g_zret (ty := .boolean) F rfl hz_5 ⟨rfl, rfl, hz_5⟩ dX5_readStoredWord_121
          · replace hf := gi_f hc_1 hf
            refine g_aload_n F dX5_readStoredWord_93 rfl ?_
            refine g_bipush F 6 dX5_readStoredWord_94 rfl ?_
            obtain ⟨r_9, Pr_errorAt_5, Pr_errorCode_5, hg_10, hf⟩ := gb3_el hf
            refine g_callV (C := RX5) (T := TX5) (N := 11) (Lr := [sBook E aB asettings asums aU aP aW B_time B_chest B_fund, sArrI E asettings 5 settings, sArrI E asums 6 sums, sUsers E aU U, sPieces E aP P, sWords E aW W, sCut E aC aS C_1, sCutR E aS S_1, sArrB E atext 600 text]) (As := [.int 6]) (rest := []) F 0 0 1 (ctX5_fail l E aPr aB aC atext 6 Pr_errorAt_3 Pr_length Pr_next_2 Pr_errorCode_3 Pr_kind_2 Pr_tokenAt_2 Pr_letters_2 Pr_number_2 r_9 Pr_errorAt_5 Pr_errorCode_5 hg_10) gX5_readStoredWord_X5_fail rfl rfl rfl h0X5_fail ⟨Nat.le_of_ble_eq_true rfl, Nat.le_of_ble_eq_true rfl⟩ rfl rfl rfl [0] [1, 2, 3, 4, 5, 6, 7, 8, 9] rfl rfl rfl rfl rfl rfl (Nat.le_of_ble_eq_true rfl) dX5_readStoredWord_96 ⟨(Nat.le_of_ble_eq_true rfl), (Nat.le_of_ble_eq_true rfl)⟩ ?_
            rintro v w ⟨rfl, rfl, hz_6⟩
            refine g_norm (Lw' := [sPar E aPr aB aC atext Pr_errorAt_5 Pr_length Pr_next_2 Pr_errorCode_5 Pr_kind_2 Pr_tokenAt_2 Pr_letters_2 Pr_number_2, sBook E aB asettings asums aU aP aW B_time B_chest B_fund, sArrI E asettings 5 settings, sArrI E asums 6 sums, sUsers E aU U, sPieces E aP P, sWords E aW W, sCut E aC aS C_1, sCutR E aS S_1, sArrB E atext 600 text]) (st' := [.int r_9]) (pc' := 99) [0, 1, 2, 3, 4, 5, 6, 7, 8, 9] rfl rfl rfl rfl ?_
            cases hf
            exact g_zret (ty := .boolean) F rfl hz_6 ⟨rfl, rfl, hz_6⟩ dX5_readStoredWord_99
        · replace hf := gi_t hc_2 hf
          refine g_iconst F 0 dX5_readStoredWord_61 rfl ?_
          cases hf
          exact g_zret (ty := .boolean) F rfl rfl ⟨rfl, rfl, rfl⟩ dX5_readStoredWord_62
      · replace hf := gi_t hc_3 hf
        refine g_aload_n F dX5_readStoredWord_48 rfl ?_
        refine g_iconst F 4 dX5_readStoredWord_49 rfl ?_
        obtain ⟨r_4, Pr_errorAt_2, Pr_errorCode_2, hg_4, hf⟩ := gb3_el hf
        refine g_callV (C := RX5) (T := TX5) (N := 11) (Lr := [sBook E aB asettings asums aU aP aW B_time B_chest B_fund, sArrI E asettings 5 settings, sArrI E asums 6 sums, sUsers E aU U, sPieces E aP P, sWords E aW W, sCut E aC aS C, sCutR E aS S, sArrB E atext 600 text]) (As := [.int 4]) (rest := []) F 0 0 1 (ctX5_fail l E aPr aB aC atext 4 Pr_errorAt_1 Pr_length Pr_next_1 Pr_errorCode_1 Pr_kind_1 Pr_tokenAt_1 Pr_letters_1 Pr_number_1 r_4 Pr_errorAt_2 Pr_errorCode_2 hg_4) gX5_readStoredWord_X5_fail rfl rfl rfl h0X5_fail ⟨Nat.le_of_ble_eq_true rfl, Nat.le_of_ble_eq_true rfl⟩ rfl rfl rfl [0] [1, 2, 3, 4, 5, 6, 7, 8, 9] rfl rfl rfl rfl rfl rfl (Nat.le_of_ble_eq_true rfl) dX5_readStoredWord_50 ⟨(Nat.le_of_ble_eq_true rfl), (Nat.le_of_ble_eq_true rfl)⟩ ?_
        rintro v w ⟨rfl, rfl, hz_3⟩
        refine g_norm (Lw' := [sPar E aPr aB aC atext Pr_errorAt_2 Pr_length Pr_next_1 Pr_errorCode_2 Pr_kind_1 Pr_tokenAt_1 Pr_letters_1 Pr_number_1, sBook E aB asettings asums aU aP aW B_time B_chest B_fund, sArrI E asettings 5 settings, sArrI E asums 6 sums, sUsers E aU U, sPieces E aP P, sWords E aW W, sCut E aC aS C, sCutR E aS S, sArrB E atext 600 text]) (st' := [.int r_4]) (pc' := 53) [0, 1, 2, 3, 4, 5, 6, 7, 8, 9] rfl rfl rfl rfl ?_
        cases hf
        exact g_zret (ty := .boolean) F rfl hz_3 ⟨rfl, rfl, hz_3⟩ dX5_readStoredWord_53
    · replace hf := gi_t hc_4 hf
      refine g_iconst F 0 dX5_readStoredWord_26 rfl ?_
      cases hf
      exact g_zret (ty := .boolean) F rfl rfl ⟨rfl, rfl, rfl⟩ dX5_readStoredWord_27
  · replace hf := gi_f hc_5 hf
    refine g_aload_n F dX5_readStoredWord_13 rfl ?_
    refine g_iconst F 5 dX5_readStoredWord_14 rfl ?_
    obtain ⟨r_10, Pr_errorAt_6, Pr_errorCode_6, hg_11, hf⟩ := gb3_el hf
    refine g_callV (C := RX5) (T := TX5) (N := 11) (Lr := [sBook E aB asettings asums aU aP aW B_time B_chest B_fund, sArrI E asettings 5 settings, sArrI E asums 6 sums, sUsers E aU U, sPieces E aP P, sWords E aW W, sCut E aC aS C, sCutR E aS S, sArrB E atext 600 text]) (As := [.int 5]) (rest := []) F 0 0 1 (ctX5_fail l E aPr aB aC atext 5 Pr_errorAt Pr_length Pr_next Pr_errorCode Pr_kind Pr_tokenAt Pr_letters Pr_number r_10 Pr_errorAt_6 Pr_errorCode_6 hg_11) gX5_readStoredWord_X5_fail rfl rfl rfl h0X5_fail ⟨Nat.le_of_ble_eq_true rfl, Nat.le_of_ble_eq_true rfl⟩ rfl rfl rfl [0] [1, 2, 3, 4, 5, 6, 7, 8, 9] rfl rfl rfl rfl rfl rfl (Nat.le_of_ble_eq_true rfl) dX5_readStoredWord_15 ⟨(Nat.le_of_ble_eq_true rfl), (Nat.le_of_ble_eq_true rfl)⟩ ?_
    rintro v w ⟨rfl, rfl, hz_7⟩
    refine g_norm (Lw' := [sPar E aPr aB aC atext Pr_errorAt_6 Pr_length Pr_next Pr_errorCode_6 Pr_kind Pr_tokenAt Pr_letters Pr_number, sBook E aB asettings asums aU aP aW B_time B_chest B_fund, sArrI E asettings 5 settings, sArrI E asums 6 sums, sUsers E aU U, sPieces E aP P, sWords E aW W, sCut E aC aS C, sCutR E aS S, sArrB E atext 600 text]) (st' := [.int r_10]) (pc' := 18) [0, 1, 2, 3, 4, 5, 6, 7, 8, 9] rfl rfl rfl rfl ?_
    cases hf
    exact g_zret (ty := .boolean) F rfl hz_7 ⟨rfl, rfl, hz_7⟩ dX5_readStoredWord_18
set_option maxHeartbeats 4000000 in
set_option maxRecDepth 100000 in
theorem ctX5_readStatement (l : Launch) (E : gE) (aPr aB aC atext asettings asums aU aP aW aS : Nat → Nat) (Pr_errorAt : Int32) (Pr_length : Int32) (Pr_next : Int32) (Pr_errorCode : Int32) (Pr_kind : Int32) (Pr_tokenAt : Int32) (Pr_letters : Int64) (Pr_number : Int32) (B_time : Int32) (B_chest : Int32) (B_fund : Int32) (settings : (Nat → Int32)) (sums : (Nat → Int32)) (U : tUsers) (P : tPieces) (W : tWords) (C : tCut) (S : tCutR) (text : (Nat → Int32)) (r : Int32) (Pr_errorAt' : Int32) (Pr_next' : Int32) (Pr_errorCode' : Int32) (Pr_kind' : Int32) (Pr_tokenAt' : Int32) (Pr_letters' : Int64) (Pr_number' : Int32) (B_chest' : Int32) (B_fund' : Int32) (sums' : (Nat → Int32)) (U' : tUsers) (P' : tPieces) (W' : tWords) (C' : tCut) (S' : tCutR) (hf : fX5_readStatement Pr_errorAt Pr_length Pr_next Pr_errorCode Pr_kind Pr_tokenAt Pr_letters Pr_number B_time B_chest B_fund settings sums U P W C S text = some (r, Pr_errorAt', Pr_next', Pr_errorCode', Pr_kind', Pr_tokenAt', Pr_letters', Pr_number', B_chest', B_fund', sums', U', P', W', C', S')) : gMet l yX5_readStatement wsX5_readStatement rmX5_readStatement vwCl E [.ref (aPr 0)] [sPar E aPr aB aC atext Pr_errorAt Pr_length Pr_next Pr_errorCode Pr_kind Pr_tokenAt Pr_letters Pr_number, sBook E aB asettings asums aU aP aW B_time B_chest B_fund, sArrI E asettings 5 settings, sArrI E asums 6 sums, sUsers E aU U, sPieces E aP P, sWords E aW W, sCut E aC aS C, sCutR E aS S, sArrB E atext 600 text] (fun v w => v = some (.int r) ∧ w = [sPar E aPr aB aC atext Pr_errorAt' Pr_length Pr_next' Pr_errorCode' Pr_kind' Pr_tokenAt' Pr_letters' Pr_number', sBook E aB asettings asums aU aP aW B_time B_chest' B_fund', sArrI E asettings 5 settings, sArrI E asums 6 sums', sUsers E aU U', sPieces E aP P', sWords E aW W', sCut E aC aS C', sCutR E aS S', sArrB E atext 600 text] ∧ narrow .boolean (.int r) = .int r) 0 0 := by
  refine g_entry [some (.ref (aPr 0))] (by decide) rfl (Nat.le_of_ble_eq_true rfl) rfl ?_
  intro p e s m below meth c A F hnm
  unfold fX5_readStatement at hf
  refine g_aload_n F dX5_readStatement_0 rfl ?_
  refine g_get (C := RX5) (T := TX5) (N := 11) F 0 0 7 rfl rfl rfl iX5_readStatement_X5 (by decide) (by decide +kernel) rfl dX5_readStatement_1 ?_
  refine g_iconst F 3 dX5_readStatement_4 rfl ?_
  obtain ⟨j_1, hj_1, hf⟩ := Lt_el hf
  have hj_1 : j_1 = some (r, Pr_errorAt', Pr_next', Pr_errorCode', Pr_kind', Pr_tokenAt', Pr_letters', Pr_number', B_chest', B_fund', sums', U', P', W', C', S') → Gj p l e rmX5_readStatement s m ([.ref (aPr 0)] : List Value).toArray below meth c 0 0 (MQ below (gQ vwCl E A (fun v w => v = some (.int r) ∧ w = [sPar E aPr aB aC atext Pr_errorAt' Pr_length Pr_next' Pr_errorCode' Pr_kind' Pr_tokenAt' Pr_letters' Pr_number', sBook E aB asettings asums aU aP aW B_time B_chest' B_fund', sArrI E asettings 5 settings, sArrI E asums 6 sums', sUsers E aU U', sPieces E aP P', sWords E aW W', sCut E aC aS C', sCutR E aS S', sArrB E atext 600 text] ∧ narrow .boolean (.int r) = .int r)) ([.ref (aPr 0)] : List Value).toArray s 0 0 A) vwCl E A [sPar E aPr aB aC atext Pr_errorAt Pr_length Pr_next Pr_errorCode Pr_kind Pr_tokenAt Pr_letters Pr_number, sBook E aB asettings asums aU aP aW B_time B_chest B_fund, sArrI E asettings 5 settings, sArrI E asums 6 sums, sUsers E aU U, sPieces E aP P, sWords E aW W, sCut E aC aS C, sCutR E aS S, sArrB E atext 600 text] [some (.ref (aPr 0))] [] 25 := by
    intro hf
    rw [hj_1] at hf
    refine g_aload_n F dX5_readStatement_25 rfl ?_
    refine g_get (C := RX5) (T := TX5) (N := 11) F 0 0 7 rfl rfl rfl iX5_readStatement_X5 (by decide) (by decide +kernel) rfl dX5_readStatement_26 ?_
    refine g_iconst F 3 dX5_readStatement_29 rfl ?_
    obtain ⟨j_2, hj_2, hf⟩ := Lt_el hf
    have hj_2 : j_2 = some (r, Pr_errorAt', Pr_next', Pr_errorCode', Pr_kind', Pr_tokenAt', Pr_letters', Pr_number', B_chest', B_fund', sums', U', P', W', C', S') → Gj p l e rmX5_readStatement s m ([.ref (aPr 0)] : List Value).toArray below meth c 0 0 (MQ below (gQ vwCl E A (fun v w => v = some (.int r) ∧ w = [sPar E aPr aB aC atext Pr_errorAt' Pr_length Pr_next' Pr_errorCode' Pr_kind' Pr_tokenAt' Pr_letters' Pr_number', sBook E aB asettings asums aU aP aW B_time B_chest' B_fund', sArrI E asettings 5 settings, sArrI E asums 6 sums', sUsers E aU U', sPieces E aP P', sWords E aW W', sCut E aC aS C', sCutR E aS S', sArrB E atext 600 text] ∧ narrow .boolean (.int r) = .int r)) ([.ref (aPr 0)] : List Value).toArray s 0 0 A) vwCl E A [sPar E aPr aB aC atext Pr_errorAt Pr_length Pr_next Pr_errorCode Pr_kind Pr_tokenAt Pr_letters Pr_number, sBook E aB asettings asums aU aP aW B_time B_chest B_fund, sArrI E asettings 5 settings, sArrI E asums 6 sums, sUsers E aU U, sPieces E aP P, sWords E aW W, sCut E aC aS C, sCutR E aS S, sArrB E atext 600 text] [some (.ref (aPr 0))] [] 50 := by
      intro hf
      rw [hj_2] at hf
      refine g_aload_n F dX5_readStatement_50 rfl ?_
      refine g_get (C := RX5) (T := TX5) (N := 11) F 0 0 7 rfl rfl rfl iX5_readStatement_X5 (by decide) (by decide +kernel) rfl dX5_readStatement_51 ?_
      refine g_iconst F 3 dX5_readStatement_54 rfl ?_
      obtain ⟨j_3, hj_3, hf⟩ := Lt_el hf
      have hj_3 : j_3 = some (r, Pr_errorAt', Pr_next', Pr_errorCode', Pr_kind', Pr_tokenAt', Pr_letters', Pr_number', B_chest', B_fund', sums', U', P', W', C', S') → Gj p l e rmX5_readStatement s m ([.ref (aPr 0)] : List Value).toArray below meth c 0 0 (MQ below (gQ vwCl E A (fun v w => v = some (.int r) ∧ w = [sPar E aPr aB aC atext Pr_errorAt' Pr_length Pr_next' Pr_errorCode' Pr_kind' Pr_tokenAt' Pr_letters' Pr_number', sBook E aB asettings asums aU aP aW B_time B_chest' B_fund', sArrI E asettings 5 settings, sArrI E asums 6 sums', sUsers E aU U', sPieces E aP P', sWords E aW W', sCut E aC aS C', sCutR E aS S', sArrB E atext 600 text] ∧ narrow .boolean (.int r) = .int r)) ([.ref (aPr 0)] : List Value).toArray s 0 0 A) vwCl E A [sPar E aPr aB aC atext Pr_errorAt Pr_length Pr_next Pr_errorCode Pr_kind Pr_tokenAt Pr_letters Pr_number, sBook E aB asettings asums aU aP aW B_time B_chest B_fund, sArrI E asettings 5 settings, sArrI E asums 6 sums, sUsers E aU U, sPieces E aP P, sWords E aW W, sCut E aC aS C, sCutR E aS S, sArrB E atext 600 text] [some (.ref (aPr 0))] [] 75 := by
        intro hf
        rw [hj_3] at hf
        refine g_aload_n F dX5_readStatement_75 rfl ?_
        refine g_iconst F 1 dX5_readStatement_76 rfl ?_
        obtain ⟨r_1, Pr_errorAt_1, Pr_errorCode_1, hg_1, hf⟩ := gb3_el hf
        refine g_callV (C := RX5) (T := TX5) (N := 11) (Lr := [sBook E aB asettings asums aU aP aW B_time B_chest B_fund, sArrI E asettings 5 settings, sArrI E asums 6 sums, sUsers E aU U, sPieces E aP P, sWords E aW W, sCut E aC aS C, sCutR E aS S, sArrB E atext 600 text]) (As := [.int 1]) (rest := []) F 0 0 1 (ctX5_fail l E aPr aB aC atext 1 Pr_errorAt Pr_length Pr_next Pr_errorCode Pr_kind Pr_tokenAt Pr_letters Pr_number r_1 Pr_errorAt_1 Pr_errorCode_1 hg_1) gX5_readStatement_X5_fail rfl rfl rfl h0X5_fail ⟨Nat.le_of_ble_eq_true rfl, Nat.le_of_ble_eq_true rfl⟩ rfl rfl rfl [0] [1, 2, 3, 4, 5, 6, 7, 8, 9] rfl rfl rfl rfl rfl rfl (Nat.le_of_ble_eq_true rfl) dX5_readStatement_77 ⟨(Nat.le_of_ble_eq_true rfl), (Nat.le_of_ble_eq_true rfl)⟩ ?_
        rintro v w ⟨rfl, rfl, hz_1⟩
        refine g_norm (Lw' := [sPar E aPr aB aC atext Pr_errorAt_1 Pr_length Pr_next Pr_errorCode_1 Pr_kind Pr_tokenAt Pr_letters Pr_number, sBook E aB asettings asums aU aP aW B_time B_chest B_fund, sArrI E asettings 5 settings, sArrI E asums 6 sums, sUsers E aU U, sPieces E aP P, sWords E aW W, sCut E aC aS C, sCutR E aS S, sArrB E atext 600 text]) (st' := [.int r_1]) (pc' := 80) [0, 1, 2, 3, 4, 5, 6, 7, 8, 9] rfl rfl rfl rfl ?_
        cases hf
        exact g_zret (ty := .boolean) F rfl hz_1 ⟨rfl, rfl, hz_1⟩ dX5_readStatement_80
      refine g_icmp_ne F 75 dX5_readStatement_55 (by decide) (fun hc_2 => ?_) (fun hc_2 => ?_)
      · replace hf := gi_f hc_2 hf
        exact hj_3 hf
      · replace hf := gi_t hc_2 hf
        refine g_aload_n F dX5_readStatement_58 rfl ?_
        refine g_get (C := RX5) (T := TX5) (N := 11) F 0 0 9 rfl rfl rfl iX5_readStatement_X5 (by decide) (by decide +kernel) rfl dX5_readStatement_59 ?_
        refine g_ldcS (tx := "word") (i := 3) F (by decide) dX5_readStatement_62 ?_
        obtain ⟨r_2, hg_2, hf⟩ := gb1_el hf
        refine g_callS (Lr := [sPar E aPr aB aC atext Pr_errorAt Pr_length Pr_next Pr_errorCode Pr_kind Pr_tokenAt Pr_letters Pr_number, sBook E aB asettings asums aU aP aW B_time B_chest B_fund, sArrI E asettings 5 settings, sArrI E asums 6 sums, sUsers E aU U, sPieces E aP P, sWords E aW W, sCut E aC aS C, sCutR E aS S, sArrB E atext 600 text]) (As := [.long Pr_letters, .ref (E.2.2 3)]) (rest := []) F 2 (ctX4_spell l E 3 Pr_letters (by decide) r_2 hg_2) (va_cwS 2 F.2.2.2.2.2.1 gX5_readStatement_X4_spell rfl rfl rfl h0X4_spell ⟨Nat.le_of_ble_eq_true rfl, Nat.le_of_ble_eq_true rfl⟩) [] [0, 1, 2, 3, 4, 5, 6, 7, 8, 9] rfl rfl rfl rfl rfl rfl (Nat.le_of_ble_eq_true rfl) dX5_readStatement_64 ⟨(Nat.le_of_ble_eq_true rfl), (Nat.le_of_ble_eq_true rfl)⟩ ?_
        rintro v w ⟨rfl, rfl, hz_2⟩
        refine g_norm (Lw' := [sPar E aPr aB aC atext Pr_errorAt Pr_length Pr_next Pr_errorCode Pr_kind Pr_tokenAt Pr_letters Pr_number, sBook E aB asettings asums aU aP aW B_time B_chest B_fund, sArrI E asettings 5 settings, sArrI E asums 6 sums, sUsers E aU U, sPieces E aP P, sWords E aW W, sCut E aC aS C, sCutR E aS S, sArrB E atext 600 text]) (st' := [.int r_2]) (pc' := 67) [0, 1, 2, 3, 4, 5, 6, 7, 8, 9] rfl rfl rfl rfl ?_
        refine g_ifeq F 75 dX5_readStatement_67 (by decide) (fun hc_1 => ?_) (fun hc_1 => ?_)
        · replace hf := gi_t hc_1 hf
          exact hj_3 hf
        · replace hf := gi_f hc_1 hf
          refine g_aload_n F dX5_readStatement_70 rfl ?_
          obtain ⟨r_3, Pr_errorAt_2, Pr_next_1, Pr_errorCode_2, Pr_kind_1, Pr_tokenAt_1, Pr_letters_1, Pr_number_1, B_chest_1, B_fund_1, sums_1, U_1, P_1, W_1, C_1, S_1, hg_3, hf⟩ := gb16_el hf
          refine g_callV (C := RX5) (T := TX5) (N := 11) (Lr := []) (As := []) (rest := []) F 0 0 0 (ctX5_readStoredWord l E aPr aB aC atext asettings asums aU aP aW aS Pr_errorAt Pr_length Pr_next Pr_errorCode Pr_kind Pr_tokenAt Pr_letters Pr_number B_time B_chest B_fund settings sums U P W C S text r_3 Pr_errorAt_2 Pr_next_1 Pr_errorCode_2 Pr_kind_1 Pr_tokenAt_1 Pr_letters_1 Pr_number_1 B_chest_1 B_fund_1 sums_1 U_1 P_1 W_1 C_1 S_1 hg_3) gX5_readStatement_X5_readStoredWord rfl rfl rfl h0X5_readStoredWord ⟨Nat.le_of_ble_eq_true rfl, Nat.le_of_ble_eq_true rfl⟩ rfl rfl rfl [0, 1, 2, 3, 4, 5, 6, 7, 8, 9] [] rfl rfl rfl rfl rfl rfl (Nat.le_of_ble_eq_true rfl) dX5_readStatement_71 ⟨(Nat.le_of_ble_eq_true rfl), (Nat.le_of_ble_eq_true rfl)⟩ ?_
          rintro v w ⟨rfl, rfl, hz_3⟩
          refine g_norm (Lw' := [sPar E aPr aB aC atext Pr_errorAt_2 Pr_length Pr_next_1 Pr_errorCode_2 Pr_kind_1 Pr_tokenAt_1 Pr_letters_1 Pr_number_1, sBook E aB asettings asums aU aP aW B_time B_chest_1 B_fund_1, sArrI E asettings 5 settings, sArrI E asums 6 sums_1, sUsers E aU U_1, sPieces E aP P_1, sWords E aW W_1, sCut E aC aS C_1, sCutR E aS S_1, sArrB E atext 600 text]) (st' := [.int r_3]) (pc' := 74) [0, 1, 2, 3, 4, 5, 6, 7, 8, 9] rfl rfl rfl rfl ?_
          cases hf
          exact g_zret (ty := .boolean) F rfl hz_3 ⟨rfl, rfl, hz_3⟩ dX5_readStatement_74
    refine g_icmp_ne F 50 dX5_readStatement_30 (by decide) (fun hc_4 => ?_) (fun hc_4 => ?_)
    · replace hf := gi_f hc_4 hf
      exact hj_2 hf
    · replace hf := gi_t hc_4 hf
      refine g_aload_n F dX5_readStatement_33 rfl ?_
      refine g_get (C := RX5) (T := TX5) (N := 11) F 0 0 9 rfl rfl rfl iX5_readStatement_X5 (by decide) (by decide +kernel) rfl dX5_readStatement_34 ?_
      refine g_ldcS (tx := "piece") (i := 2) F (by decide) dX5_readStatement_37 ?_
      obtain ⟨r_4, hg_4, hf⟩ := gb1_el hf
      refine g_callS (Lr := [sPar E aPr aB aC atext Pr_errorAt Pr_length Pr_next Pr_errorCode Pr_kind Pr_tokenAt Pr_letters Pr_number, sBook E aB asettings asums aU aP aW B_time B_chest B_fund, sArrI E asettings 5 settings, sArrI E asums 6 sums, sUsers E aU U, sPieces E aP P, sWords E aW W, sCut E aC aS C, sCutR E aS S, sArrB E atext 600 text]) (As := [.long Pr_letters, .ref (E.2.2 2)]) (rest := []) F 2 (ctX4_spell l E 2 Pr_letters (by decide) r_4 hg_4) (va_cwS 2 F.2.2.2.2.2.1 gX5_readStatement_X4_spell rfl rfl rfl h0X4_spell ⟨Nat.le_of_ble_eq_true rfl, Nat.le_of_ble_eq_true rfl⟩) [] [0, 1, 2, 3, 4, 5, 6, 7, 8, 9] rfl rfl rfl rfl rfl rfl (Nat.le_of_ble_eq_true rfl) dX5_readStatement_39 ⟨(Nat.le_of_ble_eq_true rfl), (Nat.le_of_ble_eq_true rfl)⟩ ?_
      rintro v w ⟨rfl, rfl, hz_4⟩
      refine g_norm (Lw' := [sPar E aPr aB aC atext Pr_errorAt Pr_length Pr_next Pr_errorCode Pr_kind Pr_tokenAt Pr_letters Pr_number, sBook E aB asettings asums aU aP aW B_time B_chest B_fund, sArrI E asettings 5 settings, sArrI E asums 6 sums, sUsers E aU U, sPieces E aP P, sWords E aW W, sCut E aC aS C, sCutR E aS S, sArrB E atext 600 text]) (st' := [.int r_4]) (pc' := 42) [0, 1, 2, 3, 4, 5, 6, 7, 8, 9] rfl rfl rfl rfl ?_
      refine g_ifeq F 50 dX5_readStatement_42 (by decide) (fun hc_3 => ?_) (fun hc_3 => ?_)
      · replace hf := gi_t hc_3 hf
        exact hj_2 hf
      · replace hf := gi_f hc_3 hf
        refine g_aload_n F dX5_readStatement_45 rfl ?_
        obtain ⟨r_5, Pr_errorAt_3, Pr_next_2, Pr_errorCode_3, Pr_kind_2, Pr_tokenAt_2, Pr_letters_2, Pr_number_2, P_2, hg_5, hf⟩ := gb9_el hf
        refine g_callV (C := RX5) (T := TX5) (N := 11) (Lr := [sArrI E asettings 5 settings, sArrI E asums 6 sums, sUsers E aU U, sWords E aW W, sCut E aC aS C, sCutR E aS S]) (As := []) (rest := []) F 0 0 0 (ctX5_readPiece l E aPr aB aC atext asettings asums aU aP aW Pr_errorAt Pr_length Pr_next Pr_errorCode Pr_kind Pr_tokenAt Pr_letters Pr_number B_time B_chest B_fund P text r_5 Pr_errorAt_3 Pr_next_2 Pr_errorCode_3 Pr_kind_2 Pr_tokenAt_2 Pr_letters_2 Pr_number_2 P_2 hg_5) gX5_readStatement_X5_readPiece rfl rfl rfl h0X5_readPiece ⟨Nat.le_of_ble_eq_true rfl, Nat.le_of_ble_eq_true rfl⟩ rfl rfl rfl [0, 1, 5, 9] [2, 3, 4, 6, 7, 8] rfl rfl rfl rfl rfl rfl (Nat.le_of_ble_eq_true rfl) dX5_readStatement_46 ⟨(Nat.le_of_ble_eq_true rfl), (Nat.le_of_ble_eq_true rfl)⟩ ?_
        rintro v w ⟨rfl, rfl, hz_5⟩
        refine g_norm (Lw' := [sPar E aPr aB aC atext Pr_errorAt_3 Pr_length Pr_next_2 Pr_errorCode_3 Pr_kind_2 Pr_tokenAt_2 Pr_letters_2 Pr_number_2, sBook E aB asettings asums aU aP aW B_time B_chest B_fund, sArrI E asettings 5 settings, sArrI E asums 6 sums, sUsers E aU U, sPieces E aP P_2, sWords E aW W, sCut E aC aS C, sCutR E aS S, sArrB E atext 600 text]) (st' := [.int r_5]) (pc' := 49) [0, 1, 4, 5, 6, 2, 7, 8, 9, 3] rfl rfl rfl rfl ?_
        cases hf
        exact g_zret (ty := .boolean) F rfl hz_5 ⟨rfl, rfl, hz_5⟩ dX5_readStatement_49
  refine g_icmp_ne F 25 dX5_readStatement_5 (by decide) (fun hc_6 => ?_) (fun hc_6 => ?_)
  · replace hf := gi_f hc_6 hf
    exact hj_1 hf
  · replace hf := gi_t hc_6 hf
    refine g_aload_n F dX5_readStatement_8 rfl ?_
    refine g_get (C := RX5) (T := TX5) (N := 11) F 0 0 9 rfl rfl rfl iX5_readStatement_X5 (by decide) (by decide +kernel) rfl dX5_readStatement_9 ?_
    refine g_ldcS (tx := "user") (i := 1) F (by decide) dX5_readStatement_12 ?_
    obtain ⟨r_6, hg_6, hf⟩ := gb1_el hf
    refine g_callS (Lr := [sPar E aPr aB aC atext Pr_errorAt Pr_length Pr_next Pr_errorCode Pr_kind Pr_tokenAt Pr_letters Pr_number, sBook E aB asettings asums aU aP aW B_time B_chest B_fund, sArrI E asettings 5 settings, sArrI E asums 6 sums, sUsers E aU U, sPieces E aP P, sWords E aW W, sCut E aC aS C, sCutR E aS S, sArrB E atext 600 text]) (As := [.long Pr_letters, .ref (E.2.2 1)]) (rest := []) F 2 (ctX4_spell l E 1 Pr_letters (by decide) r_6 hg_6) (va_cwS 2 F.2.2.2.2.2.1 gX5_readStatement_X4_spell rfl rfl rfl h0X4_spell ⟨Nat.le_of_ble_eq_true rfl, Nat.le_of_ble_eq_true rfl⟩) [] [0, 1, 2, 3, 4, 5, 6, 7, 8, 9] rfl rfl rfl rfl rfl rfl (Nat.le_of_ble_eq_true rfl) dX5_readStatement_14 ⟨(Nat.le_of_ble_eq_true rfl), (Nat.le_of_ble_eq_true rfl)⟩ ?_
    rintro v w ⟨rfl, rfl, hz_6⟩
    refine g_norm (Lw' := [sPar E aPr aB aC atext Pr_errorAt Pr_length Pr_next Pr_errorCode Pr_kind Pr_tokenAt Pr_letters Pr_number, sBook E aB asettings asums aU aP aW B_time B_chest B_fund, sArrI E asettings 5 settings, sArrI E asums 6 sums, sUsers E aU U, sPieces E aP P, sWords E aW W, sCut E aC aS C, sCutR E aS S, sArrB E atext 600 text]) (st' := [.int r_6]) (pc' := 17) [0, 1, 2, 3, 4, 5, 6, 7, 8, 9] rfl rfl rfl rfl ?_
    refine g_ifeq F 25 dX5_readStatement_17 (by decide) (fun hc_5 => ?_) (fun hc_5 => ?_)
    · replace hf := gi_t hc_5 hf
      exact hj_1 hf
    · replace hf := gi_f hc_5 hf
      refine g_aload_n F dX5_readStatement_20 rfl ?_
      obtain ⟨r_7, Pr_errorAt_4, Pr_next_3, Pr_errorCode_4, Pr_kind_3, Pr_tokenAt_3, Pr_letters_3, Pr_number_3, U_2, hg_7, hf⟩ := gb9_el hf
      refine g_callV (C := RX5) (T := TX5) (N := 11) (Lr := [sArrI E asettings 5 settings, sArrI E asums 6 sums, sPieces E aP P, sWords E aW W, sCut E aC aS C, sCutR E aS S]) (As := []) (rest := []) F 0 0 0 (ctX5_readUser l E aPr aB aC atext asettings asums aU aP aW Pr_errorAt Pr_length Pr_next Pr_errorCode Pr_kind Pr_tokenAt Pr_letters Pr_number B_time B_chest B_fund U text r_7 Pr_errorAt_4 Pr_next_3 Pr_errorCode_4 Pr_kind_3 Pr_tokenAt_3 Pr_letters_3 Pr_number_3 U_2 hg_7) gX5_readStatement_X5_readUser rfl rfl rfl h0X5_readUser ⟨Nat.le_of_ble_eq_true rfl, Nat.le_of_ble_eq_true rfl⟩ rfl rfl rfl [0, 1, 4, 9] [2, 3, 5, 6, 7, 8] rfl rfl rfl rfl rfl rfl (Nat.le_of_ble_eq_true rfl) dX5_readStatement_21 ⟨(Nat.le_of_ble_eq_true rfl), (Nat.le_of_ble_eq_true rfl)⟩ ?_
      rintro v w ⟨rfl, rfl, hz_7⟩
      refine g_norm (Lw' := [sPar E aPr aB aC atext Pr_errorAt_4 Pr_length Pr_next_3 Pr_errorCode_4 Pr_kind_3 Pr_tokenAt_3 Pr_letters_3 Pr_number_3, sBook E aB asettings asums aU aP aW B_time B_chest B_fund, sArrI E asettings 5 settings, sArrI E asums 6 sums, sUsers E aU U_2, sPieces E aP P, sWords E aW W, sCut E aC aS C, sCutR E aS S, sArrB E atext 600 text]) (st' := [.int r_7]) (pc' := 24) [0, 1, 4, 5, 2, 6, 7, 8, 9, 3] rfl rfl rfl rfl ?_
      cases hf
      exact g_zret (ty := .boolean) F rfl hz_7 ⟨rfl, rfl, hz_7⟩ dX5_readStatement_24
set_option maxHeartbeats 4000000 in
set_option maxRecDepth 100000 in
theorem ktX5_readText_L60 {p : Program} {l : Launch} {e : Env} {s : State} {m : MethodId} {args : Array Value} {below : List Frame} {meth : Method} {c : Code} {E : gE} {A : Nat → Prop} (F : gFx p s m args meth c RX5 wsX5_readText cX5_readText 5 (some .int) vwCl E A) (aPr aB aC atext asettings asums aU aP aW aS ap1 : Nat → Nat) (n_p1 : Nat) (Pr_length : Int32) (B_time : Int32) (settings : (Nat → Int32)) (text : (Nat → Int32)) (p1 : (Nat → Int32)) (r : Int32) (Pr_errorAt' : Int32) (Pr_length' : Int32) (Pr_next' : Int32) (Pr_errorCode' : Int32) (Pr_kind' : Int32) (Pr_tokenAt' : Int32) (Pr_letters' : Int64) (Pr_number' : Int32) (B_time' : Int32) (B_chest' : Int32) (B_fund' : Int32) (settings' : (Nat → Int32)) (sums' : (Nat → Int32)) (U' : tUsers) (P' : tPieces) (W' : tWords) (C' : tCut) (S' : tCutR) (text' : (Nat → Int32)) {k : Int32 → Int32 → Int32 → Int32 → Int32 → Int64 → Int32 → Int32 → Int32 → (Nat → Int32) → tUsers → tPieces → tWords → tCut → tCutR → Option (Int32 × Int32 × Int32 × Int32 × Int32 × Int32 × Int32 × Int64 × Int32 × Int32 × Int32 × Int32 × (Nat → Int32) × (Nat → Int32) × tUsers × tPieces × tWords × tCut × tCutR × (Nat → Int32))} (hk : ∀ (Pr_errorAt : Int32) (Pr_next : Int32) (Pr_errorCode : Int32) (Pr_kind : Int32) (Pr_tokenAt : Int32) (Pr_letters : Int64) (Pr_number : Int32) (B_chest : Int32) (B_fund : Int32) (sums : (Nat → Int32)) (U : tUsers) (P : tPieces) (W : tWords) (C : tCut) (S : tCutR), k Pr_errorAt Pr_next Pr_errorCode Pr_kind Pr_tokenAt Pr_letters Pr_number B_chest B_fund sums U P W C S = some (r, Pr_errorAt', Pr_length', Pr_next', Pr_errorCode', Pr_kind', Pr_tokenAt', Pr_letters', Pr_number', B_time', B_chest', B_fund', settings', sums', U', P', W', C', S', text') → Gj p l e rmX5_readText s m args below meth c 0 0 (MQ below (gQ vwCl E A (fun v w => v = some (.int r) ∧ w = [sPar E aPr aB aC atext Pr_errorAt' Pr_length' Pr_next' Pr_errorCode' Pr_kind' Pr_tokenAt' Pr_letters' Pr_number', sBook E aB asettings asums aU aP aW B_time' B_chest' B_fund', sArrI E asettings 5 settings', sArrI E asums 6 sums', sUsers E aU U', sPieces E aP P', sWords E aW W', sCut E aC aS C', sCutR E aS S', sArrB E atext 600 text', sArrB E ap1 n_p1 p1])) args s 0 0 A) vwCl E A [sPar E aPr aB aC atext Pr_errorAt Pr_length Pr_next Pr_errorCode Pr_kind Pr_tokenAt Pr_letters Pr_number, sBook E aB asettings asums aU aP aW B_time B_chest B_fund, sArrI E asettings 5 settings, sArrI E asums 6 sums, sUsers E aU U, sPieces E aP P, sWords E aW W, sCut E aC aS C, sCutR E aS S, sArrB E atext 600 text, sArrB E ap1 n_p1 p1] [some (.ref (aPr 0)), none, none, none, none] [] 97) : ∀ (n : Nat) (x3 : Int32) (x4 : Int32) (Pr_errorAt : Int32) (Pr_next : Int32) (Pr_errorCode : Int32) (Pr_kind : Int32) (Pr_tokenAt : Int32) (Pr_letters : Int64) (Pr_number : Int32) (B_chest : Int32) (B_fund : Int32) (sums : (Nat → Int32)) (U : tUsers) (P : tPieces) (W : tWords) (C : tCut) (S : tCutR), fX5_readText_L60 n_p1 Pr_length B_time settings text p1 k n x3 x4 Pr_errorAt Pr_next Pr_errorCode Pr_kind Pr_tokenAt Pr_letters Pr_number B_chest B_fund sums U P W C S = some (r, Pr_errorAt', Pr_length', Pr_next', Pr_errorCode', Pr_kind', Pr_tokenAt', Pr_letters', Pr_number', B_time', B_chest', B_fund', settings', sums', U', P', W', C', S', text') → Gj p l e rmX5_readText s m args below meth c 0 0 (MQ below (gQ vwCl E A (fun v w => v = some (.int r) ∧ w = [sPar E aPr aB aC atext Pr_errorAt' Pr_length' Pr_next' Pr_errorCode' Pr_kind' Pr_tokenAt' Pr_letters' Pr_number', sBook E aB asettings asums aU aP aW B_time' B_chest' B_fund', sArrI E asettings 5 settings', sArrI E asums 6 sums', sUsers E aU U', sPieces E aP P', sWords E aW W', sCut E aC aS C', sCutR E aS S', sArrB E atext 600 text', sArrB E ap1 n_p1 p1])) args s 0 0 A) vwCl E A [sPar E aPr aB aC atext Pr_errorAt Pr_length Pr_next Pr_errorCode Pr_kind Pr_tokenAt Pr_letters Pr_number, sBook E aB asettings asums aU aP aW B_time B_chest B_fund, sArrI E asettings 5 settings, sArrI E asums 6 sums, sUsers E aU U, sPieces E aP P, sWords E aW W, sCut E aC aS C, sCutR E aS S, sArrB E atext 600 text, sArrB E ap1 n_p1 p1] [some (.ref (aPr 0)), none, none, some (.int x3), some (.int x4)] [] 60
  | 0, _, _, _, _, _, _, _, _, _, _, _, _, _, _, _, _, _, hf => by cases hf
  | n + 1, x3, x4, Pr_errorAt, Pr_next, Pr_errorCode, Pr_kind, Pr_tokenAt, Pr_letters, Pr_number, B_chest, B_fund, sums, U, P, W, C, S, hf => by
    have ih := ktX5_readText_L60 F aPr aB aC atext asettings asums aU aP aW aS ap1 n_p1 Pr_length B_time settings text p1 r Pr_errorAt' Pr_length' Pr_next' Pr_errorCode' Pr_kind' Pr_tokenAt' Pr_letters' Pr_number' B_time' B_chest' B_fund' settings' sums' U' P' W' C' S' text' hk n
    rw [fX5_readText_L60] at hf
    refine g_iload_n F dX5_readText_60 rfl ?_
    refine g_ifeq F 97 dX5_readText_61 (by decide) (fun hc_3 => ?_) (fun hc_3 => ?_)
    · replace hf := gi_t hc_3 hf
      refine g_mask [true, true, true, false, false] rfl ?_
      exact hk Pr_errorAt Pr_next Pr_errorCode Pr_kind Pr_tokenAt Pr_letters Pr_number B_chest B_fund sums U P W C S hf
    · replace hf := gi_f hc_3 hf
      refine g_iload F dX5_readText_64 rfl ?_
      refine g_aload_n F dX5_readText_66 rfl ?_
      refine g_get (C := RX5) (T := TX5) (N := 11) F 0 0 4 rfl rfl rfl iX5_readText_X5 (by decide) (by decide +kernel) rfl dX5_readText_67 ?_
      refine g_icmp_gt F 97 dX5_readText_70 (by decide) (fun hc_2 => ?_) (fun hc_2 => ?_)
      · replace hf := gi_t hc_2 hf
        refine g_mask [true, true, true, false, false] rfl ?_
        exact hk Pr_errorAt Pr_next Pr_errorCode Pr_kind Pr_tokenAt Pr_letters Pr_number B_chest B_fund sums U P W C S hf
      · replace hf := gi_f hc_2 hf
        refine g_aload_n F dX5_readText_73 rfl ?_
        obtain ⟨Pr_next_1, Pr_kind_1, Pr_tokenAt_1, Pr_letters_1, Pr_number_1, hg_1, hf⟩ := gb5_el hf
        refine g_callV (C := RX5) (T := TX5) (N := 11) (Lr := [sBook E aB asettings asums aU aP aW B_time B_chest B_fund, sArrI E asettings 5 settings, sArrI E asums 6 sums, sUsers E aU U, sPieces E aP P, sWords E aW W, sCut E aC aS C, sCutR E aS S, sArrB E ap1 n_p1 p1]) (As := []) (rest := []) F 0 0 0 (ctX5_readToken l E aPr aB aC atext Pr_errorAt Pr_length Pr_next Pr_errorCode Pr_kind Pr_tokenAt Pr_letters Pr_number text Pr_next_1 Pr_kind_1 Pr_tokenAt_1 Pr_letters_1 Pr_number_1 hg_1) gX5_readText_X5_readToken rfl rfl rfl h0X5_readToken ⟨Nat.le_of_ble_eq_true rfl, Nat.le_of_ble_eq_true rfl⟩ rfl rfl rfl [0, 9] [1, 2, 3, 4, 5, 6, 7, 8, 10] rfl rfl rfl rfl rfl rfl (Nat.le_of_ble_eq_true rfl) dX5_readText_74 ⟨(Nat.le_of_ble_eq_true rfl), (Nat.le_of_ble_eq_true rfl)⟩ ?_
        rintro v w ⟨rfl, rfl⟩
        refine g_norm (Lw' := [sPar E aPr aB aC atext Pr_errorAt Pr_length Pr_next_1 Pr_errorCode Pr_kind_1 Pr_tokenAt_1 Pr_letters_1 Pr_number_1, sBook E aB asettings asums aU aP aW B_time B_chest B_fund, sArrI E asettings 5 settings, sArrI E asums 6 sums, sUsers E aU U, sPieces E aP P, sWords E aW W, sCut E aC aS C, sCutR E aS S, sArrB E atext 600 text, sArrB E ap1 n_p1 p1]) (st' := []) (pc' := 77) [0, 2, 3, 4, 5, 6, 7, 8, 9, 1, 10] rfl rfl rfl rfl ?_
        refine g_aload_n F dX5_readText_77 rfl ?_
        refine g_get (C := RX5) (T := TX5) (N := 11) F 0 0 7 rfl rfl rfl iX5_readText_X5 (by decide) (by decide +kernel) rfl dX5_readText_78 ?_
        refine g_ifne F 86 dX5_readText_81 (by decide) (fun hc_1 => ?_) (fun hc_1 => ?_)
        · replace hf := gi_f hc_1 hf
          refine g_aload_n F dX5_readText_86 rfl ?_
          obtain ⟨r_1, Pr_errorAt_1, Pr_next_2, Pr_errorCode_1, Pr_kind_2, Pr_tokenAt_2, Pr_letters_2, Pr_number_2, B_chest_1, B_fund_1, sums_1, U_1, P_1, W_1, C_1, S_1, hg_2, hf⟩ := gb16_el hf
          refine g_callV (C := RX5) (T := TX5) (N := 11) (Lr := [sArrB E ap1 n_p1 p1]) (As := []) (rest := []) F 0 0 0 (ctX5_readStatement l E aPr aB aC atext asettings asums aU aP aW aS Pr_errorAt Pr_length Pr_next_1 Pr_errorCode Pr_kind_1 Pr_tokenAt_1 Pr_letters_1 Pr_number_1 B_time B_chest B_fund settings sums U P W C S text r_1 Pr_errorAt_1 Pr_next_2 Pr_errorCode_1 Pr_kind_2 Pr_tokenAt_2 Pr_letters_2 Pr_number_2 B_chest_1 B_fund_1 sums_1 U_1 P_1 W_1 C_1 S_1 hg_2) gX5_readText_X5_readStatement rfl rfl rfl h0X5_readStatement ⟨Nat.le_of_ble_eq_true rfl, Nat.le_of_ble_eq_true rfl⟩ rfl rfl rfl [0, 1, 2, 3, 4, 5, 6, 7, 8, 9] [10] rfl rfl rfl rfl rfl rfl (Nat.le_of_ble_eq_true rfl) dX5_readText_87 ⟨(Nat.le_of_ble_eq_true rfl), (Nat.le_of_ble_eq_true rfl)⟩ ?_
          rintro v w ⟨rfl, rfl, hz_1⟩
          refine g_norm (Lw' := [sPar E aPr aB aC atext Pr_errorAt_1 Pr_length Pr_next_2 Pr_errorCode_1 Pr_kind_2 Pr_tokenAt_2 Pr_letters_2 Pr_number_2, sBook E aB asettings asums aU aP aW B_time B_chest_1 B_fund_1, sArrI E asettings 5 settings, sArrI E asums 6 sums_1, sUsers E aU U_1, sPieces E aP P_1, sWords E aW W_1, sCut E aC aS C_1, sCutR E aS S_1, sArrB E atext 600 text, sArrB E ap1 n_p1 p1]) (st' := [.int r_1]) (pc' := 90) [0, 1, 2, 3, 4, 5, 6, 7, 8, 9, 10] rfl rfl rfl rfl ?_
          refine g_istore_n (lv' := [some (.ref (aPr 0)), none, none, some (.int r_1), some (.int x4)]) F dX5_readText_90 (Nat.le_of_ble_eq_true rfl) rfl rfl ?_
          refine g_iinc (lv' := [some (.ref (aPr 0)), none, none, some (.int r_1), some (.int (x4 + 1))]) F (x4 + 1) dX5_readText_91 rfl rfl rfl rfl ?_
          refine g_goto F 60 dX5_readText_94 (by decide) ?_
          exact ih r_1 (x4 + 1) Pr_errorAt_1 Pr_next_2 Pr_errorCode_1 Pr_kind_2 Pr_tokenAt_2 Pr_letters_2 Pr_number_2 B_chest_1 B_fund_1 sums_1 U_1 P_1 W_1 C_1 S_1 hf
        · replace hf := gi_t hc_1 hf
          refine g_iconst F 0 dX5_readText_84 rfl ?_
          cases hf
          exact g_iret F rfl ⟨rfl, rfl⟩ dX5_readText_85
set_option maxHeartbeats 4000000 in
set_option maxRecDepth 100000 in
theorem ctX5_readText (l : Launch) (E : gE) (aPr aB aC atext asettings asums aU aP aW aS ap1 : Nat → Nat) (n_p1 : Nat) (x2 : Int32) (Pr_errorAt : Int32) (Pr_length : Int32) (Pr_next : Int32) (Pr_errorCode : Int32) (Pr_kind : Int32) (Pr_tokenAt : Int32) (Pr_letters : Int64) (Pr_number : Int32) (B_time : Int32) (B_chest : Int32) (B_fund : Int32) (settings : (Nat → Int32)) (sums : (Nat → Int32)) (U : tUsers) (P : tPieces) (W : tWords) (C : tCut) (S : tCutR) (text : (Nat → Int32)) (p1 : (Nat → Int32)) (r : Int32) (Pr_errorAt' : Int32) (Pr_length' : Int32) (Pr_next' : Int32) (Pr_errorCode' : Int32) (Pr_kind' : Int32) (Pr_tokenAt' : Int32) (Pr_letters' : Int64) (Pr_number' : Int32) (B_time' : Int32) (B_chest' : Int32) (B_fund' : Int32) (settings' : (Nat → Int32)) (sums' : (Nat → Int32)) (U' : tUsers) (P' : tPieces) (W' : tWords) (C' : tCut) (S' : tCutR) (text' : (Nat → Int32)) (hf : fX5_readText n_p1 x2 Pr_errorAt Pr_length Pr_next Pr_errorCode Pr_kind Pr_tokenAt Pr_letters Pr_number B_time B_chest B_fund settings sums U P W C S text p1 = some (r, Pr_errorAt', Pr_length', Pr_next', Pr_errorCode', Pr_kind', Pr_tokenAt', Pr_letters', Pr_number', B_time', B_chest', B_fund', settings', sums', U', P', W', C', S', text')) : gMet l yX5_readText wsX5_readText rmX5_readText vwCl E [.ref (aPr 0), .ref (ap1 0), .int x2] [sPar E aPr aB aC atext Pr_errorAt Pr_length Pr_next Pr_errorCode Pr_kind Pr_tokenAt Pr_letters Pr_number, sBook E aB asettings asums aU aP aW B_time B_chest B_fund, sArrI E asettings 5 settings, sArrI E asums 6 sums, sUsers E aU U, sPieces E aP P, sWords E aW W, sCut E aC aS C, sCutR E aS S, sArrB E atext 600 text, sArrB E ap1 n_p1 p1] (fun v w => v = some (.int r) ∧ w = [sPar E aPr aB aC atext Pr_errorAt' Pr_length' Pr_next' Pr_errorCode' Pr_kind' Pr_tokenAt' Pr_letters' Pr_number', sBook E aB asettings asums aU aP aW B_time' B_chest' B_fund', sArrI E asettings 5 settings', sArrI E asums 6 sums', sUsers E aU U', sPieces E aP P', sWords E aW W', sCut E aC aS C', sCutR E aS S', sArrB E atext 600 text', sArrB E ap1 n_p1 p1]) 0 0 := by
  refine g_entry [some (.ref (aPr 0)), some (.ref (ap1 0)), some (.int x2), none, none] (by decide) rfl (Nat.le_of_ble_eq_true rfl) rfl ?_
  intro p e s m below meth c A F hnm
  unfold fX5_readText at hf
  refine g_aload_n F dX5_readText_0 rfl ?_
  refine g_iload_n F dX5_readText_1 rfl ?_
  refine g_aload_n F dX5_readText_2 rfl ?_
  refine g_alen F 10 0 0 rfl rfl rfl rfl dX5_readText_3 ?_
  refine g_sipush F 600 dX5_readText_4 rfl ?_
  refine g_mmin F (by decide +kernel) (by decide +kernel) (by decide +kernel) (by decide +kernel) rfl (Nat.le_of_ble_eq_true rfl) (Nat.le_of_ble_eq_true rfl) (Nat.le_of_ble_eq_true rfl) (Nat.le_of_ble_eq_true rfl) dX5_readText_7 ?_
  obtain ⟨z_1, hz_1, hf⟩ := Lt_el hf
  rw [← hz_1]
  refine g_mmin F (by decide +kernel) (by decide +kernel) (by decide +kernel) (by decide +kernel) rfl (Nat.le_of_ble_eq_true rfl) (Nat.le_of_ble_eq_true rfl) (Nat.le_of_ble_eq_true rfl) (Nat.le_of_ble_eq_true rfl) dX5_readText_10 ?_
  obtain ⟨z_2, hz_2, hf⟩ := Lt_el hf
  rw [← hz_2]
  refine g_put (C := RX5) (T := TX5) (N := 11) (tys := tyX5) (Lw' := [sPar E aPr aB aC atext Pr_errorAt z_2 Pr_next Pr_errorCode Pr_kind Pr_tokenAt Pr_letters Pr_number, sBook E aB asettings asums aU aP aW B_time B_chest B_fund, sArrI E asettings 5 settings, sArrI E asums 6 sums, sUsers E aU U, sPieces E aP P, sWords E aW W, sCut E aC aS C, sCutR E aS S, sArrB E atext 600 text, sArrB E ap1 n_p1 p1]) F 0 0 4 rfl rfl rfl iX5_readText_X5 tyX5_ok nmX5 (by decide) (by decide +kernel) rfl rfl rfl rfl (Nat.le_of_ble_eq_true rfl) dX5_readText_13 rfl ?_
  refine g_aload_n F dX5_readText_16 rfl ?_
  refine g_iconst F 0 dX5_readText_17 rfl ?_
  refine g_aload_n F dX5_readText_18 rfl ?_
  refine g_get (C := RX5) (T := TX5) (N := 11) F 0 0 3 rfl rfl rfl iX5_readText_X5 (by decide) (by decide +kernel) rfl dX5_readText_19 ?_
  refine g_iconst F 0 dX5_readText_22 rfl ?_
  refine g_aload_n F dX5_readText_23 rfl ?_
  refine g_get (C := RX5) (T := TX5) (N := 11) F 0 0 4 rfl rfl rfl iX5_readText_X5 (by decide) (by decide +kernel) rfl dX5_readText_24 ?_
  obtain ⟨hb_1, hf⟩ := gb_in hf
  obtain ⟨hb_2, hf⟩ := gb_if hf
  obtain ⟨text_1, htext_1, hf⟩ := Lt_el hf
  refine g_copyb (Lw' := [sPar E aPr aB aC atext Pr_errorAt z_2 Pr_next Pr_errorCode Pr_kind Pr_tokenAt Pr_letters Pr_number, sBook E aB asettings asums aU aP aW B_time B_chest B_fund, sArrI E asettings 5 settings, sArrI E asums 6 sums, sUsers E aU U, sPieces E aP P, sWords E aW W, sCut E aC aS C, sCutR E aS S, sArrB E atext 600 text_1, sArrB E ap1 n_p1 p1]) F 10 0 9 0 rfl rfl rfl rfl (by decide +kernel) (by decide +kernel) (by decide +kernel) (by decide +kernel) hb_1 hb_2 rfl (Nat.le_of_ble_eq_true rfl) (Nat.le_of_ble_eq_true rfl) dX5_readText_27 (by subst htext_1; rfl) ?_
  refine g_aload_n F dX5_readText_30 rfl ?_
  refine g_iconst F 0 dX5_readText_31 rfl ?_
  refine g_put (C := RX5) (T := TX5) (N := 11) (tys := tyX5) (Lw' := [sPar E aPr aB aC atext Pr_errorAt z_2 0 Pr_errorCode Pr_kind Pr_tokenAt Pr_letters Pr_number, sBook E aB asettings asums aU aP aW B_time B_chest B_fund, sArrI E asettings 5 settings, sArrI E asums 6 sums, sUsers E aU U, sPieces E aP P, sWords E aW W, sCut E aC aS C, sCutR E aS S, sArrB E atext 600 text_1, sArrB E ap1 n_p1 p1]) F 0 0 5 rfl rfl rfl iX5_readText_X5 tyX5_ok nmX5 (by decide) (by decide +kernel) rfl rfl rfl rfl (Nat.le_of_ble_eq_true rfl) dX5_readText_32 rfl ?_
  refine g_aload_n F dX5_readText_35 rfl ?_
  refine g_iconst F 0 dX5_readText_36 rfl ?_
  refine g_put (C := RX5) (T := TX5) (N := 11) (tys := tyX5) (Lw' := [sPar E aPr aB aC atext Pr_errorAt z_2 0 0 Pr_kind Pr_tokenAt Pr_letters Pr_number, sBook E aB asettings asums aU aP aW B_time B_chest B_fund, sArrI E asettings 5 settings, sArrI E asums 6 sums, sUsers E aU U, sPieces E aP P, sWords E aW W, sCut E aC aS C, sCutR E aS S, sArrB E atext 600 text_1, sArrB E ap1 n_p1 p1]) F 0 0 6 rfl rfl rfl iX5_readText_X5 tyX5_ok nmX5 (by decide) (by decide +kernel) rfl rfl rfl rfl (Nat.le_of_ble_eq_true rfl) dX5_readText_37 rfl ?_
  refine g_aload_n F dX5_readText_40 rfl ?_
  refine g_iconst F (-1) dX5_readText_41 rfl ?_
  refine g_put (C := RX5) (T := TX5) (N := 11) (tys := tyX5) (Lw' := [sPar E aPr aB aC atext (-1) z_2 0 0 Pr_kind Pr_tokenAt Pr_letters Pr_number, sBook E aB asettings asums aU aP aW B_time B_chest B_fund, sArrI E asettings 5 settings, sArrI E asums 6 sums, sUsers E aU U, sPieces E aP P, sWords E aW W, sCut E aC aS C, sCutR E aS S, sArrB E atext 600 text_1, sArrB E ap1 n_p1 p1]) F 0 0 1 rfl rfl rfl iX5_readText_X5 tyX5_ok nmX5 (by decide) (by decide +kernel) rfl rfl rfl rfl (Nat.le_of_ble_eq_true rfl) dX5_readText_42 rfl ?_
  refine g_aload_n F dX5_readText_45 rfl ?_
  refine g_get (C := RX5) (T := TX5) (N := 11) F 0 0 0 rfl rfl rfl iX5_readText_X5 (by decide) (by decide +kernel) rfl dX5_readText_46 ?_
  obtain ⟨B_time_1, B_chest_1, B_fund_1, sums_1, U_1, P_1, W_1, hg_1, hf⟩ := gb7_el hf
  refine g_callV (C := RX1) (T := TX1) (N := 8) (Lr := [sPar E aPr aB aC atext (-1) z_2 0 0 Pr_kind Pr_tokenAt Pr_letters Pr_number, sArrI E asettings 5 settings, sCut E aC aS C, sCutR E aS S, sArrB E atext 600 text_1, sArrB E ap1 n_p1 p1]) (As := []) (rest := []) F 1 0 0 (ctX1_clear l E aB asettings asums aU aP aW B_time B_chest B_fund sums U P W B_time_1 B_chest_1 B_fund_1 sums_1 U_1 P_1 W_1 hg_1) gX5_readText_X1_clear rfl rfl rfl h0X1_clear ⟨Nat.le_of_ble_eq_true rfl, Nat.le_of_ble_eq_true rfl⟩ rfl rfl rfl [1, 3, 4, 5, 6] [0, 2, 7, 8, 9, 10] rfl rfl rfl rfl rfl rfl (Nat.le_of_ble_eq_true rfl) dX5_readText_49 ⟨(Nat.le_of_ble_eq_true rfl), (Nat.le_of_ble_eq_true rfl)⟩ ?_
  rintro v w ⟨rfl, rfl⟩
  refine g_norm (Lw' := [sPar E aPr aB aC atext (-1) z_2 0 0 Pr_kind Pr_tokenAt Pr_letters Pr_number, sBook E aB asettings asums aU aP aW B_time_1 B_chest_1 B_fund_1, sArrI E asettings 5 settings, sArrI E asums 6 sums_1, sUsers E aU U_1, sPieces E aP P_1, sWords E aW W_1, sCut E aC aS C, sCutR E aS S, sArrB E atext 600 text_1, sArrB E ap1 n_p1 p1]) (st' := []) (pc' := 52) [5, 0, 6, 1, 2, 3, 4, 7, 8, 9, 10] rfl rfl rfl rfl ?_
  refine g_aload_n F dX5_readText_52 rfl ?_
  obtain ⟨r_1, Pr_errorAt_1, Pr_next_1, Pr_errorCode_1, Pr_kind_1, Pr_tokenAt_1, Pr_letters_1, Pr_number_1, settings_1, hg_2, hf⟩ := gb9_el hf
  refine g_callV (C := RX5) (T := TX5) (N := 11) (Lr := [sArrI E asums 6 sums_1, sUsers E aU U_1, sPieces E aP P_1, sWords E aW W_1, sCut E aC aS C, sCutR E aS S, sArrB E ap1 n_p1 p1]) (As := []) (rest := []) F 0 0 0 (ctX5_readHeader l E aPr aB aC atext asettings asums aU aP aW (-1) z_2 0 0 Pr_kind Pr_tokenAt Pr_letters Pr_number B_time_1 B_chest_1 B_fund_1 settings text_1 r_1 Pr_errorAt_1 Pr_next_1 Pr_errorCode_1 Pr_kind_1 Pr_tokenAt_1 Pr_letters_1 Pr_number_1 settings_1 hg_2) gX5_readText_X5_readHeader rfl rfl rfl h0X5_readHeader ⟨Nat.le_of_ble_eq_true rfl, Nat.le_of_ble_eq_true rfl⟩ rfl rfl rfl [0, 1, 2, 9] [3, 4, 5, 6, 7, 8, 10] rfl rfl rfl rfl rfl rfl (Nat.le_of_ble_eq_true rfl) dX5_readText_53 ⟨(Nat.le_of_ble_eq_true rfl), (Nat.le_of_ble_eq_true rfl)⟩ ?_
  rintro v w ⟨rfl, rfl, hz_1⟩
  refine g_norm (Lw' := [sPar E aPr aB aC atext Pr_errorAt_1 z_2 Pr_next_1 Pr_errorCode_1 Pr_kind_1 Pr_tokenAt_1 Pr_letters_1 Pr_number_1, sBook E aB asettings asums aU aP aW B_time_1 B_chest_1 B_fund_1, sArrI E asettings 5 settings_1, sArrI E asums 6 sums_1, sUsers E aU U_1, sPieces E aP P_1, sWords E aW W_1, sCut E aC aS C, sCutR E aS S, sArrB E atext 600 text_1, sArrB E ap1 n_p1 p1]) (st' := [.int r_1]) (pc' := 56) [0, 1, 2, 4, 5, 6, 7, 8, 9, 3, 10] rfl rfl rfl rfl ?_
  refine g_istore_n (lv' := [some (.ref (aPr 0)), some (.ref (ap1 0)), some (.int x2), some (.int r_1), none]) F dX5_readText_56 (Nat.le_of_ble_eq_true rfl) rfl rfl ?_
  refine g_iconst F 0 dX5_readText_57 rfl ?_
  refine g_istore (lv' := [some (.ref (aPr 0)), some (.ref (ap1 0)), some (.int x2), some (.int r_1), some (.int 0)]) F dX5_readText_58 (Nat.le_of_ble_eq_true rfl) rfl rfl ?_
  refine g_mask [true, false, false, true, true] rfl ?_
  refine ktX5_readText_L60 F aPr aB aC atext asettings asums aU aP aW aS ap1 n_p1 z_2 B_time_1 settings_1 text_1 p1 r Pr_errorAt' Pr_length' Pr_next' Pr_errorCode' Pr_kind' Pr_tokenAt' Pr_letters' Pr_number' B_time' B_chest' B_fund' settings' sums' U' P' W' C' S' text' (fun Pr_errorAt_2 Pr_next_2 Pr_errorCode_2 Pr_kind_2 Pr_tokenAt_2 Pr_letters_2 Pr_number_2 B_chest_2 B_fund_2 sums_2 U_2 P_2 W_2 C_1 S_1 hf => ?_) FU r_1 0 Pr_errorAt_1 Pr_next_1 Pr_errorCode_1 Pr_kind_1 Pr_tokenAt_1 Pr_letters_1 Pr_number_1 B_chest_1 B_fund_1 sums_1 U_1 P_1 W_1 C S hf
  refine g_aload_n F dX5_readText_97 rfl ?_
  refine g_get (C := RX5) (T := TX5) (N := 11) F 0 0 6 rfl rfl rfl iX5_readText_X5 (by decide) (by decide +kernel) rfl dX5_readText_98 ?_
  cases hf
  exact g_iret F rfl ⟨rfl, rfl⟩ dX5_readText_101
