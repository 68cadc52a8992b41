abbrev rmX10_errorPosition : Room := { frames := 0, cells := 0, slots := 0, locals := 0 }
theorem iX10_errorPosition_X10 : ∀ w ∈ u_ws RX10 TX10 27, w ∈ wsX10_errorPosition := by decide +kernel
theorem h0X10_errorPosition : yX10_errorPosition.cls = RX10 ∧ yX10_errorPosition.cls ≠ "java/lang/invoke/MethodHandle" ∧ yX10_errorPosition.cls ≠ "java/lang/invoke/VarHandle" ∧ (parseMethodDescriptor yX10_errorPosition.desc).map (fun d => d.parameters.length) = some 0 := by decide +kernel
abbrev rmX10_reads : Room := { frames := 1, cells := 0, slots := 0, locals := 22 }
theorem iX10_reads_X10 : ∀ w ∈ u_ws RX10 TX10 27, w ∈ wsX10_reads := by decide +kernel
theorem h0X10_reads : yX10_reads.cls = RX10 ∧ yX10_reads.cls ≠ "java/lang/invoke/MethodHandle" ∧ yX10_reads.cls ≠ "java/lang/invoke/VarHandle" ∧ (parseMethodDescriptor yX10_reads.desc).map (fun d => d.parameters.length) = some 0 := by decide +kernel
abbrev rmX10_ofWord : Room := { frames := 0, cells := 0, slots := 0, locals := 0 }
theorem iX10_ofWord_X10 : ∀ w ∈ u_ws RX10 TX10 27, w ∈ wsX10_ofWord := by decide +kernel
theorem h0X10_ofWord : yX10_ofWord.cls = RX10 ∧ yX10_ofWord.cls ≠ "java/lang/invoke/MethodHandle" ∧ yX10_ofWord.cls ≠ "java/lang/invoke/VarHandle" ∧ (parseMethodDescriptor yX10_ofWord.desc).map (fun d => d.parameters.length) = some 2 := by decide +kernel
abbrev rmX10_spellsWord : Room := { frames := 1, cells := 0, slots := 0, locals := 22 }
theorem iX10_spellsWord_X10 : ∀ w ∈ u_ws RX10 TX10 27, w ∈ wsX10_spellsWord := by decide +kernel
theorem h0X10_spellsWord : yX10_spellsWord.cls = RX10 ∧ yX10_spellsWord.cls ≠ "java/lang/invoke/MethodHandle" ∧ yX10_spellsWord.cls ≠ "java/lang/invoke/VarHandle" ∧ (parseMethodDescriptor yX10_spellsWord.desc).map (fun d => d.parameters.length) = some 1 := by decide +kernel
abbrev rmX10_fewestOf : Room := { frames := 4, cells := 0, slots := 0, locals := 96 }
theorem iX10_fewestOf_X10 : ∀ w ∈ u_ws RX10 TX10 27, w ∈ wsX10_fewestOf := by decide +kernel
theorem h0X10_fewestOf : yX10_fewestOf.cls = RX10 ∧ yX10_fewestOf.cls ≠ "java/lang/invoke/MethodHandle" ∧ yX10_fewestOf.cls ≠ "java/lang/invoke/VarHandle" ∧ (parseMethodDescriptor yX10_fewestOf.desc).map (fun d => d.parameters.length) = some 2 := by decide +kernel
abbrev rmX10_recuts : Room := { frames := 4, cells := 0, slots := 0, locals := 96 }
theorem iX10_recuts_X10 : ∀ w ∈ u_ws RX10 TX10 27, w ∈ wsX10_recuts := by decide +kernel
theorem h0X10_recuts : yX10_recuts.cls = RX10 ∧ yX10_recuts.cls ≠ "java/lang/invoke/MethodHandle" ∧ yX10_recuts.cls ≠ "java/lang/invoke/VarHandle" ∧ (parseMethodDescriptor yX10_recuts.desc).map (fun d => d.parameters.length) = some 1 := by decide +kernel
abbrev rmX10_goesBack : Room := { frames := 1, cells := 0, slots := 0, locals := 22 }
theorem iX10_goesBack_X10 : ∀ w ∈ u_ws RX10 TX10 27, w ∈ wsX10_goesBack := by decide +kernel
theorem h0X10_goesBack : yX10_goesBack.cls = RX10 ∧ yX10_goesBack.cls ≠ "java/lang/invoke/MethodHandle" ∧ yX10_goesBack.cls ≠ "java/lang/invoke/VarHandle" ∧ (parseMethodDescriptor yX10_goesBack.desc).map (fun d => d.parameters.length) = some 1 := by decide +kernel
abbrev rmX10_ticks : Room := { frames := 2, cells := 0, slots := 0, locals := 47 }
theorem iX10_ticks_X10 : ∀ w ∈ u_ws RX10 TX10 27, w ∈ wsX10_ticks := by decide +kernel
theorem h0X10_ticks : yX10_ticks.cls = RX10 ∧ yX10_ticks.cls ≠ "java/lang/invoke/MethodHandle" ∧ yX10_ticks.cls ≠ "java/lang/invoke/VarHandle" ∧ (parseMethodDescriptor yX10_ticks.desc).map (fun d => d.parameters.length) = some 0 := by decide +kernel
abbrev rmX10_size : Room := { frames := 1, cells := 0, slots := 0, locals := 22 }
theorem iX10_size_X10 : ∀ w ∈ u_ws RX10 TX10 27, w ∈ wsX10_size := by decide +kernel
theorem h0X10_size : yX10_size.cls = RX10 ∧ yX10_size.cls ≠ "java/lang/invoke/MethodHandle" ∧ yX10_size.cls ≠ "java/lang/invoke/VarHandle" ∧ (parseMethodDescriptor yX10_size.desc).map (fun d => d.parameters.length) = some 1 := by decide +kernel
abbrev rmX10_firstWord : Room := { frames := 2, cells := 0, slots := 0, locals := 47 }
theorem iX10_firstWord_X10 : ∀ w ∈ u_ws RX10 TX10 27, w ∈ wsX10_firstWord := by decide +kernel
theorem h0X10_firstWord : yX10_firstWord.cls = RX10 ∧ yX10_firstWord.cls ≠ "java/lang/invoke/MethodHandle" ∧ yX10_firstWord.cls ≠ "java/lang/invoke/VarHandle" ∧ (parseMethodDescriptor yX10_firstWord.desc).map (fun d => d.parameters.length) = some 0 := by decide +kernel
abbrev rmX10_find : Room := { frames := 3, cells := 0, slots := 0, locals := 70 }
theorem iX10_find_X10 : ∀ w ∈ u_ws RX10 TX10 27, w ∈ wsX10_find := by decide +kernel
theorem h0X10_find : yX10_find.cls = RX10 ∧ yX10_find.cls ≠ "java/lang/invoke/MethodHandle" ∧ yX10_find.cls ≠ "java/lang/invoke/VarHandle" ∧ (parseMethodDescriptor yX10_find.desc).map (fun d => d.parameters.length) = some 1 := by decide +kernel
abbrev rmX10_no : Room := { frames := 1, cells := 0, slots := 0, locals := 22 }
theorem h0X10_no : yX10_no.cls = RX10 ∧ yX10_no.cls ≠ "java/lang/invoke/MethodHandle" ∧ yX10_no.cls ≠ "java/lang/invoke/VarHandle" ∧ (parseMethodDescriptor yX10_no.desc).map (fun d => d.parameters.length) = some 2 := by decide +kernel
abbrev rmX10_noUser : Room := { frames := 2, cells := 0, slots := 0, locals := 44 }
theorem iX10_noUser_X10 : ∀ w ∈ u_ws RX10 TX10 27, w ∈ wsX10_noUser := by decide +kernel
theorem h0X10_noUser : yX10_noUser.cls = RX10 ∧ yX10_noUser.cls ≠ "java/lang/invoke/MethodHandle" ∧ yX10_noUser.cls ≠ "java/lang/invoke/VarHandle" ∧ (parseMethodDescriptor yX10_noUser.desc).map (fun d => d.parameters.length) = some 1 := by decide +kernel
abbrev rmX10_noPiece : Room := { frames := 2, cells := 0, slots := 0, locals := 44 }
theorem iX10_noPiece_X10 : ∀ w ∈ u_ws RX10 TX10 27, w ∈ wsX10_noPiece := by decide +kernel
theorem h0X10_noPiece : yX10_noPiece.cls = RX10 ∧ yX10_noPiece.cls ≠ "java/lang/invoke/MethodHandle" ∧ yX10_noPiece.cls ≠ "java/lang/invoke/VarHandle" ∧ (parseMethodDescriptor yX10_noPiece.desc).map (fun d => d.parameters.length) = some 1 := by decide +kernel
abbrev rmX10_noWord : Room := { frames := 2, cells := 0, slots := 0, locals := 44 }
theorem iX10_noWord_X10 : ∀ w ∈ u_ws RX10 TX10 27, w ∈ wsX10_noWord := by decide +kernel
theorem h0X10_noWord : yX10_noWord.cls = RX10 ∧ yX10_noWord.cls ≠ "java/lang/invoke/MethodHandle" ∧ yX10_noWord.cls ≠ "java/lang/invoke/VarHandle" ∧ (parseMethodDescriptor yX10_noWord.desc).map (fun d => d.parameters.length) = some 1 := by decide +kernel
abbrev rmX10_ofUser : Room := { frames := 1, cells := 0, slots := 0, locals := 22 }
theorem iX10_ofUser_X10 : ∀ w ∈ u_ws RX10 TX10 27, w ∈ wsX10_ofUser := by decide +kernel
theorem h0X10_ofUser : yX10_ofUser.cls = RX10 ∧ yX10_ofUser.cls ≠ "java/lang/invoke/MethodHandle" ∧ yX10_ofUser.cls ≠ "java/lang/invoke/VarHandle" ∧ (parseMethodDescriptor yX10_ofUser.desc).map (fun d => d.parameters.length) = some 2 := by decide +kernel
def fX10_errorPosition (M_thrown : Int32) (M_errorAt : Int32) : Option (Int32 × Int32) := some (M_errorAt, 0)
def fX10_reads_L23 (M_textSize : Int32) (text : (Nat → Int32)) (k : Int32 → Option (Int32 × Int32 × Int32 × Int32 × Int32 × Int32 × (Nat → Int32))) : Nat → Int32 → Option (Int32 × Int32 × Int32 × Int32 × Int32 × Int32 × (Nat → Int32))
  | 0, _ => none
  | n + 1, M_next => gb1 (fX10_byteAt M_next M_textSize text) fun (r_1 : Int32) => gb1 (fX10_within r_1 97 122) fun (r_2 : Int32) => if r_2 = 0 then (k M_next) else (fX10_reads_L23 M_textSize text k n (M_next + 1))
def fX10_reads_L59 (x1 : Int32) (M_textSize : Int32) (text : (Nat → Int32)) (k : Int32 → Option (Int32 × Int32 × Int32 × Int32 × Int32 × Int32 × (Nat → Int32))) : Nat → Int32 → Option (Int32 × Int32 × Int32 × Int32 × Int32 × Int32 × (Nat → Int32))
  | 0, _ => none
  | n + 1, M_next => gb1 (fX10_byteAt M_next M_textSize text) fun (r_1 : Int32) => if r_1 = 32 then (fX10_reads_L59 x1 M_textSize text k n (M_next + 1)) else (k M_next)
def fX10_reads (M_length : Int32) (M_textSize : Int32) (M_start : Int32) (M_next : Int32) (M_many : Int32) (text : (Nat → Int32)) (spelled : (Nat → Int32)) : Option (Int32 × Int32 × Int32 × Int32 × Int32 × Int32 × (Nat → Int32)) := fX10_reads_L23 M_length text (fun (M_next_1 : Int32) => (fX10_reads_L59 M_next_1 M_length text (fun (M_next_2 : Int32) => (gb1 (fX10_within M_next_1 1 12) fun (r_1 : Int32) => Lt (fun (t0_1 : Int32) => (if t0_1 = 0 then (if t0_1 &&& 1 = t0_1 then (some (t0_1, 0, M_length, 0, M_next_1, 0, spelled)) else none) else (gb2 (fX10_spellsToken 0 M_next_1 0 text spelled) fun (M_many_1 : Int32) (spelled_1 : (Nat → Int32)) => if t0_1 &&& 1 = t0_1 then (some (t0_1, 0, M_length, 0, M_next_1, M_many_1, spelled_1)) else none))) fun (j_1 : Int32 → Option (Int32 × Int32 × Int32 × Int32 × Int32 × Int32 × (Nat → Int32))) => Lt ((j_1 0) : Option (Int32 × Int32 × Int32 × Int32 × Int32 × Int32 × (Nat → Int32))) fun (j_2 : Option (Int32 × Int32 × Int32 × Int32 × Int32 × Int32 × (Nat → Int32))) => if r_1 = 0 then (j_2) else (if M_next_2 = M_length then (j_1 1) else (j_2)))) FU M_next_1)) FU 0
def fX10_ofWord (x1 : Int32) (x2 : Int32) (now : (Nat → Int32)) : Option (Int32) := if ((141 + (14 * x1)) + x2) < 0 ∨ 365 ≤ ((141 + (14 * x1)) + x2).toNatClampNeg then none else some (now (((141 + (14 * x1)) + x2).toNatClampNeg))
def fX10_spellsWord_L43 (x1 : Int32) (x2 : Int32) (x3 : Int32) (k : Int32 → (Nat → Int32) → Option (Int32 × (Nat → Int32))) : Nat → Int32 → Int32 → (Nat → Int32) → Option (Int32 × (Nat → Int32))
  | 0, _, _, _ => none
  | n + 1, x5, M_many, spelled => if x5 < 0 then (k M_many spelled) else (if M_many < 0 ∨ 12 ≤ M_many.toNatClampNeg then none else Lt (upd spelled (M_many.toNatClampNeg) ((x3 >>> ((5 * x5) &&& 31)) &&& 31)) fun (spelled_1 : (Nat → Int32)) => fX10_spellsWord_L43 x1 x2 x3 k n (x5 + (-1)) (M_many + 1) spelled_1)
def fX10_spellsWord_L7 (x1 : Int32) (now : (Nat → Int32)) (k : Int32 → (Nat → Int32) → Option (Int32 × (Nat → Int32))) : Nat → Int32 → Int32 → (Nat → Int32) → Option (Int32 × (Nat → Int32))
  | 0, _, _, _ => none
  | n + 1, x2, M_many, spelled => gb1 (fX10_ofWord x1 1 now) fun (r_1 : Int32) => if r_1 ≤ x2 then (k M_many spelled) else (gb1 (fX10_ofWord x1 (2 + x2) now) fun (r_2 : Int32) => gb1 (fX10_ofPiece r_2 0 now) fun (r_3 : Int32) => gb1 (fX10_lettersOf r_3) fun (r_4 : Int32) => fX10_spellsWord_L43 x1 x2 r_3 (fun (M_many_1 : Int32) (spelled_1 : (Nat → Int32)) => (fX10_spellsWord_L7 x1 now k n (x2 + 1) M_many_1 spelled_1)) FU (r_4 - 1) M_many spelled)
def fX10_spellsWord (x1 : Int32) (M_many : Int32) (now : (Nat → Int32)) (spelled : (Nat → Int32)) : Option (Int32 × (Nat → Int32)) := fX10_spellsWord_L7 x1 now (fun (M_many_1 : Int32) (spelled_1 : (Nat → Int32)) => (some (M_many_1, spelled_1))) FU 0 0 spelled
def fX10_fewestOf (x1 : Int32) (x2 : Int32) (M_many : Int32) (now : (Nat → Int32)) (spelled : (Nat → Int32)) (cost : (Nat → Int32)) (fewestFrom : (Nat → Int32)) (first : (Nat → Int32)) : Option (Int32 × Int32 × (Nat → Int32) × (Nat → Int32) × (Nat → Int32) × (Nat → Int32)) := gb2 (fX10_spellsWord x1 M_many now spelled) fun (M_many_1 : Int32) (spelled_1 : (Nat → Int32)) => gb3 (fX10_cuts 0 x2 M_many_1 now spelled_1 cost fewestFrom first) fun (cost_1 : (Nat → Int32)) (fewestFrom_1 : (Nat → Int32)) (first_1 : (Nat → Int32)) => some (fewestFrom_1 0, M_many_1, spelled_1, cost_1, fewestFrom_1, first_1)
def fX10_recuts_L22 (x2 : Int32) (M_many : Int32) (spelled : (Nat → Int32)) (first : (Nat → Int32)) (k : (Nat → Int32) → Option (Int32 × Int32 × (Nat → Int32) × (Nat → Int32) × (Nat → Int32) × (Nat → Int32) × (Nat → Int32))) : Nat → Int32 → (Nat → Int32) → Option (Int32 × Int32 × (Nat → Int32) × (Nat → Int32) × (Nat → Int32) × (Nat → Int32) × (Nat → Int32))
  | 0, _, _ => none
  | n + 1, x3, now => if M_many ≤ x3 then (k now) else (if x3 < 0 ∨ 13 ≤ x3.toNatClampNeg then none else gb1 (fX10_code x3 (first (x3.toNatClampNeg)) spelled) fun (r_1 : Int32) => gb1 (fX10_pieceOf r_1 now) fun (r_2 : Int32) => gb1 (fX10_uses r_2 1 now) fun (now_1 : (Nat → Int32)) => if x3 < 0 ∨ 13 ≤ x3.toNatClampNeg then none else fX10_recuts_L22 x2 M_many spelled first k n (x3 + (first (x3.toNatClampNeg))) now_1)
def fX10_recuts_L74 (x2 : Int32) (x3 : Int32) (k : (Nat → Int32) → Option (Int32 × Int32 × (Nat → Int32) × (Nat → Int32) × (Nat → Int32) × (Nat → Int32) × (Nat → Int32))) : Nat → Int32 → (Nat → Int32) → Option (Int32 × Int32 × (Nat → Int32) × (Nat → Int32) × (Nat → Int32) × (Nat → Int32) × (Nat → Int32))
  | 0, _, _ => none
  | n + 1, x4, now => if x3 ≤ x4 then (k now) else (if ((x2 + 2) + x4) < 0 ∨ 365 ≤ ((x2 + 2) + x4).toNatClampNeg then none else gb1 (fX10_uses (now (((x2 + 2) + x4).toNatClampNeg)) (-1) now) fun (now_1 : (Nat → Int32)) => fX10_recuts_L74 x2 x3 k n (x4 + 1) now_1)
def fX10_recuts (x1 : Int32) (M_many : Int32) (now : (Nat → Int32)) (spelled : (Nat → Int32)) (cost : (Nat → Int32)) (fewestFrom : (Nat → Int32)) (first : (Nat → Int32)) : Option (Int32 × Int32 × (Nat → Int32) × (Nat → Int32) × (Nat → Int32) × (Nat → Int32) × (Nat → Int32)) := gb2 (fX10_spellsWord x1 M_many now spelled) fun (M_many_1 : Int32) (spelled_1 : (Nat → Int32)) => gb3 (fX10_cuts 0 0 M_many_1 now spelled_1 cost fewestFrom first) fun (cost_1 : (Nat → Int32)) (fewestFrom_1 : (Nat → Int32)) (first_1 : (Nat → Int32)) => fX10_recuts_L22 (141 + (14 * x1)) M_many_1 spelled_1 first_1 (fun (now_1 : (Nat → Int32)) => (if ((141 + (14 * x1)) + 1) < 0 ∨ 365 ≤ ((141 + (14 * x1)) + 1).toNatClampNeg then none else fX10_recuts_L74 (141 + (14 * x1)) (now_1 (((141 + (14 * x1)) + 1).toNatClampNeg)) (fun (now_2 : (Nat → Int32)) => (gb2 (fX10_laysParts (141 + (14 * x1)) M_many_1 now_2 spelled_1 first_1) fun (r_1 : Int32) (now_3 : (Nat → Int32)) => if ((141 + (14 * x1)) + 0) < 0 ∨ 365 ≤ ((141 + (14 * x1)) + 0).toNatClampNeg then none else gb1 (fX10_pays (now_3 (((141 + (14 * x1)) + 0).toNatClampNeg)) (-((now_2 2) * ((now_1 (((141 + (14 * x1)) + 1).toNatClampNeg)) - r_1))) 8 2 now_3) fun (now_4 : (Nat → Int32)) => Lt (upd now_4 13 ((now_4 13) + ((now_2 2) * ((now_1 (((141 + (14 * x1)) + 1).toNatClampNeg)) - r_1)))) fun (now_5 : (Nat → Int32)) => Lt (upd now_5 14 ((now_5 14) + ((now_2 2) * ((now_1 (((141 + (14 * x1)) + 1).toNatClampNeg)) - r_1)))) fun (now_6 : (Nat → Int32)) => some ((now_2 2) * ((now_1 (((141 + (14 * x1)) + 1).toNatClampNeg)) - r_1), M_many_1, now_6, spelled_1, cost_1, fewestFrom_1, first_1))) FU 0 now_1)) FU 0 now
def fX10_goesBack_L89 (x1 : Int32) (k : (Nat → Int32) → Option ((Nat → Int32))) : Nat → Int32 → (Nat → Int32) → Option ((Nat → Int32))
  | 0, _, _ => none
  | n + 1, x4, now => if (21 + (5 * (now 9))) ≤ x4 then (k now) else (if (x4 + 5) < 0 ∨ 365 ≤ (x4 + 5).toNatClampNeg then none else if x4 < 0 ∨ 365 ≤ x4.toNatClampNeg then none else Lt (upd now (x4.toNatClampNeg) (now ((x4 + 5).toNatClampNeg))) fun (now_1 : (Nat → Int32)) => fX10_goesBack_L89 x1 k n (x4 + 1) now_1)
def fX10_goesBack_L146 (x1 : Int32) (x4 : Int32) (k : (Nat → Int32) → Option ((Nat → Int32))) : Nat → Int32 → (Nat → Int32) → Option ((Nat → Int32))
  | 0, _, _ => none
  | n + 1, x5, now => gb1 (fX10_ofWord x4 1 now) fun (r_1 : Int32) => if r_1 ≤ x5 then (k now) else (if (((141 + (14 * x4)) + 2) + x5) < 0 ∨ 365 ≤ (((141 + (14 * x4)) + 2) + x5).toNatClampNeg then none else gb1 (fX10_ofWord x4 (2 + x5) now) fun (r_2 : Int32) => Lt (fun (t0_1 : Int32) => (if (((141 + (14 * x4)) + 2) + x5) < 0 ∨ 365 ≤ (((141 + (14 * x4)) + 2) + x5).toNatClampNeg then none else Lt (upd now ((((141 + (14 * x4)) + 2) + x5).toNatClampNeg) ((now ((((141 + (14 * x4)) + 2) + x5).toNatClampNeg)) - t0_1)) fun (now_1 : (Nat → Int32)) => fX10_goesBack_L146 x1 x4 k n (x5 + 1) now_1)) fun (j_1 : Int32 → Option ((Nat → Int32))) => if r_2 ≤ x1 then (j_1 0) else (j_1 1))
def fX10_goesBack_L131 (x1 : Int32) (k : (Nat → Int32) → Option ((Nat → Int32))) : Nat → Int32 → (Nat → Int32) → Option ((Nat → Int32))
  | 0, _, _ => none
  | n + 1, x4, now => if (now 10) ≤ x4 then (k now) else (fX10_goesBack_L146 x1 x4 (fun (now_1 : (Nat → Int32)) => (fX10_goesBack_L131 x1 k n (x4 + 1) now_1)) FU 0 now)
def fX10_goesBack (x1 : Int32) (now : (Nat → Int32)) : Option ((Nat → Int32)) := gb1 (fX10_ofPiece x1 2 now) fun (r_1 : Int32) => gb1 (fX10_ofPiece x1 1 now) fun (r_2 : Int32) => Lt (upd now 7 ((now 7) - ((r_2 * (now 4)) / 100))) fun (now_1 : (Nat → Int32)) => if (17 + r_1) < 0 ∨ 365 ≤ (17 + r_1).toNatClampNeg then none else if (17 + r_1) < 0 ∨ 365 ≤ (17 + r_1).toNatClampNeg then none else Lt (upd now_1 ((17 + r_1).toNatClampNeg) ((now_1 ((17 + r_1).toNatClampNeg)) + ((r_2 * (now 4)) / 100))) fun (now_2 : (Nat → Int32)) => Lt (upd now_2 12 ((now_2 12) + ((r_2 * (now 4)) / 100))) fun (now_3 : (Nat → Int32)) => Lt (upd now_3 16 ((now_3 16) + 1)) fun (now_4 : (Nat → Int32)) => Lt (upd now_4 9 ((now_4 9) - 1)) fun (now_5 : (Nat → Int32)) => fX10_goesBack_L89 x1 (fun (now_6 : (Nat → Int32)) => (fX10_goesBack_L131 x1 (fun (now_7 : (Nat → Int32)) => (some now_7)) FU 0 now_6)) FU (21 + (5 * x1)) now_5
def fX10_ticks_L15 (k : Int32 → (Nat → Int32) → Option (Int32 × (Nat → Int32))) : Nat → Int32 → Int32 → (Nat → Int32) → Option (Int32 × (Nat → Int32))
  | 0, _, _, _ => none
  | n + 1, x1, x2, now => if (now 9) ≤ x2 then (k x1 now) else (gb1 (fX10_ofPiece x2 2 now) fun (r_1 : Int32) => Lt (fun (t0_1 : Int32) => (if t0_1 = 0 then (fX10_ticks_L15 k n x1 (x2 + 1) now) else (gb1 (fX10_goesBack x2 now) fun (now_1 : (Nat → Int32)) => fX10_ticks_L15 k n (x1 + 1) x2 now_1))) fun (j_1 : Int32 → Option (Int32 × (Nat → Int32))) => Lt ((j_1 0) : Option (Int32 × (Nat → Int32))) fun (j_2 : Option (Int32 × (Nat → Int32))) => if r_1 = (-1) then (j_2) else (gb1 (fX10_ofPiece x2 3 now) fun (r_2 : Int32) => if r_2 = 0 then (gb1 (fX10_ofPiece x2 4 now) fun (r_3 : Int32) => if ((now 6) - r_3) ≤ (now 3) then (j_2) else (j_1 1)) else (j_2)))
def fX10_ticks (now : (Nat → Int32)) : Option (Int32 × (Nat → Int32)) := Lt (upd now 6 ((now 6) + 1)) fun (now_1 : (Nat → Int32)) => fX10_ticks_L15 (fun (x1_1 : Int32) (now_2 : (Nat → Int32)) => (some (x1_1, now_2))) FU 0 0 now_1
def fX10_size (x1 : Int32) (M_thrown : Int32) (M_undos : Int32) (now : (Nat → Int32)) : Option (Int32 × Int32) := gb1 (fX10_within x1 0 11) fun (r_1 : Int32) => Lt (fun (t0_1 : Int32) => (gb2 (fX10_throwsIf t0_1 1 0) fun (r_2 : Int32) (M_thrown_1 : Int32) => if r_2 = 0 then (if x1 = 0 then (some (now 5, M_thrown_1)) else (if x1 = 1 then (some (now 9, M_thrown_1)) else (if x1 = 2 then (some (now 10, M_thrown_1)) else (if x1 = 3 then (some (now 6, M_thrown_1)) else (if x1 = 4 then (some (now 7, M_thrown_1)) else (if x1 = 5 then (some (now 8, M_thrown_1)) else (if x1 = 6 then (if (x1 - 6) < 0 ∨ 365 ≤ (x1 - 6).toNatClampNeg then none else some (now ((x1 - 6).toNatClampNeg), M_thrown_1)) else (if x1 = 7 then (if (x1 - 6) < 0 ∨ 365 ≤ (x1 - 6).toNatClampNeg then none else some (now ((x1 - 6).toNatClampNeg), M_thrown_1)) else (if x1 = 8 then (if (x1 - 6) < 0 ∨ 365 ≤ (x1 - 6).toNatClampNeg then none else some (now ((x1 - 6).toNatClampNeg), M_thrown_1)) else (if x1 = 9 then (if (x1 - 6) < 0 ∨ 365 ≤ (x1 - 6).toNatClampNeg then none else some (now ((x1 - 6).toNatClampNeg), M_thrown_1)) else (if x1 = 10 then (if (x1 - 6) < 0 ∨ 365 ≤ (x1 - 6).toNatClampNeg then none else some (now ((x1 - 6).toNatClampNeg), M_thrown_1)) else (if x1 = 11 then (some (M_undos, M_thrown_1)) else (if (x1 - 6) < 0 ∨ 365 ≤ (x1 - 6).toNatClampNeg then none else some (now ((x1 - 6).toNatClampNeg), M_thrown_1)))))))))))))) else (some (0, M_thrown_1)))) fun (j_1 : Int32 → Option (Int32 × Int32)) => if r_1 = 0 then (j_1 1) else (j_1 0)
def fX10_firstWord_L7 (x1 : Int64) (now : (Nat → Int32)) (k : Int32 → (Nat → Int32) → Option (Int32 × Int32 × (Nat → Int32))) : Nat → Int32 → Int32 → (Nat → Int32) → Option (Int32 × Int32 × (Nat → Int32))
  | 0, _, _, _ => none
  | n + 1, x3, M_many, spelled => if (now 10) ≤ x3 then (k M_many spelled) else (gb2 (fX10_spellsWord x3 M_many now spelled) fun (M_many_1 : Int32) (spelled_1 : (Nat → Int32)) => gb1 (fX10_name M_many_1 spelled_1) fun (r_1 : Int64) => if (lg_cmp r_1 x1) = 0 then (some (x3, M_many_1, spelled_1)) else (fX10_firstWord_L7 x1 now k n (x3 + 1) M_many_1 spelled_1))
def fX10_firstWord (M_many : Int32) (now : (Nat → Int32)) (spelled : (Nat → Int32)) : Option (Int32 × Int32 × (Nat → Int32)) := gb1 (fX10_name M_many spelled) fun (r_1 : Int64) => fX10_firstWord_L7 r_1 now (fun (M_many_1 : Int32) (spelled_1 : (Nat → Int32)) => (some ((-1), M_many_1, spelled_1))) FU 0 M_many spelled
def fX10_find (x1 : Int32) (M_thrown : Int32) (M_length : Int32) (M_textSize : Int32) (M_start : Int32) (M_next : Int32) (M_many : Int32) (now : (Nat → Int32)) (names : (Nat → Int64)) (text : (Nat → Int32)) (spelled : (Nat → Int32)) : Option (Int32 × Int32 × Int32 × Int32 × Int32 × Int32 × Int32 × (Nat → Int32)) := gb7 (fX10_reads M_length M_textSize M_start M_next M_many text spelled) fun (r_1 : Int32) (M_length_1 : Int32) (M_textSize_1 : Int32) (M_start_1 : Int32) (M_next_1 : Int32) (M_many_1 : Int32) (spelled_1 : (Nat → Int32)) => gb1 (fX10_within x1 0 2) fun (r_2 : Int32) => Lt (fun (t0_1 : Int32) => (gb2 (fX10_throwsIf t0_1 1 0) fun (r_3 : Int32) (M_thrown_1 : Int32) => if r_3 = 0 then (if r_1 = 0 then (some ((-1), M_thrown_1, M_length_1, M_textSize_1, M_start_1, M_next_1, M_many_1, spelled_1)) else (if x1 = 0 then (gb1 (fX10_userNamed M_many_1 now names spelled_1) fun (r_4 : Int32) => some (r_4, M_thrown_1, M_length_1, M_textSize_1, M_start_1, M_next_1, M_many_1, spelled_1)) else (if x1 = 2 then (gb3 (fX10_firstWord M_many_1 now spelled_1) fun (r_5 : Int32) (M_many_2 : Int32) (spelled_2 : (Nat → Int32)) => some (r_5, M_thrown_1, M_length_1, M_textSize_1, M_start_1, M_next_1, M_many_2, spelled_2)) else (if M_many_1 ≤ 6 then (gb1 (fX10_code 0 M_many_1 spelled_1) fun (r_6 : Int32) => gb1 (fX10_pieceOf r_6 now) fun (r_7 : Int32) => some (r_7, M_thrown_1, M_length_1, M_textSize_1, M_start_1, M_next_1, M_many_1, spelled_1)) else (some ((-1), M_thrown_1, M_length_1, M_textSize_1, M_start_1, M_next_1, M_many_1, spelled_1)))))) else (some (0, M_thrown_1, M_length_1, M_textSize_1, M_start_1, M_next_1, M_many_1, spelled_1)))) fun (j_1 : Int32 → Option (Int32 × Int32 × Int32 × Int32 × Int32 × Int32 × Int32 × (Nat → Int32))) => if r_2 = 0 then (j_1 1) else (j_1 0)
def fX10_no (x1 : Int32) (x2 : Int32) (M_thrown : Int32) : Option (Int32 × Int32) := gb1 (fX10_within x1 0 (x2 - 1)) fun (r_1 : Int32) => Lt (fun (t0_1 : Int32) => (gb2 (fX10_throwsIf t0_1 1 M_thrown) fun (r_2 : Int32) (M_thrown_1 : Int32) => some (r_2, M_thrown_1))) fun (j_1 : Int32 → Option (Int32 × Int32)) => if r_1 = 0 then (j_1 1) else (j_1 0)
def fX10_noUser (x1 : Int32) (M_thrown : Int32) (now : (Nat → Int32)) : Option (Int32 × Int32) := gb2 (fX10_no x1 (now 5) 0) fun (r_1 : Int32) (M_thrown_1 : Int32) => some (r_1, M_thrown_1)
def fX10_noPiece (x1 : Int32) (M_thrown : Int32) (now : (Nat → Int32)) : Option (Int32 × Int32) := gb2 (fX10_no x1 (now 9) 0) fun (r_1 : Int32) (M_thrown_1 : Int32) => some (r_1, M_thrown_1)
def fX10_noWord (x1 : Int32) (M_thrown : Int32) (now : (Nat → Int32)) : Option (Int32 × Int32) := gb2 (fX10_no x1 (now 10) 0) fun (r_1 : Int32) (M_thrown_1 : Int32) => some (r_1, M_thrown_1)
def fX10_ofUser_L5 (x1 : Int32) (x2 : Int32) (now : (Nat → Int32)) (k : Int32 → Option (Int32)) : Nat → Int32 → Int32 → Option (Int32)
  | 0, _, _ => none
  | n + 1, x3, x4 => if (now 10) ≤ x4 then (k x3) else (if 3 ≤ x2 then (k x3) else (gb1 (fX10_ofWord x4 0 now) fun (r_1 : Int32) => if r_1 = x1 then (if x2 = 1 then (fX10_ofUser_L5 x1 x2 now k n (x3 + 1) (x4 + 1)) else (gb1 (fX10_ofWord x4 1 now) fun (r_2 : Int32) => fX10_ofUser_L5 x1 x2 now k n (x3 + ((now 2) * r_2)) (x4 + 1))) else (fX10_ofUser_L5 x1 x2 now k n (x3 + 0) (x4 + 1))))
def fX10_ofUser_L72 (x1 : Int32) (x2 : Int32) (now : (Nat → Int32)) (k : Int32 → Option (Int32)) : Nat → Int32 → Int32 → Option (Int32)
  | 0, _, _ => none
  | n + 1, x3, x4 => if (now 9) ≤ x4 then (k x3) else (if x2 ≤ 2 then (k x3) else (gb1 (fX10_ofPiece x4 2 now) fun (r_1 : Int32) => if r_1 = x1 then (if x2 = 3 then (fX10_ofUser_L72 x1 x2 now k n (x3 + 1) (x4 + 1)) else (gb1 (fX10_ofPiece x4 1 now) fun (r_2 : Int32) => fX10_ofUser_L72 x1 x2 now k n (x3 + r_2) (x4 + 1))) else (fX10_ofUser_L72 x1 x2 now k n (x3 + 0) (x4 + 1))))
def fX10_ofUser (x1 : Int32) (x2 : Int32) (now : (Nat → Int32)) : Option (Int32) := fX10_ofUser_L5 x1 x2 now (fun (x3_1 : Int32) => (fX10_ofUser_L72 x1 x2 now (fun (x3_2 : Int32) => (some x3_2)) FU x3_1 0)) FU 0 0
set_option maxHeartbeats 4000000 in
set_option maxRecDepth 100000 in
theorem ctX10_errorPosition (l : Launch) (E : gE) (aM anow aaside anames anamesAside atext aspelled acost afewestFrom afirst afresh aways aundo aslots aisSaved : Nat → Nat) (M_thrown : Int32) (M_length : Int32) (M_textSize : Int32) (M_start : Int32) (M_next : Int32) (M_token : Int32) (M_value : Int32) (M_error : Int32) (M_errorAt : Int32) (M_number : Int32) (M_many : Int32) (M_freshMany : Int32) (M_undos : Int32) (r : Int32) (M_thrown' : Int32) (hf : fX10_errorPosition M_thrown M_errorAt = some (r, M_thrown')) : gMet l yX10_errorPosition wsX10_errorPosition rmX10_errorPosition vwCl E [.ref (aM 0)] [sModel E aM anow aaside anames anamesAside atext aspelled acost afewestFrom afirst afresh aways aundo aslots aisSaved M_thrown M_length M_textSize M_start M_next M_token M_value M_error M_errorAt M_number M_many M_freshMany M_undos] (fun v w => v = some (.int r) ∧ w = [sModel E aM anow aaside anames anamesAside atext aspelled acost afewestFrom afirst afresh aways aundo aslots aisSaved M_thrown' M_length M_textSize M_start M_next M_token M_value M_error M_errorAt M_number M_many M_freshMany M_undos]) 0 0 := by
  refine g_entry [some (.ref (aM 0))] (by decide) rfl (Nat.le_of_ble_eq_true rfl) rfl ?_
  intro p e s m below meth c A F hnm
  unfold fX10_errorPosition at hf
  refine g_aload_n F dX10_errorPosition_0 rfl ?_
  refine g_iconst F 0 dX10_errorPosition_1 rfl ?_
  refine g_put (C := RX10) (T := TX10) (N := 27) (tys := tyX10) (Lw' := [sModel E aM anow aaside anames anamesAside atext aspelled acost afewestFrom afirst afresh aways aundo aslots aisSaved 0 M_length M_textSize M_start M_next M_token M_value M_error M_errorAt M_number M_many M_freshMany M_undos]) F 0 0 0 rfl rfl rfl iX10_errorPosition_X10 tyX10_ok nmX10 (by decide) (by decide +kernel) rfl rfl rfl rfl (Nat.le_of_ble_eq_true rfl) dX10_errorPosition_2 rfl ?_
  refine g_aload_n F dX10_errorPosition_5 rfl ?_
  refine g_get (C := RX10) (T := TX10) (N := 27) F 0 0 13 rfl rfl rfl iX10_errorPosition_X10 (by decide) (by decide +kernel) rfl dX10_errorPosition_6 ?_
  cases hf
  exact g_iret F rfl ⟨rfl, rfl⟩ dX10_errorPosition_9
set_option maxHeartbeats 4000000 in
set_option maxRecDepth 100000 in
theorem ktX10_reads_L23 {p : Program} {l : Launch} {e : Env} {s : State} {m : MethodId} {args : Array Value} {below : List Frame} {meth : Method} {c : Code} {E : gE} {A : Nat → Prop} (F : gFx p s m args meth c RX10 wsX10_reads cX10_reads 3 (some .boolean) vwCl E A) (aM anow aaside anames anamesAside atext aspelled acost afewestFrom afirst afresh aways aundo aslots aisSaved : Nat → Nat) (M_textSize : Int32) (text : (Nat → Int32)) (M_thrown : Int32) (M_length : Int32) (M_start : Int32) (M_token : Int32) (M_value : Int32) (M_error : Int32) (M_errorAt : Int32) (M_number : Int32) (M_many : Int32) (M_freshMany : Int32) (M_undos : Int32) (spelled : (Nat → Int32)) (r : Int32) (M_length' : Int32) (M_textSize' : Int32) (M_start' : Int32) (M_next' : Int32) (M_many' : Int32) (spelled' : (Nat → Int32)) {k : Int32 → Option (Int32 × Int32 × Int32 × Int32 × Int32 × Int32 × (Nat → Int32))} (hk : ∀ (M_next : Int32), k M_next = some (r, M_length', M_textSize', M_start', M_next', M_many', spelled') → Gj p l e rmX10_reads s m args below meth c 0 0 (MQ below (gQ vwCl E A (fun v w => v = some (.int r) ∧ w = [sModel E aM anow aaside anames anamesAside atext aspelled acost afewestFrom afirst afresh aways aundo aslots aisSaved M_thrown M_length' M_textSize' M_start' M_next' M_token M_value M_error M_errorAt M_number M_many' M_freshMany M_undos, sArrB E atext 600 text, sArrI E aspelled 12 spelled'] ∧ narrow .boolean (.int r) = .int r)) args s 0 0 A) vwCl E A [sModel E aM anow aaside anames anamesAside atext aspelled acost afewestFrom afirst afresh aways aundo aslots aisSaved M_thrown M_length M_textSize M_start M_next M_token M_value M_error M_errorAt M_number M_many M_freshMany M_undos, sArrB E atext 600 text, sArrI E aspelled 12 spelled] [some (.ref (aM 0)), none, none] [] 54) : ∀ (n : Nat) (M_next : Int32), fX10_reads_L23 M_textSize text k n M_next = some (r, M_length', M_textSize', M_start', M_next', M_many', spelled') → Gj p l e rmX10_reads s m args below meth c 0 0 (MQ below (gQ vwCl E A (fun v w => v = some (.int r) ∧ w = [sModel E aM anow aaside anames anamesAside atext aspelled acost afewestFrom afirst afresh aways aundo aslots aisSaved M_thrown M_length' M_textSize' M_start' M_next' M_token M_value M_error M_errorAt M_number M_many' M_freshMany M_undos, sArrB E atext 600 text, sArrI E aspelled 12 spelled'] ∧ narrow .boolean (.int r) = .int r)) args s 0 0 A) vwCl E A [sModel E aM anow aaside anames anamesAside atext aspelled acost afewestFrom afirst afresh aways aundo aslots aisSaved M_thrown M_length M_textSize M_start M_next M_token M_value M_error M_errorAt M_number M_many M_freshMany M_undos, sArrB E atext 600 text, sArrI E aspelled 12 spelled] [some (.ref (aM 0)), none, none] [] 23
  | 0, _, hf => by cases hf
  | n + 1, M_next, hf => by
    have ih := ktX10_reads_L23 F aM anow aaside anames anamesAside atext aspelled acost afewestFrom afirst afresh aways aundo aslots aisSaved M_textSize text M_thrown M_length M_start M_token M_value M_error M_errorAt M_number M_many M_freshMany M_undos spelled r M_length' M_textSize' M_start' M_next' M_many' spelled' hk n
    rw [fX10_reads_L23] at hf
    refine g_aload_n F dX10_reads_23 rfl ?_
    refine g_aload_n F dX10_reads_24 rfl ?_
    refine g_get (C := RX10) (T := TX10) (N := 27) F 0 0 9 rfl rfl rfl iX10_reads_X10 (by decide) (by decide +kernel) rfl dX10_reads_25 ?_
    obtain ⟨r_1, hg_1, hf⟩ := gb1_el hf
    refine g_callV (C := RX10) (T := TX10) (N := 27) (Lr := [sArrI E aspelled 12 spelled]) (As := [.int M_next]) (rest := []) F 0 0 1 (ctX10_byteAt l E aM anow aaside anames anamesAside atext aspelled acost afewestFrom afirst afresh aways aundo aslots aisSaved M_next M_thrown M_length M_textSize M_start M_next M_token M_value M_error M_errorAt M_number M_many M_freshMany M_undos text r_1 hg_1) gX10_reads_X10_byteAt rfl rfl rfl h0X10_byteAt ⟨Nat.le_of_ble_eq_true rfl, Nat.le_of_ble_eq_true rfl⟩ rfl rfl rfl [0, 1] [2] rfl rfl rfl rfl rfl rfl (Nat.le_of_ble_eq_true rfl) dX10_reads_28 ⟨Nat.le_of_ble_eq_true rfl, Nat.le_of_ble_eq_true rfl⟩ ?_
    rintro v w ⟨rfl, rfl⟩
    refine g_norm (Lw' := [sModel E aM anow aaside anames anamesAside atext aspelled acost afewestFrom afirst afresh aways aundo aslots aisSaved M_thrown M_length M_textSize M_start M_next M_token M_value M_error M_errorAt M_number M_many M_freshMany M_undos, sArrB E atext 600 text, sArrI E aspelled 12 spelled]) (st' := [.int r_1]) (pc' := 31) [0, 1, 2] rfl rfl rfl rfl ?_
    refine g_bipush F 97 dX10_reads_31 rfl ?_
    refine g_bipush F 122 dX10_reads_33 rfl ?_
    obtain ⟨r_2, hg_2, hf⟩ := gb1_el hf
    refine g_callS (Lr := [sModel E aM anow aaside anames anamesAside atext aspelled acost afewestFrom afirst afresh aways aundo aslots aisSaved M_thrown M_length M_textSize M_start M_next M_token M_value M_error M_errorAt M_number M_many M_freshMany M_undos, sArrB E atext 600 text, sArrI E aspelled 12 spelled]) (As := [.int r_1, .int 97, .int 122]) (rest := []) F 3 (ctX10_within l E r_1 97 122 r_2 hg_2) (va_cwS 3 F.2.2.2.2.2.1 gX10_reads_X10_within rfl rfl rfl h0X10_within ⟨Nat.le_of_ble_eq_true rfl, Nat.le_of_ble_eq_true rfl⟩) [] [0, 1, 2] rfl rfl rfl rfl rfl rfl (Nat.le_of_ble_eq_true rfl) dX10_reads_35 ⟨Nat.le_of_ble_eq_true rfl, Nat.le_of_ble_eq_true rfl⟩ ?_
    rintro v w ⟨rfl, rfl, hz_1⟩
    refine g_norm (Lw' := [sModel E aM anow aaside anames anamesAside atext aspelled acost afewestFrom afirst afresh aways aundo aslots aisSaved M_thrown M_length M_textSize M_start M_next M_token M_value M_error M_errorAt M_number M_many M_freshMany M_undos, sArrB E atext 600 text, sArrI E aspelled 12 spelled]) (st' := [.int r_2]) (pc' := 38) [0, 1, 2] rfl rfl rfl rfl ?_
    refine g_ifeq F 54 dX10_reads_38 (by decide) (fun hc_1 => ?_) (fun hc_1 => ?_)
    · replace hf := gi_t hc_1 hf
      exact hk M_next hf
    · replace hf := gi_f hc_1 hf
      refine g_aload_n F dX10_reads_41 rfl ?_
      refine g_dup F dX10_reads_42 rfl ?_
      refine g_get (C := RX10) (T := TX10) (N := 27) F 0 0 9 rfl rfl rfl iX10_reads_X10 (by decide) (by decide +kernel) rfl dX10_reads_43 ?_
      refine g_iconst F 1 dX10_reads_46 rfl ?_
      refine g_iadd F dX10_reads_47 ?_
      refine g_put (C := RX10) (T := TX10) (N := 27) (tys := tyX10) (Lw' := [sModel E aM anow aaside anames anamesAside atext aspelled acost afewestFrom afirst afresh aways aundo aslots aisSaved M_thrown M_length M_textSize M_start (M_next + 1) M_token M_value M_error M_errorAt M_number M_many M_freshMany M_undos, sArrB E atext 600 text, sArrI E aspelled 12 spelled]) F 0 0 9 rfl rfl rfl iX10_reads_X10 tyX10_ok nmX10 (by decide) (by decide +kernel) rfl rfl rfl rfl (Nat.le_of_ble_eq_true rfl) dX10_reads_48 rfl ?_
      refine g_goto F 23 dX10_reads_51 (by decide) ?_
      exact ih (M_next + 1) hf
set_option maxHeartbeats 4000000 in
set_option maxRecDepth 100000 in
theorem ktX10_reads_L59 {p : Program} {l : Launch} {e : Env} {s : State} {m : MethodId} {args : Array Value} {below : List Frame} {meth : Method} {c : Code} {E : gE} {A : Nat → Prop} (F : gFx p s m args meth c RX10 wsX10_reads cX10_reads 3 (some .boolean) vwCl E A) (aM anow aaside anames anamesAside atext aspelled acost afewestFrom afirst afresh aways aundo aslots aisSaved : Nat → Nat) (x1 : Int32) (M_textSize : Int32) (text : (Nat → Int32)) (M_thrown : Int32) (M_length : Int32) (M_start : Int32) (M_token : Int32) (M_value : Int32) (M_error : Int32) (M_errorAt : Int32) (M_number : Int32) (M_many : Int32) (M_freshMany : Int32) (M_undos : Int32) (spelled : (Nat → Int32)) (r : Int32) (M_length' : Int32) (M_textSize' : Int32) (M_start' : Int32) (M_next' : Int32) (M_many' : Int32) (spelled' : (Nat → Int32)) {k : Int32 → Option (Int32 × Int32 × Int32 × Int32 × Int32 × Int32 × (Nat → Int32))} (hk : ∀ (M_next : Int32), k M_next = some (r, M_length', M_textSize', M_start', M_next', M_many', spelled') → Gj p l e rmX10_reads s m args below meth c 0 0 (MQ below (gQ vwCl E A (fun v w => v = some (.int r) ∧ w = [sModel E aM anow aaside anames anamesAside atext aspelled acost afewestFrom afirst afresh aways aundo aslots aisSaved M_thrown M_length' M_textSize' M_start' M_next' M_token M_value M_error M_errorAt M_number M_many' M_freshMany M_undos, sArrB E atext 600 text, sArrI E aspelled 12 spelled'] ∧ narrow .boolean (.int r) = .int r)) args s 0 0 A) vwCl E A [sModel E aM anow aaside anames anamesAside atext aspelled acost afewestFrom afirst afresh aways aundo aslots aisSaved M_thrown M_length M_textSize M_start M_next M_token M_value M_error M_errorAt M_number M_many M_freshMany M_undos, sArrB E atext 600 text, sArrI E aspelled 12 spelled] [some (.ref (aM 0)), some (.int x1), none] [] 85) : ∀ (n : Nat) (M_next : Int32), fX10_reads_L59 x1 M_textSize text k n M_next = some (r, M_length', M_textSize', M_start', M_next', M_many', spelled') → Gj p l e rmX10_reads s m args below meth c 0 0 (MQ below (gQ vwCl E A (fun v w => v = some (.int r) ∧ w = [sModel E aM anow aaside anames anamesAside atext aspelled acost afewestFrom afirst afresh aways aundo aslots aisSaved M_thrown M_length' M_textSize' M_start' M_next' M_token M_value M_error M_errorAt M_number M_many' M_freshMany M_undos, sArrB E atext 600 text, sArrI E aspelled 12 spelled'] ∧ narrow .boolean (.int r) = .int r)) args s 0 0 A) vwCl E A [sModel E aM anow aaside anames anamesAside atext aspelled acost afewestFrom afirst afresh aways aundo aslots aisSaved M_thrown M_length M_textSize M_start M_next M_token M_value M_error M_errorAt M_number M_many M_freshMany M_undos, sArrB E atext 600 text, sArrI E aspelled 12 spelled] [some (.ref (aM 0)), some (.int x1), none] [] 59
  | 0, _, hf => by cases hf
  | n + 1, M_next, hf => by
    have ih := ktX10_reads_L59 F aM anow aaside anames anamesAside atext aspelled acost afewestFrom afirst afresh aways aundo aslots aisSaved x1 M_textSize text M_thrown M_length M_start M_token M_value M_error M_errorAt M_number M_many M_freshMany M_undos spelled r M_length' M_textSize' M_start' M_next' M_many' spelled' hk n
    rw [fX10_reads_L59] at hf
    refine g_aload_n F dX10_reads_59 rfl ?_
    refine g_aload_n F dX10_reads_60 rfl ?_
    refine g_get (C := RX10) (T := TX10) (N := 27) F 0 0 9 rfl rfl rfl iX10_reads_X10 (by decide) (by decide +kernel) rfl dX10_reads_61 ?_
    obtain ⟨r_1, hg_1, hf⟩ := gb1_el hf
    refine g_callV (C := RX10) (T := TX10) (N := 27) (Lr := [sArrI E aspelled 12 spelled]) (As := [.int M_next]) (rest := []) F 0 0 1 (ctX10_byteAt l E aM anow aaside anames anamesAside atext aspelled acost afewestFrom afirst afresh aways aundo aslots aisSaved M_next M_thrown M_length M_textSize M_start M_next M_token M_value M_error M_errorAt M_number M_many M_freshMany M_undos text r_1 hg_1) gX10_reads_X10_byteAt rfl rfl rfl h0X10_byteAt ⟨Nat.le_of_ble_eq_true rfl, Nat.le_of_ble_eq_true rfl⟩ rfl rfl rfl [0, 1] [2] rfl rfl rfl rfl rfl rfl (Nat.le_of_ble_eq_true rfl) dX10_reads_64 ⟨Nat.le_of_ble_eq_true rfl, Nat.le_of_ble_eq_true rfl⟩ ?_
    rintro v w ⟨rfl, rfl⟩
    refine g_norm (Lw' := [sModel E aM anow aaside anames anamesAside atext aspelled acost afewestFrom afirst afresh aways aundo aslots aisSaved M_thrown M_length M_textSize M_start M_next M_token M_value M_error M_errorAt M_number M_many M_freshMany M_undos, sArrB E atext 600 text, sArrI E aspelled 12 spelled]) (st' := [.int r_1]) (pc' := 67) [0, 1, 2] rfl rfl rfl rfl ?_
    refine g_bipush F 32 dX10_reads_67 rfl ?_
    refine g_icmp_ne F 85 dX10_reads_69 (by decide) (fun hc_1 => ?_) (fun hc_1 => ?_)
    · replace hf := gi_f hc_1 hf
      exact hk M_next hf
    · replace hf := gi_t hc_1 hf
      refine g_aload_n F dX10_reads_72 rfl ?_
      refine g_dup F dX10_reads_73 rfl ?_
      refine g_get (C := RX10) (T := TX10) (N := 27) F 0 0 9 rfl rfl rfl iX10_reads_X10 (by decide) (by decide +kernel) rfl dX10_reads_74 ?_
      refine g_iconst F 1 dX10_reads_77 rfl ?_
      refine g_iadd F dX10_reads_78 ?_
      refine g_put (C := RX10) (T := TX10) (N := 27) (tys := tyX10) (Lw' := [sModel E aM anow aaside anames anamesAside atext aspelled acost afewestFrom afirst afresh aways aundo aslots aisSaved M_thrown M_length M_textSize M_start (M_next + 1) M_token M_value M_error M_errorAt M_number M_many M_freshMany M_undos, sArrB E atext 600 text, sArrI E aspelled 12 spelled]) F 0 0 9 rfl rfl rfl iX10_reads_X10 tyX10_ok nmX10 (by decide) (by decide +kernel) rfl rfl rfl rfl (Nat.le_of_ble_eq_true rfl) dX10_reads_79 rfl ?_
      refine g_goto F 59 dX10_reads_82 (by decide) ?_
      exact ih (M_next + 1) hf
set_option maxHeartbeats 4000000 in
set_option maxRecDepth 100000 in
theorem ctX10_reads (l : Launch) (E : gE) (aM anow aaside anames anamesAside atext aspelled acost afewestFrom afirst afresh aways aundo aslots aisSaved : Nat → Nat) (M_thrown : Int32) (M_length : Int32) (M_textSize : Int32) (M_start : Int32) (M_next : Int32) (M_token : Int32) (M_value : Int32) (M_error : Int32) (M_errorAt : Int32) (M_number : Int32) (M_many : Int32) (M_freshMany : Int32) (M_undos : Int32) (text : (Nat → Int32)) (spelled : (Nat → Int32)) (r : Int32) (M_length' : Int32) (M_textSize' : Int32) (M_start' : Int32) (M_next' : Int32) (M_many' : Int32) (spelled' : (Nat → Int32)) (hf : fX10_reads M_length M_textSize M_start M_next M_many text spelled = some (r, M_length', M_textSize', M_start', M_next', M_many', spelled')) : gMet l yX10_reads wsX10_reads rmX10_reads vwCl E [.ref (aM 0)] [sModel E aM anow aaside anames anamesAside atext aspelled acost afewestFrom afirst afresh aways aundo aslots aisSaved M_thrown M_length M_textSize M_start M_next M_token M_value M_error M_errorAt M_number M_many M_freshMany M_undos, sArrB E atext 600 text, sArrI E aspelled 12 spelled] (fun v w => v = some (.int r) ∧ w = [sModel E aM anow aaside anames anamesAside atext aspelled acost afewestFrom afirst afresh aways aundo aslots aisSaved M_thrown M_length' M_textSize' M_start' M_next' M_token M_value M_error M_errorAt M_number M_many' M_freshMany M_undos, sArrB E atext 600 text, sArrI E aspelled 12 spelled'] ∧ narrow .boolean (.int r) = .int r) 0 0 := by
  refine g_entry [some (.ref (aM 0)), none, none] (by decide) rfl (Nat.le_of_ble_eq_true rfl) rfl ?_
  intro p e s m below meth c A F hnm
  unfold fX10_reads at hf
  refine g_aload_n F dX10_reads_0 rfl ?_
  refine g_aload_n F dX10_reads_1 rfl ?_
  refine g_get (C := RX10) (T := TX10) (N := 27) F 0 0 6 rfl rfl rfl iX10_reads_X10 (by decide) (by decide +kernel) rfl dX10_reads_2 ?_
  refine g_put (C := RX10) (T := TX10) (N := 27) (tys := tyX10) (Lw' := [sModel E aM anow aaside anames anamesAside atext aspelled acost afewestFrom afirst afresh aways aundo aslots aisSaved M_thrown M_length M_length M_start M_next M_token M_value M_error M_errorAt M_number M_many M_freshMany M_undos, sArrB E atext 600 text, sArrI E aspelled 12 spelled]) F 0 0 7 rfl rfl rfl iX10_reads_X10 tyX10_ok nmX10 (by decide) (by decide +kernel) rfl rfl rfl rfl (Nat.le_of_ble_eq_true rfl) dX10_reads_5 rfl ?_
  refine g_aload_n F dX10_reads_8 rfl ?_
  refine g_iconst F 0 dX10_reads_9 rfl ?_
  refine g_put (C := RX10) (T := TX10) (N := 27) (tys := tyX10) (Lw' := [sModel E aM anow aaside anames anamesAside atext aspelled acost afewestFrom afirst afresh aways aundo aslots aisSaved M_thrown 0 M_length M_start M_next M_token M_value M_error M_errorAt M_number M_many M_freshMany M_undos, sArrB E atext 600 text, sArrI E aspelled 12 spelled]) F 0 0 6 rfl rfl rfl iX10_reads_X10 tyX10_ok nmX10 (by decide) (by decide +kernel) rfl rfl rfl rfl (Nat.le_of_ble_eq_true rfl) dX10_reads_10 rfl ?_
  refine g_aload_n F dX10_reads_13 rfl ?_
  refine g_iconst F 0 dX10_reads_14 rfl ?_
  refine g_put (C := RX10) (T := TX10) (N := 27) (tys := tyX10) (Lw' := [sModel E aM anow aaside anames anamesAside atext aspelled acost afewestFrom afirst afresh aways aundo aslots aisSaved M_thrown 0 M_length 0 M_next M_token M_value M_error M_errorAt M_number M_many M_freshMany M_undos, sArrB E atext 600 text, sArrI E aspelled 12 spelled]) F 0 0 8 rfl rfl rfl iX10_reads_X10 tyX10_ok nmX10 (by decide) (by decide +kernel) rfl rfl rfl rfl (Nat.le_of_ble_eq_true rfl) dX10_reads_15 rfl ?_
  refine g_aload_n F dX10_reads_18 rfl ?_
  refine g_iconst F 0 dX10_reads_19 rfl ?_
  refine g_put (C := RX10) (T := TX10) (N := 27) (tys := tyX10) (Lw' := [sModel E aM anow aaside anames anamesAside atext aspelled acost afewestFrom afirst afresh aways aundo aslots aisSaved M_thrown 0 M_length 0 0 M_token M_value M_error M_errorAt M_number M_many M_freshMany M_undos, sArrB E atext 600 text, sArrI E aspelled 12 spelled]) F 0 0 9 rfl rfl rfl iX10_reads_X10 tyX10_ok nmX10 (by decide) (by decide +kernel) rfl rfl rfl rfl (Nat.le_of_ble_eq_true rfl) dX10_reads_20 rfl ?_
  refine ktX10_reads_L23 F aM anow aaside anames anamesAside atext aspelled acost afewestFrom afirst afresh aways aundo aslots aisSaved M_length text M_thrown 0 0 M_token M_value M_error M_errorAt M_number M_many M_freshMany M_undos spelled r M_length' M_textSize' M_start' M_next' M_many' spelled' (fun M_next_1 hf => ?_) FU 0 hf
  refine g_aload_n F dX10_reads_54 rfl ?_
  refine g_get (C := RX10) (T := TX10) (N := 27) F 0 0 9 rfl rfl rfl iX10_reads_X10 (by decide) (by decide +kernel) rfl dX10_reads_55 ?_
  refine g_istore_n (lv' := [some (.ref (aM 0)), some (.int M_next_1), none]) F dX10_reads_58 (Nat.le_of_ble_eq_true rfl) rfl rfl ?_
  refine ktX10_reads_L59 F aM anow aaside anames anamesAside atext aspelled acost afewestFrom afirst afresh aways aundo aslots aisSaved M_next_1 M_length text M_thrown 0 0 M_token M_value M_error M_errorAt M_number M_many M_freshMany M_undos spelled r M_length' M_textSize' M_start' M_next' M_many' spelled' (fun M_next_2 hf => ?_) FU M_next_1 hf
  refine g_iload_n F dX10_reads_85 rfl ?_
  refine g_iconst F 1 dX10_reads_86 rfl ?_
  refine g_bipush F 12 dX10_reads_87 rfl ?_
  obtain ⟨r_1, hg_1, hf⟩ := gb1_el hf
  refine g_callS (Lr := [sModel E aM anow aaside anames anamesAside atext aspelled acost afewestFrom afirst afresh aways aundo aslots aisSaved M_thrown 0 M_length 0 M_next_2 M_token M_value M_error M_errorAt M_number M_many M_freshMany M_undos, sArrB E atext 600 text, sArrI E aspelled 12 spelled]) (As := [.int M_next_1, .int 1, .int 12]) (rest := []) F 3 (ctX10_within l E M_next_1 1 12 r_1 hg_1) (va_cwS 3 F.2.2.2.2.2.1 gX10_reads_X10_within rfl rfl rfl h0X10_within ⟨Nat.le_of_ble_eq_true rfl, Nat.le_of_ble_eq_true rfl⟩) [] [0, 1, 2] rfl rfl rfl rfl rfl rfl (Nat.le_of_ble_eq_true rfl) dX10_reads_89 ⟨Nat.le_of_ble_eq_true rfl, Nat.le_of_ble_eq_true rfl⟩ ?_
  rintro v w ⟨rfl, rfl, hz_1⟩
  refine g_norm (Lw' := [sModel E aM anow aaside anames anamesAside atext aspelled acost afewestFrom afirst afresh aways aundo aslots aisSaved M_thrown 0 M_length 0 M_next_2 M_token M_value M_error M_errorAt M_number M_many M_freshMany M_undos, sArrB E atext 600 text, sArrI E aspelled 12 spelled]) (st' := [.int r_1]) (pc' := 92) [0, 1, 2] rfl rfl rfl rfl ?_
  obtain ⟨j_1, hj_1, hf⟩ := Lt_el hf
  have hj_1 : ∀ (t0_1 : Int32), j_1 t0_1 = some (r, M_length', M_textSize', M_start', M_next', M_many', spelled') → Gj p l e rmX10_reads s m ([.ref (aM 0)] : List Value).toArray below meth c 0 0 (MQ below (gQ vwCl E A (fun v w => v = some (.int r) ∧ w = [sModel E aM anow aaside anames anamesAside atext aspelled acost afewestFrom afirst afresh aways aundo aslots aisSaved M_thrown M_length' M_textSize' M_start' M_next' M_token M_value M_error M_errorAt M_number M_many' M_freshMany M_undos, sArrB E atext 600 text, sArrI E aspelled 12 spelled'] ∧ narrow .boolean (.int r) = .int r)) ([.ref (aM 0)] : List Value).toArray s 0 0 A) vwCl E A [sModel E aM anow aaside anames anamesAside atext aspelled acost afewestFrom afirst afresh aways aundo aslots aisSaved M_thrown 0 M_length 0 M_next_2 M_token M_value M_error M_errorAt M_number M_many M_freshMany M_undos, sArrB E atext 600 text, sArrI E aspelled 12 spelled] [some (.ref (aM 0)), some (.int M_next_1), none] [.int t0_1] 111 := by
    intro t0_1 hf
    rw [hj_1] at hf
    refine g_istore_n (lv' := [some (.ref (aM 0)), some (.int M_next_1), some (.int t0_1)]) F dX10_reads_111 (Nat.le_of_ble_eq_true rfl) rfl rfl ?_
    refine g_aload_n F dX10_reads_112 rfl ?_
    refine g_iload_n F dX10_reads_113 rfl ?_
    refine g_put (C := RX10) (T := TX10) (N := 27) (tys := tyX10) (Lw' := [sModel E aM anow aaside anames anamesAside atext aspelled acost afewestFrom afirst afresh aways aundo aslots aisSaved M_thrown 0 M_length 0 M_next_1 M_token M_value M_error M_errorAt M_number M_many M_freshMany M_undos, sArrB E atext 600 text, sArrI E aspelled 12 spelled]) F 0 0 9 rfl rfl rfl iX10_reads_X10 tyX10_ok nmX10 (by decide) (by decide +kernel) rfl rfl rfl rfl (Nat.le_of_ble_eq_true rfl) dX10_reads_114 rfl ?_
    refine g_aload_n F dX10_reads_117 rfl ?_
    refine g_iconst F 0 dX10_reads_118 rfl ?_
    refine g_put (C := RX10) (T := TX10) (N := 27) (tys := tyX10) (Lw' := [sModel E aM anow aaside anames anamesAside atext aspelled acost afewestFrom afirst afresh aways aundo aslots aisSaved M_thrown 0 M_length 0 M_next_1 M_token M_value M_error M_errorAt M_number 0 M_freshMany M_undos, sArrB E atext 600 text, sArrI E aspelled 12 spelled]) F 0 0 16 rfl rfl rfl iX10_reads_X10 tyX10_ok nmX10 (by decide) (by decide +kernel) rfl rfl rfl rfl (Nat.le_of_ble_eq_true rfl) dX10_reads_119 rfl ?_
    refine g_iload_n F dX10_reads_122 rfl ?_
    refine g_ifeq F 130 dX10_reads_123 (by decide) (fun hc_1 => ?_) (fun hc_1 => ?_)
    · replace hf := gi_t hc_1 hf
      refine g_iload_n F dX10_reads_130 rfl ?_
      obtain ⟨hz_2, hf⟩ := gb_if hf
      cases hf
      exact g_zret (ty := .boolean) F rfl (congrArg Value.int hz_2) ⟨rfl, rfl, (congrArg Value.int hz_2)⟩ dX10_reads_131
    · replace hf := gi_f hc_1 hf
      refine g_aload_n F dX10_reads_126 rfl ?_
      obtain ⟨M_many_1, spelled_1, hg_2, hf⟩ := gb2_el hf
      refine g_callV (C := RX10) (T := TX10) (N := 27) (Lr := []) (As := []) (rest := []) F 0 0 0 (ctX10_spellsToken l E aM anow aaside anames anamesAside atext aspelled acost afewestFrom afirst afresh aways aundo aslots aisSaved M_thrown 0 M_length 0 M_next_1 M_token M_value M_error M_errorAt M_number 0 M_freshMany M_undos text spelled M_many_1 spelled_1 hg_2) gX10_reads_X10_spellsToken rfl rfl rfl h0X10_spellsToken ⟨Nat.le_of_ble_eq_true rfl, Nat.le_of_ble_eq_true rfl⟩ rfl rfl rfl [0, 1, 2] [] rfl rfl rfl rfl rfl rfl (Nat.le_of_ble_eq_true rfl) dX10_reads_127 ⟨Nat.le_of_ble_eq_true rfl, Nat.le_of_ble_eq_true rfl⟩ ?_
      rintro v w ⟨rfl, rfl⟩
      refine g_norm (Lw' := [sModel E aM anow aaside anames anamesAside atext aspelled acost afewestFrom afirst afresh aways aundo aslots aisSaved M_thrown 0 M_length 0 M_next_1 M_token M_value M_error M_errorAt M_number M_many_1 M_freshMany M_undos, sArrB E atext 600 text, sArrI E aspelled 12 spelled_1]) (st' := []) (pc' := 130) [0, 1, 2] rfl rfl rfl rfl ?_
      refine g_iload_n F dX10_reads_130 rfl ?_
      obtain ⟨hz_3, hf⟩ := gb_if hf
      cases hf
      exact g_zret (ty := .boolean) F rfl (congrArg Value.int hz_3) ⟨rfl, rfl, (congrArg Value.int hz_3)⟩ dX10_reads_131
  obtain ⟨j_2, hj_2, hf⟩ := Lt_el hf
  have hj_2 : j_2 = some (r, M_length', M_textSize', M_start', M_next', M_many', spelled') → Gj p l e rmX10_reads s m ([.ref (aM 0)] : List Value).toArray below meth c 0 0 (MQ below (gQ vwCl E A (fun v w => v = some (.int r) ∧ w = [sModel E aM anow aaside anames anamesAside atext aspelled acost afewestFrom afirst afresh aways aundo aslots aisSaved M_thrown M_length' M_textSize' M_start' M_next' M_token M_value M_error M_errorAt M_number M_many' M_freshMany M_undos, sArrB E atext 600 text, sArrI E aspelled 12 spelled'] ∧ narrow .boolean (.int r) = .int r)) ([.ref (aM 0)] : List Value).toArray s 0 0 A) vwCl E A [sModel E aM anow aaside anames anamesAside atext aspelled acost afewestFrom afirst afresh aways aundo aslots aisSaved M_thrown 0 M_length 0 M_next_2 M_token M_value M_error M_errorAt M_number M_many M_freshMany M_undos, sArrB E atext 600 text, sArrI E aspelled 12 spelled] [some (.ref (aM 0)), some (.int M_next_1), none] [] 110 := by
    intro hf
    rw [hj_2] at hf
    refine g_iconst F 0 dX10_reads_110 rfl ?_
    exact hj_1 0 hf
  refine g_ifeq F 110 dX10_reads_92 (by decide) (fun hc_3 => ?_) (fun hc_3 => ?_)
  · replace hf := gi_t hc_3 hf
    exact hj_2 hf
  · replace hf := gi_f hc_3 hf
    refine g_aload_n F dX10_reads_95 rfl ?_
    refine g_get (C := RX10) (T := TX10) (N := 27) F 0 0 9 rfl rfl rfl iX10_reads_X10 (by decide) (by decide +kernel) rfl dX10_reads_96 ?_
    refine g_aload_n F dX10_reads_99 rfl ?_
    refine g_get (C := RX10) (T := TX10) (N := 27) F 0 0 7 rfl rfl rfl iX10_reads_X10 (by decide) (by decide +kernel) rfl dX10_reads_100 ?_
    refine g_icmp_ne F 110 dX10_reads_103 (by decide) (fun hc_2 => ?_) (fun hc_2 => ?_)
    · replace hf := gi_f hc_2 hf
      exact hj_2 hf
    · replace hf := gi_t hc_2 hf
      refine g_iconst F 1 dX10_reads_106 rfl ?_
      refine g_goto F 111 dX10_reads_107 (by decide) ?_
      exact hj_1 1 hf
set_option maxHeartbeats 4000000 in
set_option maxRecDepth 100000 in
theorem ctX10_ofWord (l : Launch) (E : gE) (aM anow aaside anames anamesAside atext aspelled acost afewestFrom afirst afresh aways aundo aslots aisSaved : Nat → Nat) (x1 : Int32) (x2 : Int32) (M_thrown : Int32) (M_length : Int32) (M_textSize : Int32) (M_start : Int32) (M_next : Int32) (M_token : Int32) (M_value : Int32) (M_error : Int32) (M_errorAt : Int32) (M_number : Int32) (M_many : Int32) (M_freshMany : Int32) (M_undos : Int32) (now : (Nat → Int32)) (r : Int32) (hf : fX10_ofWord x1 x2 now = some r) : gMet l yX10_ofWord wsX10_ofWord rmX10_ofWord vwCl E [.ref (aM 0), .int x1, .int x2] [sModel E aM anow aaside anames anamesAside atext aspelled acost afewestFrom afirst afresh aways aundo aslots aisSaved M_thrown M_length M_textSize M_start M_next M_token M_value M_error M_errorAt M_number M_many M_freshMany M_undos, sArrI E anow 365 now] (fun v w => v = some (.int r) ∧ w = [sModel E aM anow aaside anames anamesAside atext aspelled acost afewestFrom afirst afresh aways aundo aslots aisSaved M_thrown M_length M_textSize M_start M_next M_token M_value M_error M_errorAt M_number M_many M_freshMany M_undos, sArrI E anow 365 now]) 0 0 := by
  refine g_entry [some (.ref (aM 0)), some (.int x1), some (.int x2)] (by decide) rfl (Nat.le_of_ble_eq_true rfl) rfl ?_
  intro p e s m below meth c A F hnm
  unfold fX10_ofWord at hf
  refine g_aload_n F dX10_ofWord_0 rfl ?_
  refine g_get (C := RX10) (T := TX10) (N := 27) F 0 0 1 rfl rfl rfl iX10_ofWord_X10 (by decide) (by decide +kernel) rfl dX10_ofWord_1 ?_
  refine g_sipush F 141 dX10_ofWord_4 rfl ?_
  refine g_bipush F 14 dX10_ofWord_7 rfl ?_
  refine g_iload_n F dX10_ofWord_9 rfl ?_
  refine g_imul F dX10_ofWord_10 ?_
  refine g_iadd F dX10_ofWord_11 ?_
  refine g_iload_n F dX10_ofWord_12 rfl ?_
  refine g_iadd F dX10_ofWord_13 ?_
  obtain ⟨hb_1, hf⟩ := gb_in hf
  refine g_iald F 1 0 (((141 + (14 * x1)) + x2).toNatClampNeg) rfl rfl rfl hb_1 dX10_ofWord_14 ?_
  cases hf
  exact g_iret F rfl ⟨rfl, rfl⟩ dX10_ofWord_15
set_option maxHeartbeats 4000000 in
set_option maxRecDepth 100000 in
theorem ktX10_spellsWord_L43 {p : Program} {l : Launch} {e : Env} {s : State} {m : MethodId} {args : Array Value} {below : List Frame} {meth : Method} {c : Code} {E : gE} {A : Nat → Prop} (F : gFx p s m args meth c RX10 wsX10_spellsWord cX10_spellsWord 6 none vwCl E A) (aM anow aaside anames anamesAside atext aspelled acost afewestFrom afirst afresh aways aundo aslots aisSaved : Nat → Nat) (x1 : Int32) (x2 : Int32) (x3 : Int32) (M_thrown : Int32) (M_length : Int32) (M_textSize : Int32) (M_start : Int32) (M_next : Int32) (M_token : Int32) (M_value : Int32) (M_error : Int32) (M_errorAt : Int32) (M_number : Int32) (M_freshMany : Int32) (M_undos : Int32) (now : (Nat → Int32)) (M_many' : Int32) (spelled' : (Nat → Int32)) {k : Int32 → (Nat → Int32) → Option (Int32 × (Nat → Int32))} (hk : ∀ (M_many : Int32) (spelled : (Nat → Int32)), k M_many spelled = some (M_many', spelled') → Gj p l e rmX10_spellsWord s m args below meth c 0 0 (MQ below (gQ vwCl E A (fun v w => v = none ∧ w = [sModel E aM anow aaside anames anamesAside atext aspelled acost afewestFrom afirst afresh aways aundo aslots aisSaved M_thrown M_length M_textSize M_start M_next M_token M_value M_error M_errorAt M_number M_many' M_freshMany M_undos, sArrI E anow 365 now, sArrI E aspelled 12 spelled'])) args s 0 0 A) vwCl E A [sModel E aM anow aaside anames anamesAside atext aspelled acost afewestFrom afirst afresh aways aundo aslots aisSaved M_thrown M_length M_textSize M_start M_next M_token M_value M_error M_errorAt M_number M_many M_freshMany M_undos, sArrI E anow 365 now, sArrI E aspelled 12 spelled] [some (.ref (aM 0)), some (.int x1), some (.int x2), none, none, none] [] 82) : ∀ (n : Nat) (x5 : Int32) (M_many : Int32) (spelled : (Nat → Int32)), fX10_spellsWord_L43 x1 x2 x3 k n x5 M_many spelled = some (M_many', spelled') → Gj p l e rmX10_spellsWord s m args below meth c 0 0 (MQ below (gQ vwCl E A (fun v w => v = none ∧ w = [sModel E aM anow aaside anames anamesAside atext aspelled acost afewestFrom afirst afresh aways aundo aslots aisSaved M_thrown M_length M_textSize M_start M_next M_token M_value M_error M_errorAt M_number M_many' M_freshMany M_undos, sArrI E anow 365 now, sArrI E aspelled 12 spelled'])) args s 0 0 A) vwCl E A [sModel E aM anow aaside anames anamesAside atext aspelled acost afewestFrom afirst afresh aways aundo aslots aisSaved M_thrown M_length M_textSize M_start M_next M_token M_value M_error M_errorAt M_number M_many M_freshMany M_undos, sArrI E anow 365 now, sArrI E aspelled 12 spelled] [some (.ref (aM 0)), some (.int x1), some (.int x2), some (.int x3), none, some (.int x5)] [] 43
  | 0, _, _, _, hf => by cases hf
  | n + 1, x5, M_many, spelled, hf => by
    have ih := ktX10_spellsWord_L43 F aM anow aaside anames anamesAside atext aspelled acost afewestFrom afirst afresh aways aundo aslots aisSaved x1 x2 x3 M_thrown M_length M_textSize M_start M_next M_token M_value M_error M_errorAt M_number M_freshMany M_undos now M_many' spelled' hk n
    rw [fX10_spellsWord_L43] at hf
    refine g_iload F dX10_spellsWord_43 rfl ?_
    refine g_iflt F 82 dX10_spellsWord_45 (by decide) (fun hc_1 => ?_) (fun hc_1 => ?_)
    · replace hf := gi_t hc_1 hf
      refine g_mask [true, true, true, false, true, false] rfl ?_
      exact hk M_many spelled hf
    · replace hf := gi_f hc_1 hf
      refine g_aload_n F dX10_spellsWord_48 rfl ?_
      refine g_get (C := RX10) (T := TX10) (N := 27) F 0 0 15 rfl rfl rfl iX10_spellsWord_X10 (by decide) (by decide +kernel) rfl dX10_spellsWord_49 ?_
      refine g_aload_n F dX10_spellsWord_52 rfl ?_
      refine g_get (C := RX10) (T := TX10) (N := 27) F 0 0 16 rfl rfl rfl iX10_spellsWord_X10 (by decide) (by decide +kernel) rfl dX10_spellsWord_53 ?_
      refine g_iload_n F dX10_spellsWord_56 rfl ?_
      refine g_iconst F 5 dX10_spellsWord_57 rfl ?_
      refine g_iload F dX10_spellsWord_58 rfl ?_
      refine g_imul F dX10_spellsWord_60 ?_
      refine g_ishr F dX10_spellsWord_61 ?_
      refine g_bipush F 31 dX10_spellsWord_62 rfl ?_
      refine g_iand F dX10_spellsWord_64 ?_
      obtain ⟨hb_1, hf⟩ := gb_in hf
      obtain ⟨spelled_1, hspelled_1, hf⟩ := Lt_el hf
      refine g_iast (Lw' := [sModel E aM anow aaside anames anamesAside atext aspelled acost afewestFrom afirst afresh aways aundo aslots aisSaved M_thrown M_length M_textSize M_start M_next M_token M_value M_error M_errorAt M_number M_many M_freshMany M_undos, sArrI E anow 365 now, sArrI E aspelled 12 spelled_1]) F 2 0 (M_many.toNatClampNeg) rfl rfl rfl hb_1 dX10_spellsWord_65 (by subst hspelled_1; rfl) ?_
      refine g_aload_n F dX10_spellsWord_66 rfl ?_
      refine g_dup F dX10_spellsWord_67 rfl ?_
      refine g_get (C := RX10) (T := TX10) (N := 27) F 0 0 16 rfl rfl rfl iX10_spellsWord_X10 (by decide) (by decide +kernel) rfl dX10_spellsWord_68 ?_
      refine g_iconst F 1 dX10_spellsWord_71 rfl ?_
      refine g_iadd F dX10_spellsWord_72 ?_
      refine g_put (C := RX10) (T := TX10) (N := 27) (tys := tyX10) (Lw' := [sModel E aM anow aaside anames anamesAside atext aspelled acost afewestFrom afirst afresh aways aundo aslots aisSaved M_thrown M_length M_textSize M_start M_next M_token M_value M_error M_errorAt M_number (M_many + 1) M_freshMany M_undos, sArrI E anow 365 now, sArrI E aspelled 12 spelled_1]) F 0 0 16 rfl rfl rfl iX10_spellsWord_X10 tyX10_ok nmX10 (by decide) (by decide +kernel) rfl rfl rfl rfl (Nat.le_of_ble_eq_true rfl) dX10_spellsWord_73 rfl ?_
      refine g_iinc (lv' := [some (.ref (aM 0)), some (.int x1), some (.int x2), some (.int x3), none, some (.int (x5 + (-1)))]) F (x5 + (-1)) dX10_spellsWord_76 rfl rfl rfl rfl ?_
      refine g_goto F 43 dX10_spellsWord_79 (by decide) ?_
      exact ih (x5 + (-1)) (M_many + 1) spelled_1 hf
set_option maxHeartbeats 4000000 in
set_option maxRecDepth 100000 in
theorem ktX10_spellsWord_L7 {p : Program} {l : Launch} {e : Env} {s : State} {m : MethodId} {args : Array Value} {below : List Frame} {meth : Method} {c : Code} {E : gE} {A : Nat → Prop} (F : gFx p s m args meth c RX10 wsX10_spellsWord cX10_spellsWord 6 none vwCl E A) (aM anow aaside anames anamesAside atext aspelled acost afewestFrom afirst afresh aways aundo aslots aisSaved : Nat → Nat) (x1 : Int32) (now : (Nat → Int32)) (M_thrown : Int32) (M_length : Int32) (M_textSize : Int32) (M_start : Int32) (M_next : Int32) (M_token : Int32) (M_value : Int32) (M_error : Int32) (M_errorAt : Int32) (M_number : Int32) (M_freshMany : Int32) (M_undos : Int32) (M_many' : Int32) (spelled' : (Nat → Int32)) {k : Int32 → (Nat → Int32) → Option (Int32 × (Nat → Int32))} (hk : ∀ (M_many : Int32) (spelled : (Nat → Int32)), k M_many spelled = some (M_many', spelled') → Gj p l e rmX10_spellsWord s m args below meth c 0 0 (MQ below (gQ vwCl E A (fun v w => v = none ∧ w = [sModel E aM anow aaside anames anamesAside atext aspelled acost afewestFrom afirst afresh aways aundo aslots aisSaved M_thrown M_length M_textSize M_start M_next M_token M_value M_error M_errorAt M_number M_many' M_freshMany M_undos, sArrI E anow 365 now, sArrI E aspelled 12 spelled'])) args s 0 0 A) vwCl E A [sModel E aM anow aaside anames anamesAside atext aspelled acost afewestFrom afirst afresh aways aundo aslots aisSaved M_thrown M_length M_textSize M_start M_next M_token M_value M_error M_errorAt M_number M_many M_freshMany M_undos, sArrI E anow 365 now, sArrI E aspelled 12 spelled] [none, none, none, none, none, none] [] 88) : ∀ (n : Nat) (x2 : Int32) (M_many : Int32) (spelled : (Nat → Int32)), fX10_spellsWord_L7 x1 now k n x2 M_many spelled = some (M_many', spelled') → Gj p l e rmX10_spellsWord s m args below meth c 0 0 (MQ below (gQ vwCl E A (fun v w => v = none ∧ w = [sModel E aM anow aaside anames anamesAside atext aspelled acost afewestFrom afirst afresh aways aundo aslots aisSaved M_thrown M_length M_textSize M_start M_next M_token M_value M_error M_errorAt M_number M_many' M_freshMany M_undos, sArrI E anow 365 now, sArrI E aspelled 12 spelled'])) args s 0 0 A) vwCl E A [sModel E aM anow aaside anames anamesAside atext aspelled acost afewestFrom afirst afresh aways aundo aslots aisSaved M_thrown M_length M_textSize M_start M_next M_token M_value M_error M_errorAt M_number M_many M_freshMany M_undos, sArrI E anow 365 now, sArrI E aspelled 12 spelled] [some (.ref (aM 0)), some (.int x1), some (.int x2), none, none, none] [] 7
  | 0, _, _, _, hf => by cases hf
  | n + 1, x2, M_many, spelled, hf => by
    have ih := ktX10_spellsWord_L7 F aM anow aaside anames anamesAside atext aspelled acost afewestFrom afirst afresh aways aundo aslots aisSaved x1 now M_thrown M_length M_textSize M_start M_next M_token M_value M_error M_errorAt M_number M_freshMany M_undos M_many' spelled' hk n
    rw [fX10_spellsWord_L7] at hf
    refine g_iload_n F dX10_spellsWord_7 rfl ?_
    refine g_aload_n F dX10_spellsWord_8 rfl ?_
    refine g_iload_n F dX10_spellsWord_9 rfl ?_
    refine g_iconst F 1 dX10_spellsWord_10 rfl ?_
    obtain ⟨r_1, hg_1, hf⟩ := gb1_el hf
    refine g_callV (C := RX10) (T := TX10) (N := 27) (Lr := [sArrI E aspelled 12 spelled]) (As := [.int x1, .int 1]) (rest := [.int x2]) F 0 0 2 (ctX10_ofWord l E aM anow aaside anames anamesAside atext aspelled acost afewestFrom afirst afresh aways aundo aslots aisSaved x1 1 M_thrown M_length M_textSize M_start M_next M_token M_value M_error M_errorAt M_number M_many M_freshMany M_undos now r_1 hg_1) gX10_spellsWord_X10_ofWord rfl rfl rfl h0X10_ofWord ⟨Nat.le_of_ble_eq_true rfl, Nat.le_of_ble_eq_true rfl⟩ rfl rfl rfl [0, 1] [2] rfl rfl rfl rfl rfl rfl (Nat.le_of_ble_eq_true rfl) dX10_spellsWord_11 ⟨Nat.le_of_ble_eq_true rfl, Nat.le_of_ble_eq_true rfl⟩ ?_
    rintro v w ⟨rfl, rfl⟩
    refine g_norm (Lw' := [sModel E aM anow aaside anames anamesAside atext aspelled acost afewestFrom afirst afresh aways aundo aslots aisSaved M_thrown M_length M_textSize M_start M_next M_token M_value M_error M_errorAt M_number M_many M_freshMany M_undos, sArrI E anow 365 now, sArrI E aspelled 12 spelled]) (st' := [.int r_1, .int x2]) (pc' := 14) [0, 1, 2] rfl rfl rfl rfl ?_
    refine g_icmp_ge F 88 dX10_spellsWord_14 (by decide) (fun hc_1 => ?_) (fun hc_1 => ?_)
    · replace hf := gi_t hc_1 hf
      refine g_mask [false, false, false, true, true, true] rfl ?_
      exact hk M_many spelled hf
    · replace hf := gi_f hc_1 hf
      refine g_aload_n F dX10_spellsWord_17 rfl ?_
      refine g_aload_n F dX10_spellsWord_18 rfl ?_
      refine g_iload_n F dX10_spellsWord_19 rfl ?_
      refine g_iconst F 2 dX10_spellsWord_20 rfl ?_
      refine g_iload_n F dX10_spellsWord_21 rfl ?_
      refine g_iadd F dX10_spellsWord_22 ?_
      obtain ⟨r_2, hg_2, hf⟩ := gb1_el hf
      refine g_callV (C := RX10) (T := TX10) (N := 27) (Lr := [sArrI E aspelled 12 spelled]) (As := [.int x1, .int (2 + x2)]) (rest := [.ref (aM 0)]) F 0 0 2 (ctX10_ofWord l E aM anow aaside anames anamesAside atext aspelled acost afewestFrom afirst afresh aways aundo aslots aisSaved x1 (2 + x2) M_thrown M_length M_textSize M_start M_next M_token M_value M_error M_errorAt M_number M_many M_freshMany M_undos now r_2 hg_2) gX10_spellsWord_X10_ofWord rfl rfl rfl h0X10_ofWord ⟨Nat.le_of_ble_eq_true rfl, Nat.le_of_ble_eq_true rfl⟩ rfl rfl rfl [0, 1] [2] rfl rfl rfl rfl rfl rfl (Nat.le_of_ble_eq_true rfl) dX10_spellsWord_23 ⟨Nat.le_of_ble_eq_true rfl, Nat.le_of_ble_eq_true rfl⟩ ?_
      rintro v w ⟨rfl, rfl⟩
      refine g_norm (Lw' := [sModel E aM anow aaside anames anamesAside atext aspelled acost afewestFrom afirst afresh aways aundo aslots aisSaved M_thrown M_length M_textSize M_start M_next M_token M_value M_error M_errorAt M_number M_many M_freshMany M_undos, sArrI E anow 365 now, sArrI E aspelled 12 spelled]) (st' := [.int r_2, .ref (aM 0)]) (pc' := 26) [0, 1, 2] rfl rfl rfl rfl ?_
      refine g_iconst F 0 dX10_spellsWord_26 rfl ?_
      obtain ⟨r_3, hg_3, hf⟩ := gb1_el hf
      refine g_callV (C := RX10) (T := TX10) (N := 27) (Lr := [sArrI E aspelled 12 spelled]) (As := [.int r_2, .int 0]) (rest := []) F 0 0 2 (ctX10_ofPiece l E aM anow aaside anames anamesAside atext aspelled acost afewestFrom afirst afresh aways aundo aslots aisSaved r_2 0 M_thrown M_length M_textSize M_start M_next M_token M_value M_error M_errorAt M_number M_many M_freshMany M_undos now r_3 hg_3) gX10_spellsWord_X10_ofPiece rfl rfl rfl h0X10_ofPiece ⟨Nat.le_of_ble_eq_true rfl, Nat.le_of_ble_eq_true rfl⟩ rfl rfl rfl [0, 1] [2] rfl rfl rfl rfl rfl rfl (Nat.le_of_ble_eq_true rfl) dX10_spellsWord_27 ⟨Nat.le_of_ble_eq_true rfl, Nat.le_of_ble_eq_true rfl⟩ ?_
      rintro v w ⟨rfl, rfl⟩
      refine g_norm (Lw' := [sModel E aM anow aaside anames anamesAside atext aspelled acost afewestFrom afirst afresh aways aundo aslots aisSaved M_thrown M_length M_textSize M_start M_next M_token M_value M_error M_errorAt M_number M_many M_freshMany M_undos, sArrI E anow 365 now, sArrI E aspelled 12 spelled]) (st' := [.int r_3]) (pc' := 30) [0, 1, 2] rfl rfl rfl rfl ?_
      refine g_istore_n (lv' := [some (.ref (aM 0)), some (.int x1), some (.int x2), some (.int r_3), none, none]) F dX10_spellsWord_30 (Nat.le_of_ble_eq_true rfl) rfl rfl ?_
      refine g_iload_n F dX10_spellsWord_31 rfl ?_
      obtain ⟨r_4, hg_4, hf⟩ := gb1_el hf
      refine g_callS (Lr := [sModel E aM anow aaside anames anamesAside atext aspelled acost afewestFrom afirst afresh aways aundo aslots aisSaved M_thrown M_length M_textSize M_start M_next M_token M_value M_error M_errorAt M_number M_many M_freshMany M_undos, sArrI E anow 365 now, sArrI E aspelled 12 spelled]) (As := [.int r_3]) (rest := []) F 1 (ctX10_lettersOf l E r_3 r_4 hg_4) (va_cwS 1 F.2.2.2.2.2.1 gX10_spellsWord_X10_lettersOf rfl rfl rfl h0X10_lettersOf ⟨Nat.le_of_ble_eq_true rfl, Nat.le_of_ble_eq_true rfl⟩) [] [0, 1, 2] rfl rfl rfl rfl rfl rfl (Nat.le_of_ble_eq_true rfl) dX10_spellsWord_32 ⟨Nat.le_of_ble_eq_true rfl, Nat.le_of_ble_eq_true rfl⟩ ?_
      rintro v w ⟨rfl, rfl⟩
      refine g_norm (Lw' := [sModel E aM anow aaside anames anamesAside atext aspelled acost afewestFrom afirst afresh aways aundo aslots aisSaved M_thrown M_length M_textSize M_start M_next M_token M_value M_error M_errorAt M_number M_many M_freshMany M_undos, sArrI E anow 365 now, sArrI E aspelled 12 spelled]) (st' := [.int r_4]) (pc' := 35) [0, 1, 2] rfl rfl rfl rfl ?_
      refine g_istore (lv' := [some (.ref (aM 0)), some (.int x1), some (.int x2), some (.int r_3), some (.int r_4), none]) F dX10_spellsWord_35 (Nat.le_of_ble_eq_true rfl) rfl rfl ?_
      refine g_iload F dX10_spellsWord_37 rfl ?_
      refine g_iconst F 1 dX10_spellsWord_39 rfl ?_
      refine g_isub F dX10_spellsWord_40 ?_
      refine g_istore (lv' := [some (.ref (aM 0)), some (.int x1), some (.int x2), some (.int r_3), some (.int r_4), some (.int (r_4 - 1))]) F dX10_spellsWord_41 (Nat.le_of_ble_eq_true rfl) rfl rfl ?_
      refine g_mask [true, true, true, true, false, true] rfl ?_
      refine ktX10_spellsWord_L43 F aM anow aaside anames anamesAside atext aspelled acost afewestFrom afirst afresh aways aundo aslots aisSaved x1 x2 r_3 M_thrown M_length M_textSize M_start M_next M_token M_value M_error M_errorAt M_number M_freshMany M_undos now M_many' spelled' (fun M_many_1 spelled_1 hf => ?_) FU (r_4 - 1) M_many spelled hf
      refine g_iinc (lv' := [some (.ref (aM 0)), some (.int x1), some (.int (x2 + 1)), none, none, none]) F (x2 + 1) dX10_spellsWord_82 rfl rfl rfl rfl ?_
      refine g_goto F 7 dX10_spellsWord_85 (by decide) ?_
      exact ih (x2 + 1) M_many_1 spelled_1 hf
set_option maxHeartbeats 4000000 in
set_option maxRecDepth 100000 in
theorem ctX10_spellsWord (l : Launch) (E : gE) (aM anow aaside anames anamesAside atext aspelled acost afewestFrom afirst afresh aways aundo aslots aisSaved : Nat → Nat) (x1 : Int32) (M_thrown : Int32) (M_length : Int32) (M_textSize : Int32) (M_start : Int32) (M_next : Int32) (M_token : Int32) (M_value : Int32) (M_error : Int32) (M_errorAt : Int32) (M_number : Int32) (M_many : Int32) (M_freshMany : Int32) (M_undos : Int32) (now : (Nat → Int32)) (spelled : (Nat → Int32)) (M_many' : Int32) (spelled' : (Nat → Int32)) (hf : fX10_spellsWord x1 M_many now spelled = some (M_many', spelled')) : gMet l yX10_spellsWord wsX10_spellsWord rmX10_spellsWord vwCl E [.ref (aM 0), .int x1] [sModel E aM anow aaside anames anamesAside atext aspelled acost afewestFrom afirst afresh aways aundo aslots aisSaved M_thrown M_length M_textSize M_start M_next M_token M_value M_error M_errorAt M_number M_many M_freshMany M_undos, sArrI E anow 365 now, sArrI E aspelled 12 spelled] (fun v w => v = none ∧ w = [sModel E aM anow aaside anames anamesAside atext aspelled acost afewestFrom afirst afresh aways aundo aslots aisSaved M_thrown M_length M_textSize M_start M_next M_token M_value M_error M_errorAt M_number M_many' M_freshMany M_undos, sArrI E anow 365 now, sArrI E aspelled 12 spelled']) 0 0 := by
  refine g_entry [some (.ref (aM 0)), some (.int x1), none, none, none, none] (by decide) rfl (Nat.le_of_ble_eq_true rfl) rfl ?_
  intro p e s m below meth c A F hnm
  unfold fX10_spellsWord at hf
  refine g_aload_n F dX10_spellsWord_0 rfl ?_
  refine g_iconst F 0 dX10_spellsWord_1 rfl ?_
  refine g_put (C := RX10) (T := TX10) (N := 27) (tys := tyX10) (Lw' := [sModel E aM anow aaside anames anamesAside atext aspelled acost afewestFrom afirst afresh aways aundo aslots aisSaved M_thrown M_length M_textSize M_start M_next M_token M_value M_error M_errorAt M_number 0 M_freshMany M_undos, sArrI E anow 365 now, sArrI E aspelled 12 spelled]) F 0 0 16 rfl rfl rfl iX10_spellsWord_X10 tyX10_ok nmX10 (by decide) (by decide +kernel) rfl rfl rfl rfl (Nat.le_of_ble_eq_true rfl) dX10_spellsWord_2 rfl ?_
  refine g_iconst F 0 dX10_spellsWord_5 rfl ?_
  refine g_istore_n (lv' := [some (.ref (aM 0)), some (.int x1), some (.int 0), none, none, none]) F dX10_spellsWord_6 (Nat.le_of_ble_eq_true rfl) rfl rfl ?_
  refine ktX10_spellsWord_L7 F aM anow aaside anames anamesAside atext aspelled acost afewestFrom afirst afresh aways aundo aslots aisSaved x1 now M_thrown M_length M_textSize M_start M_next M_token M_value M_error M_errorAt M_number M_freshMany M_undos M_many' spelled' (fun M_many_1 spelled_1 hf => ?_) FU 0 0 spelled hf
  cases hf
  exact g_vret F rfl ⟨rfl, rfl⟩ dX10_spellsWord_88
set_option maxHeartbeats 4000000 in
set_option maxRecDepth 100000 in
theorem ctX10_fewestOf (l : Launch) (E : gE) (aM anow aaside anames anamesAside atext aspelled acost afewestFrom afirst afresh aways aundo aslots aisSaved : Nat → Nat) (x1 : Int32) (x2 : Int32) (M_thrown : Int32) (M_length : Int32) (M_textSize : Int32) (M_start : Int32) (M_next : Int32) (M_token : Int32) (M_value : Int32) (M_error : Int32) (M_errorAt : Int32) (M_number : Int32) (M_many : Int32) (M_freshMany : Int32) (M_undos : Int32) (now : (Nat → Int32)) (spelled : (Nat → Int32)) (cost : (Nat → Int32)) (fewestFrom : (Nat → Int32)) (first : (Nat → Int32)) (r : Int32) (M_many' : Int32) (spelled' : (Nat → Int32)) (cost' : (Nat → Int32)) (fewestFrom' : (Nat → Int32)) (first' : (Nat → Int32)) (hf : fX10_fewestOf x1 x2 M_many now spelled cost fewestFrom first = some (r, M_many', spelled', cost', fewestFrom', first')) : gMet l yX10_fewestOf wsX10_fewestOf rmX10_fewestOf vwCl E [.ref (aM 0), .int x1, .int x2] [sModel E aM anow aaside anames anamesAside atext aspelled acost afewestFrom afirst afresh aways aundo aslots aisSaved M_thrown M_length M_textSize M_start M_next M_token M_value M_error M_errorAt M_number M_many M_freshMany M_undos, sArrI E anow 365 now, sArrI E aspelled 12 spelled, sArrI E acost 13 cost, sArrI E afewestFrom 13 fewestFrom, sArrI E afirst 13 first] (fun v w => v = some (.int r) ∧ w = [sModel E aM anow aaside anames anamesAside atext aspelled acost afewestFrom afirst afresh aways aundo aslots aisSaved M_thrown M_length M_textSize M_start M_next M_token M_value M_error M_errorAt M_number M_many' M_freshMany M_undos, sArrI E anow 365 now, sArrI E aspelled 12 spelled', sArrI E acost 13 cost', sArrI E afewestFrom 13 fewestFrom', sArrI E afirst 13 first']) 0 0 := by
  refine g_entry [some (.ref (aM 0)), some (.int x1), some (.int x2)] (by decide) rfl (Nat.le_of_ble_eq_true rfl) rfl ?_
  intro p e s m below meth c A F hnm
  unfold fX10_fewestOf at hf
  refine g_aload_n F dX10_fewestOf_0 rfl ?_
  refine g_iload_n F dX10_fewestOf_1 rfl ?_
  obtain ⟨M_many_1, spelled_1, hg_1, hf⟩ := gb2_el hf
  refine g_callV (C := RX10) (T := TX10) (N := 27) (Lr := [sArrI E acost 13 cost, sArrI E afewestFrom 13 fewestFrom, sArrI E afirst 13 first]) (As := [.int x1]) (rest := []) F 0 0 1 (ctX10_spellsWord l E aM anow aaside anames anamesAside atext aspelled acost afewestFrom afirst afresh aways aundo aslots aisSaved x1 M_thrown M_length M_textSize M_start M_next M_token M_value M_error M_errorAt M_number M_many M_freshMany M_undos now spelled M_many_1 spelled_1 hg_1) gX10_fewestOf_X10_spellsWord rfl rfl rfl h0X10_spellsWord ⟨Nat.le_of_ble_eq_true rfl, Nat.le_of_ble_eq_true rfl⟩ rfl rfl rfl [0, 1, 2] [3, 4, 5] rfl rfl rfl rfl rfl rfl (Nat.le_of_ble_eq_true rfl) dX10_fewestOf_2 ⟨Nat.le_of_ble_eq_true rfl, Nat.le_of_ble_eq_true rfl⟩ ?_
  rintro v w ⟨rfl, rfl⟩
  refine g_norm (Lw' := [sModel E aM anow aaside anames anamesAside atext aspelled acost afewestFrom afirst afresh aways aundo aslots aisSaved M_thrown M_length M_textSize M_start M_next M_token M_value M_error M_errorAt M_number M_many_1 M_freshMany M_undos, sArrI E anow 365 now, sArrI E aspelled 12 spelled_1, sArrI E acost 13 cost, sArrI E afewestFrom 13 fewestFrom, sArrI E afirst 13 first]) (st' := []) (pc' := 5) [0, 1, 2, 3, 4, 5] rfl rfl rfl rfl ?_
  refine g_aload_n F dX10_fewestOf_5 rfl ?_
  refine g_iconst F 0 dX10_fewestOf_6 rfl ?_
  refine g_iload_n F dX10_fewestOf_7 rfl ?_
  obtain ⟨cost_1, fewestFrom_1, first_1, hg_2, hf⟩ := gb3_el hf
  refine g_callV (C := RX10) (T := TX10) (N := 27) (Lr := []) (As := [.int 0, .int x2]) (rest := []) F 0 0 2 (ctX10_cuts l E aM anow aaside anames anamesAside atext aspelled acost afewestFrom afirst afresh aways aundo aslots aisSaved 0 x2 M_thrown M_length M_textSize M_start M_next M_token M_value M_error M_errorAt M_number M_many_1 M_freshMany M_undos now spelled_1 cost fewestFrom first cost_1 fewestFrom_1 first_1 hg_2) gX10_fewestOf_X10_cuts rfl rfl rfl h0X10_cuts ⟨Nat.le_of_ble_eq_true rfl, Nat.le_of_ble_eq_true rfl⟩ rfl rfl rfl [0, 1, 2, 3, 4, 5] [] rfl rfl rfl rfl rfl rfl (Nat.le_of_ble_eq_true rfl) dX10_fewestOf_8 ⟨Nat.le_of_ble_eq_true rfl, Nat.le_of_ble_eq_true rfl⟩ ?_
  rintro v w ⟨rfl, rfl⟩
  refine g_norm (Lw' := [sModel E aM anow aaside anames anamesAside atext aspelled acost afewestFrom afirst afresh aways aundo aslots aisSaved M_thrown M_length M_textSize M_start M_next M_token M_value M_error M_errorAt M_number M_many_1 M_freshMany M_undos, sArrI E anow 365 now, sArrI E aspelled 12 spelled_1, sArrI E acost 13 cost_1, sArrI E afewestFrom 13 fewestFrom_1, sArrI E afirst 13 first_1]) (st' := []) (pc' := 11) [0, 1, 2, 3, 4, 5] rfl rfl rfl rfl ?_
  refine g_aload_n F dX10_fewestOf_11 rfl ?_
  refine g_get (C := RX10) (T := TX10) (N := 27) F 0 0 18 rfl rfl rfl iX10_fewestOf_X10 (by decide) (by decide +kernel) rfl dX10_fewestOf_12 ?_
  refine g_iconst F 0 dX10_fewestOf_15 rfl ?_
  refine g_iald F 4 0 0 (by decide) rfl rfl (by decide) dX10_fewestOf_16 ?_
  cases hf
  exact g_iret F rfl ⟨rfl, rfl⟩ dX10_fewestOf_17
set_option maxHeartbeats 4000000 in
set_option maxRecDepth 100000 in
theorem ktX10_recuts_L22 {p : Program} {l : Launch} {e : Env} {s : State} {m : MethodId} {args : Array Value} {below : List Frame} {meth : Method} {c : Code} {E : gE} {A : Nat → Prop} (F : gFx p s m args meth c RX10 wsX10_recuts cX10_recuts 5 (some .int) vwCl E A) (aM anow aaside anames anamesAside atext aspelled acost afewestFrom afirst afresh aways aundo aslots aisSaved : Nat → Nat) (x2 : Int32) (M_many : Int32) (spelled : (Nat → Int32)) (first : (Nat → Int32)) (M_thrown : Int32) (M_length : Int32) (M_textSize : Int32) (M_start : Int32) (M_next : Int32) (M_token : Int32) (M_value : Int32) (M_error : Int32) (M_errorAt : Int32) (M_number : Int32) (M_freshMany : Int32) (M_undos : Int32) (cost : (Nat → Int32)) (fewestFrom : (Nat → Int32)) (r : Int32) (M_many' : Int32) (now' : (Nat → Int32)) (spelled' : (Nat → Int32)) (cost' : (Nat → Int32)) (fewestFrom' : (Nat → Int32)) (first' : (Nat → Int32)) {k : (Nat → Int32) → Option (Int32 × Int32 × (Nat → Int32) × (Nat → Int32) × (Nat → Int32) × (Nat → Int32) × (Nat → Int32))} (hk : ∀ (now : (Nat → Int32)), k now = some (r, M_many', now', spelled', cost', fewestFrom', first') → Gj p l e rmX10_recuts s m args below meth c 0 0 (MQ below (gQ vwCl E A (fun v w => v = some (.int r) ∧ w = [sModel E aM anow aaside anames anamesAside atext aspelled acost afewestFrom afirst afresh aways aundo aslots aisSaved M_thrown M_length M_textSize M_start M_next M_token M_value M_error M_errorAt M_number M_many' M_freshMany M_undos, sArrI E anow 365 now', sArrI E aspelled 12 spelled', sArrI E acost 13 cost', sArrI E afewestFrom 13 fewestFrom', sArrI E afirst 13 first'])) args s 0 0 A) vwCl E A [sModel E aM anow aaside anames anamesAside atext aspelled acost afewestFrom afirst afresh aways aundo aslots aisSaved M_thrown M_length M_textSize M_start M_next M_token M_value M_error M_errorAt M_number M_many M_freshMany M_undos, sArrI E anow 365 now, sArrI E aspelled 12 spelled, sArrI E acost 13 cost, sArrI E afewestFrom 13 fewestFrom, sArrI E afirst 13 first] [some (.ref (aM 0)), none, some (.int x2), none, none] [] 62) : ∀ (n : Nat) (x3 : Int32) (now : (Nat → Int32)), fX10_recuts_L22 x2 M_many spelled first k n x3 now = some (r, M_many', now', spelled', cost', fewestFrom', first') → Gj p l e rmX10_recuts s m args below meth c 0 0 (MQ below (gQ vwCl E A (fun v w => v = some (.int r) ∧ w = [sModel E aM anow aaside anames anamesAside atext aspelled acost afewestFrom afirst afresh aways aundo aslots aisSaved M_thrown M_length M_textSize M_start M_next M_token M_value M_error M_errorAt M_number M_many' M_freshMany M_undos, sArrI E anow 365 now', sArrI E aspelled 12 spelled', sArrI E acost 13 cost', sArrI E afewestFrom 13 fewestFrom', sArrI E afirst 13 first'])) args s 0 0 A) vwCl E A [sModel E aM anow aaside anames anamesAside atext aspelled acost afewestFrom afirst afresh aways aundo aslots aisSaved M_thrown M_length M_textSize M_start M_next M_token M_value M_error M_errorAt M_number M_many M_freshMany M_undos, sArrI E anow 365 now, sArrI E aspelled 12 spelled, sArrI E acost 13 cost, sArrI E afewestFrom 13 fewestFrom, sArrI E afirst 13 first] [some (.ref (aM 0)), none, some (.int x2), some (.int x3), none] [] 22
  | 0, _, _, hf => by cases hf
  | n + 1, x3, now, hf => by
    have ih := ktX10_recuts_L22 F aM anow aaside anames anamesAside atext aspelled acost afewestFrom afirst afresh aways aundo aslots aisSaved x2 M_many spelled first M_thrown M_length M_textSize M_start M_next M_token M_value M_error M_errorAt M_number M_freshMany M_undos cost fewestFrom r M_many' now' spelled' cost' fewestFrom' first' hk n
    rw [fX10_recuts_L22] at hf
    refine g_iload_n F dX10_recuts_22 rfl ?_
    refine g_aload_n F dX10_recuts_23 rfl ?_
    refine g_get (C := RX10) (T := TX10) (N := 27) F 0 0 16 rfl rfl rfl iX10_recuts_X10 (by decide) (by decide +kernel) rfl dX10_recuts_24 ?_
    refine g_icmp_ge F 62 dX10_recuts_27 (by decide) (fun hc_1 => ?_) (fun hc_1 => ?_)
    · replace hf := gi_t hc_1 hf
      refine g_mask [true, true, true, false, true] rfl ?_
      exact hk now hf
    · replace hf := gi_f hc_1 hf
      refine g_aload_n F dX10_recuts_30 rfl ?_
      refine g_aload_n F dX10_recuts_31 rfl ?_
      refine g_aload_n F dX10_recuts_32 rfl ?_
      refine g_iload_n F dX10_recuts_33 rfl ?_
      refine g_aload_n F dX10_recuts_34 rfl ?_
      refine g_get (C := RX10) (T := TX10) (N := 27) F 0 0 19 rfl rfl rfl iX10_recuts_X10 (by decide) (by decide +kernel) rfl dX10_recuts_35 ?_
      refine g_iload_n F dX10_recuts_38 rfl ?_
      obtain ⟨hb_1, hf⟩ := gb_in hf
      refine g_iald F 5 0 (x3.toNatClampNeg) rfl rfl rfl hb_1 dX10_recuts_39 ?_
      obtain ⟨r_1, hg_1, hf⟩ := gb1_el hf
      refine g_callV (C := RX10) (T := TX10) (N := 27) (Lr := [sArrI E anow 365 now, sArrI E acost 13 cost, sArrI E afewestFrom 13 fewestFrom, sArrI E afirst 13 first]) (As := [.int x3, .int (first (x3.toNatClampNeg))]) (rest := [.ref (aM 0), .ref (aM 0)]) F 0 0 2 (ctX10_code l E aM anow aaside anames anamesAside atext aspelled acost afewestFrom afirst afresh aways aundo aslots aisSaved x3 (first (x3.toNatClampNeg)) M_thrown M_length M_textSize M_start M_next M_token M_value M_error M_errorAt M_number M_many M_freshMany M_undos spelled r_1 hg_1) gX10_recuts_X10_code rfl rfl rfl h0X10_code ⟨Nat.le_of_ble_eq_true rfl, Nat.le_of_ble_eq_true rfl⟩ rfl rfl rfl [0, 2] [1, 3, 4, 5] rfl rfl rfl rfl rfl rfl (Nat.le_of_ble_eq_true rfl) dX10_recuts_40 ⟨Nat.le_of_ble_eq_true rfl, Nat.le_of_ble_eq_true rfl⟩ ?_
      rintro v w ⟨rfl, rfl⟩
      refine g_norm (Lw' := [sModel E aM anow aaside anames anamesAside atext aspelled acost afewestFrom afirst afresh aways aundo aslots aisSaved M_thrown M_length M_textSize M_start M_next M_token M_value M_error M_errorAt M_number M_many M_freshMany M_undos, sArrI E anow 365 now, sArrI E aspelled 12 spelled, sArrI E acost 13 cost, sArrI E afewestFrom 13 fewestFrom, sArrI E afirst 13 first]) (st' := [.int r_1, .ref (aM 0), .ref (aM 0)]) (pc' := 43) [0, 2, 1, 3, 4, 5] rfl rfl rfl rfl ?_
      obtain ⟨r_2, hg_2, hf⟩ := gb1_el hf
      refine g_callV (C := RX10) (T := TX10) (N := 27) (Lr := [sArrI E aspelled 12 spelled, sArrI E acost 13 cost, sArrI E afewestFrom 13 fewestFrom, sArrI E afirst 13 first]) (As := [.int r_1]) (rest := [.ref (aM 0)]) F 0 0 1 (ctX10_pieceOf l E aM anow aaside anames anamesAside atext aspelled acost afewestFrom afirst afresh aways aundo aslots aisSaved r_1 M_thrown M_length M_textSize M_start M_next M_token M_value M_error M_errorAt M_number M_many M_freshMany M_undos now r_2 hg_2) gX10_recuts_X10_pieceOf rfl rfl rfl h0X10_pieceOf ⟨Nat.le_of_ble_eq_true rfl, Nat.le_of_ble_eq_true rfl⟩ rfl rfl rfl [0, 1] [2, 3, 4, 5] rfl rfl rfl rfl rfl rfl (Nat.le_of_ble_eq_true rfl) dX10_recuts_43 ⟨Nat.le_of_ble_eq_true rfl, Nat.le_of_ble_eq_true rfl⟩ ?_
      rintro v w ⟨rfl, rfl⟩
      refine g_norm (Lw' := [sModel E aM anow aaside anames anamesAside atext aspelled acost afewestFrom afirst afresh aways aundo aslots aisSaved M_thrown M_length M_textSize M_start M_next M_token M_value M_error M_errorAt M_number M_many M_freshMany M_undos, sArrI E anow 365 now, sArrI E aspelled 12 spelled, sArrI E acost 13 cost, sArrI E afewestFrom 13 fewestFrom, sArrI E afirst 13 first]) (st' := [.int r_2, .ref (aM 0)]) (pc' := 46) [0, 1, 2, 3, 4, 5] rfl rfl rfl rfl ?_
      refine g_iconst F 1 dX10_recuts_46 rfl ?_
      obtain ⟨now_1, hg_3, hf⟩ := gb1_el hf
      refine g_callV (C := RX10) (T := TX10) (N := 27) (Lr := [sArrI E aspelled 12 spelled, sArrI E acost 13 cost, sArrI E afewestFrom 13 fewestFrom, sArrI E afirst 13 first]) (As := [.int r_2, .int 1]) (rest := []) F 0 0 2 (ctX10_uses l E aM anow aaside anames anamesAside atext aspelled acost afewestFrom afirst afresh aways aundo aslots aisSaved r_2 1 M_thrown M_length M_textSize M_start M_next M_token M_value M_error M_errorAt M_number M_many M_freshMany M_undos now now_1 hg_3) gX10_recuts_X10_uses rfl rfl rfl h0X10_uses ⟨Nat.le_of_ble_eq_true rfl, Nat.le_of_ble_eq_true rfl⟩ rfl rfl rfl [0, 1] [2, 3, 4, 5] rfl rfl rfl rfl rfl rfl (Nat.le_of_ble_eq_true rfl) dX10_recuts_47 ⟨Nat.le_of_ble_eq_true rfl, Nat.le_of_ble_eq_true rfl⟩ ?_
      rintro v w ⟨rfl, rfl⟩
      refine g_norm (Lw' := [sModel E aM anow aaside anames anamesAside atext aspelled acost afewestFrom afirst afresh aways aundo aslots aisSaved M_thrown M_length M_textSize M_start M_next M_token M_value M_error M_errorAt M_number M_many M_freshMany M_undos, sArrI E anow 365 now_1, sArrI E aspelled 12 spelled, sArrI E acost 13 cost, sArrI E afewestFrom 13 fewestFrom, sArrI E afirst 13 first]) (st' := []) (pc' := 50) [0, 1, 2, 3, 4, 5] rfl rfl rfl rfl ?_
      refine g_iload_n F dX10_recuts_50 rfl ?_
      refine g_aload_n F dX10_recuts_51 rfl ?_
      refine g_get (C := RX10) (T := TX10) (N := 27) F 0 0 19 rfl rfl rfl iX10_recuts_X10 (by decide) (by decide +kernel) rfl dX10_recuts_52 ?_
      refine g_iload_n F dX10_recuts_55 rfl ?_
      obtain ⟨hb_2, hf⟩ := gb_in hf
      refine g_iald F 5 0 (x3.toNatClampNeg) rfl rfl rfl hb_2 dX10_recuts_56 ?_
      refine g_iadd F dX10_recuts_57 ?_
      refine g_istore_n (lv' := [some (.ref (aM 0)), none, some (.int x2), some (.int (x3 + (first (x3.toNatClampNeg)))), none]) F dX10_recuts_58 (Nat.le_of_ble_eq_true rfl) rfl rfl ?_
      refine g_goto F 22 dX10_recuts_59 (by decide) ?_
      exact ih (x3 + (first (x3.toNatClampNeg))) now_1 hf
set_option maxHeartbeats 4000000 in
set_option maxRecDepth 100000 in
theorem ktX10_recuts_L74 {p : Program} {l : Launch} {e : Env} {s : State} {m : MethodId} {args : Array Value} {below : List Frame} {meth : Method} {c : Code} {E : gE} {A : Nat → Prop} (F : gFx p s m args meth c RX10 wsX10_recuts cX10_recuts 5 (some .int) vwCl E A) (aM anow aaside anames anamesAside atext aspelled acost afewestFrom afirst afresh aways aundo aslots aisSaved : Nat → Nat) (x2 : Int32) (x3 : Int32) (M_thrown : Int32) (M_length : Int32) (M_textSize : Int32) (M_start : Int32) (M_next : Int32) (M_token : Int32) (M_value : Int32) (M_error : Int32) (M_errorAt : Int32) (M_number : Int32) (M_many : Int32) (M_freshMany : Int32) (M_undos : Int32) (spelled : (Nat → Int32)) (cost : (Nat → Int32)) (fewestFrom : (Nat → Int32)) (first : (Nat → Int32)) (r : Int32) (M_many' : Int32) (now' : (Nat → Int32)) (spelled' : (Nat → Int32)) (cost' : (Nat → Int32)) (fewestFrom' : (Nat → Int32)) (first' : (Nat → Int32)) {k : (Nat → Int32) → Option (Int32 × Int32 × (Nat → Int32) × (Nat → Int32) × (Nat → Int32) × (Nat → Int32) × (Nat → Int32))} (hk : ∀ (now : (Nat → Int32)), k now = some (r, M_many', now', spelled', cost', fewestFrom', first') → Gj p l e rmX10_recuts s m args below meth c 0 0 (MQ below (gQ vwCl E A (fun v w => v = some (.int r) ∧ w = [sModel E aM anow aaside anames anamesAside atext aspelled acost afewestFrom afirst afresh aways aundo aslots aisSaved M_thrown M_length M_textSize M_start M_next M_token M_value M_error M_errorAt M_number M_many' M_freshMany M_undos, sArrI E anow 365 now', sArrI E aspelled 12 spelled', sArrI E acost 13 cost', sArrI E afewestFrom 13 fewestFrom', sArrI E afirst 13 first'])) args s 0 0 A) vwCl E A [sModel E aM anow aaside anames anamesAside atext aspelled acost afewestFrom afirst afresh aways aundo aslots aisSaved M_thrown M_length M_textSize M_start M_next M_token M_value M_error M_errorAt M_number M_many M_freshMany M_undos, sArrI E anow 365 now, sArrI E aspelled 12 spelled, sArrI E acost 13 cost, sArrI E afewestFrom 13 fewestFrom, sArrI E afirst 13 first] [some (.ref (aM 0)), none, some (.int x2), some (.int x3), none] [] 102) : ∀ (n : Nat) (x4 : Int32) (now : (Nat → Int32)), fX10_recuts_L74 x2 x3 k n x4 now = some (r, M_many', now', spelled', cost', fewestFrom', first') → Gj p l e rmX10_recuts s m args below meth c 0 0 (MQ below (gQ vwCl E A (fun v w => v = some (.int r) ∧ w = [sModel E aM anow aaside anames anamesAside atext aspelled acost afewestFrom afirst afresh aways aundo aslots aisSaved M_thrown M_length M_textSize M_start M_next M_token M_value M_error M_errorAt M_number M_many' M_freshMany M_undos, sArrI E anow 365 now', sArrI E aspelled 12 spelled', sArrI E acost 13 cost', sArrI E afewestFrom 13 fewestFrom', sArrI E afirst 13 first'])) args s 0 0 A) vwCl E A [sModel E aM anow aaside anames anamesAside atext aspelled acost afewestFrom afirst afresh aways aundo aslots aisSaved M_thrown M_length M_textSize M_start M_next M_token M_value M_error M_errorAt M_number M_many M_freshMany M_undos, sArrI E anow 365 now, sArrI E aspelled 12 spelled, sArrI E acost 13 cost, sArrI E afewestFrom 13 fewestFrom, sArrI E afirst 13 first] [some (.ref (aM 0)), none, some (.int x2), some (.int x3), some (.int x4)] [] 74
  | 0, _, _, hf => by cases hf
  | n + 1, x4, now, hf => by
    have ih := ktX10_recuts_L74 F aM anow aaside anames anamesAside atext aspelled acost afewestFrom afirst afresh aways aundo aslots aisSaved x2 x3 M_thrown M_length M_textSize M_start M_next M_token M_value M_error M_errorAt M_number M_many M_freshMany M_undos spelled cost fewestFrom first r M_many' now' spelled' cost' fewestFrom' first' hk n
    rw [fX10_recuts_L74] at hf
    refine g_iload F dX10_recuts_74 rfl ?_
    refine g_iload_n F dX10_recuts_76 rfl ?_
    refine g_icmp_ge F 102 dX10_recuts_77 (by decide) (fun hc_1 => ?_) (fun hc_1 => ?_)
    · replace hf := gi_t hc_1 hf
      refine g_mask [true, true, true, true, false] rfl ?_
      exact hk now hf
    · replace hf := gi_f hc_1 hf
      refine g_aload_n F dX10_recuts_80 rfl ?_
      refine g_aload_n F dX10_recuts_81 rfl ?_
      refine g_get (C := RX10) (T := TX10) (N := 27) F 0 0 1 rfl rfl rfl iX10_recuts_X10 (by decide) (by decide +kernel) rfl dX10_recuts_82 ?_
      refine g_iload_n F dX10_recuts_85 rfl ?_
      refine g_iconst F 2 dX10_recuts_86 rfl ?_
      refine g_iadd F dX10_recuts_87 ?_
      refine g_iload F dX10_recuts_88 rfl ?_
      refine g_iadd F dX10_recuts_90 ?_
      obtain ⟨hb_1, hf⟩ := gb_in hf
      refine g_iald F 1 0 (((x2 + 2) + x4).toNatClampNeg) rfl rfl rfl hb_1 dX10_recuts_91 ?_
      refine g_iconst F (-1) dX10_recuts_92 rfl ?_
      obtain ⟨now_1, hg_1, hf⟩ := gb1_el hf
      refine g_callV (C := RX10) (T := TX10) (N := 27) (Lr := [sArrI E aspelled 12 spelled, sArrI E acost 13 cost, sArrI E afewestFrom 13 fewestFrom, sArrI E afirst 13 first]) (As := [.int (now (((x2 + 2) + x4).toNatClampNeg)), .int (-1)]) (rest := []) F 0 0 2 (ctX10_uses l E aM anow aaside anames anamesAside atext aspelled acost afewestFrom afirst afresh aways aundo aslots aisSaved (now (((x2 + 2) + x4).toNatClampNeg)) (-1) M_thrown M_length M_textSize M_start M_next M_token M_value M_error M_errorAt M_number M_many M_freshMany M_undos now now_1 hg_1) gX10_recuts_X10_uses rfl rfl rfl h0X10_uses ⟨Nat.le_of_ble_eq_true rfl, Nat.le_of_ble_eq_true rfl⟩ rfl rfl rfl [0, 1] [2, 3, 4, 5] rfl rfl rfl rfl rfl rfl (Nat.le_of_ble_eq_true rfl) dX10_recuts_93 ⟨Nat.le_of_ble_eq_true rfl, Nat.le_of_ble_eq_true rfl⟩ ?_
      rintro v w ⟨rfl, rfl⟩
      refine g_norm (Lw' := [sModel E aM anow aaside anames anamesAside atext aspelled acost afewestFrom afirst afresh aways aundo aslots aisSaved M_thrown M_length M_textSize M_start M_next M_token M_value M_error M_errorAt M_number M_many M_freshMany M_undos, sArrI E anow 365 now_1, sArrI E aspelled 12 spelled, sArrI E acost 13 cost, sArrI E afewestFrom 13 fewestFrom, sArrI E afirst 13 first]) (st' := []) (pc' := 96) [0, 1, 2, 3, 4, 5] rfl rfl rfl rfl ?_
      refine g_iinc (lv' := [some (.ref (aM 0)), none, some (.int x2), some (.int x3), some (.int (x4 + 1))]) F (x4 + 1) dX10_recuts_96 rfl rfl rfl rfl ?_
      refine g_goto F 74 dX10_recuts_99 (by decide) ?_
      exact ih (x4 + 1) now_1 hf
set_option maxHeartbeats 4000000 in
set_option maxRecDepth 100000 in
theorem ctX10_recuts (l : Launch) (E : gE) (aM anow aaside anames anamesAside atext aspelled acost afewestFrom afirst afresh aways aundo aslots aisSaved : Nat → Nat) (x1 : Int32) (M_thrown : Int32) (M_length : Int32) (M_textSize : Int32) (M_start : Int32) (M_next : Int32) (M_token : Int32) (M_value : Int32) (M_error : Int32) (M_errorAt : Int32) (M_number : Int32) (M_many : Int32) (M_freshMany : Int32) (M_undos : Int32) (now : (Nat → Int32)) (spelled : (Nat → Int32)) (cost : (Nat → Int32)) (fewestFrom : (Nat → Int32)) (first : (Nat → Int32)) (r : Int32) (M_many' : Int32) (now' : (Nat → Int32)) (spelled' : (Nat → Int32)) (cost' : (Nat → Int32)) (fewestFrom' : (Nat → Int32)) (first' : (Nat → Int32)) (hf : fX10_recuts x1 M_many now spelled cost fewestFrom first = some (r, M_many', now', spelled', cost', fewestFrom', first')) : gMet l yX10_recuts wsX10_recuts rmX10_recuts vwCl E [.ref (aM 0), .int x1] [sModel E aM anow aaside anames anamesAside atext aspelled acost afewestFrom afirst afresh aways aundo aslots aisSaved M_thrown M_length M_textSize M_start M_next M_token M_value M_error M_errorAt M_number M_many M_freshMany M_undos, sArrI E anow 365 now, sArrI E aspelled 12 spelled, sArrI E acost 13 cost, sArrI E afewestFrom 13 fewestFrom, sArrI E afirst 13 first] (fun v w => v = some (.int r) ∧ w = [sModel E aM anow aaside anames anamesAside atext aspelled acost afewestFrom afirst afresh aways aundo aslots aisSaved M_thrown M_length M_textSize M_start M_next M_token M_value M_error M_errorAt M_number M_many' M_freshMany M_undos, sArrI E anow 365 now', sArrI E aspelled 12 spelled', sArrI E acost 13 cost', sArrI E afewestFrom 13 fewestFrom', sArrI E afirst 13 first']) 0 0 := by
  refine g_entry [some (.ref (aM 0)), some (.int x1), none, none, none] (by decide) rfl (Nat.le_of_ble_eq_true rfl) rfl ?_
  intro p e s m below meth c A F hnm
  unfold fX10_recuts at hf
  refine g_aload_n F dX10_recuts_0 rfl ?_
  refine g_iload_n F dX10_recuts_1 rfl ?_
  obtain ⟨M_many_1, spelled_1, hg_1, hf⟩ := gb2_el hf
  refine g_callV (C := RX10) (T := TX10) (N := 27) (Lr := [sArrI E acost 13 cost, sArrI E afewestFrom 13 fewestFrom, sArrI E afirst 13 first]) (As := [.int x1]) (rest := []) F 0 0 1 (ctX10_spellsWord l E aM anow aaside anames anamesAside atext aspelled acost afewestFrom afirst afresh aways aundo aslots aisSaved x1 M_thrown M_length M_textSize M_start M_next M_token M_value M_error M_errorAt M_number M_many M_freshMany M_undos now spelled M_many_1 spelled_1 hg_1) gX10_recuts_X10_spellsWord rfl rfl rfl h0X10_spellsWord ⟨Nat.le_of_ble_eq_true rfl, Nat.le_of_ble_eq_true rfl⟩ rfl rfl rfl [0, 1, 2] [3, 4, 5] rfl rfl rfl rfl rfl rfl (Nat.le_of_ble_eq_true rfl) dX10_recuts_2 ⟨Nat.le_of_ble_eq_true rfl, Nat.le_of_ble_eq_true rfl⟩ ?_
  rintro v w ⟨rfl, rfl⟩
  refine g_norm (Lw' := [sModel E aM anow aaside anames anamesAside atext aspelled acost afewestFrom afirst afresh aways aundo aslots aisSaved M_thrown M_length M_textSize M_start M_next M_token M_value M_error M_errorAt M_number M_many_1 M_freshMany M_undos, sArrI E anow 365 now, sArrI E aspelled 12 spelled_1, sArrI E acost 13 cost, sArrI E afewestFrom 13 fewestFrom, sArrI E afirst 13 first]) (st' := []) (pc' := 5) [0, 1, 2, 3, 4, 5] rfl rfl rfl rfl ?_
  refine g_aload_n F dX10_recuts_5 rfl ?_
  refine g_iconst F 0 dX10_recuts_6 rfl ?_
  refine g_iconst F 0 dX10_recuts_7 rfl ?_
  obtain ⟨cost_1, fewestFrom_1, first_1, hg_2, hf⟩ := gb3_el hf
  refine g_callV (C := RX10) (T := TX10) (N := 27) (Lr := []) (As := [.int 0, .int 0]) (rest := []) F 0 0 2 (ctX10_cuts l E aM anow aaside anames anamesAside atext aspelled acost afewestFrom afirst afresh aways aundo aslots aisSaved 0 0 M_thrown M_length M_textSize M_start M_next M_token M_value M_error M_errorAt M_number M_many_1 M_freshMany M_undos now spelled_1 cost fewestFrom first cost_1 fewestFrom_1 first_1 hg_2) gX10_recuts_X10_cuts rfl rfl rfl h0X10_cuts ⟨Nat.le_of_ble_eq_true rfl, Nat.le_of_ble_eq_true rfl⟩ rfl rfl rfl [0, 1, 2, 3, 4, 5] [] rfl rfl rfl rfl rfl rfl (Nat.le_of_ble_eq_true rfl) dX10_recuts_8 ⟨Nat.le_of_ble_eq_true rfl, Nat.le_of_ble_eq_true rfl⟩ ?_
  rintro v w ⟨rfl, rfl⟩
  refine g_norm (Lw' := [sModel E aM anow aaside anames anamesAside atext aspelled acost afewestFrom afirst afresh aways aundo aslots aisSaved M_thrown M_length M_textSize M_start M_next M_token M_value M_error M_errorAt M_number M_many_1 M_freshMany M_undos, sArrI E anow 365 now, sArrI E aspelled 12 spelled_1, sArrI E acost 13 cost_1, sArrI E afewestFrom 13 fewestFrom_1, sArrI E afirst 13 first_1]) (st' := []) (pc' := 11) [0, 1, 2, 3, 4, 5] rfl rfl rfl rfl ?_
  refine g_sipush F 141 dX10_recuts_11 rfl ?_
  refine g_bipush F 14 dX10_recuts_14 rfl ?_
  refine g_iload_n F dX10_recuts_16 rfl ?_
  refine g_imul F dX10_recuts_17 ?_
  refine g_iadd F dX10_recuts_18 ?_
  refine g_istore_n (lv' := [some (.ref (aM 0)), some (.int x1), some (.int (141 + (14 * x1))), none, none]) F dX10_recuts_19 (Nat.le_of_ble_eq_true rfl) rfl rfl ?_
  refine g_iconst F 0 dX10_recuts_20 rfl ?_
  refine g_istore_n (lv' := [some (.ref (aM 0)), some (.int x1), some (.int (141 + (14 * x1))), some (.int 0), none]) F dX10_recuts_21 (Nat.le_of_ble_eq_true rfl) rfl rfl ?_
  refine g_mask [true, false, true, true, true] rfl ?_
  refine ktX10_recuts_L22 F aM anow aaside anames anamesAside atext aspelled acost afewestFrom afirst afresh aways aundo aslots aisSaved (141 + (14 * x1)) M_many_1 spelled_1 first_1 M_thrown M_length M_textSize M_start M_next M_token M_value M_error M_errorAt M_number M_freshMany M_undos cost_1 fewestFrom_1 r M_many' now' spelled' cost' fewestFrom' first' (fun now_1 hf => ?_) FU 0 now hf
  refine g_aload_n F dX10_recuts_62 rfl ?_
  refine g_get (C := RX10) (T := TX10) (N := 27) F 0 0 1 rfl rfl rfl iX10_recuts_X10 (by decide) (by decide +kernel) rfl dX10_recuts_63 ?_
  refine g_iload_n F dX10_recuts_66 rfl ?_
  refine g_iconst F 1 dX10_recuts_67 rfl ?_
  refine g_iadd F dX10_recuts_68 ?_
  obtain ⟨hb_1, hf⟩ := gb_in hf
  refine g_iald F 1 0 (((141 + (14 * x1)) + 1).toNatClampNeg) rfl rfl rfl hb_1 dX10_recuts_69 ?_
  refine g_istore_n (lv' := [some (.ref (aM 0)), none, some (.int (141 + (14 * x1))), some (.int (now_1 (((141 + (14 * x1)) + 1).toNatClampNeg))), none]) F dX10_recuts_70 (Nat.le_of_ble_eq_true rfl) rfl rfl ?_
  refine g_iconst F 0 dX10_recuts_71 rfl ?_
  refine g_istore (lv' := [some (.ref (aM 0)), none, some (.int (141 + (14 * x1))), some (.int (now_1 (((141 + (14 * x1)) + 1).toNatClampNeg))), some (.int 0)]) F dX10_recuts_72 (Nat.le_of_ble_eq_true rfl) rfl rfl ?_
  refine ktX10_recuts_L74 F aM anow aaside anames anamesAside atext aspelled acost afewestFrom afirst afresh aways aundo aslots aisSaved (141 + (14 * x1)) (now_1 (((141 + (14 * x1)) + 1).toNatClampNeg)) M_thrown M_length M_textSize M_start M_next M_token M_value M_error M_errorAt M_number M_many_1 M_freshMany M_undos spelled_1 cost_1 fewestFrom_1 first_1 r M_many' now' spelled' cost' fewestFrom' first' (fun now_2 hf => ?_) FU 0 now_1 hf
  refine g_aload_n F dX10_recuts_102 rfl ?_
  refine g_get (C := RX10) (T := TX10) (N := 27) F 0 0 1 rfl rfl rfl iX10_recuts_X10 (by decide) (by decide +kernel) rfl dX10_recuts_103 ?_
  refine g_iconst F 2 dX10_recuts_106 rfl ?_
  refine g_iald F 1 0 2 (by decide) rfl rfl (by decide) dX10_recuts_107 ?_
  refine g_iload_n F dX10_recuts_108 rfl ?_
  refine g_aload_n F dX10_recuts_109 rfl ?_
  refine g_iload_n F dX10_recuts_110 rfl ?_
  obtain ⟨r_1, now_3, hg_3, hf⟩ := gb2_el hf
  refine g_callV (C := RX10) (T := TX10) (N := 27) (Lr := [sArrI E acost 13 cost_1, sArrI E afewestFrom 13 fewestFrom_1]) (As := [.int (141 + (14 * x1))]) (rest := [.int (now_1 (((141 + (14 * x1)) + 1).toNatClampNeg)), .int (now_2 2)]) F 0 0 1 (ctX10_laysParts l E aM anow aaside anames anamesAside atext aspelled acost afewestFrom afirst afresh aways aundo aslots aisSaved (141 + (14 * x1)) M_thrown M_length M_textSize M_start M_next M_token M_value M_error M_errorAt M_number M_many_1 M_freshMany M_undos now_2 spelled_1 first_1 r_1 now_3 hg_3) gX10_recuts_X10_laysParts rfl rfl rfl h0X10_laysParts ⟨Nat.le_of_ble_eq_true rfl, Nat.le_of_ble_eq_true rfl⟩ rfl rfl rfl [0, 1, 2, 5] [3, 4] rfl rfl rfl rfl rfl rfl (Nat.le_of_ble_eq_true rfl) dX10_recuts_111 ⟨Nat.le_of_ble_eq_true rfl, Nat.le_of_ble_eq_true rfl⟩ ?_
  rintro v w ⟨rfl, rfl⟩
  refine g_norm (Lw' := [sModel E aM anow aaside anames anamesAside atext aspelled acost afewestFrom afirst afresh aways aundo aslots aisSaved M_thrown M_length M_textSize M_start M_next M_token M_value M_error M_errorAt M_number M_many_1 M_freshMany M_undos, sArrI E anow 365 now_3, sArrI E aspelled 12 spelled_1, sArrI E acost 13 cost_1, sArrI E afewestFrom 13 fewestFrom_1, sArrI E afirst 13 first_1]) (st' := [.int r_1, .int (now_1 (((141 + (14 * x1)) + 1).toNatClampNeg)), .int (now_2 2)]) (pc' := 114) [0, 1, 2, 4, 5, 3] rfl rfl rfl rfl ?_
  refine g_isub F dX10_recuts_114 ?_
  refine g_imul F dX10_recuts_115 ?_
  refine g_istore (lv' := [some (.ref (aM 0)), none, some (.int (141 + (14 * x1))), some (.int (now_1 (((141 + (14 * x1)) + 1).toNatClampNeg))), some (.int ((now_2 2) * ((now_1 (((141 + (14 * x1)) + 1).toNatClampNeg)) - r_1)))]) F dX10_recuts_116 (Nat.le_of_ble_eq_true rfl) rfl rfl ?_
  refine g_aload_n F dX10_recuts_118 rfl ?_
  refine g_aload_n F dX10_recuts_119 rfl ?_
  refine g_get (C := RX10) (T := TX10) (N := 27) F 0 0 1 rfl rfl rfl iX10_recuts_X10 (by decide) (by decide +kernel) rfl dX10_recuts_120 ?_
  refine g_iload_n F dX10_recuts_123 rfl ?_
  refine g_iconst F 0 dX10_recuts_124 rfl ?_
  refine g_iadd F dX10_recuts_125 ?_
  obtain ⟨hb_2, hf⟩ := gb_in hf
  refine g_iald F 1 0 (((141 + (14 * x1)) + 0).toNatClampNeg) rfl rfl rfl hb_2 dX10_recuts_126 ?_
  refine g_iload F dX10_recuts_127 rfl ?_
  refine g_ineg F dX10_recuts_129 ?_
  refine g_bipush F 8 dX10_recuts_130 rfl ?_
  refine g_iconst F 2 dX10_recuts_132 rfl ?_
  obtain ⟨now_4, hg_4, hf⟩ := gb1_el hf
  refine g_callV (C := RX10) (T := TX10) (N := 27) (Lr := [sArrI E aspelled 12 spelled_1, sArrI E acost 13 cost_1, sArrI E afewestFrom 13 fewestFrom_1, sArrI E afirst 13 first_1]) (As := [.int (now_3 (((141 + (14 * x1)) + 0).toNatClampNeg)), .int (-((now_2 2) * ((now_1 (((141 + (14 * x1)) + 1).toNatClampNeg)) - r_1))), .int 8, .int 2]) (rest := []) F 0 0 4 (ctX10_pays l E aM anow aaside anames anamesAside atext aspelled acost afewestFrom afirst afresh aways aundo aslots aisSaved (now_3 (((141 + (14 * x1)) + 0).toNatClampNeg)) (-((now_2 2) * ((now_1 (((141 + (14 * x1)) + 1).toNatClampNeg)) - r_1))) 8 2 M_thrown M_length M_textSize M_start M_next M_token M_value M_error M_errorAt M_number M_many_1 M_freshMany M_undos now_3 now_4 hg_4) gX10_recuts_X10_pays rfl rfl rfl h0X10_pays ⟨Nat.le_of_ble_eq_true rfl, Nat.le_of_ble_eq_true rfl⟩ rfl rfl rfl [0, 1] [2, 3, 4, 5] rfl rfl rfl rfl rfl rfl (Nat.le_of_ble_eq_true rfl) dX10_recuts_133 ⟨Nat.le_of_ble_eq_true rfl, Nat.le_of_ble_eq_true rfl⟩ ?_
  rintro v w ⟨rfl, rfl⟩
  refine g_norm (Lw' := [sModel E aM anow aaside anames anamesAside atext aspelled acost afewestFrom afirst afresh aways aundo aslots aisSaved M_thrown M_length M_textSize M_start M_next M_token M_value M_error M_errorAt M_number M_many_1 M_freshMany M_undos, sArrI E anow 365 now_4, sArrI E aspelled 12 spelled_1, sArrI E acost 13 cost_1, sArrI E afewestFrom 13 fewestFrom_1, sArrI E afirst 13 first_1]) (st' := []) (pc' := 136) [0, 1, 2, 3, 4, 5] rfl rfl rfl rfl ?_
  refine g_aload_n F dX10_recuts_136 rfl ?_
  refine g_get (C := RX10) (T := TX10) (N := 27) F 0 0 1 rfl rfl rfl iX10_recuts_X10 (by decide) (by decide +kernel) rfl dX10_recuts_137 ?_
  refine g_bipush F 13 dX10_recuts_140 rfl ?_
  refine g_dup2 F dX10_recuts_142 rfl rfl ?_
  refine g_iald F 1 0 13 (by decide) rfl rfl (by decide) dX10_recuts_143 ?_
  refine g_iload F dX10_recuts_144 rfl ?_
  refine g_iadd F dX10_recuts_146 ?_
  obtain ⟨now_5, hnow_5, hf⟩ := Lt_el hf
  refine g_iast (Lw' := [sModel E aM anow aaside anames anamesAside atext aspelled acost afewestFrom afirst afresh aways aundo aslots aisSaved M_thrown M_length M_textSize M_start M_next M_token M_value M_error M_errorAt M_number M_many_1 M_freshMany M_undos, sArrI E anow 365 now_5, sArrI E aspelled 12 spelled_1, sArrI E acost 13 cost_1, sArrI E afewestFrom 13 fewestFrom_1, sArrI E afirst 13 first_1]) F 1 0 13 (by decide) rfl rfl (by decide) dX10_recuts_147 (by subst hnow_5; rfl) ?_
  refine g_aload_n F dX10_recuts_148 rfl ?_
  refine g_get (C := RX10) (T := TX10) (N := 27) F 0 0 1 rfl rfl rfl iX10_recuts_X10 (by decide) (by decide +kernel) rfl dX10_recuts_149 ?_
  refine g_bipush F 14 dX10_recuts_152 rfl ?_
  refine g_dup2 F dX10_recuts_154 rfl rfl ?_
  refine g_iald F 1 0 14 (by decide) rfl rfl (by decide) dX10_recuts_155 ?_
  refine g_iload F dX10_recuts_156 rfl ?_
  refine g_iadd F dX10_recuts_158 ?_
  obtain ⟨now_6, hnow_6, hf⟩ := Lt_el hf
  refine g_iast (Lw' := [sModel E aM anow aaside anames anamesAside atext aspelled acost afewestFrom afirst afresh aways aundo aslots aisSaved M_thrown M_length M_textSize M_start M_next M_token M_value M_error M_errorAt M_number M_many_1 M_freshMany M_undos, sArrI E anow 365 now_6, sArrI E aspelled 12 spelled_1, sArrI E acost 13 cost_1, sArrI E afewestFrom 13 fewestFrom_1, sArrI E afirst 13 first_1]) F 1 0 14 (by decide) rfl rfl (by decide) dX10_recuts_159 (by subst hnow_6; rfl) ?_
  refine g_iload F dX10_recuts_160 rfl ?_
  cases hf
  exact g_iret F rfl ⟨rfl, rfl⟩ dX10_recuts_162
set_option maxHeartbeats 4000000 in
set_option maxRecDepth 100000 in
theorem ktX10_goesBack_L89 {p : Program} {l : Launch} {e : Env} {s : State} {m : MethodId} {args : Array Value} {below : List Frame} {meth : Method} {c : Code} {E : gE} {A : Nat → Prop} (F : gFx p s m args meth c RX10 wsX10_goesBack cX10_goesBack 6 none vwCl E A) (aM anow aaside anames anamesAside atext aspelled acost afewestFrom afirst afresh aways aundo aslots aisSaved : Nat → Nat) (x1 : Int32) (M_thrown : Int32) (M_length : Int32) (M_textSize : Int32) (M_start : Int32) (M_next : Int32) (M_token : Int32) (M_value : Int32) (M_error : Int32) (M_errorAt : Int32) (M_number : Int32) (M_many : Int32) (M_freshMany : Int32) (M_undos : Int32) (now' : (Nat → Int32)) {k : (Nat → Int32) → Option ((Nat → Int32))} (hk : ∀ (now : (Nat → Int32)), k now = some now' → Gj p l e rmX10_goesBack s m args below meth c 0 0 (MQ below (gQ vwCl E A (fun v w => v = none ∧ w = [sModel E aM anow aaside anames anamesAside atext aspelled acost afewestFrom afirst afresh aways aundo aslots aisSaved M_thrown M_length M_textSize M_start M_next M_token M_value M_error M_errorAt M_number M_many M_freshMany M_undos, sArrI E anow 365 now'])) args s 0 0 A) vwCl E A [sModel E aM anow aaside anames anamesAside atext aspelled acost afewestFrom afirst afresh aways aundo aslots aisSaved M_thrown M_length M_textSize M_start M_next M_token M_value M_error M_errorAt M_number M_many M_freshMany M_undos, sArrI E anow 365 now] [some (.ref (aM 0)), some (.int x1), none, none, none, none] [] 128) : ∀ (n : Nat) (x4 : Int32) (now : (Nat → Int32)), fX10_goesBack_L89 x1 k n x4 now = some now' → Gj p l e rmX10_goesBack s m args below meth c 0 0 (MQ below (gQ vwCl E A (fun v w => v = none ∧ w = [sModel E aM anow aaside anames anamesAside atext aspelled acost afewestFrom afirst afresh aways aundo aslots aisSaved M_thrown M_length M_textSize M_start M_next M_token M_value M_error M_errorAt M_number M_many M_freshMany M_undos, sArrI E anow 365 now'])) args s 0 0 A) vwCl E A [sModel E aM anow aaside anames anamesAside atext aspelled acost afewestFrom afirst afresh aways aundo aslots aisSaved M_thrown M_length M_textSize M_start M_next M_token M_value M_error M_errorAt M_number M_many M_freshMany M_undos, sArrI E anow 365 now] [some (.ref (aM 0)), some (.int x1), none, none, some (.int x4), none] [] 89
  | 0, _, _, hf => by cases hf
  | n + 1, x4, now, hf => by
    have ih := ktX10_goesBack_L89 F aM anow aaside anames anamesAside atext aspelled acost afewestFrom afirst afresh aways aundo aslots aisSaved x1 M_thrown M_length M_textSize M_start M_next M_token M_value M_error M_errorAt M_number M_many M_freshMany M_undos now' hk n
    rw [fX10_goesBack_L89] at hf
    refine g_iload F dX10_goesBack_89 rfl ?_
    refine g_bipush F 21 dX10_goesBack_91 rfl ?_
    refine g_iconst F 5 dX10_goesBack_93 rfl ?_
    refine g_aload_n F dX10_goesBack_94 rfl ?_
    refine g_get (C := RX10) (T := TX10) (N := 27) F 0 0 1 rfl rfl rfl iX10_goesBack_X10 (by decide) (by decide +kernel) rfl dX10_goesBack_95 ?_
    refine g_bipush F 9 dX10_goesBack_98 rfl ?_
    refine g_iald F 1 0 9 (by decide) rfl rfl (by decide) dX10_goesBack_100 ?_
    refine g_imul F dX10_goesBack_101 ?_
    refine g_iadd F dX10_goesBack_102 ?_
    refine g_icmp_ge F 128 dX10_goesBack_103 (by decide) (fun hc_1 => ?_) (fun hc_1 => ?_)
    · replace hf := gi_t hc_1 hf
      refine g_mask [true, true, true, true, false, true] rfl ?_
      exact hk now hf
    · replace hf := gi_f hc_1 hf
      refine g_aload_n F dX10_goesBack_106 rfl ?_
      refine g_get (C := RX10) (T := TX10) (N := 27) F 0 0 1 rfl rfl rfl iX10_goesBack_X10 (by decide) (by decide +kernel) rfl dX10_goesBack_107 ?_
      refine g_iload F dX10_goesBack_110 rfl ?_
      refine g_aload_n F dX10_goesBack_112 rfl ?_
      refine g_get (C := RX10) (T := TX10) (N := 27) F 0 0 1 rfl rfl rfl iX10_goesBack_X10 (by decide) (by decide +kernel) rfl dX10_goesBack_113 ?_
      refine g_iload F dX10_goesBack_116 rfl ?_
      refine g_iconst F 5 dX10_goesBack_118 rfl ?_
      refine g_iadd F dX10_goesBack_119 ?_
      obtain ⟨hb_1, hf⟩ := gb_in hf
      refine g_iald F 1 0 ((x4 + 5).toNatClampNeg) rfl rfl rfl hb_1 dX10_goesBack_120 ?_
      obtain ⟨hb_2, hf⟩ := gb_in hf
      obtain ⟨now_1, hnow_1, hf⟩ := Lt_el hf
      refine g_iast (Lw' := [sModel E aM anow aaside anames anamesAside atext aspelled acost afewestFrom afirst afresh aways aundo aslots aisSaved M_thrown M_length M_textSize M_start M_next M_token M_value M_error M_errorAt M_number M_many M_freshMany M_undos, sArrI E anow 365 now_1]) F 1 0 (x4.toNatClampNeg) rfl rfl rfl hb_2 dX10_goesBack_121 (by subst hnow_1; rfl) ?_
      refine g_iinc (lv' := [some (.ref (aM 0)), some (.int x1), none, none, some (.int (x4 + 1)), none]) F (x4 + 1) dX10_goesBack_122 rfl rfl rfl rfl ?_
      refine g_goto F 89 dX10_goesBack_125 (by decide) ?_
      exact ih (x4 + 1) now_1 hf
set_option maxHeartbeats 4000000 in
set_option maxRecDepth 100000 in
theorem ktX10_goesBack_L146 {p : Program} {l : Launch} {e : Env} {s : State} {m : MethodId} {args : Array Value} {below : List Frame} {meth : Method} {c : Code} {E : gE} {A : Nat → Prop} (F : gFx p s m args meth c RX10 wsX10_goesBack cX10_goesBack 6 none vwCl E A) (aM anow aaside anames anamesAside atext aspelled acost afewestFrom afirst afresh aways aundo aslots aisSaved : Nat → Nat) (x1 : Int32) (x4 : Int32) (M_thrown : Int32) (M_length : Int32) (M_textSize : Int32) (M_start : Int32) (M_next : Int32) (M_token : Int32) (M_value : Int32) (M_error : Int32) (M_errorAt : Int32) (M_number : Int32) (M_many : Int32) (M_freshMany : Int32) (M_undos : Int32) (now' : (Nat → Int32)) {k : (Nat → Int32) → Option ((Nat → Int32))} (hk : ∀ (now : (Nat → Int32)), k now = some now' → Gj p l e rmX10_goesBack s m args below meth c 0 0 (MQ below (gQ vwCl E A (fun v w => v = none ∧ w = [sModel E aM anow aaside anames anamesAside atext aspelled acost afewestFrom afirst afresh aways aundo aslots aisSaved M_thrown M_length M_textSize M_start M_next M_token M_value M_error M_errorAt M_number M_many M_freshMany M_undos, sArrI E anow 365 now'])) args s 0 0 A) vwCl E A [sModel E aM anow aaside anames anamesAside atext aspelled acost afewestFrom afirst afresh aways aundo aslots aisSaved M_thrown M_length M_textSize M_start M_next M_token M_value M_error M_errorAt M_number M_many M_freshMany M_undos, sArrI E anow 365 now] [some (.ref (aM 0)), some (.int x1), none, none, some (.int x4), none] [] 205) : ∀ (n : Nat) (x5 : Int32) (now : (Nat → Int32)), fX10_goesBack_L146 x1 x4 k n x5 now = some now' → Gj p l e rmX10_goesBack s m args below meth c 0 0 (MQ below (gQ vwCl E A (fun v w => v = none ∧ w = [sModel E aM anow aaside anames anamesAside atext aspelled acost afewestFrom afirst afresh aways aundo aslots aisSaved M_thrown M_length M_textSize M_start M_next M_token M_value M_error M_errorAt M_number M_many M_freshMany M_undos, sArrI E anow 365 now'])) args s 0 0 A) vwCl E A [sModel E aM anow aaside anames anamesAside atext aspelled acost afewestFrom afirst afresh aways aundo aslots aisSaved M_thrown M_length M_textSize M_start M_next M_token M_value M_error M_errorAt M_number M_many M_freshMany M_undos, sArrI E anow 365 now] [some (.ref (aM 0)), some (.int x1), none, none, some (.int x4), some (.int x5)] [] 146
  | 0, _, _, hf => by cases hf
  | n + 1, x5, now, hf => by
    have ih := ktX10_goesBack_L146 F aM anow aaside anames anamesAside atext aspelled acost afewestFrom afirst afresh aways aundo aslots aisSaved x1 x4 M_thrown M_length M_textSize M_start M_next M_token M_value M_error M_errorAt M_number M_many M_freshMany M_undos now' hk n
    rw [fX10_goesBack_L146] at hf
    refine g_iload F dX10_goesBack_146 rfl ?_
    refine g_aload_n F dX10_goesBack_148 rfl ?_
    refine g_iload F dX10_goesBack_149 rfl ?_
    refine g_iconst F 1 dX10_goesBack_151 rfl ?_
    obtain ⟨r_1, hg_1, hf⟩ := gb1_el hf
    refine g_callV (C := RX10) (T := TX10) (N := 27) (Lr := []) (As := [.int x4, .int 1]) (rest := [.int x5]) F 0 0 2 (ctX10_ofWord l E aM anow aaside anames anamesAside atext aspelled acost afewestFrom afirst afresh aways aundo aslots aisSaved x4 1 M_thrown M_length M_textSize M_start M_next M_token M_value M_error M_errorAt M_number M_many M_freshMany M_undos now r_1 hg_1) gX10_goesBack_X10_ofWord rfl rfl rfl h0X10_ofWord ⟨Nat.le_of_ble_eq_true rfl, Nat.le_of_ble_eq_true rfl⟩ rfl rfl rfl [0, 1] [] rfl rfl rfl rfl rfl rfl (Nat.le_of_ble_eq_true rfl) dX10_goesBack_152 ⟨Nat.le_of_ble_eq_true rfl, Nat.le_of_ble_eq_true rfl⟩ ?_
    rintro v w ⟨rfl, rfl⟩
    refine g_norm (Lw' := [sModel E aM anow aaside anames anamesAside atext aspelled acost afewestFrom afirst afresh aways aundo aslots aisSaved M_thrown M_length M_textSize M_start M_next M_token M_value M_error M_errorAt M_number M_many M_freshMany M_undos, sArrI E anow 365 now]) (st' := [.int r_1, .int x5]) (pc' := 155) [0, 1] rfl rfl rfl rfl ?_
    refine g_icmp_ge F 205 dX10_goesBack_155 (by decide) (fun hc_2 => ?_) (fun hc_2 => ?_)
    · replace hf := gi_t hc_2 hf
      refine g_mask [true, true, true, true, true, false] rfl ?_
      exact hk now hf
    · replace hf := gi_f hc_2 hf
      refine g_aload_n F dX10_goesBack_158 rfl ?_
      refine g_get (C := RX10) (T := TX10) (N := 27) F 0 0 1 rfl rfl rfl iX10_goesBack_X10 (by decide) (by decide +kernel) rfl dX10_goesBack_159 ?_
      refine g_sipush F 141 dX10_goesBack_162 rfl ?_
      refine g_bipush F 14 dX10_goesBack_165 rfl ?_
      refine g_iload F dX10_goesBack_167 rfl ?_
      refine g_imul F dX10_goesBack_169 ?_
      refine g_iadd F dX10_goesBack_170 ?_
      refine g_iconst F 2 dX10_goesBack_171 rfl ?_
      refine g_iadd F dX10_goesBack_172 ?_
      refine g_iload F dX10_goesBack_173 rfl ?_
      refine g_iadd F dX10_goesBack_175 ?_
      refine g_dup2 F dX10_goesBack_176 rfl rfl ?_
      obtain ⟨hb_1, hf⟩ := gb_in hf
      refine g_iald F 1 0 ((((141 + (14 * x4)) + 2) + x5).toNatClampNeg) rfl rfl rfl hb_1 dX10_goesBack_177 ?_
      refine g_aload_n F dX10_goesBack_178 rfl ?_
      refine g_iload F dX10_goesBack_179 rfl ?_
      refine g_iconst F 2 dX10_goesBack_181 rfl ?_
      refine g_iload F dX10_goesBack_182 rfl ?_
      refine g_iadd F dX10_goesBack_184 ?_
      obtain ⟨r_2, hg_2, hf⟩ := gb1_el hf
      refine g_callV (C := RX10) (T := TX10) (N := 27) (Lr := []) (As := [.int x4, .int (2 + x5)]) (rest := [.int (now ((((141 + (14 * x4)) + 2) + x5).toNatClampNeg)), .int (((141 + (14 * x4)) + 2) + x5), .ref (anow 0)]) F 0 0 2 (ctX10_ofWord l E aM anow aaside anames anamesAside atext aspelled acost afewestFrom afirst afresh aways aundo aslots aisSaved x4 (2 + x5) M_thrown M_length M_textSize M_start M_next M_token M_value M_error M_errorAt M_number M_many M_freshMany M_undos now r_2 hg_2) gX10_goesBack_X10_ofWord rfl rfl rfl h0X10_ofWord ⟨Nat.le_of_ble_eq_true rfl, Nat.le_of_ble_eq_true rfl⟩ rfl rfl rfl [0, 1] [] rfl rfl rfl rfl rfl rfl (Nat.le_of_ble_eq_true rfl) dX10_goesBack_185 ⟨Nat.le_of_ble_eq_true rfl, Nat.le_of_ble_eq_true rfl⟩ ?_
      rintro v w ⟨rfl, rfl⟩
      refine g_norm (Lw' := [sModel E aM anow aaside anames anamesAside atext aspelled acost afewestFrom afirst afresh aways aundo aslots aisSaved M_thrown M_length M_textSize M_start M_next M_token M_value M_error M_errorAt M_number M_many M_freshMany M_undos, sArrI E anow 365 now]) (st' := [.int r_2, .int (now ((((141 + (14 * x4)) + 2) + x5).toNatClampNeg)), .int (((141 + (14 * x4)) + 2) + x5), .ref (anow 0)]) (pc' := 188) [0, 1] rfl rfl rfl rfl ?_
      refine g_iload_n F dX10_goesBack_188 rfl ?_
      obtain ⟨j_1, hj_1, hf⟩ := Lt_el hf
      have hj_1 : ∀ (t0_1 : Int32), j_1 t0_1 = some now' → Gj p l e rmX10_goesBack s m args below meth c 0 0 (MQ below (gQ vwCl E A (fun v w => v = none ∧ w = [sModel E aM anow aaside anames anamesAside atext aspelled acost afewestFrom afirst afresh aways aundo aslots aisSaved M_thrown M_length M_textSize M_start M_next M_token M_value M_error M_errorAt M_number M_many M_freshMany M_undos, sArrI E anow 365 now'])) args s 0 0 A) vwCl E A [sModel E aM anow aaside anames anamesAside atext aspelled acost afewestFrom afirst afresh aways aundo aslots aisSaved M_thrown M_length M_textSize M_start M_next M_token M_value M_error M_errorAt M_number M_many M_freshMany M_undos, sArrI E anow 365 now] [some (.ref (aM 0)), some (.int x1), none, none, some (.int x4), some (.int x5)] [.int t0_1, .int (now ((((141 + (14 * x4)) + 2) + x5).toNatClampNeg)), .int (((141 + (14 * x4)) + 2) + x5), .ref (anow 0)] 197 := by
        intro t0_1 hf
        rw [hj_1] at hf
        refine g_isub F dX10_goesBack_197 ?_
        obtain ⟨hb_2, hf⟩ := gb_in hf
        obtain ⟨now_1, hnow_1, hf⟩ := Lt_el hf
        refine g_iast (Lw' := [sModel E aM anow aaside anames anamesAside atext aspelled acost afewestFrom afirst afresh aways aundo aslots aisSaved M_thrown M_length M_textSize M_start M_next M_token M_value M_error M_errorAt M_number M_many M_freshMany M_undos, sArrI E anow 365 now_1]) F 1 0 ((((141 + (14 * x4)) + 2) + x5).toNatClampNeg) rfl rfl rfl hb_2 dX10_goesBack_198 (by subst hnow_1; rfl) ?_
        refine g_iinc (lv' := [some (.ref (aM 0)), some (.int x1), none, none, some (.int x4), some (.int (x5 + 1))]) F (x5 + 1) dX10_goesBack_199 rfl rfl rfl rfl ?_
        refine g_goto F 146 dX10_goesBack_202 (by decide) ?_
        exact ih (x5 + 1) now_1 hf
      refine g_icmp_le F 196 dX10_goesBack_189 (by decide) (fun hc_1 => ?_) (fun hc_1 => ?_)
      · replace hf := gi_t hc_1 hf
        refine g_iconst F 0 dX10_goesBack_196 rfl ?_
        exact hj_1 0 hf
      · replace hf := gi_f hc_1 hf
        refine g_iconst F 1 dX10_goesBack_192 rfl ?_
        refine g_goto F 197 dX10_goesBack_193 (by decide) ?_
        exact hj_1 1 hf
set_option maxHeartbeats 4000000 in
set_option maxRecDepth 100000 in
theorem ktX10_goesBack_L131 {p : Program} {l : Launch} {e : Env} {s : State} {m : MethodId} {args : Array Value} {below : List Frame} {meth : Method} {c : Code} {E : gE} {A : Nat → Prop} (F : gFx p s m args meth c RX10 wsX10_goesBack cX10_goesBack 6 none vwCl E A) (aM anow aaside anames anamesAside atext aspelled acost afewestFrom afirst afresh aways aundo aslots aisSaved : Nat → Nat) (x1 : Int32) (M_thrown : Int32) (M_length : Int32) (M_textSize : Int32) (M_start : Int32) (M_next : Int32) (M_token : Int32) (M_value : Int32) (M_error : Int32) (M_errorAt : Int32) (M_number : Int32) (M_many : Int32) (M_freshMany : Int32) (M_undos : Int32) (now' : (Nat → Int32)) {k : (Nat → Int32) → Option ((Nat → Int32))} (hk : ∀ (now : (Nat → Int32)), k now = some now' → Gj p l e rmX10_goesBack s m args below meth c 0 0 (MQ below (gQ vwCl E A (fun v w => v = none ∧ w = [sModel E aM anow aaside anames anamesAside atext aspelled acost afewestFrom afirst afresh aways aundo aslots aisSaved M_thrown M_length M_textSize M_start M_next M_token M_value M_error M_errorAt M_number M_many M_freshMany M_undos, sArrI E anow 365 now'])) args s 0 0 A) vwCl E A [sModel E aM anow aaside anames anamesAside atext aspelled acost afewestFrom afirst afresh aways aundo aslots aisSaved M_thrown M_length M_textSize M_start M_next M_token M_value M_error M_errorAt M_number M_many M_freshMany M_undos, sArrI E anow 365 now] [none, none, none, none, none, none] [] 211) : ∀ (n : Nat) (x4 : Int32) (now : (Nat → Int32)), fX10_goesBack_L131 x1 k n x4 now = some now' → Gj p l e rmX10_goesBack s m args below meth c 0 0 (MQ below (gQ vwCl E A (fun v w => v = none ∧ w = [sModel E aM anow aaside anames anamesAside atext aspelled acost afewestFrom afirst afresh aways aundo aslots aisSaved M_thrown M_length M_textSize M_start M_next M_token M_value M_error M_errorAt M_number M_many M_freshMany M_undos, sArrI E anow 365 now'])) args s 0 0 A) vwCl E A [sModel E aM anow aaside anames anamesAside atext aspelled acost afewestFrom afirst afresh aways aundo aslots aisSaved M_thrown M_length M_textSize M_start M_next M_token M_value M_error M_errorAt M_number M_many M_freshMany M_undos, sArrI E anow 365 now] [some (.ref (aM 0)), some (.int x1), none, none, some (.int x4), none] [] 131
  | 0, _, _, hf => by cases hf
  | n + 1, x4, now, hf => by
    have ih := ktX10_goesBack_L131 F aM anow aaside anames anamesAside atext aspelled acost afewestFrom afirst afresh aways aundo aslots aisSaved x1 M_thrown M_length M_textSize M_start M_next M_token M_value M_error M_errorAt M_number M_many M_freshMany M_undos now' hk n
    rw [fX10_goesBack_L131] at hf
    refine g_iload F dX10_goesBack_131 rfl ?_
    refine g_aload_n F dX10_goesBack_133 rfl ?_
    refine g_get (C := RX10) (T := TX10) (N := 27) F 0 0 1 rfl rfl rfl iX10_goesBack_X10 (by decide) (by decide +kernel) rfl dX10_goesBack_134 ?_
    refine g_bipush F 10 dX10_goesBack_137 rfl ?_
    refine g_iald F 1 0 10 (by decide) rfl rfl (by decide) dX10_goesBack_139 ?_
    refine g_icmp_ge F 211 dX10_goesBack_140 (by decide) (fun hc_1 => ?_) (fun hc_1 => ?_)
    · replace hf := gi_t hc_1 hf
      refine g_mask [false, false, true, true, false, true] rfl ?_
      exact hk now hf
    · replace hf := gi_f hc_1 hf
      refine g_iconst F 0 dX10_goesBack_143 rfl ?_
      refine g_istore (lv' := [some (.ref (aM 0)), some (.int x1), none, none, some (.int x4), some (.int 0)]) F dX10_goesBack_144 (Nat.le_of_ble_eq_true rfl) rfl rfl ?_
      refine ktX10_goesBack_L146 F aM anow aaside anames anamesAside atext aspelled acost afewestFrom afirst afresh aways aundo aslots aisSaved x1 x4 M_thrown M_length M_textSize M_start M_next M_token M_value M_error M_errorAt M_number M_many M_freshMany M_undos now' (fun now_1 hf => ?_) FU 0 now hf
      refine g_iinc (lv' := [some (.ref (aM 0)), some (.int x1), none, none, some (.int (x4 + 1)), none]) F (x4 + 1) dX10_goesBack_205 rfl rfl rfl rfl ?_
      refine g_goto F 131 dX10_goesBack_208 (by decide) ?_
      exact ih (x4 + 1) now_1 hf
set_option maxHeartbeats 4000000 in
set_option maxRecDepth 100000 in
theorem ctX10_goesBack (l : Launch) (E : gE) (aM anow aaside anames anamesAside atext aspelled acost afewestFrom afirst afresh aways aundo aslots aisSaved : Nat → Nat) (x1 : Int32) (M_thrown : Int32) (M_length : Int32) (M_textSize : Int32) (M_start : Int32) (M_next : Int32) (M_token : Int32) (M_value : Int32) (M_error : Int32) (M_errorAt : Int32) (M_number : Int32) (M_many : Int32) (M_freshMany : Int32) (M_undos : Int32) (now : (Nat → Int32)) (now' : (Nat → Int32)) (hf : fX10_goesBack x1 now = some now') : gMet l yX10_goesBack wsX10_goesBack rmX10_goesBack vwCl E [.ref (aM 0), .int x1] [sModel E aM anow aaside anames anamesAside atext aspelled acost afewestFrom afirst afresh aways aundo aslots aisSaved M_thrown M_length M_textSize M_start M_next M_token M_value M_error M_errorAt M_number M_many M_freshMany M_undos, sArrI E anow 365 now] (fun v w => v = none ∧ w = [sModel E aM anow aaside anames anamesAside atext aspelled acost afewestFrom afirst afresh aways aundo aslots aisSaved M_thrown M_length M_textSize M_start M_next M_token M_value M_error M_errorAt M_number M_many M_freshMany M_undos, sArrI E anow 365 now']) 0 0 := by
  refine g_entry [some (.ref (aM 0)), some (.int x1), none, none, none, none] (by decide) rfl (Nat.le_of_ble_eq_true rfl) rfl ?_
  intro p e s m below meth c A F hnm
  unfold fX10_goesBack at hf
  refine g_aload_n F dX10_goesBack_0 rfl ?_
  refine g_iload_n F dX10_goesBack_1 rfl ?_
  refine g_iconst F 2 dX10_goesBack_2 rfl ?_
  obtain ⟨r_1, hg_1, hf⟩ := gb1_el hf
  refine g_callV (C := RX10) (T := TX10) (N := 27) (Lr := []) (As := [.int x1, .int 2]) (rest := []) F 0 0 2 (ctX10_ofPiece l E aM anow aaside anames anamesAside atext aspelled acost afewestFrom afirst afresh aways aundo aslots aisSaved x1 2 M_thrown M_length M_textSize M_start M_next M_token M_value M_error M_errorAt M_number M_many M_freshMany M_undos now r_1 hg_1) gX10_goesBack_X10_ofPiece rfl rfl rfl h0X10_ofPiece ⟨Nat.le_of_ble_eq_true rfl, Nat.le_of_ble_eq_true rfl⟩ rfl rfl rfl [0, 1] [] rfl rfl rfl rfl rfl rfl (Nat.le_of_ble_eq_true rfl) dX10_goesBack_3 ⟨Nat.le_of_ble_eq_true rfl, Nat.le_of_ble_eq_true rfl⟩ ?_
  rintro v w ⟨rfl, rfl⟩
  refine g_norm (Lw' := [sModel E aM anow aaside anames anamesAside atext aspelled acost afewestFrom afirst afresh aways aundo aslots aisSaved M_thrown M_length M_textSize M_start M_next M_token M_value M_error M_errorAt M_number M_many M_freshMany M_undos, sArrI E anow 365 now]) (st' := [.int r_1]) (pc' := 6) [0, 1] rfl rfl rfl rfl ?_
  refine g_istore_n (lv' := [some (.ref (aM 0)), some (.int x1), some (.int r_1), none, none, none]) F dX10_goesBack_6 (Nat.le_of_ble_eq_true rfl) rfl rfl ?_
  refine g_aload_n F dX10_goesBack_7 rfl ?_
  refine g_iload_n F dX10_goesBack_8 rfl ?_
  refine g_iconst F 1 dX10_goesBack_9 rfl ?_
  obtain ⟨r_2, hg_2, hf⟩ := gb1_el hf
  refine g_callV (C := RX10) (T := TX10) (N := 27) (Lr := []) (As := [.int x1, .int 1]) (rest := []) F 0 0 2 (ctX10_ofPiece l E aM anow aaside anames anamesAside atext aspelled acost afewestFrom afirst afresh aways aundo aslots aisSaved x1 1 M_thrown M_length M_textSize M_start M_next M_token M_value M_error M_errorAt M_number M_many M_freshMany M_undos now r_2 hg_2) gX10_goesBack_X10_ofPiece rfl rfl rfl h0X10_ofPiece ⟨Nat.le_of_ble_eq_true rfl, Nat.le_of_ble_eq_true rfl⟩ rfl rfl rfl [0, 1] [] rfl rfl rfl rfl rfl rfl (Nat.le_of_ble_eq_true rfl) dX10_goesBack_10 ⟨Nat.le_of_ble_eq_true rfl, Nat.le_of_ble_eq_true rfl⟩ ?_
  rintro v w ⟨rfl, rfl⟩
  refine g_norm (Lw' := [sModel E aM anow aaside anames anamesAside atext aspelled acost afewestFrom afirst afresh aways aundo aslots aisSaved M_thrown M_length M_textSize M_start M_next M_token M_value M_error M_errorAt M_number M_many M_freshMany M_undos, sArrI E anow 365 now]) (st' := [.int r_2]) (pc' := 13) [0, 1] rfl rfl rfl rfl ?_
  refine g_aload_n F dX10_goesBack_13 rfl ?_
  refine g_get (C := RX10) (T := TX10) (N := 27) F 0 0 1 rfl rfl rfl iX10_goesBack_X10 (by decide) (by decide +kernel) rfl dX10_goesBack_14 ?_
  refine g_iconst F 4 dX10_goesBack_17 rfl ?_
  refine g_iald F 1 0 4 (by decide) rfl rfl (by decide) dX10_goesBack_18 ?_
  refine g_imul F dX10_goesBack_19 ?_
  refine g_bipush F 100 dX10_goesBack_20 rfl ?_
  refine g_idiv F dX10_goesBack_22 (by decide) ?_
  refine g_istore_n (lv' := [some (.ref (aM 0)), some (.int x1), some (.int r_1), some (.int ((r_2 * (now 4)) / 100)), none, none]) F dX10_goesBack_23 (Nat.le_of_ble_eq_true rfl) rfl rfl ?_
  refine g_aload_n F dX10_goesBack_24 rfl ?_
  refine g_get (C := RX10) (T := TX10) (N := 27) F 0 0 1 rfl rfl rfl iX10_goesBack_X10 (by decide) (by decide +kernel) rfl dX10_goesBack_25 ?_
  refine g_bipush F 7 dX10_goesBack_28 rfl ?_
  refine g_dup2 F dX10_goesBack_30 rfl rfl ?_
  refine g_iald F 1 0 7 (by decide) rfl rfl (by decide) dX10_goesBack_31 ?_
  refine g_iload_n F dX10_goesBack_32 rfl ?_
  refine g_isub F dX10_goesBack_33 ?_
  obtain ⟨now_1, hnow_1, hf⟩ := Lt_el hf
  refine g_iast (Lw' := [sModel E aM anow aaside anames anamesAside atext aspelled acost afewestFrom afirst afresh aways aundo aslots aisSaved M_thrown M_length M_textSize M_start M_next M_token M_value M_error M_errorAt M_number M_many M_freshMany M_undos, sArrI E anow 365 now_1]) F 1 0 7 (by decide) rfl rfl (by decide) dX10_goesBack_34 (by subst hnow_1; rfl) ?_
  refine g_aload_n F dX10_goesBack_35 rfl ?_
  refine g_get (C := RX10) (T := TX10) (N := 27) F 0 0 1 rfl rfl rfl iX10_goesBack_X10 (by decide) (by decide +kernel) rfl dX10_goesBack_36 ?_
  refine g_bipush F 17 dX10_goesBack_39 rfl ?_
  refine g_iload_n F dX10_goesBack_41 rfl ?_
  refine g_iadd F dX10_goesBack_42 ?_
  refine g_dup2 F dX10_goesBack_43 rfl rfl ?_
  obtain ⟨hb_1, hf⟩ := gb_in hf
  refine g_iald F 1 0 ((17 + r_1).toNatClampNeg) rfl rfl rfl hb_1 dX10_goesBack_44 ?_
  refine g_iload_n F dX10_goesBack_45 rfl ?_
  refine g_iadd F dX10_goesBack_46 ?_
  obtain ⟨hb_2, hf⟩ := gb_in hf
  obtain ⟨now_2, hnow_2, hf⟩ := Lt_el hf
  refine g_iast (Lw' := [sModel E aM anow aaside anames anamesAside atext aspelled acost afewestFrom afirst afresh aways aundo aslots aisSaved M_thrown M_length M_textSize M_start M_next M_token M_value M_error M_errorAt M_number M_many M_freshMany M_undos, sArrI E anow 365 now_2]) F 1 0 ((17 + r_1).toNatClampNeg) rfl rfl rfl hb_2 dX10_goesBack_47 (by subst hnow_2; rfl) ?_
  refine g_aload_n F dX10_goesBack_48 rfl ?_
  refine g_get (C := RX10) (T := TX10) (N := 27) F 0 0 1 rfl rfl rfl iX10_goesBack_X10 (by decide) (by decide +kernel) rfl dX10_goesBack_49 ?_
  refine g_bipush F 12 dX10_goesBack_52 rfl ?_
  refine g_dup2 F dX10_goesBack_54 rfl rfl ?_
  refine g_iald F 1 0 12 (by decide) rfl rfl (by decide) dX10_goesBack_55 ?_
  refine g_iload_n F dX10_goesBack_56 rfl ?_
  refine g_iadd F dX10_goesBack_57 ?_
  obtain ⟨now_3, hnow_3, hf⟩ := Lt_el hf
  refine g_iast (Lw' := [sModel E aM anow aaside anames anamesAside atext aspelled acost afewestFrom afirst afresh aways aundo aslots aisSaved M_thrown M_length M_textSize M_start M_next M_token M_value M_error M_errorAt M_number M_many M_freshMany M_undos, sArrI E anow 365 now_3]) F 1 0 12 (by decide) rfl rfl (by decide) dX10_goesBack_58 (by subst hnow_3; rfl) ?_
  refine g_aload_n F dX10_goesBack_59 rfl ?_
  refine g_get (C := RX10) (T := TX10) (N := 27) F 0 0 1 rfl rfl rfl iX10_goesBack_X10 (by decide) (by decide +kernel) rfl dX10_goesBack_60 ?_
  refine g_bipush F 16 dX10_goesBack_63 rfl ?_
  refine g_dup2 F dX10_goesBack_65 rfl rfl ?_
  refine g_iald F 1 0 16 (by decide) rfl rfl (by decide) dX10_goesBack_66 ?_
  refine g_iconst F 1 dX10_goesBack_67 rfl ?_
  refine g_iadd F dX10_goesBack_68 ?_
  obtain ⟨now_4, hnow_4, hf⟩ := Lt_el hf
  refine g_iast (Lw' := [sModel E aM anow aaside anames anamesAside atext aspelled acost afewestFrom afirst afresh aways aundo aslots aisSaved M_thrown M_length M_textSize M_start M_next M_token M_value M_error M_errorAt M_number M_many M_freshMany M_undos, sArrI E anow 365 now_4]) F 1 0 16 (by decide) rfl rfl (by decide) dX10_goesBack_69 (by subst hnow_4; rfl) ?_
  refine g_aload_n F dX10_goesBack_70 rfl ?_
  refine g_get (C := RX10) (T := TX10) (N := 27) F 0 0 1 rfl rfl rfl iX10_goesBack_X10 (by decide) (by decide +kernel) rfl dX10_goesBack_71 ?_
  refine g_bipush F 9 dX10_goesBack_74 rfl ?_
  refine g_dup2 F dX10_goesBack_76 rfl rfl ?_
  refine g_iald F 1 0 9 (by decide) rfl rfl (by decide) dX10_goesBack_77 ?_
  refine g_iconst F 1 dX10_goesBack_78 rfl ?_
  refine g_isub F dX10_goesBack_79 ?_
  obtain ⟨now_5, hnow_5, hf⟩ := Lt_el hf
  refine g_iast (Lw' := [sModel E aM anow aaside anames anamesAside atext aspelled acost afewestFrom afirst afresh aways aundo aslots aisSaved M_thrown M_length M_textSize M_start M_next M_token M_value M_error M_errorAt M_number M_many M_freshMany M_undos, sArrI E anow 365 now_5]) F 1 0 9 (by decide) rfl rfl (by decide) dX10_goesBack_80 (by subst hnow_5; rfl) ?_
  refine g_bipush F 21 dX10_goesBack_81 rfl ?_
  refine g_iconst F 5 dX10_goesBack_83 rfl ?_
  refine g_iload_n F dX10_goesBack_84 rfl ?_
  refine g_imul F dX10_goesBack_85 ?_
  refine g_iadd F dX10_goesBack_86 ?_
  refine g_istore (lv' := [some (.ref (aM 0)), some (.int x1), some (.int r_1), some (.int ((r_2 * (now 4)) / 100)), some (.int (21 + (5 * x1))), none]) F dX10_goesBack_87 (Nat.le_of_ble_eq_true rfl) rfl rfl ?_
  refine g_mask [true, true, false, false, true, true] rfl ?_
  refine ktX10_goesBack_L89 F aM anow aaside anames anamesAside atext aspelled acost afewestFrom afirst afresh aways aundo aslots aisSaved x1 M_thrown M_length M_textSize M_start M_next M_token M_value M_error M_errorAt M_number M_many M_freshMany M_undos now' (fun now_6 hf => ?_) FU (21 + (5 * x1)) now_5 hf
  refine g_iconst F 0 dX10_goesBack_128 rfl ?_
  refine g_istore (lv' := [some (.ref (aM 0)), some (.int x1), none, none, some (.int 0), none]) F dX10_goesBack_129 (Nat.le_of_ble_eq_true rfl) rfl rfl ?_
  refine ktX10_goesBack_L131 F aM anow aaside anames anamesAside atext aspelled acost afewestFrom afirst afresh aways aundo aslots aisSaved x1 M_thrown M_length M_textSize M_start M_next M_token M_value M_error M_errorAt M_number M_many M_freshMany M_undos now' (fun now_7 hf => ?_) FU 0 now_6 hf
  cases hf
  exact g_vret F rfl ⟨rfl, rfl⟩ dX10_goesBack_211
set_option maxHeartbeats 4000000 in
set_option maxRecDepth 100000 in
theorem ktX10_ticks_L15 {p : Program} {l : Launch} {e : Env} {s : State} {m : MethodId} {args : Array Value} {below : List Frame} {meth : Method} {c : Code} {E : gE} {A : Nat → Prop} (F : gFx p s m args meth c RX10 wsX10_ticks cX10_ticks 4 (some .int) vwCl E A) (aM anow aaside anames anamesAside atext aspelled acost afewestFrom afirst afresh aways aundo aslots aisSaved : Nat → Nat) (M_thrown : Int32) (M_length : Int32) (M_textSize : Int32) (M_start : Int32) (M_next : Int32) (M_token : Int32) (M_value : Int32) (M_error : Int32) (M_errorAt : Int32) (M_number : Int32) (M_many : Int32) (M_freshMany : Int32) (M_undos : Int32) (r : Int32) (now' : (Nat → Int32)) {k : Int32 → (Nat → Int32) → Option (Int32 × (Nat → Int32))} (hk : ∀ (x1 : Int32) (now : (Nat → Int32)), k x1 now = some (r, now') → Gj p l e rmX10_ticks s m args below meth c 0 0 (MQ below (gQ vwCl E A (fun v w => v = some (.int r) ∧ w = [sModel E aM anow aaside anames anamesAside atext aspelled acost afewestFrom afirst afresh aways aundo aslots aisSaved M_thrown M_length M_textSize M_start M_next M_token M_value M_error M_errorAt M_number M_many M_freshMany M_undos, sArrI E anow 365 now'])) args s 0 0 A) vwCl E A [sModel E aM anow aaside anames anamesAside atext aspelled acost afewestFrom afirst afresh aways aundo aslots aisSaved M_thrown M_length M_textSize M_start M_next M_token M_value M_error M_errorAt M_number M_many M_freshMany M_undos, sArrI E anow 365 now] [none, some (.int x1), none, none] [] 95) : ∀ (n : Nat) (x1 : Int32) (x2 : Int32) (now : (Nat → Int32)), fX10_ticks_L15 k n x1 x2 now = some (r, now') → Gj p l e rmX10_ticks s m args below meth c 0 0 (MQ below (gQ vwCl E A (fun v w => v = some (.int r) ∧ w = [sModel E aM anow aaside anames anamesAside atext aspelled acost afewestFrom afirst afresh aways aundo aslots aisSaved M_thrown M_length M_textSize M_start M_next M_token M_value M_error M_errorAt M_number M_many M_freshMany M_undos, sArrI E anow 365 now'])) args s 0 0 A) vwCl E A [sModel E aM anow aaside anames anamesAside atext aspelled acost afewestFrom afirst afresh aways aundo aslots aisSaved M_thrown M_length M_textSize M_start M_next M_token M_value M_error M_errorAt M_number M_many M_freshMany M_undos, sArrI E anow 365 now] [some (.ref (aM 0)), some (.int x1), some (.int x2), none] [] 15
  | 0, _, _, _, hf => by cases hf
  | n + 1, x1, x2, now, hf => by
    have ih := ktX10_ticks_L15 F aM anow aaside anames anamesAside atext aspelled acost afewestFrom afirst afresh aways aundo aslots aisSaved M_thrown M_length M_textSize M_start M_next M_token M_value M_error M_errorAt M_number M_many M_freshMany M_undos r now' hk n
    rw [fX10_ticks_L15] at hf
    refine g_iload_n F dX10_ticks_15 rfl ?_
    refine g_aload_n F dX10_ticks_16 rfl ?_
    refine g_get (C := RX10) (T := TX10) (N := 27) F 0 0 1 rfl rfl rfl iX10_ticks_X10 (by decide) (by decide +kernel) rfl dX10_ticks_17 ?_
    refine g_bipush F 9 dX10_ticks_20 rfl ?_
    refine g_iald F 1 0 9 (by decide) rfl rfl (by decide) dX10_ticks_22 ?_
    refine g_icmp_ge F 95 dX10_ticks_23 (by decide) (fun hc_5 => ?_) (fun hc_5 => ?_)
    · replace hf := gi_t hc_5 hf
      refine g_mask [false, true, false, true] rfl ?_
      exact hk x1 now hf
    · replace hf := gi_f hc_5 hf
      refine g_aload_n F dX10_ticks_26 rfl ?_
      refine g_iload_n F dX10_ticks_27 rfl ?_
      refine g_iconst F 2 dX10_ticks_28 rfl ?_
      obtain ⟨r_1, hg_1, hf⟩ := gb1_el hf
      refine g_callV (C := RX10) (T := TX10) (N := 27) (Lr := []) (As := [.int x2, .int 2]) (rest := []) F 0 0 2 (ctX10_ofPiece l E aM anow aaside anames anamesAside atext aspelled acost afewestFrom afirst afresh aways aundo aslots aisSaved x2 2 M_thrown M_length M_textSize M_start M_next M_token M_value M_error M_errorAt M_number M_many M_freshMany M_undos now r_1 hg_1) gX10_ticks_X10_ofPiece rfl rfl rfl h0X10_ofPiece ⟨Nat.le_of_ble_eq_true rfl, Nat.le_of_ble_eq_true rfl⟩ rfl rfl rfl [0, 1] [] rfl rfl rfl rfl rfl rfl (Nat.le_of_ble_eq_true rfl) dX10_ticks_29 ⟨Nat.le_of_ble_eq_true rfl, Nat.le_of_ble_eq_true rfl⟩ ?_
      rintro v w ⟨rfl, rfl⟩
      refine g_norm (Lw' := [sModel E aM anow aaside anames anamesAside atext aspelled acost afewestFrom afirst afresh aways aundo aslots aisSaved M_thrown M_length M_textSize M_start M_next M_token M_value M_error M_errorAt M_number M_many M_freshMany M_undos, sArrI E anow 365 now]) (st' := [.int r_1]) (pc' := 32) [0, 1] rfl rfl rfl rfl ?_
      refine g_iconst F (-1) dX10_ticks_32 rfl ?_
      obtain ⟨j_1, hj_1, hf⟩ := Lt_el hf
      have hj_1 : ∀ (t0_1 : Int32), j_1 t0_1 = some (r, now') → Gj p l e rmX10_ticks s m args below meth c 0 0 (MQ below (gQ vwCl E A (fun v w => v = some (.int r) ∧ w = [sModel E aM anow aaside anames anamesAside atext aspelled acost afewestFrom afirst afresh aways aundo aslots aisSaved M_thrown M_length M_textSize M_start M_next M_token M_value M_error M_errorAt M_number M_many M_freshMany M_undos, sArrI E anow 365 now'])) args s 0 0 A) vwCl E A [sModel E aM anow aaside anames anamesAside atext aspelled acost afewestFrom afirst afresh aways aundo aslots aisSaved M_thrown M_length M_textSize M_start M_next M_token M_value M_error M_errorAt M_number M_many M_freshMany M_undos, sArrI E anow 365 now] [some (.ref (aM 0)), some (.int x1), some (.int x2), none] [.int t0_1] 73 := by
        intro t0_1 hf
        rw [hj_1] at hf
        refine g_istore_n (lv' := [some (.ref (aM 0)), some (.int x1), some (.int x2), some (.int t0_1)]) F dX10_ticks_73 (Nat.le_of_ble_eq_true rfl) rfl rfl ?_
        refine g_iload_n F dX10_ticks_74 rfl ?_
        refine g_ifeq F 89 dX10_ticks_75 (by decide) (fun hc_1 => ?_) (fun hc_1 => ?_)
        · replace hf := gi_t hc_1 hf
          refine g_iinc (lv' := [some (.ref (aM 0)), some (.int x1), some (.int (x2 + 1)), some (.int t0_1)]) F (x2 + 1) dX10_ticks_89 rfl rfl rfl rfl ?_
          refine g_goto F 15 dX10_ticks_92 (by decide) ?_
          refine g_mask [true, true, true, false] rfl ?_
          exact ih x1 (x2 + 1) now hf
        · replace hf := gi_f hc_1 hf
          refine g_aload_n F dX10_ticks_78 rfl ?_
          refine g_iload_n F dX10_ticks_79 rfl ?_
          obtain ⟨now_1, hg_2, hf⟩ := gb1_el hf
          refine g_callV (C := RX10) (T := TX10) (N := 27) (Lr := []) (As := [.int x2]) (rest := []) F 0 0 1 (ctX10_goesBack l E aM anow aaside anames anamesAside atext aspelled acost afewestFrom afirst afresh aways aundo aslots aisSaved x2 M_thrown M_length M_textSize M_start M_next M_token M_value M_error M_errorAt M_number M_many M_freshMany M_undos now now_1 hg_2) gX10_ticks_X10_goesBack rfl rfl rfl h0X10_goesBack ⟨Nat.le_of_ble_eq_true rfl, Nat.le_of_ble_eq_true rfl⟩ rfl rfl rfl [0, 1] [] rfl rfl rfl rfl rfl rfl (Nat.le_of_ble_eq_true rfl) dX10_ticks_80 ⟨Nat.le_of_ble_eq_true rfl, Nat.le_of_ble_eq_true rfl⟩ ?_
          rintro v w ⟨rfl, rfl⟩
          refine g_norm (Lw' := [sModel E aM anow aaside anames anamesAside atext aspelled acost afewestFrom afirst afresh aways aundo aslots aisSaved M_thrown M_length M_textSize M_start M_next M_token M_value M_error M_errorAt M_number M_many M_freshMany M_undos, sArrI E anow 365 now_1]) (st' := []) (pc' := 83) [0, 1] rfl rfl rfl rfl ?_
          refine g_iinc (lv' := [some (.ref (aM 0)), some (.int (x1 + 1)), some (.int x2), some (.int t0_1)]) F (x1 + 1) dX10_ticks_83 rfl rfl rfl rfl ?_
          refine g_goto F 92 dX10_ticks_86 (by decide) ?_
          refine g_goto F 15 dX10_ticks_92 (by decide) ?_
          refine g_mask [true, true, true, false] rfl ?_
          exact ih (x1 + 1) x2 now_1 hf
      obtain ⟨j_2, hj_2, hf⟩ := Lt_el hf
      have hj_2 : j_2 = some (r, now') → Gj p l e rmX10_ticks s m args below meth c 0 0 (MQ below (gQ vwCl E A (fun v w => v = some (.int r) ∧ w = [sModel E aM anow aaside anames anamesAside atext aspelled acost afewestFrom afirst afresh aways aundo aslots aisSaved M_thrown M_length M_textSize M_start M_next M_token M_value M_error M_errorAt M_number M_many M_freshMany M_undos, sArrI E anow 365 now'])) args s 0 0 A) vwCl E A [sModel E aM anow aaside anames anamesAside atext aspelled acost afewestFrom afirst afresh aways aundo aslots aisSaved M_thrown M_length M_textSize M_start M_next M_token M_value M_error M_errorAt M_number M_many M_freshMany M_undos, sArrI E anow 365 now] [some (.ref (aM 0)), some (.int x1), some (.int x2), none] [] 72 := by
        intro hf
        rw [hj_2] at hf
        refine g_iconst F 0 dX10_ticks_72 rfl ?_
        exact hj_1 0 hf
      refine g_icmp_eq F 72 dX10_ticks_33 (by decide) (fun hc_4 => ?_) (fun hc_4 => ?_)
      · replace hf := gi_t hc_4 hf
        exact hj_2 hf
      · replace hf := gi_f hc_4 hf
        refine g_aload_n F dX10_ticks_36 rfl ?_
        refine g_iload_n F dX10_ticks_37 rfl ?_
        refine g_iconst F 3 dX10_ticks_38 rfl ?_
        obtain ⟨r_2, hg_3, hf⟩ := gb1_el hf
        refine g_callV (C := RX10) (T := TX10) (N := 27) (Lr := []) (As := [.int x2, .int 3]) (rest := []) F 0 0 2 (ctX10_ofPiece l E aM anow aaside anames anamesAside atext aspelled acost afewestFrom afirst afresh aways aundo aslots aisSaved x2 3 M_thrown M_length M_textSize M_start M_next M_token M_value M_error M_errorAt M_number M_many M_freshMany M_undos now r_2 hg_3) gX10_ticks_X10_ofPiece rfl rfl rfl h0X10_ofPiece ⟨Nat.le_of_ble_eq_true rfl, Nat.le_of_ble_eq_true rfl⟩ rfl rfl rfl [0, 1] [] rfl rfl rfl rfl rfl rfl (Nat.le_of_ble_eq_true rfl) dX10_ticks_39 ⟨Nat.le_of_ble_eq_true rfl, Nat.le_of_ble_eq_true rfl⟩ ?_
        rintro v w ⟨rfl, rfl⟩
        refine g_norm (Lw' := [sModel E aM anow aaside anames anamesAside atext aspelled acost afewestFrom afirst afresh aways aundo aslots aisSaved M_thrown M_length M_textSize M_start M_next M_token M_value M_error M_errorAt M_number M_many M_freshMany M_undos, sArrI E anow 365 now]) (st' := [.int r_2]) (pc' := 42) [0, 1] rfl rfl rfl rfl ?_
        refine g_ifne F 72 dX10_ticks_42 (by decide) (fun hc_3 => ?_) (fun hc_3 => ?_)
        · replace hf := gi_f hc_3 hf
          exact hj_2 hf
        · replace hf := gi_t hc_3 hf
          refine g_aload_n F dX10_ticks_45 rfl ?_
          refine g_get (C := RX10) (T := TX10) (N := 27) F 0 0 1 rfl rfl rfl iX10_ticks_X10 (by decide) (by decide +kernel) rfl dX10_ticks_46 ?_
          refine g_bipush F 6 dX10_ticks_49 rfl ?_
          refine g_iald F 1 0 6 (by decide) rfl rfl (by decide) dX10_ticks_51 ?_
          refine g_aload_n F dX10_ticks_52 rfl ?_
          refine g_iload_n F dX10_ticks_53 rfl ?_
          refine g_iconst F 4 dX10_ticks_54 rfl ?_
          obtain ⟨r_3, hg_4, hf⟩ := gb1_el hf
          refine g_callV (C := RX10) (T := TX10) (N := 27) (Lr := []) (As := [.int x2, .int 4]) (rest := [.int (now 6)]) F 0 0 2 (ctX10_ofPiece l E aM anow aaside anames anamesAside atext aspelled acost afewestFrom afirst afresh aways aundo aslots aisSaved x2 4 M_thrown M_length M_textSize M_start M_next M_token M_value M_error M_errorAt M_number M_many M_freshMany M_undos now r_3 hg_4) gX10_ticks_X10_ofPiece rfl rfl rfl h0X10_ofPiece ⟨Nat.le_of_ble_eq_true rfl, Nat.le_of_ble_eq_true rfl⟩ rfl rfl rfl [0, 1] [] rfl rfl rfl rfl rfl rfl (Nat.le_of_ble_eq_true rfl) dX10_ticks_55 ⟨Nat.le_of_ble_eq_true rfl, Nat.le_of_ble_eq_true rfl⟩ ?_
          rintro v w ⟨rfl, rfl⟩
          refine g_norm (Lw' := [sModel E aM anow aaside anames anamesAside atext aspelled acost afewestFrom afirst afresh aways aundo aslots aisSaved M_thrown M_length M_textSize M_start M_next M_token M_value M_error M_errorAt M_number M_many M_freshMany M_undos, sArrI E anow 365 now]) (st' := [.int r_3, .int (now 6)]) (pc' := 58) [0, 1] rfl rfl rfl rfl ?_
          refine g_isub F dX10_ticks_58 ?_
          refine g_aload_n F dX10_ticks_59 rfl ?_
          refine g_get (C := RX10) (T := TX10) (N := 27) F 0 0 1 rfl rfl rfl iX10_ticks_X10 (by decide) (by decide +kernel) rfl dX10_ticks_60 ?_
          refine g_iconst F 3 dX10_ticks_63 rfl ?_
          refine g_iald F 1 0 3 (by decide) rfl rfl (by decide) dX10_ticks_64 ?_
          refine g_icmp_le F 72 dX10_ticks_65 (by decide) (fun hc_2 => ?_) (fun hc_2 => ?_)
          · replace hf := gi_t hc_2 hf
            exact hj_2 hf
          · replace hf := gi_f hc_2 hf
            refine g_iconst F 1 dX10_ticks_68 rfl ?_
            refine g_goto F 73 dX10_ticks_69 (by decide) ?_
            exact hj_1 1 hf
set_option maxHeartbeats 4000000 in
set_option maxRecDepth 100000 in
theorem ctX10_ticks (l : Launch) (E : gE) (aM anow aaside anames anamesAside atext aspelled acost afewestFrom afirst afresh aways aundo aslots aisSaved : Nat → Nat) (M_thrown : Int32) (M_length : Int32) (M_textSize : Int32) (M_start : Int32) (M_next : Int32) (M_token : Int32) (M_value : Int32) (M_error : Int32) (M_errorAt : Int32) (M_number : Int32) (M_many : Int32) (M_freshMany : Int32) (M_undos : Int32) (now : (Nat → Int32)) (r : Int32) (now' : (Nat → Int32)) (hf : fX10_ticks now = some (r, now')) : gMet l yX10_ticks wsX10_ticks rmX10_ticks vwCl E [.ref (aM 0)] [sModel E aM anow aaside anames anamesAside atext aspelled acost afewestFrom afirst afresh aways aundo aslots aisSaved M_thrown M_length M_textSize M_start M_next M_token M_value M_error M_errorAt M_number M_many M_freshMany M_undos, sArrI E anow 365 now] (fun v w => v = some (.int r) ∧ w = [sModel E aM anow aaside anames anamesAside atext aspelled acost afewestFrom afirst afresh aways aundo aslots aisSaved M_thrown M_length M_textSize M_start M_next M_token M_value M_error M_errorAt M_number M_many M_freshMany M_undos, sArrI E anow 365 now']) 0 0 := by
  refine g_entry [some (.ref (aM 0)), none, none, none] (by decide) rfl (Nat.le_of_ble_eq_true rfl) rfl ?_
  intro p e s m below meth c A F hnm
  unfold fX10_ticks at hf
  refine g_aload_n F dX10_ticks_0 rfl ?_
  refine g_get (C := RX10) (T := TX10) (N := 27) F 0 0 1 rfl rfl rfl iX10_ticks_X10 (by decide) (by decide +kernel) rfl dX10_ticks_1 ?_
  refine g_bipush F 6 dX10_ticks_4 rfl ?_
  refine g_dup2 F dX10_ticks_6 rfl rfl ?_
  refine g_iald F 1 0 6 (by decide) rfl rfl (by decide) dX10_ticks_7 ?_
  refine g_iconst F 1 dX10_ticks_8 rfl ?_
  refine g_iadd F dX10_ticks_9 ?_
  obtain ⟨now_1, hnow_1, hf⟩ := Lt_el hf
  refine g_iast (Lw' := [sModel E aM anow aaside anames anamesAside atext aspelled acost afewestFrom afirst afresh aways aundo aslots aisSaved M_thrown M_length M_textSize M_start M_next M_token M_value M_error M_errorAt M_number M_many M_freshMany M_undos, sArrI E anow 365 now_1]) F 1 0 6 (by decide) rfl rfl (by decide) dX10_ticks_10 (by subst hnow_1; rfl) ?_
  refine g_iconst F 0 dX10_ticks_11 rfl ?_
  refine g_istore_n (lv' := [some (.ref (aM 0)), some (.int 0), none, none]) F dX10_ticks_12 (Nat.le_of_ble_eq_true rfl) rfl rfl ?_
  refine g_iconst F 0 dX10_ticks_13 rfl ?_
  refine g_istore_n (lv' := [some (.ref (aM 0)), some (.int 0), some (.int 0), none]) F dX10_ticks_14 (Nat.le_of_ble_eq_true rfl) rfl rfl ?_
  refine ktX10_ticks_L15 F aM anow aaside anames anamesAside atext aspelled acost afewestFrom afirst afresh aways aundo aslots aisSaved M_thrown M_length M_textSize M_start M_next M_token M_value M_error M_errorAt M_number M_many M_freshMany M_undos r now' (fun x1_1 now_2 hf => ?_) FU 0 0 now_1 hf
  refine g_iload_n F dX10_ticks_95 rfl ?_
  cases hf
  exact g_iret F rfl ⟨rfl, rfl⟩ dX10_ticks_96
set_option maxHeartbeats 4000000 in
set_option maxRecDepth 100000 in
theorem ctX10_size (l : Launch) (E : gE) (aM anow aaside anames anamesAside atext aspelled acost afewestFrom afirst afresh aways aundo aslots aisSaved : Nat → Nat) (x1 : Int32) (M_thrown : Int32) (M_length : Int32) (M_textSize : Int32) (M_start : Int32) (M_next : Int32) (M_token : Int32) (M_value : Int32) (M_error : Int32) (M_errorAt : Int32) (M_number : Int32) (M_many : Int32) (M_freshMany : Int32) (M_undos : Int32) (now : (Nat → Int32)) (r : Int32) (M_thrown' : Int32) (hf : fX10_size x1 M_thrown M_undos now = some (r, M_thrown')) : gMet l yX10_size wsX10_size rmX10_size vwCl E [.ref (aM 0), .int x1] [sModel E aM anow aaside anames anamesAside atext aspelled acost afewestFrom afirst afresh aways aundo aslots aisSaved M_thrown M_length M_textSize M_start M_next M_token M_value M_error M_errorAt M_number M_many M_freshMany M_undos, sArrI E anow 365 now] (fun v w => v = some (.int r) ∧ w = [sModel E aM anow aaside anames anamesAside atext aspelled acost afewestFrom afirst afresh aways aundo aslots aisSaved M_thrown' M_length M_textSize M_start M_next M_token M_value M_error M_errorAt M_number M_many M_freshMany M_undos, sArrI E anow 365 now]) 0 0 := by
  refine g_entry [some (.ref (aM 0)), some (.int x1)] (by decide) rfl (Nat.le_of_ble_eq_true rfl) rfl ?_
  intro p e s m below meth c A F hnm
  unfold fX10_size at hf
  refine g_aload_n F dX10_size_0 rfl ?_
  refine g_iconst F 0 dX10_size_1 rfl ?_
  refine g_put (C := RX10) (T := TX10) (N := 27) (tys := tyX10) (Lw' := [sModel E aM anow aaside anames anamesAside atext aspelled acost afewestFrom afirst afresh aways aundo aslots aisSaved 0 M_length M_textSize M_start M_next M_token M_value M_error M_errorAt M_number M_many M_freshMany M_undos, sArrI E anow 365 now]) F 0 0 0 rfl rfl rfl iX10_size_X10 tyX10_ok nmX10 (by decide) (by decide +kernel) rfl rfl rfl rfl (Nat.le_of_ble_eq_true rfl) dX10_size_2 rfl ?_
  refine g_aload_n F dX10_size_5 rfl ?_
  refine g_iload_n F dX10_size_6 rfl ?_
  refine g_iconst F 0 dX10_size_7 rfl ?_
  refine g_bipush F 11 dX10_size_8 rfl ?_
  obtain ⟨r_1, hg_1, hf⟩ := gb1_el hf
  refine g_callS (Lr := [sModel E aM anow aaside anames anamesAside atext aspelled acost afewestFrom afirst afresh aways aundo aslots aisSaved 0 M_length M_textSize M_start M_next M_token M_value M_error M_errorAt M_number M_many M_freshMany M_undos, sArrI E anow 365 now]) (As := [.int x1, .int 0, .int 11]) (rest := [.ref (aM 0)]) F 3 (ctX10_within l E x1 0 11 r_1 hg_1) (va_cwS 3 F.2.2.2.2.2.1 gX10_size_X10_within rfl rfl rfl h0X10_within ⟨Nat.le_of_ble_eq_true rfl, Nat.le_of_ble_eq_true rfl⟩) [] [0, 1] rfl rfl rfl rfl rfl rfl (Nat.le_of_ble_eq_true rfl) dX10_size_10 ⟨Nat.le_of_ble_eq_true rfl, Nat.le_of_ble_eq_true rfl⟩ ?_
  rintro v w ⟨rfl, rfl, hz_1⟩
  refine g_norm (Lw' := [sModel E aM anow aaside anames anamesAside atext aspelled acost afewestFrom afirst afresh aways aundo aslots aisSaved 0 M_length M_textSize M_start M_next M_token M_value M_error M_errorAt M_number M_many M_freshMany M_undos, sArrI E anow 365 now]) (st' := [.int r_1, .ref (aM 0)]) (pc' := 13) [0, 1] rfl rfl rfl rfl ?_
  obtain ⟨j_1, hj_1, hf⟩ := Lt_el hf
  have hj_1 : ∀ (t0_1 : Int32), j_1 t0_1 = some (r, M_thrown') → Gj p l e rmX10_size s m ([.ref (aM 0), .int x1] : List Value).toArray below meth c 0 0 (MQ below (gQ vwCl E A (fun v w => v = some (.int r) ∧ w = [sModel E aM anow aaside anames anamesAside atext aspelled acost afewestFrom afirst afresh aways aundo aslots aisSaved M_thrown' M_length M_textSize M_start M_next M_token M_value M_error M_errorAt M_number M_many M_freshMany M_undos, sArrI E anow 365 now])) ([.ref (aM 0), .int x1] : List Value).toArray s 0 0 A) vwCl E A [sModel E aM anow aaside anames anamesAside atext aspelled acost afewestFrom afirst afresh aways aundo aslots aisSaved 0 M_length M_textSize M_start M_next M_token M_value M_error M_errorAt M_number M_many M_freshMany M_undos, sArrI E anow 365 now] [some (.ref (aM 0)), some (.int x1)] [.int t0_1, .ref (aM 0)] 21 := by
    intro t0_1 hf
    rw [hj_1] at hf
    refine g_iconst F 1 dX10_size_21 rfl ?_
    obtain ⟨r_2, M_thrown_1, hg_2, hf⟩ := gb2_el hf
    refine g_callV (C := RX10) (T := TX10) (N := 27) (Lr := [sArrI E anow 365 now]) (As := [.int t0_1, .int 1]) (rest := []) F 0 0 2 (ctX10_throwsIf l E aM anow aaside anames anamesAside atext aspelled acost afewestFrom afirst afresh aways aundo aslots aisSaved t0_1 1 0 M_length M_textSize M_start M_next M_token M_value M_error M_errorAt M_number M_many M_freshMany M_undos r_2 M_thrown_1 hg_2) gX10_size_X10_throwsIf rfl rfl rfl h0X10_throwsIf ⟨Nat.le_of_ble_eq_true rfl, Nat.le_of_ble_eq_true rfl⟩ rfl rfl rfl [0] [1] rfl rfl rfl rfl rfl rfl (Nat.le_of_ble_eq_true rfl) dX10_size_22 ⟨Nat.le_of_ble_eq_true rfl, Nat.le_of_ble_eq_true rfl⟩ ?_
    rintro v w ⟨rfl, rfl, hz_2⟩
    refine g_norm (Lw' := [sModel E aM anow aaside anames anamesAside atext aspelled acost afewestFrom afirst afresh aways aundo aslots aisSaved M_thrown_1 M_length M_textSize M_start M_next M_token M_value M_error M_errorAt M_number M_many M_freshMany M_undos, sArrI E anow 365 now]) (st' := [.int r_2]) (pc' := 25) [0, 1] rfl rfl rfl rfl ?_
    refine g_ifeq F 30 dX10_size_25 (by decide) (fun hc_13 => ?_) (fun hc_13 => ?_)
    · replace hf := gi_t hc_13 hf
      refine g_iload_n F dX10_size_30 rfl ?_
      by_cases hc_1 : x1 = 0
      · replace hf := gi_t hc_1 hf
        refine g_tabIn F 92 0 hc_1 dX10_size_31 (by decide) (by decide) rfl (by decide) ?_
        refine g_aload_n F dX10_size_92 rfl ?_
        refine g_get (C := RX10) (T := TX10) (N := 27) F 0 0 1 rfl rfl rfl iX10_size_X10 (by decide) (by decide +kernel) rfl dX10_size_93 ?_
        refine g_iconst F 5 dX10_size_96 rfl ?_
        refine g_iald F 1 0 5 (by decide) rfl rfl (by decide) dX10_size_97 ?_
        cases hf
        exact g_iret F rfl ⟨rfl, rfl⟩ dX10_size_98
      replace hf := gi_f hc_1 hf
      by_cases hc_2 : x1 = 1
      · replace hf := gi_t hc_2 hf
        refine g_tabIn F 99 1 hc_2 dX10_size_31 (by decide) (by decide) rfl (by decide) ?_
        refine g_aload_n F dX10_size_99 rfl ?_
        refine g_get (C := RX10) (T := TX10) (N := 27) F 0 0 1 rfl rfl rfl iX10_size_X10 (by decide) (by decide +kernel) rfl dX10_size_100 ?_
        refine g_bipush F 9 dX10_size_103 rfl ?_
        refine g_iald F 1 0 9 (by decide) rfl rfl (by decide) dX10_size_105 ?_
        cases hf
        exact g_iret F rfl ⟨rfl, rfl⟩ dX10_size_106
      replace hf := gi_f hc_2 hf
      by_cases hc_3 : x1 = 2
      · replace hf := gi_t hc_3 hf
        refine g_tabIn F 107 2 hc_3 dX10_size_31 (by decide) (by decide) rfl (by decide) ?_
        refine g_aload_n F dX10_size_107 rfl ?_
        refine g_get (C := RX10) (T := TX10) (N := 27) F 0 0 1 rfl rfl rfl iX10_size_X10 (by decide) (by decide +kernel) rfl dX10_size_108 ?_
        refine g_bipush F 10 dX10_size_111 rfl ?_
        refine g_iald F 1 0 10 (by decide) rfl rfl (by decide) dX10_size_113 ?_
        cases hf
        exact g_iret F rfl ⟨rfl, rfl⟩ dX10_size_114
      replace hf := gi_f hc_3 hf
      by_cases hc_4 : x1 = 3
      · replace hf := gi_t hc_4 hf
        refine g_tabIn F 115 3 hc_4 dX10_size_31 (by decide) (by decide) rfl (by decide) ?_
        refine g_aload_n F dX10_size_115 rfl ?_
        refine g_get (C := RX10) (T := TX10) (N := 27) F 0 0 1 rfl rfl rfl iX10_size_X10 (by decide) (by decide +kernel) rfl dX10_size_116 ?_
        refine g_bipush F 6 dX10_size_119 rfl ?_
        refine g_iald F 1 0 6 (by decide) rfl rfl (by decide) dX10_size_121 ?_
        cases hf
        exact g_iret F rfl ⟨rfl, rfl⟩ dX10_size_122
      replace hf := gi_f hc_4 hf
      by_cases hc_5 : x1 = 4
      · replace hf := gi_t hc_5 hf
        refine g_tabIn F 123 4 hc_5 dX10_size_31 (by decide) (by decide) rfl (by decide) ?_
        refine g_aload_n F dX10_size_123 rfl ?_
        refine g_get (C := RX10) (T := TX10) (N := 27) F 0 0 1 rfl rfl rfl iX10_size_X10 (by decide) (by decide +kernel) rfl dX10_size_124 ?_
        refine g_bipush F 7 dX10_size_127 rfl ?_
        refine g_iald F 1 0 7 (by decide) rfl rfl (by decide) dX10_size_129 ?_
        cases hf
        exact g_iret F rfl ⟨rfl, rfl⟩ dX10_size_130
      replace hf := gi_f hc_5 hf
      by_cases hc_6 : x1 = 5
      · replace hf := gi_t hc_6 hf
        refine g_tabIn F 131 5 hc_6 dX10_size_31 (by decide) (by decide) rfl (by decide) ?_
        refine g_aload_n F dX10_size_131 rfl ?_
        refine g_get (C := RX10) (T := TX10) (N := 27) F 0 0 1 rfl rfl rfl iX10_size_X10 (by decide) (by decide +kernel) rfl dX10_size_132 ?_
        refine g_bipush F 8 dX10_size_135 rfl ?_
        refine g_iald F 1 0 8 (by decide) rfl rfl (by decide) dX10_size_137 ?_
        cases hf
        exact g_iret F rfl ⟨rfl, rfl⟩ dX10_size_138
      replace hf := gi_f hc_6 hf
      by_cases hc_7 : x1 = 6
      · replace hf := gi_t hc_7 hf
        refine g_tabIn F 144 6 hc_7 dX10_size_31 (by decide) (by decide) rfl (by decide) ?_
        refine g_aload_n F dX10_size_144 rfl ?_
        refine g_get (C := RX10) (T := TX10) (N := 27) F 0 0 1 rfl rfl rfl iX10_size_X10 (by decide) (by decide +kernel) rfl dX10_size_145 ?_
        refine g_iload_n F dX10_size_148 rfl ?_
        refine g_bipush F 6 dX10_size_149 rfl ?_
        refine g_isub F dX10_size_151 ?_
        obtain ⟨hb_1, hf⟩ := gb_in hf
        refine g_iald F 1 0 ((x1 - 6).toNatClampNeg) rfl rfl rfl hb_1 dX10_size_152 ?_
        cases hf
        exact g_iret F rfl ⟨rfl, rfl⟩ dX10_size_153
      replace hf := gi_f hc_7 hf
      by_cases hc_8 : x1 = 7
      · replace hf := gi_t hc_8 hf
        refine g_tabIn F 144 7 hc_8 dX10_size_31 (by decide) (by decide) rfl (by decide) ?_
        refine g_aload_n F dX10_size_144 rfl ?_
        refine g_get (C := RX10) (T := TX10) (N := 27) F 0 0 1 rfl rfl rfl iX10_size_X10 (by decide) (by decide +kernel) rfl dX10_size_145 ?_
        refine g_iload_n F dX10_size_148 rfl ?_
        refine g_bipush F 6 dX10_size_149 rfl ?_
        refine g_isub F dX10_size_151 ?_
        obtain ⟨hb_2, hf⟩ := gb_in hf
        refine g_iald F 1 0 ((x1 - 6).toNatClampNeg) rfl rfl rfl hb_2 dX10_size_152 ?_
        cases hf
        exact g_iret F rfl ⟨rfl, rfl⟩ dX10_size_153
      replace hf := gi_f hc_8 hf
      by_cases hc_9 : x1 = 8
      · replace hf := gi_t hc_9 hf
        refine g_tabIn F 144 8 hc_9 dX10_size_31 (by decide) (by decide) rfl (by decide) ?_
        refine g_aload_n F dX10_size_144 rfl ?_
        refine g_get (C := RX10) (T := TX10) (N := 27) F 0 0 1 rfl rfl rfl iX10_size_X10 (by decide) (by decide +kernel) rfl dX10_size_145 ?_
        refine g_iload_n F dX10_size_148 rfl ?_
        refine g_bipush F 6 dX10_size_149 rfl ?_
        refine g_isub F dX10_size_151 ?_
        obtain ⟨hb_3, hf⟩ := gb_in hf
        refine g_iald F 1 0 ((x1 - 6).toNatClampNeg) rfl rfl rfl hb_3 dX10_size_152 ?_
        cases hf
        exact g_iret F rfl ⟨rfl, rfl⟩ dX10_size_153
      replace hf := gi_f hc_9 hf
      by_cases hc_10 : x1 = 9
      · replace hf := gi_t hc_10 hf
        refine g_tabIn F 144 9 hc_10 dX10_size_31 (by decide) (by decide) rfl (by decide) ?_
        refine g_aload_n F dX10_size_144 rfl ?_
        refine g_get (C := RX10) (T := TX10) (N := 27) F 0 0 1 rfl rfl rfl iX10_size_X10 (by decide) (by decide +kernel) rfl dX10_size_145 ?_
        refine g_iload_n F dX10_size_148 rfl ?_
        refine g_bipush F 6 dX10_size_149 rfl ?_
        refine g_isub F dX10_size_151 ?_
        obtain ⟨hb_4, hf⟩ := gb_in hf
        refine g_iald F 1 0 ((x1 - 6).toNatClampNeg) rfl rfl rfl hb_4 dX10_size_152 ?_
        cases hf
        exact g_iret F rfl ⟨rfl, rfl⟩ dX10_size_153
      replace hf := gi_f hc_10 hf
      by_cases hc_11 : x1 = 10
      · replace hf := gi_t hc_11 hf
        refine g_tabIn F 144 10 hc_11 dX10_size_31 (by decide) (by decide) rfl (by decide) ?_
        refine g_aload_n F dX10_size_144 rfl ?_
        refine g_get (C := RX10) (T := TX10) (N := 27) F 0 0 1 rfl rfl rfl iX10_size_X10 (by decide) (by decide +kernel) rfl dX10_size_145 ?_
        refine g_iload_n F dX10_size_148 rfl ?_
        refine g_bipush F 6 dX10_size_149 rfl ?_
        refine g_isub F dX10_size_151 ?_
        obtain ⟨hb_5, hf⟩ := gb_in hf
        refine g_iald F 1 0 ((x1 - 6).toNatClampNeg) rfl rfl rfl hb_5 dX10_size_152 ?_
        cases hf
        exact g_iret F rfl ⟨rfl, rfl⟩ dX10_size_153
      replace hf := gi_f hc_11 hf
      by_cases hc_12 : x1 = 11
      · replace hf := gi_t hc_12 hf
        refine g_tabIn F 139 11 hc_12 dX10_size_31 (by decide) (by decide) rfl (by decide) ?_
        refine g_aload_n F dX10_size_139 rfl ?_
        refine g_get (C := RX10) (T := TX10) (N := 27) F 0 0 23 rfl rfl rfl iX10_size_X10 (by decide) (by decide +kernel) rfl dX10_size_140 ?_
        cases hf
        exact g_iret F rfl ⟨rfl, rfl⟩ dX10_size_143
      replace hf := gi_f hc_12 hf
      refine g_tabOut F 144 dX10_size_31 (gtl_11 hc_1 hc_2 hc_3 hc_4 hc_5 hc_6 hc_7 hc_8 hc_9 hc_10 hc_11 hc_12) (by decide) ?_
      refine g_aload_n F dX10_size_144 rfl ?_
      refine g_get (C := RX10) (T := TX10) (N := 27) F 0 0 1 rfl rfl rfl iX10_size_X10 (by decide) (by decide +kernel) rfl dX10_size_145 ?_
      refine g_iload_n F dX10_size_148 rfl ?_
      refine g_bipush F 6 dX10_size_149 rfl ?_
      refine g_isub F dX10_size_151 ?_
      obtain ⟨hb_6, hf⟩ := gb_in hf
      refine g_iald F 1 0 ((x1 - 6).toNatClampNeg) rfl rfl rfl hb_6 dX10_size_152 ?_
      cases hf
      exact g_iret F rfl ⟨rfl, rfl⟩ dX10_size_153
    · replace hf := gi_f hc_13 hf
      refine g_iconst F 0 dX10_size_28 rfl ?_
      cases hf
      exact g_iret F rfl ⟨rfl, rfl⟩ dX10_size_29
  refine g_ifne F 20 dX10_size_13 (by decide) (fun hc_14 => ?_) (fun hc_14 => ?_)
  · replace hf := gi_f hc_14 hf
    refine g_iconst F 0 dX10_size_20 rfl ?_
    exact hj_1 0 hf
  · replace hf := gi_t hc_14 hf
    refine g_iconst F 1 dX10_size_16 rfl ?_
    refine g_goto F 21 dX10_size_17 (by decide) ?_
    exact hj_1 1 hf
set_option maxHeartbeats 4000000 in
set_option maxRecDepth 100000 in
theorem ktX10_firstWord_L7 {p : Program} {l : Launch} {e : Env} {s : State} {m : MethodId} {args : Array Value} {below : List Frame} {meth : Method} {c : Code} {E : gE} {A : Nat → Prop} (F : gFx p s m args meth c RX10 wsX10_firstWord cX10_firstWord 4 (some .int) vwCl E A) (aM anow aaside anames anamesAside atext aspelled acost afewestFrom afirst afresh aways aundo aslots aisSaved : Nat → Nat) (x1 : Int64) (now : (Nat → Int32)) (M_thrown : Int32) (M_length : Int32) (M_textSize : Int32) (M_start : Int32) (M_next : Int32) (M_token : Int32) (M_value : Int32) (M_error : Int32) (M_errorAt : Int32) (M_number : Int32) (M_freshMany : Int32) (M_undos : Int32) (r : Int32) (M_many' : Int32) (spelled' : (Nat → Int32)) {k : Int32 → (Nat → Int32) → Option (Int32 × Int32 × (Nat → Int32))} (hk : ∀ (M_many : Int32) (spelled : (Nat → Int32)), k M_many spelled = some (r, M_many', spelled') → Gj p l e rmX10_firstWord s m args below meth c 0 0 (MQ below (gQ vwCl E A (fun v w => v = some (.int r) ∧ w = [sModel E aM anow aaside anames anamesAside atext aspelled acost afewestFrom afirst afresh aways aundo aslots aisSaved M_thrown M_length M_textSize M_start M_next M_token M_value M_error M_errorAt M_number M_many' M_freshMany M_undos, sArrI E anow 365 now, sArrI E aspelled 12 spelled'])) args s 0 0 A) vwCl E A [sModel E aM anow aaside anames anamesAside atext aspelled acost afewestFrom afirst afresh aways aundo aslots aisSaved M_thrown M_length M_textSize M_start M_next M_token M_value M_error M_errorAt M_number M_many M_freshMany M_undos, sArrI E anow 365 now, sArrI E aspelled 12 spelled] [none, none, none, none] [] 40) : ∀ (n : Nat) (x3 : Int32) (M_many : Int32) (spelled : (Nat → Int32)), fX10_firstWord_L7 x1 now k n x3 M_many spelled = some (r, M_many', spelled') → Gj p l e rmX10_firstWord s m args below meth c 0 0 (MQ below (gQ vwCl E A (fun v w => v = some (.int r) ∧ w = [sModel E aM anow aaside anames anamesAside atext aspelled acost afewestFrom afirst afresh aways aundo aslots aisSaved M_thrown M_length M_textSize M_start M_next M_token M_value M_error M_errorAt M_number M_many' M_freshMany M_undos, sArrI E anow 365 now, sArrI E aspelled 12 spelled'])) args s 0 0 A) vwCl E A [sModel E aM anow aaside anames anamesAside atext aspelled acost afewestFrom afirst afresh aways aundo aslots aisSaved M_thrown M_length M_textSize M_start M_next M_token M_value M_error M_errorAt M_number M_many M_freshMany M_undos, sArrI E anow 365 now, sArrI E aspelled 12 spelled] [some (.ref (aM 0)), some (.long x1), none, some (.int x3)] [] 7
  | 0, _, _, _, hf => by cases hf
  | n + 1, x3, M_many, spelled, hf => by
    have ih := ktX10_firstWord_L7 F aM anow aaside anames anamesAside atext aspelled acost afewestFrom afirst afresh aways aundo aslots aisSaved x1 now M_thrown M_length M_textSize M_start M_next M_token M_value M_error M_errorAt M_number M_freshMany M_undos r M_many' spelled' hk n
    rw [fX10_firstWord_L7] at hf
    refine g_iload_n F dX10_firstWord_7 rfl ?_
    refine g_aload_n F dX10_firstWord_8 rfl ?_
    refine g_get (C := RX10) (T := TX10) (N := 27) F 0 0 1 rfl rfl rfl iX10_firstWord_X10 (by decide) (by decide +kernel) rfl dX10_firstWord_9 ?_
    refine g_bipush F 10 dX10_firstWord_12 rfl ?_
    refine g_iald F 1 0 10 (by decide) rfl rfl (by decide) dX10_firstWord_14 ?_
    refine g_icmp_ge F 40 dX10_firstWord_15 (by decide) (fun hc_2 => ?_) (fun hc_2 => ?_)
    · replace hf := gi_t hc_2 hf
      refine g_mask [false, false, true, false] rfl ?_
      exact hk M_many spelled hf
    · replace hf := gi_f hc_2 hf
      refine g_aload_n F dX10_firstWord_18 rfl ?_
      refine g_iload_n F dX10_firstWord_19 rfl ?_
      obtain ⟨M_many_1, spelled_1, hg_1, hf⟩ := gb2_el hf
      refine g_callV (C := RX10) (T := TX10) (N := 27) (Lr := []) (As := [.int x3]) (rest := []) F 0 0 1 (ctX10_spellsWord l E aM anow aaside anames anamesAside atext aspelled acost afewestFrom afirst afresh aways aundo aslots aisSaved x3 M_thrown M_length M_textSize M_start M_next M_token M_value M_error M_errorAt M_number M_many M_freshMany M_undos now spelled M_many_1 spelled_1 hg_1) gX10_firstWord_X10_spellsWord rfl rfl rfl h0X10_spellsWord ⟨Nat.le_of_ble_eq_true rfl, Nat.le_of_ble_eq_true rfl⟩ rfl rfl rfl [0, 1, 2] [] rfl rfl rfl rfl rfl rfl (Nat.le_of_ble_eq_true rfl) dX10_firstWord_20 ⟨Nat.le_of_ble_eq_true rfl, Nat.le_of_ble_eq_true rfl⟩ ?_
      rintro v w ⟨rfl, rfl⟩
      refine g_norm (Lw' := [sModel E aM anow aaside anames anamesAside atext aspelled acost afewestFrom afirst afresh aways aundo aslots aisSaved M_thrown M_length M_textSize M_start M_next M_token M_value M_error M_errorAt M_number M_many_1 M_freshMany M_undos, sArrI E anow 365 now, sArrI E aspelled 12 spelled_1]) (st' := []) (pc' := 23) [0, 1, 2] rfl rfl rfl rfl ?_
      refine g_aload_n F dX10_firstWord_23 rfl ?_
      obtain ⟨r_1, hg_2, hf⟩ := gb1_el hf
      refine g_callV (C := RX10) (T := TX10) (N := 27) (Lr := [sArrI E anow 365 now]) (As := []) (rest := []) F 0 0 0 (ctX10_name l E aM anow aaside anames anamesAside atext aspelled acost afewestFrom afirst afresh aways aundo aslots aisSaved M_thrown M_length M_textSize M_start M_next M_token M_value M_error M_errorAt M_number M_many_1 M_freshMany M_undos spelled_1 r_1 hg_2) gX10_firstWord_X10_name rfl rfl rfl h0X10_name ⟨Nat.le_of_ble_eq_true rfl, Nat.le_of_ble_eq_true rfl⟩ rfl rfl rfl [0, 2] [1] rfl rfl rfl rfl rfl rfl (Nat.le_of_ble_eq_true rfl) dX10_firstWord_24 ⟨Nat.le_of_ble_eq_true rfl, Nat.le_of_ble_eq_true rfl⟩ ?_
      rintro v w ⟨rfl, rfl⟩
      refine g_norm (Lw' := [sModel E aM anow aaside anames anamesAside atext aspelled acost afewestFrom afirst afresh aways aundo aslots aisSaved M_thrown M_length M_textSize M_start M_next M_token M_value M_error M_errorAt M_number M_many_1 M_freshMany M_undos, sArrI E anow 365 now, sArrI E aspelled 12 spelled_1]) (st' := [.long r_1]) (pc' := 27) [0, 2, 1] rfl rfl rfl rfl ?_
      refine g_lload_n F dX10_firstWord_27 rfl ?_
      refine g_lcmp F dX10_firstWord_28 ?_
      refine g_ifne F 34 dX10_firstWord_29 (by decide) (fun hc_1 => ?_) (fun hc_1 => ?_)
      · replace hf := gi_f hc_1 hf
        refine g_iinc (lv' := [some (.ref (aM 0)), some (.long x1), none, some (.int (x3 + 1))]) F (x3 + 1) dX10_firstWord_34 rfl rfl rfl rfl ?_
        refine g_goto F 7 dX10_firstWord_37 (by decide) ?_
        exact ih (x3 + 1) M_many_1 spelled_1 hf
      · replace hf := gi_t hc_1 hf
        refine g_iload_n F dX10_firstWord_32 rfl ?_
        cases hf
        exact g_iret F rfl ⟨rfl, rfl⟩ dX10_firstWord_33
set_option maxHeartbeats 4000000 in
set_option maxRecDepth 100000 in
theorem ctX10_firstWord (l : Launch) (E : gE) (aM anow aaside anames anamesAside atext aspelled acost afewestFrom afirst afresh aways aundo aslots aisSaved : Nat → Nat) (M_thrown : Int32) (M_length : Int32) (M_textSize : Int32) (M_start : Int32) (M_next : Int32) (M_token : Int32) (M_value : Int32) (M_error : Int32) (M_errorAt : Int32) (M_number : Int32) (M_many : Int32) (M_freshMany : Int32) (M_undos : Int32) (now : (Nat → Int32)) (spelled : (Nat → Int32)) (r : Int32) (M_many' : Int32) (spelled' : (Nat → Int32)) (hf : fX10_firstWord M_many now spelled = some (r, M_many', spelled')) : gMet l yX10_firstWord wsX10_firstWord rmX10_firstWord vwCl E [.ref (aM 0)] [sModel E aM anow aaside anames anamesAside atext aspelled acost afewestFrom afirst afresh aways aundo aslots aisSaved M_thrown M_length M_textSize M_start M_next M_token M_value M_error M_errorAt M_number M_many M_freshMany M_undos, sArrI E anow 365 now, sArrI E aspelled 12 spelled] (fun v w => v = some (.int r) ∧ w = [sModel E aM anow aaside anames anamesAside atext aspelled acost afewestFrom afirst afresh aways aundo aslots aisSaved M_thrown M_length M_textSize M_start M_next M_token M_value M_error M_errorAt M_number M_many' M_freshMany M_undos, sArrI E anow 365 now, sArrI E aspelled 12 spelled']) 0 0 := by
  refine g_entry [some (.ref (aM 0)), none, none, none] (by decide) rfl (Nat.le_of_ble_eq_true rfl) rfl ?_
  intro p e s m below meth c A F hnm
  unfold fX10_firstWord at hf
  refine g_aload_n F dX10_firstWord_0 rfl ?_
  obtain ⟨r_1, hg_1, hf⟩ := gb1_el hf
  refine g_callV (C := RX10) (T := TX10) (N := 27) (Lr := [sArrI E anow 365 now]) (As := []) (rest := []) F 0 0 0 (ctX10_name l E aM anow aaside anames anamesAside atext aspelled acost afewestFrom afirst afresh aways aundo aslots aisSaved M_thrown M_length M_textSize M_start M_next M_token M_value M_error M_errorAt M_number M_many M_freshMany M_undos spelled r_1 hg_1) gX10_firstWord_X10_name rfl rfl rfl h0X10_name ⟨Nat.le_of_ble_eq_true rfl, Nat.le_of_ble_eq_true rfl⟩ rfl rfl rfl [0, 2] [1] rfl rfl rfl rfl rfl rfl (Nat.le_of_ble_eq_true rfl) dX10_firstWord_1 ⟨Nat.le_of_ble_eq_true rfl, Nat.le_of_ble_eq_true rfl⟩ ?_
  rintro v w ⟨rfl, rfl⟩
  refine g_norm (Lw' := [sModel E aM anow aaside anames anamesAside atext aspelled acost afewestFrom afirst afresh aways aundo aslots aisSaved M_thrown M_length M_textSize M_start M_next M_token M_value M_error M_errorAt M_number M_many M_freshMany M_undos, sArrI E anow 365 now, sArrI E aspelled 12 spelled]) (st' := [.long r_1]) (pc' := 4) [0, 2, 1] rfl rfl rfl rfl ?_
  refine g_lstore_n (lv' := [some (.ref (aM 0)), some (.long r_1), none, none]) F dX10_firstWord_4 (Nat.le_of_ble_eq_true rfl) rfl rfl ?_
  refine g_iconst F 0 dX10_firstWord_5 rfl ?_
  refine g_istore_n (lv' := [some (.ref (aM 0)), some (.long r_1), none, some (.int 0)]) F dX10_firstWord_6 (Nat.le_of_ble_eq_true rfl) rfl rfl ?_
  refine ktX10_firstWord_L7 F aM anow aaside anames anamesAside atext aspelled acost afewestFrom afirst afresh aways aundo aslots aisSaved r_1 now M_thrown M_length M_textSize M_start M_next M_token M_value M_error M_errorAt M_number M_freshMany M_undos r M_many' spelled' (fun M_many_1 spelled_1 hf => ?_) FU 0 M_many spelled hf
  refine g_iconst F (-1) dX10_firstWord_40 rfl ?_
  cases hf
  exact g_iret F rfl ⟨rfl, rfl⟩ dX10_firstWord_41
set_option maxHeartbeats 4000000 in
set_option maxRecDepth 100000 in
theorem ctX10_find (l : Launch) (E : gE) (aM anow aaside anames anamesAside atext aspelled acost afewestFrom afirst afresh aways aundo aslots aisSaved : Nat → Nat) (x1 : Int32) (M_thrown : Int32) (M_length : Int32) (M_textSize : Int32) (M_start : Int32) (M_next : Int32) (M_token : Int32) (M_value : Int32) (M_error : Int32) (M_errorAt : Int32) (M_number : Int32) (M_many : Int32) (M_freshMany : Int32) (M_undos : Int32) (now : (Nat → Int32)) (names : (Nat → Int64)) (text : (Nat → Int32)) (spelled : (Nat → Int32)) (r : Int32) (M_thrown' : Int32) (M_length' : Int32) (M_textSize' : Int32) (M_start' : Int32) (M_next' : Int32) (M_many' : Int32) (spelled' : (Nat → Int32)) (hf : fX10_find x1 M_thrown M_length M_textSize M_start M_next M_many now names text spelled = some (r, M_thrown', M_length', M_textSize', M_start', M_next', M_many', spelled')) : gMet l yX10_find wsX10_find rmX10_find vwCl E [.ref (aM 0), .int x1] [sModel E aM anow aaside anames anamesAside atext aspelled acost afewestFrom afirst afresh aways aundo aslots aisSaved M_thrown M_length M_textSize M_start M_next M_token M_value M_error M_errorAt M_number M_many M_freshMany M_undos, sArrI E anow 365 now, sArrJ E anames 4 names, sArrB E atext 600 text, sArrI E aspelled 12 spelled] (fun v w => v = some (.int r) ∧ w = [sModel E aM anow aaside anames anamesAside atext aspelled acost afewestFrom afirst afresh aways aundo aslots aisSaved M_thrown' M_length' M_textSize' M_start' M_next' M_token M_value M_error M_errorAt M_number M_many' M_freshMany M_undos, sArrI E anow 365 now, sArrJ E anames 4 names, sArrB E atext 600 text, sArrI E aspelled 12 spelled']) 0 0 := by
  refine g_entry [some (.ref (aM 0)), some (.int x1), none] (by decide) rfl (Nat.le_of_ble_eq_true rfl) rfl ?_
  intro p e s m below meth c A F hnm
  unfold fX10_find at hf
  refine g_aload_n F dX10_find_0 rfl ?_
  refine g_iconst F 0 dX10_find_1 rfl ?_
  refine g_put (C := RX10) (T := TX10) (N := 27) (tys := tyX10) (Lw' := [sModel E aM anow aaside anames anamesAside atext aspelled acost afewestFrom afirst afresh aways aundo aslots aisSaved 0 M_length M_textSize M_start M_next M_token M_value M_error M_errorAt M_number M_many M_freshMany M_undos, sArrI E anow 365 now, sArrJ E anames 4 names, sArrB E atext 600 text, sArrI E aspelled 12 spelled]) F 0 0 0 rfl rfl rfl iX10_find_X10 tyX10_ok nmX10 (by decide) (by decide +kernel) rfl rfl rfl rfl (Nat.le_of_ble_eq_true rfl) dX10_find_2 rfl ?_
  refine g_aload_n F dX10_find_5 rfl ?_
  obtain ⟨r_1, M_length_1, M_textSize_1, M_start_1, M_next_1, M_many_1, spelled_1, hg_1, hf⟩ := gb7_el hf
  refine g_callV (C := RX10) (T := TX10) (N := 27) (Lr := [sArrI E anow 365 now, sArrJ E anames 4 names]) (As := []) (rest := []) F 0 0 0 (ctX10_reads l E aM anow aaside anames anamesAside atext aspelled acost afewestFrom afirst afresh aways aundo aslots aisSaved 0 M_length M_textSize M_start M_next M_token M_value M_error M_errorAt M_number M_many M_freshMany M_undos text spelled r_1 M_length_1 M_textSize_1 M_start_1 M_next_1 M_many_1 spelled_1 hg_1) gX10_find_X10_reads rfl rfl rfl h0X10_reads ⟨Nat.le_of_ble_eq_true rfl, Nat.le_of_ble_eq_true rfl⟩ rfl rfl rfl [0, 3, 4] [1, 2] rfl rfl rfl rfl rfl rfl (Nat.le_of_ble_eq_true rfl) dX10_find_6 ⟨Nat.le_of_ble_eq_true rfl, Nat.le_of_ble_eq_true rfl⟩ ?_
  rintro v w ⟨rfl, rfl, hz_1⟩
  refine g_norm (Lw' := [sModel E aM anow aaside anames anamesAside atext aspelled acost afewestFrom afirst afresh aways aundo aslots aisSaved 0 M_length_1 M_textSize_1 M_start_1 M_next_1 M_token M_value M_error M_errorAt M_number M_many_1 M_freshMany M_undos, sArrI E anow 365 now, sArrJ E anames 4 names, sArrB E atext 600 text, sArrI E aspelled 12 spelled_1]) (st' := [.int r_1]) (pc' := 9) [0, 3, 4, 1, 2] rfl rfl rfl rfl ?_
  refine g_istore_n (lv' := [some (.ref (aM 0)), some (.int x1), some (.int r_1)]) F dX10_find_9 (Nat.le_of_ble_eq_true rfl) rfl rfl ?_
  refine g_aload_n F dX10_find_10 rfl ?_
  refine g_iload_n F dX10_find_11 rfl ?_
  refine g_iconst F 0 dX10_find_12 rfl ?_
  refine g_iconst F 2 dX10_find_13 rfl ?_
  obtain ⟨r_2, hg_2, hf⟩ := gb1_el hf
  refine g_callS (Lr := [sModel E aM anow aaside anames anamesAside atext aspelled acost afewestFrom afirst afresh aways aundo aslots aisSaved 0 M_length_1 M_textSize_1 M_start_1 M_next_1 M_token M_value M_error M_errorAt M_number M_many_1 M_freshMany M_undos, sArrI E anow 365 now, sArrJ E anames 4 names, sArrB E atext 600 text, sArrI E aspelled 12 spelled_1]) (As := [.int x1, .int 0, .int 2]) (rest := [.ref (aM 0)]) F 3 (ctX10_within l E x1 0 2 r_2 hg_2) (va_cwS 3 F.2.2.2.2.2.1 gX10_find_X10_within rfl rfl rfl h0X10_within ⟨Nat.le_of_ble_eq_true rfl, Nat.le_of_ble_eq_true rfl⟩) [] [0, 1, 2, 3, 4] rfl rfl rfl rfl rfl rfl (Nat.le_of_ble_eq_true rfl) dX10_find_14 ⟨Nat.le_of_ble_eq_true rfl, Nat.le_of_ble_eq_true rfl⟩ ?_
  rintro v w ⟨rfl, rfl, hz_2⟩
  refine g_norm (Lw' := [sModel E aM anow aaside anames anamesAside atext aspelled acost afewestFrom afirst afresh aways aundo aslots aisSaved 0 M_length_1 M_textSize_1 M_start_1 M_next_1 M_token M_value M_error M_errorAt M_number M_many_1 M_freshMany M_undos, sArrI E anow 365 now, sArrJ E anames 4 names, sArrB E atext 600 text, sArrI E aspelled 12 spelled_1]) (st' := [.int r_2, .ref (aM 0)]) (pc' := 17) [0, 1, 2, 3, 4] rfl rfl rfl rfl ?_
  obtain ⟨j_1, hj_1, hf⟩ := Lt_el hf
  have hj_1 : ∀ (t0_1 : Int32), j_1 t0_1 = some (r, M_thrown', M_length', M_textSize', M_start', M_next', M_many', spelled') → Gj p l e rmX10_find s m ([.ref (aM 0), .int x1] : List Value).toArray below meth c 0 0 (MQ below (gQ vwCl E A (fun v w => v = some (.int r) ∧ w = [sModel E aM anow aaside anames anamesAside atext aspelled acost afewestFrom afirst afresh aways aundo aslots aisSaved M_thrown' M_length' M_textSize' M_start' M_next' M_token M_value M_error M_errorAt M_number M_many' M_freshMany M_undos, sArrI E anow 365 now, sArrJ E anames 4 names, sArrB E atext 600 text, sArrI E aspelled 12 spelled'])) ([.ref (aM 0), .int x1] : List Value).toArray s 0 0 A) vwCl E A [sModel E aM anow aaside anames anamesAside atext aspelled acost afewestFrom afirst afresh aways aundo aslots aisSaved 0 M_length_1 M_textSize_1 M_start_1 M_next_1 M_token M_value M_error M_errorAt M_number M_many_1 M_freshMany M_undos, sArrI E anow 365 now, sArrJ E anames 4 names, sArrB E atext 600 text, sArrI E aspelled 12 spelled_1] [some (.ref (aM 0)), some (.int x1), some (.int r_1)] [.int t0_1, .ref (aM 0)] 25 := by
    intro t0_1 hf
    rw [hj_1] at hf
    refine g_iconst F 1 dX10_find_25 rfl ?_
    obtain ⟨r_3, M_thrown_1, hg_3, hf⟩ := gb2_el hf
    refine g_callV (C := RX10) (T := TX10) (N := 27) (Lr := [sArrI E anow 365 now, sArrJ E anames 4 names, sArrB E atext 600 text, sArrI E aspelled 12 spelled_1]) (As := [.int t0_1, .int 1]) (rest := []) F 0 0 2 (ctX10_throwsIf l E aM anow aaside anames anamesAside atext aspelled acost afewestFrom afirst afresh aways aundo aslots aisSaved t0_1 1 0 M_length_1 M_textSize_1 M_start_1 M_next_1 M_token M_value M_error M_errorAt M_number M_many_1 M_freshMany M_undos r_3 M_thrown_1 hg_3) gX10_find_X10_throwsIf rfl rfl rfl h0X10_throwsIf ⟨Nat.le_of_ble_eq_true rfl, Nat.le_of_ble_eq_true rfl⟩ rfl rfl rfl [0] [1, 2, 3, 4] rfl rfl rfl rfl rfl rfl (Nat.le_of_ble_eq_true rfl) dX10_find_26 ⟨Nat.le_of_ble_eq_true rfl, Nat.le_of_ble_eq_true rfl⟩ ?_
    rintro v w ⟨rfl, rfl, hz_3⟩
    refine g_norm (Lw' := [sModel E aM anow aaside anames anamesAside atext aspelled acost afewestFrom afirst afresh aways aundo aslots aisSaved M_thrown_1 M_length_1 M_textSize_1 M_start_1 M_next_1 M_token M_value M_error M_errorAt M_number M_many_1 M_freshMany M_undos, sArrI E anow 365 now, sArrJ E anames 4 names, sArrB E atext 600 text, sArrI E aspelled 12 spelled_1]) (st' := [.int r_3]) (pc' := 29) [0, 1, 2, 3, 4] rfl rfl rfl rfl ?_
    refine g_ifeq F 34 dX10_find_29 (by decide) (fun hc_5 => ?_) (fun hc_5 => ?_)
    · replace hf := gi_t hc_5 hf
      refine g_iload_n F dX10_find_34 rfl ?_
      refine g_ifne F 40 dX10_find_35 (by decide) (fun hc_4 => ?_) (fun hc_4 => ?_)
      · replace hf := gi_f hc_4 hf
        refine g_iload_n F dX10_find_40 rfl ?_
        refine g_ifne F 51 dX10_find_41 (by decide) (fun hc_3 => ?_) (fun hc_3 => ?_)
        · replace hf := gi_f hc_3 hf
          refine g_iload_n F dX10_find_51 rfl ?_
          refine g_iconst F 2 dX10_find_52 rfl ?_
          refine g_icmp_ne F 63 dX10_find_53 (by decide) (fun hc_2 => ?_) (fun hc_2 => ?_)
          · replace hf := gi_f hc_2 hf
            refine g_aload_n F dX10_find_63 rfl ?_
            refine g_get (C := RX10) (T := TX10) (N := 27) F 0 0 16 rfl rfl rfl iX10_find_X10 (by decide) (by decide +kernel) rfl dX10_find_64 ?_
            refine g_bipush F 6 dX10_find_67 rfl ?_
            refine g_icmp_le F 76 dX10_find_69 (by decide) (fun hc_1 => ?_) (fun hc_1 => ?_)
            · replace hf := gi_t hc_1 hf
              refine g_aload_n F dX10_find_76 rfl ?_
              refine g_aload_n F dX10_find_77 rfl ?_
              refine g_iconst F 0 dX10_find_78 rfl ?_
              refine g_aload_n F dX10_find_79 rfl ?_
              refine g_get (C := RX10) (T := TX10) (N := 27) F 0 0 16 rfl rfl rfl iX10_find_X10 (by decide) (by decide +kernel) rfl dX10_find_80 ?_
              obtain ⟨r_6, hg_6, hf⟩ := gb1_el hf
              refine g_callV (C := RX10) (T := TX10) (N := 27) (Lr := [sArrI E anow 365 now, sArrJ E anames 4 names, sArrB E atext 600 text]) (As := [.int 0, .int M_many_1]) (rest := [.ref (aM 0)]) F 0 0 2 (ctX10_code l E aM anow aaside anames anamesAside atext aspelled acost afewestFrom afirst afresh aways aundo aslots aisSaved 0 M_many_1 M_thrown_1 M_length_1 M_textSize_1 M_start_1 M_next_1 M_token M_value M_error M_errorAt M_number M_many_1 M_freshMany M_undos spelled_1 r_6 hg_6) gX10_find_X10_code rfl rfl rfl h0X10_code ⟨Nat.le_of_ble_eq_true rfl, Nat.le_of_ble_eq_true rfl⟩ rfl rfl rfl [0, 4] [1, 2, 3] rfl rfl rfl rfl rfl rfl (Nat.le_of_ble_eq_true rfl) dX10_find_83 ⟨Nat.le_of_ble_eq_true rfl, Nat.le_of_ble_eq_true rfl⟩ ?_
              rintro v w ⟨rfl, rfl⟩
              refine g_norm (Lw' := [sModel E aM anow aaside anames anamesAside atext aspelled acost afewestFrom afirst afresh aways aundo aslots aisSaved M_thrown_1 M_length_1 M_textSize_1 M_start_1 M_next_1 M_token M_value M_error M_errorAt M_number M_many_1 M_freshMany M_undos, sArrI E anow 365 now, sArrJ E anames 4 names, sArrB E atext 600 text, sArrI E aspelled 12 spelled_1]) (st' := [.int r_6, .ref (aM 0)]) (pc' := 86) [0, 2, 3, 4, 1] rfl rfl rfl rfl ?_
              obtain ⟨r_7, hg_7, hf⟩ := gb1_el hf
              refine g_callV (C := RX10) (T := TX10) (N := 27) (Lr := [sArrJ E anames 4 names, sArrB E atext 600 text, sArrI E aspelled 12 spelled_1]) (As := [.int r_6]) (rest := []) F 0 0 1 (ctX10_pieceOf l E aM anow aaside anames anamesAside atext aspelled acost afewestFrom afirst afresh aways aundo aslots aisSaved r_6 M_thrown_1 M_length_1 M_textSize_1 M_start_1 M_next_1 M_token M_value M_error M_errorAt M_number M_many_1 M_freshMany M_undos now r_7 hg_7) gX10_find_X10_pieceOf rfl rfl rfl h0X10_pieceOf ⟨Nat.le_of_ble_eq_true rfl, Nat.le_of_ble_eq_true rfl⟩ rfl rfl rfl [0, 1] [2, 3, 4] rfl rfl rfl rfl rfl rfl (Nat.le_of_ble_eq_true rfl) dX10_find_86 ⟨Nat.le_of_ble_eq_true rfl, Nat.le_of_ble_eq_true rfl⟩ ?_
              rintro v w ⟨rfl, rfl⟩
              refine g_norm (Lw' := [sModel E aM anow aaside anames anamesAside atext aspelled acost afewestFrom afirst afresh aways aundo aslots aisSaved M_thrown_1 M_length_1 M_textSize_1 M_start_1 M_next_1 M_token M_value M_error M_errorAt M_number M_many_1 M_freshMany M_undos, sArrI E anow 365 now, sArrJ E anames 4 names, sArrB E atext 600 text, sArrI E aspelled 12 spelled_1]) (st' := [.int r_7]) (pc' := 89) [0, 1, 2, 3, 4] rfl rfl rfl rfl ?_
              cases hf
              exact g_iret F rfl ⟨rfl, rfl⟩ dX10_find_89
            · replace hf := gi_f hc_1 hf
              refine g_iconst F (-1) dX10_find_72 rfl ?_
              refine g_goto F 89 dX10_find_73 (by decide) ?_
              cases hf
              exact g_iret F rfl ⟨rfl, rfl⟩ dX10_find_89
          · replace hf := gi_t hc_2 hf
            refine g_aload_n F dX10_find_56 rfl ?_
            obtain ⟨r_5, M_many_2, spelled_2, hg_5, hf⟩ := gb3_el hf
            refine g_callV (C := RX10) (T := TX10) (N := 27) (Lr := [sArrJ E anames 4 names, sArrB E atext 600 text]) (As := []) (rest := []) F 0 0 0 (ctX10_firstWord l E aM anow aaside anames anamesAside atext aspelled acost afewestFrom afirst afresh aways aundo aslots aisSaved M_thrown_1 M_length_1 M_textSize_1 M_start_1 M_next_1 M_token M_value M_error M_errorAt M_number M_many_1 M_freshMany M_undos now spelled_1 r_5 M_many_2 spelled_2 hg_5) gX10_find_X10_firstWord rfl rfl rfl h0X10_firstWord ⟨Nat.le_of_ble_eq_true rfl, Nat.le_of_ble_eq_true rfl⟩ rfl rfl rfl [0, 1, 4] [2, 3] rfl rfl rfl rfl rfl rfl (Nat.le_of_ble_eq_true rfl) dX10_find_57 ⟨Nat.le_of_ble_eq_true rfl, Nat.le_of_ble_eq_true rfl⟩ ?_
            rintro v w ⟨rfl, rfl⟩
            refine g_norm (Lw' := [sModel E aM anow aaside anames anamesAside atext aspelled acost afewestFrom afirst afresh aways aundo aslots aisSaved M_thrown_1 M_length_1 M_textSize_1 M_start_1 M_next_1 M_token M_value M_error M_errorAt M_number M_many_2 M_freshMany M_undos, sArrI E anow 365 now, sArrJ E anames 4 names, sArrB E atext 600 text, sArrI E aspelled 12 spelled_2]) (st' := [.int r_5]) (pc' := 60) [0, 1, 3, 4, 2] rfl rfl rfl rfl ?_
            refine g_goto F 89 dX10_find_60 (by decide) ?_
            cases hf
            exact g_iret F rfl ⟨rfl, rfl⟩ dX10_find_89
        · replace hf := gi_t hc_3 hf
          refine g_aload_n F dX10_find_44 rfl ?_
          obtain ⟨r_4, hg_4, hf⟩ := gb1_el hf
          refine g_callV (C := RX10) (T := TX10) (N := 27) (Lr := [sArrB E atext 600 text]) (As := []) (rest := []) F 0 0 0 (ctX10_userNamed l E aM anow aaside anames anamesAside atext aspelled acost afewestFrom afirst afresh aways aundo aslots aisSaved M_thrown_1 M_length_1 M_textSize_1 M_start_1 M_next_1 M_token M_value M_error M_errorAt M_number M_many_1 M_freshMany M_undos now names spelled_1 r_4 hg_4) gX10_find_X10_userNamed rfl rfl rfl h0X10_userNamed ⟨Nat.le_of_ble_eq_true rfl, Nat.le_of_ble_eq_true rfl⟩ rfl rfl rfl [0, 1, 2, 4] [3] rfl rfl rfl rfl rfl rfl (Nat.le_of_ble_eq_true rfl) dX10_find_45 ⟨Nat.le_of_ble_eq_true rfl, Nat.le_of_ble_eq_true rfl⟩ ?_
          rintro v w ⟨rfl, rfl⟩
          refine g_norm (Lw' := [sModel E aM anow aaside anames anamesAside atext aspelled acost afewestFrom afirst afresh aways aundo aslots aisSaved M_thrown_1 M_length_1 M_textSize_1 M_start_1 M_next_1 M_token M_value M_error M_errorAt M_number M_many_1 M_freshMany M_undos, sArrI E anow 365 now, sArrJ E anames 4 names, sArrB E atext 600 text, sArrI E aspelled 12 spelled_1]) (st' := [.int r_4]) (pc' := 48) [0, 1, 2, 4, 3] rfl rfl rfl rfl ?_
          refine g_goto F 89 dX10_find_48 (by decide) ?_
          cases hf
          exact g_iret F rfl ⟨rfl, rfl⟩ dX10_find_89
      · replace hf := gi_t hc_4 hf
        refine g_iconst F (-1) dX10_find_38 rfl ?_
        cases hf
        exact g_iret F rfl ⟨rfl, rfl⟩ dX10_find_39
    · replace hf := gi_f hc_5 hf
      refine g_iconst F 0 dX10_find_32 rfl ?_
      cases hf
      exact g_iret F rfl ⟨rfl, rfl⟩ dX10_find_33
  refine g_ifne F 24 dX10_find_17 (by decide) (fun hc_6 => ?_) (fun hc_6 => ?_)
  · replace hf := gi_f hc_6 hf
    refine g_iconst F 0 dX10_find_24 rfl ?_
    exact hj_1 0 hf
  · replace hf := gi_t hc_6 hf
    refine g_iconst F 1 dX10_find_20 rfl ?_
    refine g_goto F 25 dX10_find_21 (by decide) ?_
    exact hj_1 1 hf
set_option maxHeartbeats 4000000 in
set_option maxRecDepth 100000 in
theorem ctX10_no (l : Launch) (E : gE) (aM anow aaside anames anamesAside atext aspelled acost afewestFrom afirst afresh aways aundo aslots aisSaved : Nat → Nat) (x1 : Int32) (x2 : Int32) (M_thrown : Int32) (M_length : Int32) (M_textSize : Int32) (M_start : Int32) (M_next : Int32) (M_token : Int32) (M_value : Int32) (M_error : Int32) (M_errorAt : Int32) (M_number : Int32) (M_many : Int32) (M_freshMany : Int32) (M_undos : Int32) (r : Int32) (M_thrown' : Int32) (hf : fX10_no x1 x2 M_thrown = some (r, M_thrown')) : gMet l yX10_no wsX10_no rmX10_no vwCl E [.ref (aM 0), .int x1, .int x2] [sModel E aM anow aaside anames anamesAside atext aspelled acost afewestFrom afirst afresh aways aundo aslots aisSaved M_thrown M_length M_textSize M_start M_next M_token M_value M_error M_errorAt M_number M_many M_freshMany M_undos] (fun v w => v = some (.int r) ∧ w = [sModel E aM anow aaside anames anamesAside atext aspelled acost afewestFrom afirst afresh aways aundo aslots aisSaved M_thrown' M_length M_textSize M_start M_next M_token M_value M_error M_errorAt M_number M_many M_freshMany M_undos] ∧ narrow .boolean (.int r) = .int r) 0 0 := by
  refine g_entry [some (.ref (aM 0)), some (.int x1), some (.int x2)] (by decide) rfl (Nat.le_of_ble_eq_true rfl) rfl ?_
  intro p e s m below meth c A F hnm
  unfold fX10_no at hf
  refine g_aload_n F dX10_no_0 rfl ?_
  refine g_iload_n F dX10_no_1 rfl ?_
  refine g_iconst F 0 dX10_no_2 rfl ?_
  refine g_iload_n F dX10_no_3 rfl ?_
  refine g_iconst F 1 dX10_no_4 rfl ?_
  refine g_isub F dX10_no_5 ?_
  obtain ⟨r_1, hg_1, hf⟩ := gb1_el hf
  refine g_callS (Lr := [sModel E aM anow aaside anames anamesAside atext aspelled acost afewestFrom afirst afresh aways aundo aslots aisSaved M_thrown M_length M_textSize M_start M_next M_token M_value M_error M_errorAt M_number M_many M_freshMany M_undos]) (As := [.int x1, .int 0, .int (x2 - 1)]) (rest := [.ref (aM 0)]) F 3 (ctX10_within l E x1 0 (x2 - 1) r_1 hg_1) (va_cwS 3 F.2.2.2.2.2.1 gX10_no_X10_within rfl rfl rfl h0X10_within ⟨Nat.le_of_ble_eq_true rfl, Nat.le_of_ble_eq_true rfl⟩) [] [0] rfl rfl rfl rfl rfl rfl (Nat.le_of_ble_eq_true rfl) dX10_no_6 ⟨Nat.le_of_ble_eq_true rfl, Nat.le_of_ble_eq_true rfl⟩ ?_
  rintro v w ⟨rfl, rfl, hz_1⟩
  refine g_norm (Lw' := [sModel E aM anow aaside anames anamesAside atext aspelled acost afewestFrom afirst afresh aways aundo aslots aisSaved M_thrown M_length M_textSize M_start M_next M_token M_value M_error M_errorAt M_number M_many M_freshMany M_undos]) (st' := [.int r_1, .ref (aM 0)]) (pc' := 9) [0] rfl rfl rfl rfl ?_
  obtain ⟨j_1, hj_1, hf⟩ := Lt_el hf
  have hj_1 : ∀ (t0_1 : Int32), j_1 t0_1 = some (r, M_thrown') → Gj p l e rmX10_no s m ([.ref (aM 0), .int x1, .int x2] : List Value).toArray below meth c 0 0 (MQ below (gQ vwCl E A (fun v w => v = some (.int r) ∧ w = [sModel E aM anow aaside anames anamesAside atext aspelled acost afewestFrom afirst afresh aways aundo aslots aisSaved M_thrown' M_length M_textSize M_start M_next M_token M_value M_error M_errorAt M_number M_many M_freshMany M_undos] ∧ narrow .boolean (.int r) = .int r)) ([.ref (aM 0), .int x1, .int x2] : List Value).toArray s 0 0 A) vwCl E A [sModel E aM anow aaside anames anamesAside atext aspelled acost afewestFrom afirst afresh aways aundo aslots aisSaved M_thrown M_length M_textSize M_start M_next M_token M_value M_error M_errorAt M_number M_many M_freshMany M_undos] [none, none, none] [.int t0_1, .ref (aM 0)] 17 := by
    intro t0_1 hf
    rw [hj_1] at hf
    refine g_iconst F 1 dX10_no_17 rfl ?_
    obtain ⟨r_2, M_thrown_1, hg_2, hf⟩ := gb2_el hf
    refine g_callV (C := RX10) (T := TX10) (N := 27) (Lr := []) (As := [.int t0_1, .int 1]) (rest := []) F 0 0 2 (ctX10_throwsIf l E aM anow aaside anames anamesAside atext aspelled acost afewestFrom afirst afresh aways aundo aslots aisSaved t0_1 1 M_thrown M_length M_textSize M_start M_next M_token M_value M_error M_errorAt M_number M_many M_freshMany M_undos r_2 M_thrown_1 hg_2) gX10_no_X10_throwsIf rfl rfl rfl h0X10_throwsIf ⟨Nat.le_of_ble_eq_true rfl, Nat.le_of_ble_eq_true rfl⟩ rfl rfl rfl [0] [] rfl rfl rfl rfl rfl rfl (Nat.le_of_ble_eq_true rfl) dX10_no_18 ⟨Nat.le_of_ble_eq_true rfl, Nat.le_of_ble_eq_true rfl⟩ ?_
    rintro v w ⟨rfl, rfl, hz_2⟩
    refine g_norm (Lw' := [sModel E aM anow aaside anames anamesAside atext aspelled acost afewestFrom afirst afresh aways aundo aslots aisSaved M_thrown_1 M_length M_textSize M_start M_next M_token M_value M_error M_errorAt M_number M_many M_freshMany M_undos]) (st' := [.int r_2]) (pc' := 21) [0] rfl rfl rfl rfl ?_
    cases hf
    exact g_zret (ty := .boolean) F rfl hz_2 ⟨rfl, rfl, hz_2⟩ dX10_no_21
  refine g_ifne F 16 dX10_no_9 (by decide) (fun hc_1 => ?_) (fun hc_1 => ?_)
  · replace hf := gi_f hc_1 hf
    refine g_iconst F 0 dX10_no_16 rfl ?_
    refine g_mask [false, false, false] rfl ?_
    exact hj_1 0 hf
  · replace hf := gi_t hc_1 hf
    refine g_iconst F 1 dX10_no_12 rfl ?_
    refine g_goto F 17 dX10_no_13 (by decide) ?_
    refine g_mask [false, false, false] rfl ?_
    exact hj_1 1 hf
set_option maxHeartbeats 4000000 in
set_option maxRecDepth 100000 in
theorem ctX10_noUser (l : Launch) (E : gE) (aM anow aaside anames anamesAside atext aspelled acost afewestFrom afirst afresh aways aundo aslots aisSaved : Nat → Nat) (x1 : Int32) (M_thrown : Int32) (M_length : Int32) (M_textSize : Int32) (M_start : Int32) (M_next : Int32) (M_token : Int32) (M_value : Int32) (M_error : Int32) (M_errorAt : Int32) (M_number : Int32) (M_many : Int32) (M_freshMany : Int32) (M_undos : Int32) (now : (Nat → Int32)) (r : Int32) (M_thrown' : Int32) (hf : fX10_noUser x1 M_thrown now = some (r, M_thrown')) : gMet l yX10_noUser wsX10_noUser rmX10_noUser vwCl E [.ref (aM 0), .int x1] [sModel E aM anow aaside anames anamesAside atext aspelled acost afewestFrom afirst afresh aways aundo aslots aisSaved M_thrown M_length M_textSize M_start M_next M_token M_value M_error M_errorAt M_number M_many M_freshMany M_undos, sArrI E anow 365 now] (fun v w => v = some (.int r) ∧ w = [sModel E aM anow aaside anames anamesAside atext aspelled acost afewestFrom afirst afresh aways aundo aslots aisSaved M_thrown' M_length M_textSize M_start M_next M_token M_value M_error M_errorAt M_number M_many M_freshMany M_undos, sArrI E anow 365 now] ∧ narrow .boolean (.int r) = .int r) 0 0 := by
  refine g_entry [some (.ref (aM 0)), some (.int x1)] (by decide) rfl (Nat.le_of_ble_eq_true rfl) rfl ?_
  intro p e s m below meth c A F hnm
  unfold fX10_noUser at hf
  refine g_aload_n F dX10_noUser_0 rfl ?_
  refine g_iconst F 0 dX10_noUser_1 rfl ?_
  refine g_put (C := RX10) (T := TX10) (N := 27) (tys := tyX10) (Lw' := [sModel E aM anow aaside anames anamesAside atext aspelled acost afewestFrom afirst afresh aways aundo aslots aisSaved 0 M_length M_textSize M_start M_next M_token M_value M_error M_errorAt M_number M_many M_freshMany M_undos, sArrI E anow 365 now]) F 0 0 0 rfl rfl rfl iX10_noUser_X10 tyX10_ok nmX10 (by decide) (by decide +kernel) rfl rfl rfl rfl (Nat.le_of_ble_eq_true rfl) dX10_noUser_2 rfl ?_
  refine g_aload_n F dX10_noUser_5 rfl ?_
  refine g_iload_n F dX10_noUser_6 rfl ?_
  refine g_aload_n F dX10_noUser_7 rfl ?_
  refine g_get (C := RX10) (T := TX10) (N := 27) F 0 0 1 rfl rfl rfl iX10_noUser_X10 (by decide) (by decide +kernel) rfl dX10_noUser_8 ?_
  refine g_iconst F 5 dX10_noUser_11 rfl ?_
  refine g_iald F 1 0 5 (by decide) rfl rfl (by decide) dX10_noUser_12 ?_
  obtain ⟨r_1, M_thrown_1, hg_1, hf⟩ := gb2_el hf
  refine g_callV (C := RX10) (T := TX10) (N := 27) (Lr := [sArrI E anow 365 now]) (As := [.int x1, .int (now 5)]) (rest := []) F 0 0 2 (ctX10_no l E aM anow aaside anames anamesAside atext aspelled acost afewestFrom afirst afresh aways aundo aslots aisSaved x1 (now 5) 0 M_length M_textSize M_start M_next M_token M_value M_error M_errorAt M_number M_many M_freshMany M_undos r_1 M_thrown_1 hg_1) gX10_noUser_X10_no rfl rfl rfl h0X10_no ⟨Nat.le_of_ble_eq_true rfl, Nat.le_of_ble_eq_true rfl⟩ rfl rfl rfl [0] [1] rfl rfl rfl rfl rfl rfl (Nat.le_of_ble_eq_true rfl) dX10_noUser_13 ⟨Nat.le_of_ble_eq_true rfl, Nat.le_of_ble_eq_true rfl⟩ ?_
  rintro v w ⟨rfl, rfl, hz_1⟩
  refine g_norm (Lw' := [sModel E aM anow aaside anames anamesAside atext aspelled acost afewestFrom afirst afresh aways aundo aslots aisSaved M_thrown_1 M_length M_textSize M_start M_next M_token M_value M_error M_errorAt M_number M_many M_freshMany M_undos, sArrI E anow 365 now]) (st' := [.int r_1]) (pc' := 16) [0, 1] rfl rfl rfl rfl ?_
  cases hf
  exact g_zret (ty := .boolean) F rfl hz_1 ⟨rfl, rfl, hz_1⟩ dX10_noUser_16
set_option maxHeartbeats 4000000 in
set_option maxRecDepth 100000 in
theorem ctX10_noPiece (l : Launch) (E : gE) (aM anow aaside anames anamesAside atext aspelled acost afewestFrom afirst afresh aways aundo aslots aisSaved : Nat → Nat) (x1 : Int32) (M_thrown : Int32) (M_length : Int32) (M_textSize : Int32) (M_start : Int32) (M_next : Int32) (M_token : Int32) (M_value : Int32) (M_error : Int32) (M_errorAt : Int32) (M_number : Int32) (M_many : Int32) (M_freshMany : Int32) (M_undos : Int32) (now : (Nat → Int32)) (r : Int32) (M_thrown' : Int32) (hf : fX10_noPiece x1 M_thrown now = some (r, M_thrown')) : gMet l yX10_noPiece wsX10_noPiece rmX10_noPiece vwCl E [.ref (aM 0), .int x1] [sModel E aM anow aaside anames anamesAside atext aspelled acost afewestFrom afirst afresh aways aundo aslots aisSaved M_thrown M_length M_textSize M_start M_next M_token M_value M_error M_errorAt M_number M_many M_freshMany M_undos, sArrI E anow 365 now] (fun v w => v = some (.int r) ∧ w = [sModel E aM anow aaside anames anamesAside atext aspelled acost afewestFrom afirst afresh aways aundo aslots aisSaved M_thrown' M_length M_textSize M_start M_next M_token M_value M_error M_errorAt M_number M_many M_freshMany M_undos, sArrI E anow 365 now] ∧ narrow .boolean (.int r) = .int r) 0 0 := by
  refine g_entry [some (.ref (aM 0)), some (.int x1)] (by decide) rfl (Nat.le_of_ble_eq_true rfl) rfl ?_
  intro p e s m below meth c A F hnm
  unfold fX10_noPiece at hf
  refine g_aload_n F dX10_noPiece_0 rfl ?_
  refine g_iconst F 0 dX10_noPiece_1 rfl ?_
  refine g_put (C := RX10) (T := TX10) (N := 27) (tys := tyX10) (Lw' := [sModel E aM anow aaside anames anamesAside atext aspelled acost afewestFrom afirst afresh aways aundo aslots aisSaved 0 M_length M_textSize M_start M_next M_token M_value M_error M_errorAt M_number M_many M_freshMany M_undos, sArrI E anow 365 now]) F 0 0 0 rfl rfl rfl iX10_noPiece_X10 tyX10_ok nmX10 (by decide) (by decide +kernel) rfl rfl rfl rfl (Nat.le_of_ble_eq_true rfl) dX10_noPiece_2 rfl ?_
  refine g_aload_n F dX10_noPiece_5 rfl ?_
  refine g_iload_n F dX10_noPiece_6 rfl ?_
  refine g_aload_n F dX10_noPiece_7 rfl ?_
  refine g_get (C := RX10) (T := TX10) (N := 27) F 0 0 1 rfl rfl rfl iX10_noPiece_X10 (by decide) (by decide +kernel) rfl dX10_noPiece_8 ?_
  refine g_bipush F 9 dX10_noPiece_11 rfl ?_
  refine g_iald F 1 0 9 (by decide) rfl rfl (by decide) dX10_noPiece_13 ?_
  obtain ⟨r_1, M_thrown_1, hg_1, hf⟩ := gb2_el hf
  refine g_callV (C := RX10) (T := TX10) (N := 27) (Lr := [sArrI E anow 365 now]) (As := [.int x1, .int (now 9)]) (rest := []) F 0 0 2 (ctX10_no l E aM anow aaside anames anamesAside atext aspelled acost afewestFrom afirst afresh aways aundo aslots aisSaved x1 (now 9) 0 M_length M_textSize M_start M_next M_token M_value M_error M_errorAt M_number M_many M_freshMany M_undos r_1 M_thrown_1 hg_1) gX10_noPiece_X10_no rfl rfl rfl h0X10_no ⟨Nat.le_of_ble_eq_true rfl, Nat.le_of_ble_eq_true rfl⟩ rfl rfl rfl [0] [1] rfl rfl rfl rfl rfl rfl (Nat.le_of_ble_eq_true rfl) dX10_noPiece_14 ⟨Nat.le_of_ble_eq_true rfl, Nat.le_of_ble_eq_true rfl⟩ ?_
  rintro v w ⟨rfl, rfl, hz_1⟩
  refine g_norm (Lw' := [sModel E aM anow aaside anames anamesAside atext aspelled acost afewestFrom afirst afresh aways aundo aslots aisSaved M_thrown_1 M_length M_textSize M_start M_next M_token M_value M_error M_errorAt M_number M_many M_freshMany M_undos, sArrI E anow 365 now]) (st' := [.int r_1]) (pc' := 17) [0, 1] rfl rfl rfl rfl ?_
  cases hf
  exact g_zret (ty := .boolean) F rfl hz_1 ⟨rfl, rfl, hz_1⟩ dX10_noPiece_17
set_option maxHeartbeats 4000000 in
set_option maxRecDepth 100000 in
theorem ctX10_noWord (l : Launch) (E : gE) (aM anow aaside anames anamesAside atext aspelled acost afewestFrom afirst afresh aways aundo aslots aisSaved : Nat → Nat) (x1 : Int32) (M_thrown : Int32) (M_length : Int32) (M_textSize : Int32) (M_start : Int32) (M_next : Int32) (M_token : Int32) (M_value : Int32) (M_error : Int32) (M_errorAt : Int32) (M_number : Int32) (M_many : Int32) (M_freshMany : Int32) (M_undos : Int32) (now : (Nat → Int32)) (r : Int32) (M_thrown' : Int32) (hf : fX10_noWord x1 M_thrown now = some (r, M_thrown')) : gMet l yX10_noWord wsX10_noWord rmX10_noWord vwCl E [.ref (aM 0), .int x1] [sModel E aM anow aaside anames anamesAside atext aspelled acost afewestFrom afirst afresh aways aundo aslots aisSaved M_thrown M_length M_textSize M_start M_next M_token M_value M_error M_errorAt M_number M_many M_freshMany M_undos, sArrI E anow 365 now] (fun v w => v = some (.int r) ∧ w = [sModel E aM anow aaside anames anamesAside atext aspelled acost afewestFrom afirst afresh aways aundo aslots aisSaved M_thrown' M_length M_textSize M_start M_next M_token M_value M_error M_errorAt M_number M_many M_freshMany M_undos, sArrI E anow 365 now] ∧ narrow .boolean (.int r) = .int r) 0 0 := by
  refine g_entry [some (.ref (aM 0)), some (.int x1)] (by decide) rfl (Nat.le_of_ble_eq_true rfl) rfl ?_
  intro p e s m below meth c A F hnm
  unfold fX10_noWord at hf
  refine g_aload_n F dX10_noWord_0 rfl ?_
  refine g_iconst F 0 dX10_noWord_1 rfl ?_
  refine g_put (C := RX10) (T := TX10) (N := 27) (tys := tyX10) (Lw' := [sModel E aM anow aaside anames anamesAside atext aspelled acost afewestFrom afirst afresh aways aundo aslots aisSaved 0 M_length M_textSize M_start M_next M_token M_value M_error M_errorAt M_number M_many M_freshMany M_undos, sArrI E anow 365 now]) F 0 0 0 rfl rfl rfl iX10_noWord_X10 tyX10_ok nmX10 (by decide) (by decide +kernel) rfl rfl rfl rfl (Nat.le_of_ble_eq_true rfl) dX10_noWord_2 rfl ?_
  refine g_aload_n F dX10_noWord_5 rfl ?_
  refine g_iload_n F dX10_noWord_6 rfl ?_
  refine g_aload_n F dX10_noWord_7 rfl ?_
  refine g_get (C := RX10) (T := TX10) (N := 27) F 0 0 1 rfl rfl rfl iX10_noWord_X10 (by decide) (by decide +kernel) rfl dX10_noWord_8 ?_
  refine g_bipush F 10 dX10_noWord_11 rfl ?_
  refine g_iald F 1 0 10 (by decide) rfl rfl (by decide) dX10_noWord_13 ?_
  obtain ⟨r_1, M_thrown_1, hg_1, hf⟩ := gb2_el hf
  refine g_callV (C := RX10) (T := TX10) (N := 27) (Lr := [sArrI E anow 365 now]) (As := [.int x1, .int (now 10)]) (rest := []) F 0 0 2 (ctX10_no l E aM anow aaside anames anamesAside atext aspelled acost afewestFrom afirst afresh aways aundo aslots aisSaved x1 (now 10) 0 M_length M_textSize M_start M_next M_token M_value M_error M_errorAt M_number M_many M_freshMany M_undos r_1 M_thrown_1 hg_1) gX10_noWord_X10_no rfl rfl rfl h0X10_no ⟨Nat.le_of_ble_eq_true rfl, Nat.le_of_ble_eq_true rfl⟩ rfl rfl rfl [0] [1] rfl rfl rfl rfl rfl rfl (Nat.le_of_ble_eq_true rfl) dX10_noWord_14 ⟨Nat.le_of_ble_eq_true rfl, Nat.le_of_ble_eq_true rfl⟩ ?_
  rintro v w ⟨rfl, rfl, hz_1⟩
  refine g_norm (Lw' := [sModel E aM anow aaside anames anamesAside atext aspelled acost afewestFrom afirst afresh aways aundo aslots aisSaved M_thrown_1 M_length M_textSize M_start M_next M_token M_value M_error M_errorAt M_number M_many M_freshMany M_undos, sArrI E anow 365 now]) (st' := [.int r_1]) (pc' := 17) [0, 1] rfl rfl rfl rfl ?_
  cases hf
  exact g_zret (ty := .boolean) F rfl hz_1 ⟨rfl, rfl, hz_1⟩ dX10_noWord_17
set_option maxHeartbeats 4000000 in
set_option maxRecDepth 100000 in
theorem ktX10_ofUser_L5 {p : Program} {l : Launch} {e : Env} {s : State} {m : MethodId} {args : Array Value} {below : List Frame} {meth : Method} {c : Code} {E : gE} {A : Nat → Prop} (F : gFx p s m args meth c RX10 wsX10_ofUser cX10_ofUser 5 (some .int) vwCl E A) (aM anow aaside anames anamesAside atext aspelled acost afewestFrom afirst afresh aways aundo aslots aisSaved : Nat → Nat) (x1 : Int32) (x2 : Int32) (now : (Nat → Int32)) (M_thrown : Int32) (M_length : Int32) (M_textSize : Int32) (M_start : Int32) (M_next : Int32) (M_token : Int32) (M_value : Int32) (M_error : Int32) (M_errorAt : Int32) (M_number : Int32) (M_many : Int32) (M_freshMany : Int32) (M_undos : Int32) (r : Int32) {k : Int32 → Option (Int32)} (hk : ∀ (x3 : Int32), k x3 = some r → Gj p l e rmX10_ofUser s m args below meth c 0 0 (MQ below (gQ vwCl E A (fun v w => v = some (.int r) ∧ w = [sModel E aM anow aaside anames anamesAside atext aspelled acost afewestFrom afirst afresh aways aundo aslots aisSaved M_thrown M_length M_textSize M_start M_next M_token M_value M_error M_errorAt M_number M_many M_freshMany M_undos, sArrI E anow 365 now])) args s 0 0 A) vwCl E A [sModel E aM anow aaside anames anamesAside atext aspelled acost afewestFrom afirst afresh aways aundo aslots aisSaved M_thrown M_length M_textSize M_start M_next M_token M_value M_error M_errorAt M_number M_many M_freshMany M_undos, sArrI E anow 365 now] [some (.ref (aM 0)), some (.int x1), some (.int x2), some (.int x3), none] [] 69) : ∀ (n : Nat) (x3 : Int32) (x4 : Int32), fX10_ofUser_L5 x1 x2 now k n x3 x4 = some r → Gj p l e rmX10_ofUser s m args below meth c 0 0 (MQ below (gQ vwCl E A (fun v w => v = some (.int r) ∧ w = [sModel E aM anow aaside anames anamesAside atext aspelled acost afewestFrom afirst afresh aways aundo aslots aisSaved M_thrown M_length M_textSize M_start M_next M_token M_value M_error M_errorAt M_number M_many M_freshMany M_undos, sArrI E anow 365 now])) args s 0 0 A) vwCl E A [sModel E aM anow aaside anames anamesAside atext aspelled acost afewestFrom afirst afresh aways aundo aslots aisSaved M_thrown M_length M_textSize M_start M_next M_token M_value M_error M_errorAt M_number M_many M_freshMany M_undos, sArrI E anow 365 now] [some (.ref (aM 0)), some (.int x1), some (.int x2), some (.int x3), some (.int x4)] [] 5
  | 0, _, _, hf => by cases hf
  | n + 1, x3, x4, hf => by
    have ih := ktX10_ofUser_L5 F aM anow aaside anames anamesAside atext aspelled acost afewestFrom afirst afresh aways aundo aslots aisSaved x1 x2 now M_thrown M_length M_textSize M_start M_next M_token M_value M_error M_errorAt M_number M_many M_freshMany M_undos r hk n
    rw [fX10_ofUser_L5] at hf
    refine g_iload F dX10_ofUser_5 rfl ?_
    refine g_aload_n F dX10_ofUser_7 rfl ?_
    refine g_get (C := RX10) (T := TX10) (N := 27) F 0 0 1 rfl rfl rfl iX10_ofUser_X10 (by decide) (by decide +kernel) rfl dX10_ofUser_8 ?_
    refine g_bipush F 10 dX10_ofUser_11 rfl ?_
    refine g_iald F 1 0 10 (by decide) rfl rfl (by decide) dX10_ofUser_13 ?_
    refine g_icmp_ge F 69 dX10_ofUser_14 (by decide) (fun hc_4 => ?_) (fun hc_4 => ?_)
    · replace hf := gi_t hc_4 hf
      refine g_mask [true, true, true, true, false] rfl ?_
      exact hk x3 hf
    · replace hf := gi_f hc_4 hf
      refine g_iload_n F dX10_ofUser_17 rfl ?_
      refine g_iconst F 3 dX10_ofUser_18 rfl ?_
      refine g_icmp_ge F 69 dX10_ofUser_19 (by decide) (fun hc_3 => ?_) (fun hc_3 => ?_)
      · replace hf := gi_t hc_3 hf
        refine g_mask [true, true, true, true, false] rfl ?_
        exact hk x3 hf
      · replace hf := gi_f hc_3 hf
        refine g_iload_n F dX10_ofUser_22 rfl ?_
        refine g_aload_n F dX10_ofUser_23 rfl ?_
        refine g_iload F dX10_ofUser_24 rfl ?_
        refine g_iconst F 0 dX10_ofUser_26 rfl ?_
        obtain ⟨r_1, hg_1, hf⟩ := gb1_el hf
        refine g_callV (C := RX10) (T := TX10) (N := 27) (Lr := []) (As := [.int x4, .int 0]) (rest := [.int x3]) F 0 0 2 (ctX10_ofWord l E aM anow aaside anames anamesAside atext aspelled acost afewestFrom afirst afresh aways aundo aslots aisSaved x4 0 M_thrown M_length M_textSize M_start M_next M_token M_value M_error M_errorAt M_number M_many M_freshMany M_undos now r_1 hg_1) gX10_ofUser_X10_ofWord rfl rfl rfl h0X10_ofWord ⟨Nat.le_of_ble_eq_true rfl, Nat.le_of_ble_eq_true rfl⟩ rfl rfl rfl [0, 1] [] rfl rfl rfl rfl rfl rfl (Nat.le_of_ble_eq_true rfl) dX10_ofUser_27 ⟨Nat.le_of_ble_eq_true rfl, Nat.le_of_ble_eq_true rfl⟩ ?_
        rintro v w ⟨rfl, rfl⟩
        refine g_norm (Lw' := [sModel E aM anow aaside anames anamesAside atext aspelled acost afewestFrom afirst afresh aways aundo aslots aisSaved M_thrown M_length M_textSize M_start M_next M_token M_value M_error M_errorAt M_number M_many M_freshMany M_undos, sArrI E anow 365 now]) (st' := [.int r_1, .int x3]) (pc' := 30) [0, 1] rfl rfl rfl rfl ?_
        refine g_iload_n F dX10_ofUser_30 rfl ?_
        refine g_icmp_eq F 38 dX10_ofUser_31 (by decide) (fun hc_2 => ?_) (fun hc_2 => ?_)
        · replace hf := gi_t hc_2 hf
          refine g_iload_n F dX10_ofUser_38 rfl ?_
          refine g_iconst F 1 dX10_ofUser_39 rfl ?_
          refine g_icmp_ne F 47 dX10_ofUser_40 (by decide) (fun hc_1 => ?_) (fun hc_1 => ?_)
          · replace hf := gi_f hc_1 hf
            refine g_aload_n F dX10_ofUser_47 rfl ?_
            refine g_get (C := RX10) (T := TX10) (N := 27) F 0 0 1 rfl rfl rfl iX10_ofUser_X10 (by decide) (by decide +kernel) rfl dX10_ofUser_48 ?_
            refine g_iconst F 2 dX10_ofUser_51 rfl ?_
            refine g_iald F 1 0 2 (by decide) rfl rfl (by decide) dX10_ofUser_52 ?_
            refine g_aload_n F dX10_ofUser_53 rfl ?_
            refine g_iload F dX10_ofUser_54 rfl ?_
            refine g_iconst F 1 dX10_ofUser_56 rfl ?_
            obtain ⟨r_2, hg_2, hf⟩ := gb1_el hf
            refine g_callV (C := RX10) (T := TX10) (N := 27) (Lr := []) (As := [.int x4, .int 1]) (rest := [.int (now 2), .int x3]) F 0 0 2 (ctX10_ofWord l E aM anow aaside anames anamesAside atext aspelled acost afewestFrom afirst afresh aways aundo aslots aisSaved x4 1 M_thrown M_length M_textSize M_start M_next M_token M_value M_error M_errorAt M_number M_many M_freshMany M_undos now r_2 hg_2) gX10_ofUser_X10_ofWord rfl rfl rfl h0X10_ofWord ⟨Nat.le_of_ble_eq_true rfl, Nat.le_of_ble_eq_true rfl⟩ rfl rfl rfl [0, 1] [] rfl rfl rfl rfl rfl rfl (Nat.le_of_ble_eq_true rfl) dX10_ofUser_57 ⟨Nat.le_of_ble_eq_true rfl, Nat.le_of_ble_eq_true rfl⟩ ?_
            rintro v w ⟨rfl, rfl⟩
            refine g_norm (Lw' := [sModel E aM anow aaside anames anamesAside atext aspelled acost afewestFrom afirst afresh aways aundo aslots aisSaved M_thrown M_length M_textSize M_start M_next M_token M_value M_error M_errorAt M_number M_many M_freshMany M_undos, sArrI E anow 365 now]) (st' := [.int r_2, .int (now 2), .int x3]) (pc' := 60) [0, 1] rfl rfl rfl rfl ?_
            refine g_imul F dX10_ofUser_60 ?_
            refine g_iadd F dX10_ofUser_61 ?_
            refine g_istore_n (lv' := [some (.ref (aM 0)), some (.int x1), some (.int x2), some (.int (x3 + ((now 2) * r_2))), some (.int x4)]) F dX10_ofUser_62 (Nat.le_of_ble_eq_true rfl) rfl rfl ?_
            refine g_iinc (lv' := [some (.ref (aM 0)), some (.int x1), some (.int x2), some (.int (x3 + ((now 2) * r_2))), some (.int (x4 + 1))]) F (x4 + 1) dX10_ofUser_63 rfl rfl rfl rfl ?_
            refine g_goto F 5 dX10_ofUser_66 (by decide) ?_
            exact ih (x3 + ((now 2) * r_2)) (x4 + 1) hf
          · replace hf := gi_t hc_1 hf
            refine g_iconst F 1 dX10_ofUser_43 rfl ?_
            refine g_goto F 61 dX10_ofUser_44 (by decide) ?_
            refine g_iadd F dX10_ofUser_61 ?_
            refine g_istore_n (lv' := [some (.ref (aM 0)), some (.int x1), some (.int x2), some (.int (x3 + 1)), some (.int x4)]) F dX10_ofUser_62 (Nat.le_of_ble_eq_true rfl) rfl rfl ?_
            refine g_iinc (lv' := [some (.ref (aM 0)), some (.int x1), some (.int x2), some (.int (x3 + 1)), some (.int (x4 + 1))]) F (x4 + 1) dX10_ofUser_63 rfl rfl rfl rfl ?_
            refine g_goto F 5 dX10_ofUser_66 (by decide) ?_
            exact ih (x3 + 1) (x4 + 1) hf
        · replace hf := gi_f hc_2 hf
          refine g_iconst F 0 dX10_ofUser_34 rfl ?_
          refine g_goto F 61 dX10_ofUser_35 (by decide) ?_
          refine g_iadd F dX10_ofUser_61 ?_
          refine g_istore_n (lv' := [some (.ref (aM 0)), some (.int x1), some (.int x2), some (.int (x3 + 0)), some (.int x4)]) F dX10_ofUser_62 (Nat.le_of_ble_eq_true rfl) rfl rfl ?_
          refine g_iinc (lv' := [some (.ref (aM 0)), some (.int x1), some (.int x2), some (.int (x3 + 0)), some (.int (x4 + 1))]) F (x4 + 1) dX10_ofUser_63 rfl rfl rfl rfl ?_
          refine g_goto F 5 dX10_ofUser_66 (by decide) ?_
          exact ih (x3 + 0) (x4 + 1) hf
set_option maxHeartbeats 4000000 in
set_option maxRecDepth 100000 in
theorem ktX10_ofUser_L72 {p : Program} {l : Launch} {e : Env} {s : State} {m : MethodId} {args : Array Value} {below : List Frame} {meth : Method} {c : Code} {E : gE} {A : Nat → Prop} (F : gFx p s m args meth c RX10 wsX10_ofUser cX10_ofUser 5 (some .int) vwCl E A) (aM anow aaside anames anamesAside atext aspelled acost afewestFrom afirst afresh aways aundo aslots aisSaved : Nat → Nat) (x1 : Int32) (x2 : Int32) (now : (Nat → Int32)) (M_thrown : Int32) (M_length : Int32) (M_textSize : Int32) (M_start : Int32) (M_next : Int32) (M_token : Int32) (M_value : Int32) (M_error : Int32) (M_errorAt : Int32) (M_number : Int32) (M_many : Int32) (M_freshMany : Int32) (M_undos : Int32) (r : Int32) {k : Int32 → Option (Int32)} (hk : ∀ (x3 : Int32), k x3 = some r → Gj p l e rmX10_ofUser s m args below meth c 0 0 (MQ below (gQ vwCl E A (fun v w => v = some (.int r) ∧ w = [sModel E aM anow aaside anames anamesAside atext aspelled acost afewestFrom afirst afresh aways aundo aslots aisSaved M_thrown M_length M_textSize M_start M_next M_token M_value M_error M_errorAt M_number M_many M_freshMany M_undos, sArrI E anow 365 now])) args s 0 0 A) vwCl E A [sModel E aM anow aaside anames anamesAside atext aspelled acost afewestFrom afirst afresh aways aundo aslots aisSaved M_thrown M_length M_textSize M_start M_next M_token M_value M_error M_errorAt M_number M_many M_freshMany M_undos, sArrI E anow 365 now] [none, none, none, some (.int x3), none] [] 129) : ∀ (n : Nat) (x3 : Int32) (x4 : Int32), fX10_ofUser_L72 x1 x2 now k n x3 x4 = some r → Gj p l e rmX10_ofUser s m args below meth c 0 0 (MQ below (gQ vwCl E A (fun v w => v = some (.int r) ∧ w = [sModel E aM anow aaside anames anamesAside atext aspelled acost afewestFrom afirst afresh aways aundo aslots aisSaved M_thrown M_length M_textSize M_start M_next M_token M_value M_error M_errorAt M_number M_many M_freshMany M_undos, sArrI E anow 365 now])) args s 0 0 A) vwCl E A [sModel E aM anow aaside anames anamesAside atext aspelled acost afewestFrom afirst afresh aways aundo aslots aisSaved M_thrown M_length M_textSize M_start M_next M_token M_value M_error M_errorAt M_number M_many M_freshMany M_undos, sArrI E anow 365 now] [some (.ref (aM 0)), some (.int x1), some (.int x2), some (.int x3), some (.int x4)] [] 72
  | 0, _, _, hf => by cases hf
  | n + 1, x3, x4, hf => by
    have ih := ktX10_ofUser_L72 F aM anow aaside anames anamesAside atext aspelled acost afewestFrom afirst afresh aways aundo aslots aisSaved x1 x2 now M_thrown M_length M_textSize M_start M_next M_token M_value M_error M_errorAt M_number M_many M_freshMany M_undos r hk n
    rw [fX10_ofUser_L72] at hf
    refine g_iload F dX10_ofUser_72 rfl ?_
    refine g_aload_n F dX10_ofUser_74 rfl ?_
    refine g_get (C := RX10) (T := TX10) (N := 27) F 0 0 1 rfl rfl rfl iX10_ofUser_X10 (by decide) (by decide +kernel) rfl dX10_ofUser_75 ?_
    refine g_bipush F 9 dX10_ofUser_78 rfl ?_
    refine g_iald F 1 0 9 (by decide) rfl rfl (by decide) dX10_ofUser_80 ?_
    refine g_icmp_ge F 129 dX10_ofUser_81 (by decide) (fun hc_4 => ?_) (fun hc_4 => ?_)
    · replace hf := gi_t hc_4 hf
      refine g_mask [false, false, false, true, false] rfl ?_
      exact hk x3 hf
    · replace hf := gi_f hc_4 hf
      refine g_iload_n F dX10_ofUser_84 rfl ?_
      refine g_iconst F 2 dX10_ofUser_85 rfl ?_
      refine g_icmp_le F 129 dX10_ofUser_86 (by decide) (fun hc_3 => ?_) (fun hc_3 => ?_)
      · replace hf := gi_t hc_3 hf
        refine g_mask [false, false, false, true, false] rfl ?_
        exact hk x3 hf
      · replace hf := gi_f hc_3 hf
        refine g_iload_n F dX10_ofUser_89 rfl ?_
        refine g_aload_n F dX10_ofUser_90 rfl ?_
        refine g_iload F dX10_ofUser_91 rfl ?_
        refine g_iconst F 2 dX10_ofUser_93 rfl ?_
        obtain ⟨r_1, hg_1, hf⟩ := gb1_el hf
        refine g_callV (C := RX10) (T := TX10) (N := 27) (Lr := []) (As := [.int x4, .int 2]) (rest := [.int x3]) F 0 0 2 (ctX10_ofPiece l E aM anow aaside anames anamesAside atext aspelled acost afewestFrom afirst afresh aways aundo aslots aisSaved x4 2 M_thrown M_length M_textSize M_start M_next M_token M_value M_error M_errorAt M_number M_many M_freshMany M_undos now r_1 hg_1) gX10_ofUser_X10_ofPiece rfl rfl rfl h0X10_ofPiece ⟨Nat.le_of_ble_eq_true rfl, Nat.le_of_ble_eq_true rfl⟩ rfl rfl rfl [0, 1] [] rfl rfl rfl rfl rfl rfl (Nat.le_of_ble_eq_true rfl) dX10_ofUser_94 ⟨Nat.le_of_ble_eq_true rfl, Nat.le_of_ble_eq_true rfl⟩ ?_
        rintro v w ⟨rfl, rfl⟩
        refine g_norm (Lw' := [sModel E aM anow aaside anames anamesAside atext aspelled acost afewestFrom afirst afresh aways aundo aslots aisSaved M_thrown M_length M_textSize M_start M_next M_token M_value M_error M_errorAt M_number M_many M_freshMany M_undos, sArrI E anow 365 now]) (st' := [.int r_1, .int x3]) (pc' := 97) [0, 1] rfl rfl rfl rfl ?_
        refine g_iload_n F dX10_ofUser_97 rfl ?_
        refine g_icmp_eq F 105 dX10_ofUser_98 (by decide) (fun hc_2 => ?_) (fun hc_2 => ?_)
        · replace hf := gi_t hc_2 hf
          refine g_iload_n F dX10_ofUser_105 rfl ?_
          refine g_iconst F 3 dX10_ofUser_106 rfl ?_
          refine g_icmp_ne F 114 dX10_ofUser_107 (by decide) (fun hc_1 => ?_) (fun hc_1 => ?_)
          · replace hf := gi_f hc_1 hf
            refine g_aload_n F dX10_ofUser_114 rfl ?_
            refine g_iload F dX10_ofUser_115 rfl ?_
            refine g_iconst F 1 dX10_ofUser_117 rfl ?_
            obtain ⟨r_2, hg_2, hf⟩ := gb1_el hf
            refine g_callV (C := RX10) (T := TX10) (N := 27) (Lr := []) (As := [.int x4, .int 1]) (rest := [.int x3]) F 0 0 2 (ctX10_ofPiece l E aM anow aaside anames anamesAside atext aspelled acost afewestFrom afirst afresh aways aundo aslots aisSaved x4 1 M_thrown M_length M_textSize M_start M_next M_token M_value M_error M_errorAt M_number M_many M_freshMany M_undos now r_2 hg_2) gX10_ofUser_X10_ofPiece rfl rfl rfl h0X10_ofPiece ⟨Nat.le_of_ble_eq_true rfl, Nat.le_of_ble_eq_true rfl⟩ rfl rfl rfl [0, 1] [] rfl rfl rfl rfl rfl rfl (Nat.le_of_ble_eq_true rfl) dX10_ofUser_118 ⟨Nat.le_of_ble_eq_true rfl, Nat.le_of_ble_eq_true rfl⟩ ?_
            rintro v w ⟨rfl, rfl⟩
            refine g_norm (Lw' := [sModel E aM anow aaside anames anamesAside atext aspelled acost afewestFrom afirst afresh aways aundo aslots aisSaved M_thrown M_length M_textSize M_start M_next M_token M_value M_error M_errorAt M_number M_many M_freshMany M_undos, sArrI E anow 365 now]) (st' := [.int r_2, .int x3]) (pc' := 121) [0, 1] rfl rfl rfl rfl ?_
            refine g_iadd F dX10_ofUser_121 ?_
            refine g_istore_n (lv' := [some (.ref (aM 0)), some (.int x1), some (.int x2), some (.int (x3 + r_2)), some (.int x4)]) F dX10_ofUser_122 (Nat.le_of_ble_eq_true rfl) rfl rfl ?_
            refine g_iinc (lv' := [some (.ref (aM 0)), some (.int x1), some (.int x2), some (.int (x3 + r_2)), some (.int (x4 + 1))]) F (x4 + 1) dX10_ofUser_123 rfl rfl rfl rfl ?_
            refine g_goto F 72 dX10_ofUser_126 (by decide) ?_
            exact ih (x3 + r_2) (x4 + 1) hf
          · replace hf := gi_t hc_1 hf
            refine g_iconst F 1 dX10_ofUser_110 rfl ?_
            refine g_goto F 121 dX10_ofUser_111 (by decide) ?_
            refine g_iadd F dX10_ofUser_121 ?_
            refine g_istore_n (lv' := [some (.ref (aM 0)), some (.int x1), some (.int x2), some (.int (x3 + 1)), some (.int x4)]) F dX10_ofUser_122 (Nat.le_of_ble_eq_true rfl) rfl rfl ?_
            refine g_iinc (lv' := [some (.ref (aM 0)), some (.int x1), some (.int x2), some (.int (x3 + 1)), some (.int (x4 + 1))]) F (x4 + 1) dX10_ofUser_123 rfl rfl rfl rfl ?_
            refine g_goto F 72 dX10_ofUser_126 (by decide) ?_
            exact ih (x3 + 1) (x4 + 1) hf
        · replace hf := gi_f hc_2 hf
          refine g_iconst F 0 dX10_ofUser_101 rfl ?_
          refine g_goto F 121 dX10_ofUser_102 (by decide) ?_
          refine g_iadd F dX10_ofUser_121 ?_
          refine g_istore_n (lv' := [some (.ref (aM 0)), some (.int x1), some (.int x2), some (.int (x3 + 0)), some (.int x4)]) F dX10_ofUser_122 (Nat.le_of_ble_eq_true rfl) rfl rfl ?_
          refine g_iinc (lv' := [some (.ref (aM 0)), some (.int x1), some (.int x2), some (.int (x3 + 0)), some (.int (x4 + 1))]) F (x4 + 1) dX10_ofUser_123 rfl rfl rfl rfl ?_
          refine g_goto F 72 dX10_ofUser_126 (by decide) ?_
          exact ih (x3 + 0) (x4 + 1) hf
set_option maxHeartbeats 4000000 in
set_option maxRecDepth 100000 in
theorem ctX10_ofUser (l : Launch) (E : gE) (aM anow aaside anames anamesAside atext aspelled acost afewestFrom afirst afresh aways aundo aslots aisSaved : Nat → Nat) (x1 : Int32) (x2 : Int32) (M_thrown : Int32) (M_length : Int32) (M_textSize : Int32) (M_start : Int32) (M_next : Int32) (M_token : Int32) (M_value : Int32) (M_error : Int32) (M_errorAt : Int32) (M_number : Int32) (M_many : Int32) (M_freshMany : Int32) (M_undos : Int32) (now : (Nat → Int32)) (r : Int32) (hf : fX10_ofUser x1 x2 now = some r) : gMet l yX10_ofUser wsX10_ofUser rmX10_ofUser vwCl E [.ref (aM 0), .int x1, .int x2] [sModel E aM anow aaside anames anamesAside atext aspelled acost afewestFrom afirst afresh aways aundo aslots aisSaved M_thrown M_length M_textSize M_start M_next M_token M_value M_error M_errorAt M_number M_many M_freshMany M_undos, sArrI E anow 365 now] (fun v w => v = some (.int r) ∧ w = [sModel E aM anow aaside anames anamesAside atext aspelled acost afewestFrom afirst afresh aways aundo aslots aisSaved M_thrown M_length M_textSize M_start M_next M_token M_value M_error M_errorAt M_number M_many M_freshMany M_undos, sArrI E anow 365 now]) 0 0 := by
  refine g_entry [some (.ref (aM 0)), some (.int x1), some (.int x2), none, none] (by decide) rfl (Nat.le_of_ble_eq_true rfl) rfl ?_
  intro p e s m below meth c A F hnm
  unfold fX10_ofUser at hf
  refine g_iconst F 0 dX10_ofUser_0 rfl ?_
  refine g_istore_n (lv' := [some (.ref (aM 0)), some (.int x1), some (.int x2), some (.int 0), none]) F dX10_ofUser_1 (Nat.le_of_ble_eq_true rfl) rfl rfl ?_
  refine g_iconst F 0 dX10_ofUser_2 rfl ?_
  refine g_istore (lv' := [some (.ref (aM 0)), some (.int x1), some (.int x2), some (.int 0), some (.int 0)]) F dX10_ofUser_3 (Nat.le_of_ble_eq_true rfl) rfl rfl ?_
  refine ktX10_ofUser_L5 F aM anow aaside anames anamesAside atext aspelled acost afewestFrom afirst afresh aways aundo aslots aisSaved x1 x2 now M_thrown M_length M_textSize M_start M_next M_token M_value M_error M_errorAt M_number M_many M_freshMany M_undos r (fun x3_1 hf => ?_) FU 0 0 hf
  refine g_iconst F 0 dX10_ofUser_69 rfl ?_
  refine g_istore (lv' := [some (.ref (aM 0)), some (.int x1), some (.int x2), some (.int x3_1), some (.int 0)]) F dX10_ofUser_70 (Nat.le_of_ble_eq_true rfl) rfl rfl ?_
  refine ktX10_ofUser_L72 F aM anow aaside anames anamesAside atext aspelled acost afewestFrom afirst afresh aways aundo aslots aisSaved x1 x2 now M_thrown M_length M_textSize M_start M_next M_token M_value M_error M_errorAt M_number M_many M_freshMany M_undos r (fun x3_2 hf => ?_) FU x3_1 0 hf
  refine g_iload_n F dX10_ofUser_129 rfl ?_
  cases hf
  exact g_iret F rfl ⟨rfl, rfl⟩ dX10_ofUser_130
