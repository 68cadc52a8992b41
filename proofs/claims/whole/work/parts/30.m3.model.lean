abbrev rmX10_user : Room := { frames := 3, cells := 0, slots := 0, locals := 65 }
theorem iX10_user_X10 : ∀ w ∈ u_ws RX10 TX10 27, w ∈ wsX10_user := by decide +kernel
theorem h0X10_user : yX10_user.cls = RX10 ∧ yX10_user.cls ≠ "java/lang/invoke/MethodHandle" ∧ yX10_user.cls ≠ "java/lang/invoke/VarHandle" ∧ (parseMethodDescriptor yX10_user.desc).map (fun d => d.parameters.length) = some 2 := by decide +kernel
abbrev rmX10_piece : Room := { frames := 3, cells := 0, slots := 0, locals := 65 }
theorem h0X10_piece : yX10_piece.cls = RX10 ∧ yX10_piece.cls ≠ "java/lang/invoke/MethodHandle" ∧ yX10_piece.cls ≠ "java/lang/invoke/VarHandle" ∧ (parseMethodDescriptor yX10_piece.desc).map (fun d => d.parameters.length) = some 2 := by decide +kernel
abbrev rmX10_pieceLetter : Room := { frames := 3, cells := 0, slots := 0, locals := 65 }
theorem h0X10_pieceLetter : yX10_pieceLetter.cls = RX10 ∧ yX10_pieceLetter.cls ≠ "java/lang/invoke/MethodHandle" ∧ yX10_pieceLetter.cls ≠ "java/lang/invoke/VarHandle" ∧ (parseMethodDescriptor yX10_pieceLetter.desc).map (fun d => d.parameters.length) = some 2 := by decide +kernel
abbrev rmX10_word : Room := { frames := 3, cells := 0, slots := 0, locals := 65 }
theorem iX10_word_X10 : ∀ w ∈ u_ws RX10 TX10 27, w ∈ wsX10_word := by decide +kernel
theorem h0X10_word : yX10_word.cls = RX10 ∧ yX10_word.cls ≠ "java/lang/invoke/MethodHandle" ∧ yX10_word.cls ≠ "java/lang/invoke/VarHandle" ∧ (parseMethodDescriptor yX10_word.desc).map (fun d => d.parameters.length) = some 2 := by decide +kernel
abbrev rmX10_wordLetter : Room := { frames := 3, cells := 0, slots := 0, locals := 65 }
theorem iX10_wordLetter_X10 : ∀ w ∈ u_ws RX10 TX10 27, w ∈ wsX10_wordLetter := by decide +kernel
theorem h0X10_wordLetter : yX10_wordLetter.cls = RX10 ∧ yX10_wordLetter.cls ≠ "java/lang/invoke/MethodHandle" ∧ yX10_wordLetter.cls ≠ "java/lang/invoke/VarHandle" ∧ (parseMethodDescriptor yX10_wordLetter.desc).map (fun d => d.parameters.length) = some 2 := by decide +kernel
abbrev rmX10_part : Room := { frames := 3, cells := 0, slots := 0, locals := 65 }
theorem h0X10_part : yX10_part.cls = RX10 ∧ yX10_part.cls ≠ "java/lang/invoke/MethodHandle" ∧ yX10_part.cls ≠ "java/lang/invoke/VarHandle" ∧ (parseMethodDescriptor yX10_part.desc).map (fun d => d.parameters.length) = some 2 := by decide +kernel
abbrev rmX10_quote : Room := { frames := 5, cells := 0, slots := 0, locals := 116 }
theorem iX10_quote_X10 : ∀ w ∈ u_ws RX10 TX10 27, w ∈ wsX10_quote := by decide +kernel
theorem h0X10_quote : yX10_quote.cls = RX10 ∧ yX10_quote.cls ≠ "java/lang/invoke/MethodHandle" ∧ yX10_quote.cls ≠ "java/lang/invoke/VarHandle" ∧ (parseMethodDescriptor yX10_quote.desc).map (fun d => d.parameters.length) = some 1 := by decide +kernel
abbrev rmX10_whyNotStore : Room := { frames := 5, cells := 0, slots := 0, locals := 116 }
theorem h0X10_whyNotStore : yX10_whyNotStore.cls = RX10 ∧ yX10_whyNotStore.cls ≠ "java/lang/invoke/MethodHandle" ∧ yX10_whyNotStore.cls ≠ "java/lang/invoke/VarHandle" ∧ (parseMethodDescriptor yX10_whyNotStore.desc).map (fun d => d.parameters.length) = some 1 := by decide +kernel
abbrev rmX10_ways : Room := { frames := 3, cells := 0, slots := 0, locals := 65 }
theorem iX10_ways_X10 : ∀ w ∈ u_ws RX10 TX10 27, w ∈ wsX10_ways := by decide +kernel
theorem h0X10_ways : yX10_ways.cls = RX10 ∧ yX10_ways.cls ≠ "java/lang/invoke/MethodHandle" ∧ yX10_ways.cls ≠ "java/lang/invoke/VarHandle" ∧ (parseMethodDescriptor yX10_ways.desc).map (fun d => d.parameters.length) = some 1 := by decide +kernel
abbrev rmX10_fewest : Room := { frames := 5, cells := 0, slots := 0, locals := 118 }
theorem h0X10_fewest : yX10_fewest.cls = RX10 ∧ yX10_fewest.cls ≠ "java/lang/invoke/MethodHandle" ∧ yX10_fewest.cls ≠ "java/lang/invoke/VarHandle" ∧ (parseMethodDescriptor yX10_fewest.desc).map (fun d => d.parameters.length) = some 1 := by decide +kernel
abbrev rmX10_saving : Room := { frames := 5, cells := 0, slots := 0, locals := 118 }
theorem iX10_saving_X10 : ∀ w ∈ u_ws RX10 TX10 27, w ∈ wsX10_saving := by decide +kernel
theorem h0X10_saving : yX10_saving.cls = RX10 ∧ yX10_saving.cls ≠ "java/lang/invoke/MethodHandle" ∧ yX10_saving.cls ≠ "java/lang/invoke/VarHandle" ∧ (parseMethodDescriptor yX10_saving.desc).map (fun d => d.parameters.length) = some 1 := by decide +kernel
abbrev rmX10_fewestOfAll : Room := { frames := 5, cells := 0, slots := 0, locals := 118 }
theorem iX10_fewestOfAll_X10 : ∀ w ∈ u_ws RX10 TX10 27, w ∈ wsX10_fewestOfAll := by decide +kernel
theorem h0X10_fewestOfAll : yX10_fewestOfAll.cls = RX10 ∧ yX10_fewestOfAll.cls ≠ "java/lang/invoke/MethodHandle" ∧ yX10_fewestOfAll.cls ≠ "java/lang/invoke/VarHandle" ∧ (parseMethodDescriptor yX10_fewestOfAll.desc).map (fun d => d.parameters.length) = some 1 := by decide +kernel
abbrev rmX10_bestPart : Room := { frames := 6, cells := 0, slots := 0, locals := 141 }
theorem iX10_bestPart_X10 : ∀ w ∈ u_ws RX10 TX10 27, w ∈ wsX10_bestPart := by decide +kernel
theorem h0X10_bestPart : yX10_bestPart.cls = RX10 ∧ yX10_bestPart.cls ≠ "java/lang/invoke/MethodHandle" ∧ yX10_bestPart.cls ≠ "java/lang/invoke/VarHandle" ∧ (parseMethodDescriptor yX10_bestPart.desc).map (fun d => d.parameters.length) = some 2 := by decide +kernel
abbrev rmX10_piecesOf : Room := { frames := 1, cells := 0, slots := 0, locals := 22 }
theorem h0X10_piecesOf : yX10_piecesOf.cls = RX10 ∧ yX10_piecesOf.cls ≠ "java/lang/invoke/MethodHandle" ∧ yX10_piecesOf.cls ≠ "java/lang/invoke/VarHandle" ∧ (parseMethodDescriptor yX10_piecesOf.desc).map (fun d => d.parameters.length) = some 1 := by decide +kernel
abbrev rmX10_shared : Room := { frames := 3, cells := 0, slots := 0, locals := 65 }
theorem iX10_shared_X10 : ∀ w ∈ u_ws RX10 TX10 27, w ∈ wsX10_shared := by decide +kernel
theorem h0X10_shared : yX10_shared.cls = RX10 ∧ yX10_shared.cls ≠ "java/lang/invoke/MethodHandle" ∧ yX10_shared.cls ≠ "java/lang/invoke/VarHandle" ∧ (parseMethodDescriptor yX10_shared.desc).map (fun d => d.parameters.length) = some 2 := by decide +kernel
abbrev rmX10_favourite : Room := { frames := 1, cells := 0, slots := 0, locals := 22 }
theorem iX10_favourite_X10 : ∀ w ∈ u_ws RX10 TX10 27, w ∈ wsX10_favourite := by decide +kernel
theorem h0X10_favourite : yX10_favourite.cls = RX10 ∧ yX10_favourite.cls ≠ "java/lang/invoke/MethodHandle" ∧ yX10_favourite.cls ≠ "java/lang/invoke/VarHandle" ∧ (parseMethodDescriptor yX10_favourite.desc).map (fun d => d.parameters.length) = some 0 := by decide +kernel
abbrev rmX10_wealth : Room := { frames := 2, cells := 0, slots := 0, locals := 46 }
theorem iX10_wealth_X10 : ∀ w ∈ u_ws RX10 TX10 27, w ∈ wsX10_wealth := by decide +kernel
theorem h0X10_wealth : yX10_wealth.cls = RX10 ∧ yX10_wealth.cls ≠ "java/lang/invoke/MethodHandle" ∧ yX10_wealth.cls ≠ "java/lang/invoke/VarHandle" ∧ (parseMethodDescriptor yX10_wealth.desc).map (fun d => d.parameters.length) = some 1 := by decide +kernel
abbrev rmX10_richest : Room := { frames := 3, cells := 0, slots := 0, locals := 67 }
theorem iX10_richest_X10 : ∀ w ∈ u_ws RX10 TX10 27, w ∈ wsX10_richest := by decide +kernel
theorem h0X10_richest : yX10_richest.cls = RX10 ∧ yX10_richest.cls ≠ "java/lang/invoke/MethodHandle" ∧ yX10_richest.cls ≠ "java/lang/invoke/VarHandle" ∧ (parseMethodDescriptor yX10_richest.desc).map (fun d => d.parameters.length) = some 0 := by decide +kernel
def fX10_user (x1 : Int32) (x2 : Int32) (M_thrown : Int32) (now : (Nat → Int32)) : Option (Int32 × Int32) := gb2 (fX10_noUser x1 M_thrown now) fun (r_1 : Int32) (M_thrown_1 : Int32) => if r_1 = 0 then (gb1 (fX10_within x2 0 4) fun (r_2 : Int32) => Lt (fun (t0_1 : Int32) => (gb2 (fX10_throwsIf t0_1 2 M_thrown_1) fun (r_3 : Int32) (M_thrown_2 : Int32) => if r_3 = 0 then (if x2 = 0 then (if (17 + x1) < 0 ∨ 365 ≤ (17 + x1).toNatClampNeg then none else some (now ((17 + x1).toNatClampNeg), M_thrown_2)) else (gb1 (fX10_ofUser x1 x2 now) fun (r_4 : Int32) => some (r_4, M_thrown_2))) else (some (0, M_thrown_2)))) fun (j_1 : Int32 → Option (Int32 × Int32)) => if r_2 = 0 then (j_1 1) else (j_1 0)) else (some (0, M_thrown_1))
def fX10_piece (x1 : Int32) (x2 : Int32) (M_thrown : Int32) (now : (Nat → Int32)) : Option (Int32 × Int32) := gb2 (fX10_noPiece x1 M_thrown now) fun (r_1 : Int32) (M_thrown_1 : Int32) => if r_1 = 0 then (gb1 (fX10_within x2 0 4) fun (r_2 : Int32) => Lt (fun (t0_1 : Int32) => (gb2 (fX10_throwsIf t0_1 2 M_thrown_1) fun (r_3 : Int32) (M_thrown_2 : Int32) => if r_3 = 0 then (if x2 = 0 then (gb1 (fX10_ofPiece x1 0 now) fun (r_4 : Int32) => gb1 (fX10_lettersOf r_4) fun (r_5 : Int32) => some (r_5, M_thrown_2)) else (Lt ((gb1 (fX10_ofPiece x1 x2 now) fun (r_6 : Int32) => some (r_6, M_thrown_2)) : Option (Int32 × Int32)) fun (j_2 : Option (Int32 × Int32)) => if x2 = 4 then (gb1 (fX10_ofPiece x1 3 now) fun (r_7 : Int32) => if r_7 ≤ 0 then (j_2) else (some ((-1), M_thrown_2))) else (j_2))) else (some (0, M_thrown_2)))) fun (j_1 : Int32 → Option (Int32 × Int32)) => if r_2 = 0 then (j_1 1) else (j_1 0)) else (some (0, M_thrown_1))
def fX10_pieceLetter (x1 : Int32) (x2 : Int32) (M_thrown : Int32) (now : (Nat → Int32)) : Option (Int32 × Int32) := gb2 (fX10_noPiece x1 M_thrown now) fun (r_1 : Int32) (M_thrown_1 : Int32) => if r_1 = 0 then (gb1 (fX10_ofPiece x1 0 now) fun (r_2 : Int32) => gb1 (fX10_lettersOf r_2) fun (r_3 : Int32) => gb1 (fX10_within x2 0 (r_3 - 1)) fun (r_4 : Int32) => if r_4 = 0 then (some ((-1), M_thrown_1)) else (gb1 (fX10_ofPiece x1 0 now) fun (r_5 : Int32) => some (((r_5 >>> ((5 * ((r_3 - 1) - x2)) &&& 31)) &&& 31) - 1, M_thrown_1))) else (some (0, M_thrown_1))
def fX10_word (x1 : Int32) (x2 : Int32) (M_thrown : Int32) (M_many : Int32) (now : (Nat → Int32)) (spelled : (Nat → Int32)) : Option (Int32 × Int32 × Int32 × (Nat → Int32)) := gb2 (fX10_noWord x1 M_thrown now) fun (r_1 : Int32) (M_thrown_1 : Int32) => if r_1 = 0 then (gb1 (fX10_within x2 0 3) fun (r_2 : Int32) => Lt (fun (t0_1 : Int32) => (gb2 (fX10_throwsIf t0_1 2 M_thrown_1) fun (r_3 : Int32) (M_thrown_2 : Int32) => if r_3 = 0 then (gb2 (fX10_spellsWord x1 M_many now spelled) fun (M_many_1 : Int32) (spelled_1 : (Nat → Int32)) => if x2 = 0 then (gb1 (fX10_ofWord x1 0 now) fun (r_4 : Int32) => some (r_4, M_thrown_2, M_many_1, spelled_1)) else (if x2 = 1 then (some (M_many_1, M_thrown_2, M_many_1, spelled_1)) else (if x2 = 2 then (gb1 (fX10_ofWord x1 1 now) fun (r_5 : Int32) => some (r_5, M_thrown_2, M_many_1, spelled_1)) else (gb1 (fX10_ofWord x1 1 now) fun (r_6 : Int32) => some ((now 2) * r_6, M_thrown_2, M_many_1, spelled_1))))) else (some (0, M_thrown_2, M_many, spelled)))) fun (j_1 : Int32 → Option (Int32 × Int32 × Int32 × (Nat → Int32))) => if r_2 = 0 then (j_1 1) else (j_1 0)) else (some (0, M_thrown_1, M_many, spelled))
def fX10_wordLetter (x1 : Int32) (x2 : Int32) (M_thrown : Int32) (M_many : Int32) (now : (Nat → Int32)) (spelled : (Nat → Int32)) : Option (Int32 × Int32 × Int32 × (Nat → Int32)) := gb2 (fX10_noWord x1 M_thrown now) fun (r_1 : Int32) (M_thrown_1 : Int32) => if r_1 = 0 then (gb2 (fX10_spellsWord x1 M_many now spelled) fun (M_many_1 : Int32) (spelled_1 : (Nat → Int32)) => gb1 (fX10_within x2 0 (M_many_1 - 1)) fun (r_2 : Int32) => if r_2 = 0 then (some ((-1), M_thrown_1, M_many_1, spelled_1)) else (if x2 < 0 ∨ 12 ≤ x2.toNatClampNeg then none else some ((spelled_1 (x2.toNatClampNeg)) - 1, M_thrown_1, M_many_1, spelled_1))) else (some (0, M_thrown_1, M_many, spelled))
def fX10_part (x1 : Int32) (x2 : Int32) (M_thrown : Int32) (now : (Nat → Int32)) : Option (Int32 × Int32) := gb2 (fX10_noWord x1 M_thrown now) fun (r_1 : Int32) (M_thrown_1 : Int32) => if r_1 = 0 then (gb1 (fX10_ofWord x1 1 now) fun (r_2 : Int32) => gb1 (fX10_within x2 0 (r_2 - 1)) fun (r_3 : Int32) => if r_3 = 0 then (some ((-1), M_thrown_1)) else (gb1 (fX10_ofWord x1 (2 + x2) now) fun (r_4 : Int32) => some (r_4, M_thrown_1))) else (some (0, M_thrown_1))
def fX10_quote (x1 : Int32) (M_thrown : Int32) (M_length : Int32) (M_textSize : Int32) (M_start : Int32) (M_next : Int32) (M_many : Int32) (M_freshMany : Int32) (now : (Nat → Int32)) (text : (Nat → Int32)) (spelled : (Nat → Int32)) (cost : (Nat → Int32)) (fewestFrom : (Nat → Int32)) (first : (Nat → Int32)) (fresh : (Nat → Int32)) : Option (Int32 × Int32 × Int32 × Int32 × Int32 × Int32 × Int32 × Int32 × (Nat → Int32) × (Nat → Int32) × (Nat → Int32) × (Nat → Int32) × (Nat → Int32)) := gb7 (fX10_reads M_length M_textSize M_start M_next M_many text spelled) fun (r_1 : Int32) (M_length_1 : Int32) (M_textSize_1 : Int32) (M_start_1 : Int32) (M_next_1 : Int32) (M_many_1 : Int32) (spelled_1 : (Nat → Int32)) => gb1 (fX10_within x1 0 4) fun (r_2 : Int32) => Lt (fun (t0_1 : Int32) => (gb2 (fX10_throwsIf t0_1 1 0) fun (r_3 : Int32) (M_thrown_1 : Int32) => if r_3 = 0 then (if r_1 = 0 then (some ((-1), M_thrown_1, M_length_1, M_textSize_1, M_start_1, M_next_1, M_many_1, M_freshMany, spelled_1, cost, fewestFrom, first, fresh)) else (gb3 (fX10_cutsCheapest M_many_1 now spelled_1 cost fewestFrom first) fun (cost_1 : (Nat → Int32)) (fewestFrom_1 : (Nat → Int32)) (first_1 : (Nat → Int32)) => gb2 (fX10_laysFresh M_many_1 M_freshMany now spelled_1 first_1 fresh) fun (M_freshMany_1 : Int32) (fresh_1 : (Nat → Int32)) => if x1 = 0 then (gb1 (fX10_freshPrice M_freshMany_1 now fresh_1) fun (r_4 : Int32) => some (((now 2) * (fewestFrom_1 0)) + r_4, M_thrown_1, M_length_1, M_textSize_1, M_start_1, M_next_1, M_many_1, M_freshMany_1, spelled_1, cost_1, fewestFrom_1, first_1, fresh_1)) else (if x1 = 1 then (some ((now 2) * (fewestFrom_1 0), M_thrown_1, M_length_1, M_textSize_1, M_start_1, M_next_1, M_many_1, M_freshMany_1, spelled_1, cost_1, fewestFrom_1, first_1, fresh_1)) else (if x1 = 2 then (gb1 (fX10_freshPrice M_freshMany_1 now fresh_1) fun (r_5 : Int32) => some (r_5, M_thrown_1, M_length_1, M_textSize_1, M_start_1, M_next_1, M_many_1, M_freshMany_1, spelled_1, cost_1, fewestFrom_1, first_1, fresh_1)) else (if x1 = 3 then (some (fewestFrom_1 0, M_thrown_1, M_length_1, M_textSize_1, M_start_1, M_next_1, M_many_1, M_freshMany_1, spelled_1, cost_1, fewestFrom_1, first_1, fresh_1)) else (some (M_freshMany_1, M_thrown_1, M_length_1, M_textSize_1, M_start_1, M_next_1, M_many_1, M_freshMany_1, spelled_1, cost_1, fewestFrom_1, first_1, fresh_1))))))) else (some (0, M_thrown_1, M_length_1, M_textSize_1, M_start_1, M_next_1, M_many_1, M_freshMany, spelled_1, cost, fewestFrom, first, fresh)))) fun (j_1 : Int32 → Option (Int32 × Int32 × Int32 × Int32 × Int32 × Int32 × Int32 × Int32 × (Nat → Int32) × (Nat → Int32) × (Nat → Int32) × (Nat → Int32) × (Nat → Int32))) => if r_2 = 0 then (j_1 1) else (j_1 0)
def fX10_whyNotStore (x1 : Int32) (M_thrown : Int32) (M_length : Int32) (M_textSize : Int32) (M_start : Int32) (M_next : Int32) (M_many : Int32) (M_freshMany : Int32) (now : (Nat → Int32)) (text : (Nat → Int32)) (spelled : (Nat → Int32)) (cost : (Nat → Int32)) (fewestFrom : (Nat → Int32)) (first : (Nat → Int32)) (fresh : (Nat → Int32)) : Option (Int32 × Int32 × Int32 × Int32 × Int32 × Int32 × Int32 × Int32 × (Nat → Int32) × (Nat → Int32) × (Nat → Int32) × (Nat → Int32) × (Nat → Int32)) := gb7 (fX10_reads M_length M_textSize M_start M_next M_many text spelled) fun (r_1 : Int32) (M_length_1 : Int32) (M_textSize_1 : Int32) (M_start_1 : Int32) (M_next_1 : Int32) (M_many_1 : Int32) (spelled_1 : (Nat → Int32)) => gb2 (fX10_noUser x1 M_thrown now) fun (r_2 : Int32) (M_thrown_1 : Int32) => if r_2 = 0 then (if r_1 = 0 then (some (1, M_thrown_1, M_length_1, M_textSize_1, M_start_1, M_next_1, M_many_1, M_freshMany, spelled_1, cost, fewestFrom, first, fresh)) else (gb3 (fX10_cutsCheapest M_many_1 now spelled_1 cost fewestFrom first) fun (cost_1 : (Nat → Int32)) (fewestFrom_1 : (Nat → Int32)) (first_1 : (Nat → Int32)) => gb3 (fX10_why x1 M_many_1 M_freshMany now spelled_1 fewestFrom_1 first_1 fresh) fun (r_3 : Int32) (M_freshMany_1 : Int32) (fresh_1 : (Nat → Int32)) => some (r_3, M_thrown_1, M_length_1, M_textSize_1, M_start_1, M_next_1, M_many_1, M_freshMany_1, spelled_1, cost_1, fewestFrom_1, first_1, fresh_1))) else (some (0, M_thrown_1, M_length_1, M_textSize_1, M_start_1, M_next_1, M_many_1, M_freshMany, spelled_1, cost, fewestFrom, first, fresh))
def fX10_ways_L45 (x2 : Int32) (M_many : Int32) (now : (Nat → Int32)) (spelled : (Nat → Int32)) (k : (Nat → Int32) → Option (Int32 × Int32 × Int32 × (Nat → Int32) × (Nat → Int32))) : Nat → Int32 → (Nat → Int32) → Option (Int32 × Int32 × Int32 × (Nat → Int32) × (Nat → Int32))
  | 0, _, _ => none
  | n + 1, x3, ways => if 6 < x3 then (k ways) else (if M_many < (x2 + x3) then (k ways) else (if x2 < 0 ∨ 13 ≤ x2.toNatClampNeg then none else gb1 (fX10_code x2 x3 spelled) fun (r_1 : Int32) => gb1 (fX10_pieceOf r_1 now) fun (r_2 : Int32) => Lt (fun (t0_1 : Int32) => (if x2 < 0 ∨ 13 ≤ x2.toNatClampNeg then none else Lt (upd ways (x2.toNatClampNeg) ((ways (x2.toNatClampNeg)) + t0_1)) fun (ways_1 : (Nat → Int32)) => fX10_ways_L45 x2 M_many now spelled k n (x3 + 1) ways_1)) fun (j_1 : Int32 → Option (Int32 × Int32 × Int32 × (Nat → Int32) × (Nat → Int32))) => if r_2 = (-1) then (j_1 0) else (if (x2 + x3) < 0 ∨ 13 ≤ (x2 + x3).toNatClampNeg then none else j_1 (ways ((x2 + x3).toNatClampNeg)))))
def fX10_ways_L32 (M_many : Int32) (now : (Nat → Int32)) (spelled : (Nat → Int32)) (k : (Nat → Int32) → Option (Int32 × Int32 × Int32 × (Nat → Int32) × (Nat → Int32))) : Nat → Int32 → (Nat → Int32) → Option (Int32 × Int32 × Int32 × (Nat → Int32) × (Nat → Int32))
  | 0, _, _ => none
  | n + 1, x2, ways => if x2 < 0 then (k ways) else (if x2 < 0 ∨ 13 ≤ x2.toNatClampNeg then none else Lt (upd ways (x2.toNatClampNeg) 0) fun (ways_1 : (Nat → Int32)) => fX10_ways_L45 x2 M_many now spelled (fun (ways_2 : (Nat → Int32)) => (fX10_ways_L32 M_many now spelled k n (x2 + (-1)) ways_2)) FU 1 ways_1)
def fX10_ways (x1 : Int32) (M_thrown : Int32) (M_many : Int32) (now : (Nat → Int32)) (spelled : (Nat → Int32)) (ways : (Nat → Int32)) : Option (Int32 × Int32 × Int32 × (Nat → Int32) × (Nat → Int32)) := gb2 (fX10_noWord x1 M_thrown now) fun (r_1 : Int32) (M_thrown_1 : Int32) => if r_1 = 0 then (gb2 (fX10_spellsWord x1 M_many now spelled) fun (M_many_1 : Int32) (spelled_1 : (Nat → Int32)) => if M_many_1 < 0 ∨ 13 ≤ M_many_1.toNatClampNeg then none else Lt (upd ways (M_many_1.toNatClampNeg) 1) fun (ways_1 : (Nat → Int32)) => fX10_ways_L32 M_many_1 now spelled_1 (fun (ways_2 : (Nat → Int32)) => (some (ways_2 0, M_thrown_1, M_many_1, spelled_1, ways_2))) FU (M_many_1 - 1) ways_1) else (some (0, M_thrown_1, M_many, spelled, ways))
def fX10_fewest (x1 : Int32) (M_thrown : Int32) (M_many : Int32) (now : (Nat → Int32)) (spelled : (Nat → Int32)) (cost : (Nat → Int32)) (fewestFrom : (Nat → Int32)) (first : (Nat → Int32)) : Option (Int32 × Int32 × Int32 × (Nat → Int32) × (Nat → Int32) × (Nat → Int32) × (Nat → Int32)) := gb2 (fX10_noWord x1 M_thrown now) fun (r_1 : Int32) (M_thrown_1 : Int32) => if r_1 = 0 then (gb6 (fX10_fewestOf x1 0 M_many now spelled cost fewestFrom first) fun (r_2 : Int32) (M_many_1 : Int32) (spelled_1 : (Nat → Int32)) (cost_1 : (Nat → Int32)) (fewestFrom_1 : (Nat → Int32)) (first_1 : (Nat → Int32)) => some (r_2, M_thrown_1, M_many_1, spelled_1, cost_1, fewestFrom_1, first_1)) else (some (0, M_thrown_1, M_many, spelled, cost, fewestFrom, first))
def fX10_saving (x1 : Int32) (M_thrown : Int32) (M_many : Int32) (now : (Nat → Int32)) (spelled : (Nat → Int32)) (cost : (Nat → Int32)) (fewestFrom : (Nat → Int32)) (first : (Nat → Int32)) : Option (Int32 × Int32 × Int32 × (Nat → Int32) × (Nat → Int32) × (Nat → Int32) × (Nat → Int32)) := gb2 (fX10_noWord x1 M_thrown now) fun (r_1 : Int32) (M_thrown_1 : Int32) => if r_1 = 0 then (gb1 (fX10_ofWord x1 1 now) fun (r_2 : Int32) => gb6 (fX10_fewestOf x1 0 M_many now spelled cost fewestFrom first) fun (r_3 : Int32) (M_many_1 : Int32) (spelled_1 : (Nat → Int32)) (cost_1 : (Nat → Int32)) (fewestFrom_1 : (Nat → Int32)) (first_1 : (Nat → Int32)) => some ((now 2) * (r_2 - r_3), M_thrown_1, M_many_1, spelled_1, cost_1, fewestFrom_1, first_1)) else (some (0, M_thrown_1, M_many, spelled, cost, fewestFrom, first))
def fX10_fewestOfAll_L4 (x1 : Int32) (now : (Nat → Int32)) (k : Int32 → Int32 → (Nat → Int32) → (Nat → Int32) → (Nat → Int32) → (Nat → Int32) → Option (Int32 × Int32 × (Nat → Int32) × (Nat → Int32) × (Nat → Int32) × (Nat → Int32))) : Nat → Int32 → Int32 → Int32 → (Nat → Int32) → (Nat → Int32) → (Nat → Int32) → (Nat → Int32) → Option (Int32 × Int32 × (Nat → Int32) × (Nat → Int32) × (Nat → Int32) × (Nat → Int32))
  | 0, _, _, _, _, _, _, _ => none
  | n + 1, x2, x3, M_many, spelled, cost, fewestFrom, first => if (now 10) ≤ x3 then (k x2 M_many spelled cost fewestFrom first) else (gb6 (fX10_fewestOf x3 x1 M_many now spelled cost fewestFrom first) fun (r_1 : Int32) (M_many_1 : Int32) (spelled_1 : (Nat → Int32)) (cost_1 : (Nat → Int32)) (fewestFrom_1 : (Nat → Int32)) (first_1 : (Nat → Int32)) => fX10_fewestOfAll_L4 x1 now k n (x2 + r_1) (x3 + 1) M_many_1 spelled_1 cost_1 fewestFrom_1 first_1)
def fX10_fewestOfAll (x1 : Int32) (M_many : Int32) (now : (Nat → Int32)) (spelled : (Nat → Int32)) (cost : (Nat → Int32)) (fewestFrom : (Nat → Int32)) (first : (Nat → Int32)) : Option (Int32 × Int32 × (Nat → Int32) × (Nat → Int32) × (Nat → Int32) × (Nat → Int32)) := fX10_fewestOfAll_L4 x1 now (fun (x2_1 : Int32) (M_many_1 : Int32) (spelled_1 : (Nat → Int32)) (cost_1 : (Nat → Int32)) (fewestFrom_1 : (Nat → Int32)) (first_1 : (Nat → Int32)) => (some (x2_1, M_many_1, spelled_1, cost_1, fewestFrom_1, first_1))) FU 0 0 M_many spelled cost fewestFrom first
def fX10_bestPart_L71 (x1 : Int32) (x2 : Int32) (x3 : Int32) (x7 : Int32) (x8 : Int32) (now : (Nat → Int32)) (k : Int32 → Int32 → Int32 → Int32 → (Nat → Int32) → (Nat → Int32) → (Nat → Int32) → (Nat → Int32) → Option (Int32 × Int32 × Int32 × (Nat → Int32) × (Nat → Int32) × (Nat → Int32) × (Nat → Int32))) : Nat → Int32 → Int32 → Int32 → Int32 → Int32 → (Nat → Int32) → (Nat → Int32) → (Nat → Int32) → (Nat → Int32) → Option (Int32 × Int32 × Int32 × (Nat → Int32) × (Nat → Int32) × (Nat → Int32) × (Nat → Int32))
  | 0, _, _, _, _, _, _, _, _, _ => none
  | n + 1, x4, x5, x6, x9, M_many, spelled, cost, fewestFrom, first => if x7 < (x9 + x8) then (k x4 x5 x6 M_many spelled cost fewestFrom first) else (gb2 (fX10_spellsWord x1 M_many now spelled) fun (M_many_1 : Int32) (spelled_1 : (Nat → Int32)) => gb1 (fX10_code x9 x8 spelled_1) fun (r_1 : Int32) => gb1 (fX10_pieceOf r_1 now) fun (r_2 : Int32) => Lt (fun (t0_1 : Int32) (M_many_2 : Int32) (spelled_2 : (Nat → Int32)) (cost_1 : (Nat → Int32)) (fewestFrom_1 : (Nat → Int32)) (first_1 : (Nat → Int32)) => (if t0_1 ≤ x6 then (fX10_bestPart_L71 x1 x2 x3 x7 x8 now k n x4 x5 x6 (x9 + 1) M_many_2 spelled_2 cost_1 fewestFrom_1 first_1) else (fX10_bestPart_L71 x1 x2 x3 x7 x8 now k n x9 x8 t0_1 (x9 + 1) M_many_2 spelled_2 cost_1 fewestFrom_1 first_1))) fun (j_1 : Int32 → Int32 → (Nat → Int32) → (Nat → Int32) → (Nat → Int32) → (Nat → Int32) → Option (Int32 × Int32 × Int32 × (Nat → Int32) × (Nat → Int32) × (Nat → Int32) × (Nat → Int32))) => if r_2 = (-1) then (gb6 (fX10_fewestOfAll r_1 M_many_1 now spelled_1 cost fewestFrom first) fun (r_3 : Int32) (M_many_3 : Int32) (spelled_3 : (Nat → Int32)) (cost_2 : (Nat → Int32)) (fewestFrom_2 : (Nat → Int32)) (first_2 : (Nat → Int32)) => j_1 (x3 - r_3) M_many_3 spelled_3 cost_2 fewestFrom_2 first_2) else (j_1 0 M_many_1 spelled_1 cost fewestFrom first))
def fX10_bestPart_L61 (x1 : Int32) (x2 : Int32) (x3 : Int32) (x7 : Int32) (now : (Nat → Int32)) (k : Int32 → Int32 → Int32 → Int32 → (Nat → Int32) → (Nat → Int32) → (Nat → Int32) → (Nat → Int32) → Option (Int32 × Int32 × Int32 × (Nat → Int32) × (Nat → Int32) × (Nat → Int32) × (Nat → Int32))) : Nat → Int32 → Int32 → Int32 → Int32 → Int32 → (Nat → Int32) → (Nat → Int32) → (Nat → Int32) → (Nat → Int32) → Option (Int32 × Int32 × Int32 × (Nat → Int32) × (Nat → Int32) × (Nat → Int32) × (Nat → Int32))
  | 0, _, _, _, _, _, _, _, _, _ => none
  | n + 1, x4, x5, x6, x8, M_many, spelled, cost, fewestFrom, first => if 6 < x8 then (k x4 x5 x6 M_many spelled cost fewestFrom first) else (fX10_bestPart_L71 x1 x2 x3 x7 x8 now (fun (x4_1 : Int32) (x5_1 : Int32) (x6_1 : Int32) (M_many_1 : Int32) (spelled_1 : (Nat → Int32)) (cost_1 : (Nat → Int32)) (fewestFrom_1 : (Nat → Int32)) (first_1 : (Nat → Int32)) => (fX10_bestPart_L61 x1 x2 x3 x7 now k n x4_1 x5_1 x6_1 (x8 + 1) M_many_1 spelled_1 cost_1 fewestFrom_1 first_1)) FU x4 x5 x6 0 M_many spelled cost fewestFrom first)
def fX10_bestPart (x1 : Int32) (x2 : Int32) (M_thrown : Int32) (M_many : Int32) (now : (Nat → Int32)) (spelled : (Nat → Int32)) (cost : (Nat → Int32)) (fewestFrom : (Nat → Int32)) (first : (Nat → Int32)) : Option (Int32 × Int32 × Int32 × (Nat → Int32) × (Nat → Int32) × (Nat → Int32) × (Nat → Int32)) := gb2 (fX10_noWord x1 M_thrown now) fun (r_1 : Int32) (M_thrown_1 : Int32) => if r_1 = 0 then (gb1 (fX10_within x2 0 2) fun (r_2 : Int32) => Lt (fun (t0_1 : Int32) => (gb2 (fX10_throwsIf t0_1 2 M_thrown_1) fun (r_3 : Int32) (M_thrown_2 : Int32) => if r_3 = 0 then (gb6 (fX10_fewestOfAll 0 M_many now spelled cost fewestFrom first) fun (r_4 : Int32) (M_many_1 : Int32) (spelled_1 : (Nat → Int32)) (cost_1 : (Nat → Int32)) (fewestFrom_1 : (Nat → Int32)) (first_1 : (Nat → Int32)) => gb2 (fX10_spellsWord x1 M_many_1 now spelled_1) fun (M_many_2 : Int32) (spelled_2 : (Nat → Int32)) => fX10_bestPart_L61 x1 x2 r_4 M_many_2 now (fun (x4_1 : Int32) (x5_1 : Int32) (x6_1 : Int32) (M_many_3 : Int32) (spelled_3 : (Nat → Int32)) (cost_2 : (Nat → Int32)) (fewestFrom_2 : (Nat → Int32)) (first_2 : (Nat → Int32)) => (if x4_1 = (-1) then (some (x4_1, M_thrown_2, M_many_3, spelled_3, cost_2, fewestFrom_2, first_2)) else (if x2 = 0 then (some (x4_1, M_thrown_2, M_many_3, spelled_3, cost_2, fewestFrom_2, first_2)) else (if x2 = 1 then (some (x5_1, M_thrown_2, M_many_3, spelled_3, cost_2, fewestFrom_2, first_2)) else (some (x6_1, M_thrown_2, M_many_3, spelled_3, cost_2, fewestFrom_2, first_2)))))) FU (-1) 0 0 1 M_many_2 spelled_2 cost_1 fewestFrom_1 first_1) else (some (0, M_thrown_2, M_many, spelled, cost, fewestFrom, first)))) fun (j_1 : Int32 → Option (Int32 × Int32 × Int32 × (Nat → Int32) × (Nat → Int32) × (Nat → Int32) × (Nat → Int32))) => if r_2 = 0 then (j_1 1) else (j_1 0)) else (some (0, M_thrown_1, M_many, spelled, cost, fewestFrom, first))
def fX10_piecesOf_L4 (x1 : Int32) (now : (Nat → Int32)) (k : Int32 → Option (Int32)) : Nat → Int32 → Int32 → Option (Int32)
  | 0, _, _ => none
  | n + 1, x2, x3 => gb1 (fX10_ofWord x1 1 now) fun (r_1 : Int32) => if r_1 ≤ x3 then (k x2) else (gb1 (fX10_ofWord x1 (2 + x3) now) fun (r_2 : Int32) => fX10_piecesOf_L4 x1 now k n (x2 ||| (1 <<< (r_2 &&& 31))) (x3 + 1))
def fX10_piecesOf (x1 : Int32) (now : (Nat → Int32)) : Option (Int32) := fX10_piecesOf_L4 x1 now (fun (x2_1 : Int32) => (some x2_1)) FU 0 0
def fX10_shared_L40 (k : Int32 → Option (Int32 × Int32)) : Nat → Int32 → Int32 → Option (Int32 × Int32)
  | 0, _, _ => none
  | n + 1, x3, x4 => if x4 = 0 then (k x3) else (fX10_shared_L40 k n (x3 + 1) (x4 &&& (x4 - 1)))
def fX10_shared (x1 : Int32) (x2 : Int32) (M_thrown : Int32) (now : (Nat → Int32)) : Option (Int32 × Int32) := gb2 (fX10_noWord x1 M_thrown now) fun (r_1 : Int32) (M_thrown_1 : Int32) => if r_1 = 0 then (gb2 (fX10_no x2 (now 10) M_thrown_1) fun (r_2 : Int32) (M_thrown_2 : Int32) => if r_2 = 0 then (gb1 (fX10_piecesOf x1 now) fun (r_3 : Int32) => gb1 (fX10_piecesOf x2 now) fun (r_4 : Int32) => fX10_shared_L40 (fun (x3_1 : Int32) => (some (x3_1, M_thrown_2))) FU 0 (r_3 &&& r_4)) else (some (0, M_thrown_2))) else (some (0, M_thrown_1))
def fX10_favourite_L9 (now : (Nat → Int32)) (k : Int32 → Option (Int32 × Int32)) : Nat → Int32 → Int32 → Option (Int32 × Int32)
  | 0, _, _ => none
  | n + 1, x1, x2 => if (now 9) ≤ x2 then (k x1) else (Lt ((fX10_favourite_L9 now k n x2 (x2 + 1)) : Option (Int32 × Int32)) fun (j_1 : Option (Int32 × Int32)) => if x1 = (-1) then (j_1) else (gb1 (fX10_ofPiece x2 3 now) fun (r_1 : Int32) => gb1 (fX10_ofPiece x1 3 now) fun (r_2 : Int32) => if r_1 ≤ r_2 then (fX10_favourite_L9 now k n x1 (x2 + 1)) else (j_1)))
def fX10_favourite (M_thrown : Int32) (now : (Nat → Int32)) : Option (Int32 × Int32) := fX10_favourite_L9 now (fun (x1_1 : Int32) => (some (x1_1, 0))) FU (-1) 0
def fX10_wealth (x1 : Int32) (now : (Nat → Int32)) : Option (Int32) := if (17 + x1) < 0 ∨ 365 ≤ (17 + x1).toNatClampNeg then none else gb1 (fX10_ofUser x1 2 now) fun (r_1 : Int32) => some ((now ((17 + x1).toNatClampNeg)) + r_1)
def fX10_richest_L9 (now : (Nat → Int32)) (k : Int32 → Option (Int32 × Int32)) : Nat → Int32 → Int32 → Option (Int32 × Int32)
  | 0, _, _ => none
  | n + 1, x1, x2 => if (now 5) ≤ x2 then (k x1) else (Lt ((fX10_richest_L9 now k n x2 (x2 + 1)) : Option (Int32 × Int32)) fun (j_1 : Option (Int32 × Int32)) => if x1 = (-1) then (j_1) else (gb1 (fX10_wealth x2 now) fun (r_1 : Int32) => gb1 (fX10_wealth x1 now) fun (r_2 : Int32) => if r_1 ≤ r_2 then (fX10_richest_L9 now k n x1 (x2 + 1)) else (j_1)))
def fX10_richest (M_thrown : Int32) (now : (Nat → Int32)) : Option (Int32 × Int32) := fX10_richest_L9 now (fun (x1_1 : Int32) => (some (x1_1, 0))) FU (-1) 0
set_option maxHeartbeats 4000000 in
set_option maxRecDepth 100000 in
theorem ctX10_user (l : Launch) (E : gE) (aM anow aaside anames anamesAside atext aspelled acost afewestFrom afirst afresh aways aundo aslots aisSaved : Nat → Nat) (x1 : Int32) (x2 : Int32) (M_thrown : Int32) (M_length : Int32) (M_textSize : Int32) (M_start : Int32) (M_next : Int32) (M_token : Int32) (M_value : Int32) (M_error : Int32) (M_errorAt : Int32) (M_number : Int32) (M_many : Int32) (M_freshMany : Int32) (M_undos : Int32) (now : (Nat → Int32)) (r : Int32) (M_thrown' : Int32) (hf : fX10_user x1 x2 M_thrown now = some (r, M_thrown')) : gMet l yX10_user wsX10_user rmX10_user vwCl E [.ref (aM 0), .int x1, .int x2] [sModel E aM anow aaside anames anamesAside atext aspelled acost afewestFrom afirst afresh aways aundo aslots aisSaved M_thrown M_length M_textSize M_start M_next M_token M_value M_error M_errorAt M_number M_many M_freshMany M_undos, sArrI E anow 365 now] (fun v w => v = some (.int r) ∧ w = [sModel E aM anow aaside anames anamesAside atext aspelled acost afewestFrom afirst afresh aways aundo aslots aisSaved M_thrown' M_length M_textSize M_start M_next M_token M_value M_error M_errorAt M_number M_many M_freshMany M_undos, sArrI E anow 365 now]) 0 0 := by
  refine g_entry [some (.ref (aM 0)), some (.int x1), some (.int x2)] (by decide) rfl (Nat.le_of_ble_eq_true rfl) rfl ?_
  intro p e s m below meth c A F hnm
  unfold fX10_user at hf
  refine g_aload_n F dX10_user_0 rfl ?_
  refine g_iload_n F dX10_user_1 rfl ?_
  obtain ⟨r_1, M_thrown_1, hg_1, hf⟩ := gb2_el hf
  refine g_callV (C := RX10) (T := TX10) (N := 27) (Lr := []) (As := [.int x1]) (rest := []) F 0 0 1 (ctX10_noUser l E aM anow aaside anames anamesAside atext aspelled acost afewestFrom afirst afresh aways aundo aslots aisSaved x1 M_thrown M_length M_textSize M_start M_next M_token M_value M_error M_errorAt M_number M_many M_freshMany M_undos now r_1 M_thrown_1 hg_1) gX10_user_X10_noUser rfl rfl rfl h0X10_noUser ⟨Nat.le_of_ble_eq_true rfl, Nat.le_of_ble_eq_true rfl⟩ rfl rfl rfl [0, 1] [] rfl rfl rfl rfl rfl rfl (Nat.le_of_ble_eq_true rfl) dX10_user_2 ⟨Nat.le_of_ble_eq_true rfl, Nat.le_of_ble_eq_true rfl⟩ ?_
  rintro v w ⟨rfl, rfl, hz_1⟩
  refine g_norm (Lw' := [sModel E aM anow aaside anames anamesAside atext aspelled acost afewestFrom afirst afresh aways aundo aslots aisSaved M_thrown_1 M_length M_textSize M_start M_next M_token M_value M_error M_errorAt M_number M_many M_freshMany M_undos, sArrI E anow 365 now]) (st' := [.int r_1]) (pc' := 5) [0, 1] rfl rfl rfl rfl ?_
  refine g_ifne F 30 dX10_user_5 (by decide) (fun hc_4 => ?_) (fun hc_4 => ?_)
  · replace hf := gi_f hc_4 hf
    refine g_iconst F 0 dX10_user_30 rfl ?_
    cases hf
    exact g_iret F rfl ⟨rfl, rfl⟩ dX10_user_31
  · replace hf := gi_t hc_4 hf
    refine g_aload_n F dX10_user_8 rfl ?_
    refine g_iload_n F dX10_user_9 rfl ?_
    refine g_iconst F 0 dX10_user_10 rfl ?_
    refine g_iconst F 4 dX10_user_11 rfl ?_
    obtain ⟨r_2, hg_2, hf⟩ := gb1_el hf
    refine g_callS (Lr := [sModel E aM anow aaside anames anamesAside atext aspelled acost afewestFrom afirst afresh aways aundo aslots aisSaved M_thrown_1 M_length M_textSize M_start M_next M_token M_value M_error M_errorAt M_number M_many M_freshMany M_undos, sArrI E anow 365 now]) (As := [.int x2, .int 0, .int 4]) (rest := [.ref (aM 0)]) F 3 (ctX10_within l E x2 0 4 r_2 hg_2) (va_cwS 3 F.2.2.2.2.2.1 gX10_user_X10_within rfl rfl rfl h0X10_within ⟨Nat.le_of_ble_eq_true rfl, Nat.le_of_ble_eq_true rfl⟩) [] [0, 1] rfl rfl rfl rfl rfl rfl (Nat.le_of_ble_eq_true rfl) dX10_user_12 ⟨Nat.le_of_ble_eq_true rfl, Nat.le_of_ble_eq_true rfl⟩ ?_
    rintro v w ⟨rfl, rfl, hz_2⟩
    refine g_norm (Lw' := [sModel E aM anow aaside anames anamesAside atext aspelled acost afewestFrom afirst afresh aways aundo aslots aisSaved M_thrown_1 M_length M_textSize M_start M_next M_token M_value M_error M_errorAt M_number M_many M_freshMany M_undos, sArrI E anow 365 now]) (st' := [.int r_2, .ref (aM 0)]) (pc' := 15) [0, 1] rfl rfl rfl rfl ?_
    obtain ⟨j_1, hj_1, hf⟩ := Lt_el hf
    have hj_1 : ∀ (t0_1 : Int32), j_1 t0_1 = some (r, M_thrown') → Gj p l e rmX10_user s m ([.ref (aM 0), .int x1, .int x2] : List Value).toArray below meth c 0 0 (MQ below (gQ vwCl E A (fun v w => v = some (.int r) ∧ w = [sModel E aM anow aaside anames anamesAside atext aspelled acost afewestFrom afirst afresh aways aundo aslots aisSaved M_thrown' M_length M_textSize M_start M_next M_token M_value M_error M_errorAt M_number M_many M_freshMany M_undos, sArrI E anow 365 now])) ([.ref (aM 0), .int x1, .int x2] : List Value).toArray s 0 0 A) vwCl E A [sModel E aM anow aaside anames anamesAside atext aspelled acost afewestFrom afirst afresh aways aundo aslots aisSaved M_thrown_1 M_length M_textSize M_start M_next M_token M_value M_error M_errorAt M_number M_many M_freshMany M_undos, sArrI E anow 365 now] [some (.ref (aM 0)), some (.int x1), some (.int x2)] [.int t0_1, .ref (aM 0)] 23 := by
      intro t0_1 hf
      rw [hj_1] at hf
      refine g_iconst F 2 dX10_user_23 rfl ?_
      obtain ⟨r_3, M_thrown_2, hg_3, hf⟩ := gb2_el hf
      refine g_callV (C := RX10) (T := TX10) (N := 27) (Lr := [sArrI E anow 365 now]) (As := [.int t0_1, .int 2]) (rest := []) F 0 0 2 (ctX10_throwsIf l E aM anow aaside anames anamesAside atext aspelled acost afewestFrom afirst afresh aways aundo aslots aisSaved t0_1 2 M_thrown_1 M_length M_textSize M_start M_next M_token M_value M_error M_errorAt M_number M_many M_freshMany M_undos r_3 M_thrown_2 hg_3) gX10_user_X10_throwsIf rfl rfl rfl h0X10_throwsIf ⟨Nat.le_of_ble_eq_true rfl, Nat.le_of_ble_eq_true rfl⟩ rfl rfl rfl [0] [1] rfl rfl rfl rfl rfl rfl (Nat.le_of_ble_eq_true rfl) dX10_user_24 ⟨Nat.le_of_ble_eq_true rfl, Nat.le_of_ble_eq_true rfl⟩ ?_
      rintro v w ⟨rfl, rfl, hz_3⟩
      refine g_norm (Lw' := [sModel E aM anow aaside anames anamesAside atext aspelled acost afewestFrom afirst afresh aways aundo aslots aisSaved M_thrown_2 M_length M_textSize M_start M_next M_token M_value M_error M_errorAt M_number M_many M_freshMany M_undos, sArrI E anow 365 now]) (st' := [.int r_3]) (pc' := 27) [0, 1] rfl rfl rfl rfl ?_
      refine g_ifeq F 32 dX10_user_27 (by decide) (fun hc_2 => ?_) (fun hc_2 => ?_)
      · replace hf := gi_t hc_2 hf
        refine g_iload_n F dX10_user_32 rfl ?_
        refine g_ifne F 48 dX10_user_33 (by decide) (fun hc_1 => ?_) (fun hc_1 => ?_)
        · replace hf := gi_f hc_1 hf
          refine g_aload_n F dX10_user_48 rfl ?_
          refine g_iload_n F dX10_user_49 rfl ?_
          refine g_iload_n F dX10_user_50 rfl ?_
          obtain ⟨r_4, hg_4, hf⟩ := gb1_el hf
          refine g_callV (C := RX10) (T := TX10) (N := 27) (Lr := []) (As := [.int x1, .int x2]) (rest := []) F 0 0 2 (ctX10_ofUser l E aM anow aaside anames anamesAside atext aspelled acost afewestFrom afirst afresh aways aundo aslots aisSaved x1 x2 M_thrown_2 M_length M_textSize M_start M_next M_token M_value M_error M_errorAt M_number M_many M_freshMany M_undos now r_4 hg_4) gX10_user_X10_ofUser rfl rfl rfl h0X10_ofUser ⟨Nat.le_of_ble_eq_true rfl, Nat.le_of_ble_eq_true rfl⟩ rfl rfl rfl [0, 1] [] rfl rfl rfl rfl rfl rfl (Nat.le_of_ble_eq_true rfl) dX10_user_51 ⟨Nat.le_of_ble_eq_true rfl, Nat.le_of_ble_eq_true rfl⟩ ?_
          rintro v w ⟨rfl, rfl⟩
          refine g_norm (Lw' := [sModel E aM anow aaside anames anamesAside atext aspelled acost afewestFrom afirst afresh aways aundo aslots aisSaved M_thrown_2 M_length M_textSize M_start M_next M_token M_value M_error M_errorAt M_number M_many M_freshMany M_undos, sArrI E anow 365 now]) (st' := [.int r_4]) (pc' := 54) [0, 1] rfl rfl rfl rfl ?_
          cases hf
          exact g_iret F rfl ⟨rfl, rfl⟩ dX10_user_54
        · replace hf := gi_t hc_1 hf
          refine g_aload_n F dX10_user_36 rfl ?_
          refine g_get (C := RX10) (T := TX10) (N := 27) F 0 0 1 rfl rfl rfl iX10_user_X10 (by decide) (by decide +kernel) rfl dX10_user_37 ?_
          refine g_bipush F 17 dX10_user_40 rfl ?_
          refine g_iload_n F dX10_user_42 rfl ?_
          refine g_iadd F dX10_user_43 ?_
          obtain ⟨hb_1, hf⟩ := gb_in hf
          refine g_iald F 1 0 ((17 + x1).toNatClampNeg) rfl rfl rfl hb_1 dX10_user_44 ?_
          refine g_goto F 54 dX10_user_45 (by decide) ?_
          cases hf
          exact g_iret F rfl ⟨rfl, rfl⟩ dX10_user_54
      · replace hf := gi_f hc_2 hf
        refine g_iconst F 0 dX10_user_30 rfl ?_
        cases hf
        exact g_iret F rfl ⟨rfl, rfl⟩ dX10_user_31
    refine g_ifne F 22 dX10_user_15 (by decide) (fun hc_3 => ?_) (fun hc_3 => ?_)
    · replace hf := gi_f hc_3 hf
      refine g_iconst F 0 dX10_user_22 rfl ?_
      exact hj_1 0 hf
    · replace hf := gi_t hc_3 hf
      refine g_iconst F 1 dX10_user_18 rfl ?_
      refine g_goto F 23 dX10_user_19 (by decide) ?_
      exact hj_1 1 hf
set_option maxHeartbeats 4000000 in
set_option maxRecDepth 100000 in
theorem ctX10_piece (l : Launch) (E : gE) (aM anow aaside anames anamesAside atext aspelled acost afewestFrom afirst afresh aways aundo aslots aisSaved : Nat → Nat) (x1 : Int32) (x2 : Int32) (M_thrown : Int32) (M_length : Int32) (M_textSize : Int32) (M_start : Int32) (M_next : Int32) (M_token : Int32) (M_value : Int32) (M_error : Int32) (M_errorAt : Int32) (M_number : Int32) (M_many : Int32) (M_freshMany : Int32) (M_undos : Int32) (now : (Nat → Int32)) (r : Int32) (M_thrown' : Int32) (hf : fX10_piece x1 x2 M_thrown now = some (r, M_thrown')) : gMet l yX10_piece wsX10_piece rmX10_piece vwCl E [.ref (aM 0), .int x1, .int x2] [sModel E aM anow aaside anames anamesAside atext aspelled acost afewestFrom afirst afresh aways aundo aslots aisSaved M_thrown M_length M_textSize M_start M_next M_token M_value M_error M_errorAt M_number M_many M_freshMany M_undos, sArrI E anow 365 now] (fun v w => v = some (.int r) ∧ w = [sModel E aM anow aaside anames anamesAside atext aspelled acost afewestFrom afirst afresh aways aundo aslots aisSaved M_thrown' M_length M_textSize M_start M_next M_token M_value M_error M_errorAt M_number M_many M_freshMany M_undos, sArrI E anow 365 now]) 0 0 := by
  refine g_entry [some (.ref (aM 0)), some (.int x1), some (.int x2)] (by decide) rfl (Nat.le_of_ble_eq_true rfl) rfl ?_
  intro p e s m below meth c A F hnm
  unfold fX10_piece at hf
  refine g_aload_n F dX10_piece_0 rfl ?_
  refine g_iload_n F dX10_piece_1 rfl ?_
  obtain ⟨r_1, M_thrown_1, hg_1, hf⟩ := gb2_el hf
  refine g_callV (C := RX10) (T := TX10) (N := 27) (Lr := []) (As := [.int x1]) (rest := []) F 0 0 1 (ctX10_noPiece l E aM anow aaside anames anamesAside atext aspelled acost afewestFrom afirst afresh aways aundo aslots aisSaved x1 M_thrown M_length M_textSize M_start M_next M_token M_value M_error M_errorAt M_number M_many M_freshMany M_undos now r_1 M_thrown_1 hg_1) gX10_piece_X10_noPiece rfl rfl rfl h0X10_noPiece ⟨Nat.le_of_ble_eq_true rfl, Nat.le_of_ble_eq_true rfl⟩ rfl rfl rfl [0, 1] [] rfl rfl rfl rfl rfl rfl (Nat.le_of_ble_eq_true rfl) dX10_piece_2 ⟨Nat.le_of_ble_eq_true rfl, Nat.le_of_ble_eq_true rfl⟩ ?_
  rintro v w ⟨rfl, rfl, hz_1⟩
  refine g_norm (Lw' := [sModel E aM anow aaside anames anamesAside atext aspelled acost afewestFrom afirst afresh aways aundo aslots aisSaved M_thrown_1 M_length M_textSize M_start M_next M_token M_value M_error M_errorAt M_number M_many M_freshMany M_undos, sArrI E anow 365 now]) (st' := [.int r_1]) (pc' := 5) [0, 1] rfl rfl rfl rfl ?_
  refine g_ifne F 30 dX10_piece_5 (by decide) (fun hc_6 => ?_) (fun hc_6 => ?_)
  · replace hf := gi_f hc_6 hf
    refine g_iconst F 0 dX10_piece_30 rfl ?_
    cases hf
    exact g_iret F rfl ⟨rfl, rfl⟩ dX10_piece_31
  · replace hf := gi_t hc_6 hf
    refine g_aload_n F dX10_piece_8 rfl ?_
    refine g_iload_n F dX10_piece_9 rfl ?_
    refine g_iconst F 0 dX10_piece_10 rfl ?_
    refine g_iconst F 4 dX10_piece_11 rfl ?_
    obtain ⟨r_2, hg_2, hf⟩ := gb1_el hf
    refine g_callS (Lr := [sModel E aM anow aaside anames anamesAside atext aspelled acost afewestFrom afirst afresh aways aundo aslots aisSaved M_thrown_1 M_length M_textSize M_start M_next M_token M_value M_error M_errorAt M_number M_many M_freshMany M_undos, sArrI E anow 365 now]) (As := [.int x2, .int 0, .int 4]) (rest := [.ref (aM 0)]) F 3 (ctX10_within l E x2 0 4 r_2 hg_2) (va_cwS 3 F.2.2.2.2.2.1 gX10_piece_X10_within rfl rfl rfl h0X10_within ⟨Nat.le_of_ble_eq_true rfl, Nat.le_of_ble_eq_true rfl⟩) [] [0, 1] rfl rfl rfl rfl rfl rfl (Nat.le_of_ble_eq_true rfl) dX10_piece_12 ⟨Nat.le_of_ble_eq_true rfl, Nat.le_of_ble_eq_true rfl⟩ ?_
    rintro v w ⟨rfl, rfl, hz_2⟩
    refine g_norm (Lw' := [sModel E aM anow aaside anames anamesAside atext aspelled acost afewestFrom afirst afresh aways aundo aslots aisSaved M_thrown_1 M_length M_textSize M_start M_next M_token M_value M_error M_errorAt M_number M_many M_freshMany M_undos, sArrI E anow 365 now]) (st' := [.int r_2, .ref (aM 0)]) (pc' := 15) [0, 1] rfl rfl rfl rfl ?_
    obtain ⟨j_1, hj_1, hf⟩ := Lt_el hf
    have hj_1 : ∀ (t0_1 : Int32), j_1 t0_1 = some (r, M_thrown') → Gj p l e rmX10_piece s m ([.ref (aM 0), .int x1, .int x2] : List Value).toArray below meth c 0 0 (MQ below (gQ vwCl E A (fun v w => v = some (.int r) ∧ w = [sModel E aM anow aaside anames anamesAside atext aspelled acost afewestFrom afirst afresh aways aundo aslots aisSaved M_thrown' M_length M_textSize M_start M_next M_token M_value M_error M_errorAt M_number M_many M_freshMany M_undos, sArrI E anow 365 now])) ([.ref (aM 0), .int x1, .int x2] : List Value).toArray s 0 0 A) vwCl E A [sModel E aM anow aaside anames anamesAside atext aspelled acost afewestFrom afirst afresh aways aundo aslots aisSaved M_thrown_1 M_length M_textSize M_start M_next M_token M_value M_error M_errorAt M_number M_many M_freshMany M_undos, sArrI E anow 365 now] [some (.ref (aM 0)), some (.int x1), some (.int x2)] [.int t0_1, .ref (aM 0)] 23 := by
      intro t0_1 hf
      rw [hj_1] at hf
      refine g_iconst F 2 dX10_piece_23 rfl ?_
      obtain ⟨r_3, M_thrown_2, hg_3, hf⟩ := gb2_el hf
      refine g_callV (C := RX10) (T := TX10) (N := 27) (Lr := [sArrI E anow 365 now]) (As := [.int t0_1, .int 2]) (rest := []) F 0 0 2 (ctX10_throwsIf l E aM anow aaside anames anamesAside atext aspelled acost afewestFrom afirst afresh aways aundo aslots aisSaved t0_1 2 M_thrown_1 M_length M_textSize M_start M_next M_token M_value M_error M_errorAt M_number M_many M_freshMany M_undos r_3 M_thrown_2 hg_3) gX10_piece_X10_throwsIf rfl rfl rfl h0X10_throwsIf ⟨Nat.le_of_ble_eq_true rfl, Nat.le_of_ble_eq_true rfl⟩ rfl rfl rfl [0] [1] rfl rfl rfl rfl rfl rfl (Nat.le_of_ble_eq_true rfl) dX10_piece_24 ⟨Nat.le_of_ble_eq_true rfl, Nat.le_of_ble_eq_true rfl⟩ ?_
      rintro v w ⟨rfl, rfl, hz_3⟩
      refine g_norm (Lw' := [sModel E aM anow aaside anames anamesAside atext aspelled acost afewestFrom afirst afresh aways aundo aslots aisSaved M_thrown_2 M_length M_textSize M_start M_next M_token M_value M_error M_errorAt M_number M_many M_freshMany M_undos, sArrI E anow 365 now]) (st' := [.int r_3]) (pc' := 27) [0, 1] rfl rfl rfl rfl ?_
      refine g_ifeq F 32 dX10_piece_27 (by decide) (fun hc_4 => ?_) (fun hc_4 => ?_)
      · replace hf := gi_t hc_4 hf
        refine g_iload_n F dX10_piece_32 rfl ?_
        refine g_ifne F 46 dX10_piece_33 (by decide) (fun hc_3 => ?_) (fun hc_3 => ?_)
        · replace hf := gi_f hc_3 hf
          refine g_iload_n F dX10_piece_46 rfl ?_
          refine g_iconst F 4 dX10_piece_47 rfl ?_
          obtain ⟨j_2, hj_2, hf⟩ := Lt_el hf
          have hj_2 : j_2 = some (r, M_thrown') → Gj p l e rmX10_piece s m ([.ref (aM 0), .int x1, .int x2] : List Value).toArray below meth c 0 0 (MQ below (gQ vwCl E A (fun v w => v = some (.int r) ∧ w = [sModel E aM anow aaside anames anamesAside atext aspelled acost afewestFrom afirst afresh aways aundo aslots aisSaved M_thrown' M_length M_textSize M_start M_next M_token M_value M_error M_errorAt M_number M_many M_freshMany M_undos, sArrI E anow 365 now])) ([.ref (aM 0), .int x1, .int x2] : List Value).toArray s 0 0 A) vwCl E A [sModel E aM anow aaside anames anamesAside atext aspelled acost afewestFrom afirst afresh aways aundo aslots aisSaved M_thrown_2 M_length M_textSize M_start M_next M_token M_value M_error M_errorAt M_number M_many M_freshMany M_undos, sArrI E anow 365 now] [some (.ref (aM 0)), some (.int x1), some (.int x2)] [] 64 := by
            intro hf
            rw [hj_2] at hf
            refine g_aload_n F dX10_piece_64 rfl ?_
            refine g_iload_n F dX10_piece_65 rfl ?_
            refine g_iload_n F dX10_piece_66 rfl ?_
            obtain ⟨r_6, hg_6, hf⟩ := gb1_el hf
            refine g_callV (C := RX10) (T := TX10) (N := 27) (Lr := []) (As := [.int x1, .int x2]) (rest := []) F 0 0 2 (ctX10_ofPiece l E aM anow aaside anames anamesAside atext aspelled acost afewestFrom afirst afresh aways aundo aslots aisSaved x1 x2 M_thrown_2 M_length M_textSize M_start M_next M_token M_value M_error M_errorAt M_number M_many M_freshMany M_undos now r_6 hg_6) gX10_piece_X10_ofPiece rfl rfl rfl h0X10_ofPiece ⟨Nat.le_of_ble_eq_true rfl, Nat.le_of_ble_eq_true rfl⟩ rfl rfl rfl [0, 1] [] rfl rfl rfl rfl rfl rfl (Nat.le_of_ble_eq_true rfl) dX10_piece_67 ⟨Nat.le_of_ble_eq_true rfl, Nat.le_of_ble_eq_true rfl⟩ ?_
            rintro v w ⟨rfl, rfl⟩
            refine g_norm (Lw' := [sModel E aM anow aaside anames anamesAside atext aspelled acost afewestFrom afirst afresh aways aundo aslots aisSaved M_thrown_2 M_length M_textSize M_start M_next M_token M_value M_error M_errorAt M_number M_many M_freshMany M_undos, sArrI E anow 365 now]) (st' := [.int r_6]) (pc' := 70) [0, 1] rfl rfl rfl rfl ?_
            cases hf
            exact g_iret F rfl ⟨rfl, rfl⟩ dX10_piece_70
          refine g_icmp_ne F 64 dX10_piece_48 (by decide) (fun hc_2 => ?_) (fun hc_2 => ?_)
          · replace hf := gi_f hc_2 hf
            exact hj_2 hf
          · replace hf := gi_t hc_2 hf
            refine g_aload_n F dX10_piece_51 rfl ?_
            refine g_iload_n F dX10_piece_52 rfl ?_
            refine g_iconst F 3 dX10_piece_53 rfl ?_
            obtain ⟨r_7, hg_7, hf⟩ := gb1_el hf
            refine g_callV (C := RX10) (T := TX10) (N := 27) (Lr := []) (As := [.int x1, .int 3]) (rest := []) F 0 0 2 (ctX10_ofPiece l E aM anow aaside anames anamesAside atext aspelled acost afewestFrom afirst afresh aways aundo aslots aisSaved x1 3 M_thrown_2 M_length M_textSize M_start M_next M_token M_value M_error M_errorAt M_number M_many M_freshMany M_undos now r_7 hg_7) gX10_piece_X10_ofPiece rfl rfl rfl h0X10_ofPiece ⟨Nat.le_of_ble_eq_true rfl, Nat.le_of_ble_eq_true rfl⟩ rfl rfl rfl [0, 1] [] rfl rfl rfl rfl rfl rfl (Nat.le_of_ble_eq_true rfl) dX10_piece_54 ⟨Nat.le_of_ble_eq_true rfl, Nat.le_of_ble_eq_true rfl⟩ ?_
            rintro v w ⟨rfl, rfl⟩
            refine g_norm (Lw' := [sModel E aM anow aaside anames anamesAside atext aspelled acost afewestFrom afirst afresh aways aundo aslots aisSaved M_thrown_2 M_length M_textSize M_start M_next M_token M_value M_error M_errorAt M_number M_many M_freshMany M_undos, sArrI E anow 365 now]) (st' := [.int r_7]) (pc' := 57) [0, 1] rfl rfl rfl rfl ?_
            refine g_ifle F 64 dX10_piece_57 (by decide) (fun hc_1 => ?_) (fun hc_1 => ?_)
            · replace hf := gi_t hc_1 hf
              exact hj_2 hf
            · replace hf := gi_f hc_1 hf
              refine g_iconst F (-1) dX10_piece_60 rfl ?_
              refine g_goto F 70 dX10_piece_61 (by decide) ?_
              cases hf
              exact g_iret F rfl ⟨rfl, rfl⟩ dX10_piece_70
        · replace hf := gi_t hc_3 hf
          refine g_aload_n F dX10_piece_36 rfl ?_
          refine g_iload_n F dX10_piece_37 rfl ?_
          refine g_iconst F 0 dX10_piece_38 rfl ?_
          obtain ⟨r_4, hg_4, hf⟩ := gb1_el hf
          refine g_callV (C := RX10) (T := TX10) (N := 27) (Lr := []) (As := [.int x1, .int 0]) (rest := []) F 0 0 2 (ctX10_ofPiece l E aM anow aaside anames anamesAside atext aspelled acost afewestFrom afirst afresh aways aundo aslots aisSaved x1 0 M_thrown_2 M_length M_textSize M_start M_next M_token M_value M_error M_errorAt M_number M_many M_freshMany M_undos now r_4 hg_4) gX10_piece_X10_ofPiece rfl rfl rfl h0X10_ofPiece ⟨Nat.le_of_ble_eq_true rfl, Nat.le_of_ble_eq_true rfl⟩ rfl rfl rfl [0, 1] [] rfl rfl rfl rfl rfl rfl (Nat.le_of_ble_eq_true rfl) dX10_piece_39 ⟨Nat.le_of_ble_eq_true rfl, Nat.le_of_ble_eq_true rfl⟩ ?_
          rintro v w ⟨rfl, rfl⟩
          refine g_norm (Lw' := [sModel E aM anow aaside anames anamesAside atext aspelled acost afewestFrom afirst afresh aways aundo aslots aisSaved M_thrown_2 M_length M_textSize M_start M_next M_token M_value M_error M_errorAt M_number M_many M_freshMany M_undos, sArrI E anow 365 now]) (st' := [.int r_4]) (pc' := 42) [0, 1] rfl rfl rfl rfl ?_
          obtain ⟨r_5, hg_5, hf⟩ := gb1_el hf
          refine g_callS (Lr := [sModel E aM anow aaside anames anamesAside atext aspelled acost afewestFrom afirst afresh aways aundo aslots aisSaved M_thrown_2 M_length M_textSize M_start M_next M_token M_value M_error M_errorAt M_number M_many M_freshMany M_undos, sArrI E anow 365 now]) (As := [.int r_4]) (rest := []) F 1 (ctX10_lettersOf l E r_4 r_5 hg_5) (va_cwS 1 F.2.2.2.2.2.1 gX10_piece_X10_lettersOf rfl rfl rfl h0X10_lettersOf ⟨Nat.le_of_ble_eq_true rfl, Nat.le_of_ble_eq_true rfl⟩) [] [0, 1] rfl rfl rfl rfl rfl rfl (Nat.le_of_ble_eq_true rfl) dX10_piece_42 ⟨Nat.le_of_ble_eq_true rfl, Nat.le_of_ble_eq_true rfl⟩ ?_
          rintro v w ⟨rfl, rfl⟩
          refine g_norm (Lw' := [sModel E aM anow aaside anames anamesAside atext aspelled acost afewestFrom afirst afresh aways aundo aslots aisSaved M_thrown_2 M_length M_textSize M_start M_next M_token M_value M_error M_errorAt M_number M_many M_freshMany M_undos, sArrI E anow 365 now]) (st' := [.int r_5]) (pc' := 45) [0, 1] rfl rfl rfl rfl ?_
          cases hf
          exact g_iret F rfl ⟨rfl, rfl⟩ dX10_piece_45
      · replace hf := gi_f hc_4 hf
        refine g_iconst F 0 dX10_piece_30 rfl ?_
        cases hf
        exact g_iret F rfl ⟨rfl, rfl⟩ dX10_piece_31
    refine g_ifne F 22 dX10_piece_15 (by decide) (fun hc_5 => ?_) (fun hc_5 => ?_)
    · replace hf := gi_f hc_5 hf
      refine g_iconst F 0 dX10_piece_22 rfl ?_
      exact hj_1 0 hf
    · replace hf := gi_t hc_5 hf
      refine g_iconst F 1 dX10_piece_18 rfl ?_
      refine g_goto F 23 dX10_piece_19 (by decide) ?_
      exact hj_1 1 hf
set_option maxHeartbeats 4000000 in
set_option maxRecDepth 100000 in
theorem ctX10_pieceLetter (l : Launch) (E : gE) (aM anow aaside anames anamesAside atext aspelled acost afewestFrom afirst afresh aways aundo aslots aisSaved : Nat → Nat) (x1 : Int32) (x2 : Int32) (M_thrown : Int32) (M_length : Int32) (M_textSize : Int32) (M_start : Int32) (M_next : Int32) (M_token : Int32) (M_value : Int32) (M_error : Int32) (M_errorAt : Int32) (M_number : Int32) (M_many : Int32) (M_freshMany : Int32) (M_undos : Int32) (now : (Nat → Int32)) (r : Int32) (M_thrown' : Int32) (hf : fX10_pieceLetter x1 x2 M_thrown now = some (r, M_thrown')) : gMet l yX10_pieceLetter wsX10_pieceLetter rmX10_pieceLetter vwCl E [.ref (aM 0), .int x1, .int x2] [sModel E aM anow aaside anames anamesAside atext aspelled acost afewestFrom afirst afresh aways aundo aslots aisSaved M_thrown M_length M_textSize M_start M_next M_token M_value M_error M_errorAt M_number M_many M_freshMany M_undos, sArrI E anow 365 now] (fun v w => v = some (.int r) ∧ w = [sModel E aM anow aaside anames anamesAside atext aspelled acost afewestFrom afirst afresh aways aundo aslots aisSaved M_thrown' M_length M_textSize M_start M_next M_token M_value M_error M_errorAt M_number M_many M_freshMany M_undos, sArrI E anow 365 now]) 0 0 := by
  refine g_entry [some (.ref (aM 0)), some (.int x1), some (.int x2), none] (by decide) rfl (Nat.le_of_ble_eq_true rfl) rfl ?_
  intro p e s m below meth c A F hnm
  unfold fX10_pieceLetter at hf
  refine g_aload_n F dX10_pieceLetter_0 rfl ?_
  refine g_iload_n F dX10_pieceLetter_1 rfl ?_
  obtain ⟨r_1, M_thrown_1, hg_1, hf⟩ := gb2_el hf
  refine g_callV (C := RX10) (T := TX10) (N := 27) (Lr := []) (As := [.int x1]) (rest := []) F 0 0 1 (ctX10_noPiece l E aM anow aaside anames anamesAside atext aspelled acost afewestFrom afirst afresh aways aundo aslots aisSaved x1 M_thrown M_length M_textSize M_start M_next M_token M_value M_error M_errorAt M_number M_many M_freshMany M_undos now r_1 M_thrown_1 hg_1) gX10_pieceLetter_X10_noPiece rfl rfl rfl h0X10_noPiece ⟨Nat.le_of_ble_eq_true rfl, Nat.le_of_ble_eq_true rfl⟩ rfl rfl rfl [0, 1] [] rfl rfl rfl rfl rfl rfl (Nat.le_of_ble_eq_true rfl) dX10_pieceLetter_2 ⟨Nat.le_of_ble_eq_true rfl, Nat.le_of_ble_eq_true rfl⟩ ?_
  rintro v w ⟨rfl, rfl, hz_1⟩
  refine g_norm (Lw' := [sModel E aM anow aaside anames anamesAside atext aspelled acost afewestFrom afirst afresh aways aundo aslots aisSaved M_thrown_1 M_length M_textSize M_start M_next M_token M_value M_error M_errorAt M_number M_many M_freshMany M_undos, sArrI E anow 365 now]) (st' := [.int r_1]) (pc' := 5) [0, 1] rfl rfl rfl rfl ?_
  refine g_ifeq F 10 dX10_pieceLetter_5 (by decide) (fun hc_2 => ?_) (fun hc_2 => ?_)
  · replace hf := gi_t hc_2 hf
    refine g_aload_n F dX10_pieceLetter_10 rfl ?_
    refine g_iload_n F dX10_pieceLetter_11 rfl ?_
    refine g_iconst F 0 dX10_pieceLetter_12 rfl ?_
    obtain ⟨r_2, hg_2, hf⟩ := gb1_el hf
    refine g_callV (C := RX10) (T := TX10) (N := 27) (Lr := []) (As := [.int x1, .int 0]) (rest := []) F 0 0 2 (ctX10_ofPiece l E aM anow aaside anames anamesAside atext aspelled acost afewestFrom afirst afresh aways aundo aslots aisSaved x1 0 M_thrown_1 M_length M_textSize M_start M_next M_token M_value M_error M_errorAt M_number M_many M_freshMany M_undos now r_2 hg_2) gX10_pieceLetter_X10_ofPiece rfl rfl rfl h0X10_ofPiece ⟨Nat.le_of_ble_eq_true rfl, Nat.le_of_ble_eq_true rfl⟩ rfl rfl rfl [0, 1] [] rfl rfl rfl rfl rfl rfl (Nat.le_of_ble_eq_true rfl) dX10_pieceLetter_13 ⟨Nat.le_of_ble_eq_true rfl, Nat.le_of_ble_eq_true rfl⟩ ?_
    rintro v w ⟨rfl, rfl⟩
    refine g_norm (Lw' := [sModel E aM anow aaside anames anamesAside atext aspelled acost afewestFrom afirst afresh aways aundo aslots aisSaved M_thrown_1 M_length M_textSize M_start M_next M_token M_value M_error M_errorAt M_number M_many M_freshMany M_undos, sArrI E anow 365 now]) (st' := [.int r_2]) (pc' := 16) [0, 1] rfl rfl rfl rfl ?_
    obtain ⟨r_3, hg_3, hf⟩ := gb1_el hf
    refine g_callS (Lr := [sModel E aM anow aaside anames anamesAside atext aspelled acost afewestFrom afirst afresh aways aundo aslots aisSaved M_thrown_1 M_length M_textSize M_start M_next M_token M_value M_error M_errorAt M_number M_many M_freshMany M_undos, sArrI E anow 365 now]) (As := [.int r_2]) (rest := []) F 1 (ctX10_lettersOf l E r_2 r_3 hg_3) (va_cwS 1 F.2.2.2.2.2.1 gX10_pieceLetter_X10_lettersOf rfl rfl rfl h0X10_lettersOf ⟨Nat.le_of_ble_eq_true rfl, Nat.le_of_ble_eq_true rfl⟩) [] [0, 1] rfl rfl rfl rfl rfl rfl (Nat.le_of_ble_eq_true rfl) dX10_pieceLetter_16 ⟨Nat.le_of_ble_eq_true rfl, Nat.le_of_ble_eq_true rfl⟩ ?_
    rintro v w ⟨rfl, rfl⟩
    refine g_norm (Lw' := [sModel E aM anow aaside anames anamesAside atext aspelled acost afewestFrom afirst afresh aways aundo aslots aisSaved M_thrown_1 M_length M_textSize M_start M_next M_token M_value M_error M_errorAt M_number M_many M_freshMany M_undos, sArrI E anow 365 now]) (st' := [.int r_3]) (pc' := 19) [0, 1] rfl rfl rfl rfl ?_
    refine g_istore_n (lv' := [some (.ref (aM 0)), some (.int x1), some (.int x2), some (.int r_3)]) F dX10_pieceLetter_19 (Nat.le_of_ble_eq_true rfl) rfl rfl ?_
    refine g_iload_n F dX10_pieceLetter_20 rfl ?_
    refine g_iconst F 0 dX10_pieceLetter_21 rfl ?_
    refine g_iload_n F dX10_pieceLetter_22 rfl ?_
    refine g_iconst F 1 dX10_pieceLetter_23 rfl ?_
    refine g_isub F dX10_pieceLetter_24 ?_
    obtain ⟨r_4, hg_4, hf⟩ := gb1_el hf
    refine g_callS (Lr := [sModel E aM anow aaside anames anamesAside atext aspelled acost afewestFrom afirst afresh aways aundo aslots aisSaved M_thrown_1 M_length M_textSize M_start M_next M_token M_value M_error M_errorAt M_number M_many M_freshMany M_undos, sArrI E anow 365 now]) (As := [.int x2, .int 0, .int (r_3 - 1)]) (rest := []) F 3 (ctX10_within l E x2 0 (r_3 - 1) r_4 hg_4) (va_cwS 3 F.2.2.2.2.2.1 gX10_pieceLetter_X10_within rfl rfl rfl h0X10_within ⟨Nat.le_of_ble_eq_true rfl, Nat.le_of_ble_eq_true rfl⟩) [] [0, 1] rfl rfl rfl rfl rfl rfl (Nat.le_of_ble_eq_true rfl) dX10_pieceLetter_25 ⟨Nat.le_of_ble_eq_true rfl, Nat.le_of_ble_eq_true rfl⟩ ?_
    rintro v w ⟨rfl, rfl, hz_2⟩
    refine g_norm (Lw' := [sModel E aM anow aaside anames anamesAside atext aspelled acost afewestFrom afirst afresh aways aundo aslots aisSaved M_thrown_1 M_length M_textSize M_start M_next M_token M_value M_error M_errorAt M_number M_many M_freshMany M_undos, sArrI E anow 365 now]) (st' := [.int r_4]) (pc' := 28) [0, 1] rfl rfl rfl rfl ?_
    refine g_ifeq F 53 dX10_pieceLetter_28 (by decide) (fun hc_1 => ?_) (fun hc_1 => ?_)
    · replace hf := gi_t hc_1 hf
      refine g_iconst F (-1) dX10_pieceLetter_53 rfl ?_
      cases hf
      exact g_iret F rfl ⟨rfl, rfl⟩ dX10_pieceLetter_54
    · replace hf := gi_f hc_1 hf
      refine g_aload_n F dX10_pieceLetter_31 rfl ?_
      refine g_iload_n F dX10_pieceLetter_32 rfl ?_
      refine g_iconst F 0 dX10_pieceLetter_33 rfl ?_
      obtain ⟨r_5, hg_5, hf⟩ := gb1_el hf
      refine g_callV (C := RX10) (T := TX10) (N := 27) (Lr := []) (As := [.int x1, .int 0]) (rest := []) F 0 0 2 (ctX10_ofPiece l E aM anow aaside anames anamesAside atext aspelled acost afewestFrom afirst afresh aways aundo aslots aisSaved x1 0 M_thrown_1 M_length M_textSize M_start M_next M_token M_value M_error M_errorAt M_number M_many M_freshMany M_undos now r_5 hg_5) gX10_pieceLetter_X10_ofPiece rfl rfl rfl h0X10_ofPiece ⟨Nat.le_of_ble_eq_true rfl, Nat.le_of_ble_eq_true rfl⟩ rfl rfl rfl [0, 1] [] rfl rfl rfl rfl rfl rfl (Nat.le_of_ble_eq_true rfl) dX10_pieceLetter_34 ⟨Nat.le_of_ble_eq_true rfl, Nat.le_of_ble_eq_true rfl⟩ ?_
      rintro v w ⟨rfl, rfl⟩
      refine g_norm (Lw' := [sModel E aM anow aaside anames anamesAside atext aspelled acost afewestFrom afirst afresh aways aundo aslots aisSaved M_thrown_1 M_length M_textSize M_start M_next M_token M_value M_error M_errorAt M_number M_many M_freshMany M_undos, sArrI E anow 365 now]) (st' := [.int r_5]) (pc' := 37) [0, 1] rfl rfl rfl rfl ?_
      refine g_iconst F 5 dX10_pieceLetter_37 rfl ?_
      refine g_iload_n F dX10_pieceLetter_38 rfl ?_
      refine g_iconst F 1 dX10_pieceLetter_39 rfl ?_
      refine g_isub F dX10_pieceLetter_40 ?_
      refine g_iload_n F dX10_pieceLetter_41 rfl ?_
      refine g_isub F dX10_pieceLetter_42 ?_
      refine g_imul F dX10_pieceLetter_43 ?_
      refine g_ishr F dX10_pieceLetter_44 ?_
      refine g_bipush F 31 dX10_pieceLetter_45 rfl ?_
      refine g_iand F dX10_pieceLetter_47 ?_
      refine g_iconst F 1 dX10_pieceLetter_48 rfl ?_
      refine g_isub F dX10_pieceLetter_49 ?_
      refine g_goto F 54 dX10_pieceLetter_50 (by decide) ?_
      cases hf
      exact g_iret F rfl ⟨rfl, rfl⟩ dX10_pieceLetter_54
  · replace hf := gi_f hc_2 hf
    refine g_iconst F 0 dX10_pieceLetter_8 rfl ?_
    cases hf
    exact g_iret F rfl ⟨rfl, rfl⟩ dX10_pieceLetter_9
set_option maxHeartbeats 4000000 in
set_option maxRecDepth 100000 in
theorem ctX10_word (l : Launch) (E : gE) (aM anow aaside anames anamesAside atext aspelled acost afewestFrom afirst afresh aways aundo aslots aisSaved : Nat → Nat) (x1 : Int32) (x2 : Int32) (M_thrown : Int32) (M_length : Int32) (M_textSize : Int32) (M_start : Int32) (M_next : Int32) (M_token : Int32) (M_value : Int32) (M_error : Int32) (M_errorAt : Int32) (M_number : Int32) (M_many : Int32) (M_freshMany : Int32) (M_undos : Int32) (now : (Nat → Int32)) (spelled : (Nat → Int32)) (r : Int32) (M_thrown' : Int32) (M_many' : Int32) (spelled' : (Nat → Int32)) (hf : fX10_word x1 x2 M_thrown M_many now spelled = some (r, M_thrown', M_many', spelled')) : gMet l yX10_word wsX10_word rmX10_word vwCl E [.ref (aM 0), .int x1, .int x2] [sModel E aM anow aaside anames anamesAside atext aspelled acost afewestFrom afirst afresh aways aundo aslots aisSaved M_thrown M_length M_textSize M_start M_next M_token M_value M_error M_errorAt M_number M_many M_freshMany M_undos, sArrI E anow 365 now, sArrI E aspelled 12 spelled] (fun v w => v = some (.int r) ∧ w = [sModel E aM anow aaside anames anamesAside atext aspelled acost afewestFrom afirst afresh aways aundo aslots aisSaved M_thrown' M_length M_textSize M_start M_next M_token M_value M_error M_errorAt M_number M_many' M_freshMany M_undos, sArrI E anow 365 now, sArrI E aspelled 12 spelled']) 0 0 := by
  refine g_entry [some (.ref (aM 0)), some (.int x1), some (.int x2)] (by decide) rfl (Nat.le_of_ble_eq_true rfl) rfl ?_
  intro p e s m below meth c A F hnm
  unfold fX10_word at hf
  refine g_aload_n F dX10_word_0 rfl ?_
  refine g_iload_n F dX10_word_1 rfl ?_
  obtain ⟨r_1, M_thrown_1, hg_1, hf⟩ := gb2_el hf
  refine g_callV (C := RX10) (T := TX10) (N := 27) (Lr := [sArrI E aspelled 12 spelled]) (As := [.int x1]) (rest := []) F 0 0 1 (ctX10_noWord l E aM anow aaside anames anamesAside atext aspelled acost afewestFrom afirst afresh aways aundo aslots aisSaved x1 M_thrown M_length M_textSize M_start M_next M_token M_value M_error M_errorAt M_number M_many M_freshMany M_undos now r_1 M_thrown_1 hg_1) gX10_word_X10_noWord rfl rfl rfl h0X10_noWord ⟨Nat.le_of_ble_eq_true rfl, Nat.le_of_ble_eq_true rfl⟩ rfl rfl rfl [0, 1] [2] rfl rfl rfl rfl rfl rfl (Nat.le_of_ble_eq_true rfl) dX10_word_2 ⟨Nat.le_of_ble_eq_true rfl, Nat.le_of_ble_eq_true rfl⟩ ?_
  rintro v w ⟨rfl, rfl, hz_1⟩
  refine g_norm (Lw' := [sModel E aM anow aaside anames anamesAside atext aspelled acost afewestFrom afirst afresh aways aundo aslots aisSaved M_thrown_1 M_length M_textSize M_start M_next M_token M_value M_error M_errorAt M_number M_many M_freshMany M_undos, sArrI E anow 365 now, sArrI E aspelled 12 spelled]) (st' := [.int r_1]) (pc' := 5) [0, 1, 2] rfl rfl rfl rfl ?_
  refine g_ifne F 30 dX10_word_5 (by decide) (fun hc_6 => ?_) (fun hc_6 => ?_)
  · replace hf := gi_f hc_6 hf
    refine g_iconst F 0 dX10_word_30 rfl ?_
    cases hf
    exact g_iret F rfl ⟨rfl, rfl⟩ dX10_word_31
  · replace hf := gi_t hc_6 hf
    refine g_aload_n F dX10_word_8 rfl ?_
    refine g_iload_n F dX10_word_9 rfl ?_
    refine g_iconst F 0 dX10_word_10 rfl ?_
    refine g_iconst F 3 dX10_word_11 rfl ?_
    obtain ⟨r_2, hg_2, hf⟩ := gb1_el hf
    refine g_callS (Lr := [sModel E aM anow aaside anames anamesAside atext aspelled acost afewestFrom afirst afresh aways aundo aslots aisSaved M_thrown_1 M_length M_textSize M_start M_next M_token M_value M_error M_errorAt M_number M_many M_freshMany M_undos, sArrI E anow 365 now, sArrI E aspelled 12 spelled]) (As := [.int x2, .int 0, .int 3]) (rest := [.ref (aM 0)]) F 3 (ctX10_within l E x2 0 3 r_2 hg_2) (va_cwS 3 F.2.2.2.2.2.1 gX10_word_X10_within rfl rfl rfl h0X10_within ⟨Nat.le_of_ble_eq_true rfl, Nat.le_of_ble_eq_true rfl⟩) [] [0, 1, 2] rfl rfl rfl rfl rfl rfl (Nat.le_of_ble_eq_true rfl) dX10_word_12 ⟨Nat.le_of_ble_eq_true rfl, Nat.le_of_ble_eq_true rfl⟩ ?_
    rintro v w ⟨rfl, rfl, hz_2⟩
    refine g_norm (Lw' := [sModel E aM anow aaside anames anamesAside atext aspelled acost afewestFrom afirst afresh aways aundo aslots aisSaved M_thrown_1 M_length M_textSize M_start M_next M_token M_value M_error M_errorAt M_number M_many M_freshMany M_undos, sArrI E anow 365 now, sArrI E aspelled 12 spelled]) (st' := [.int r_2, .ref (aM 0)]) (pc' := 15) [0, 1, 2] rfl rfl rfl rfl ?_
    obtain ⟨j_1, hj_1, hf⟩ := Lt_el hf
    have hj_1 : ∀ (t0_1 : Int32), j_1 t0_1 = some (r, M_thrown', M_many', spelled') → Gj p l e rmX10_word s m ([.ref (aM 0), .int x1, .int x2] : List Value).toArray below meth c 0 0 (MQ below (gQ vwCl E A (fun v w => v = some (.int r) ∧ w = [sModel E aM anow aaside anames anamesAside atext aspelled acost afewestFrom afirst afresh aways aundo aslots aisSaved M_thrown' M_length M_textSize M_start M_next M_token M_value M_error M_errorAt M_number M_many' M_freshMany M_undos, sArrI E anow 365 now, sArrI E aspelled 12 spelled'])) ([.ref (aM 0), .int x1, .int x2] : List Value).toArray s 0 0 A) vwCl E A [sModel E aM anow aaside anames anamesAside atext aspelled acost afewestFrom afirst afresh aways aundo aslots aisSaved M_thrown_1 M_length M_textSize M_start M_next M_token M_value M_error M_errorAt M_number M_many M_freshMany M_undos, sArrI E anow 365 now, sArrI E aspelled 12 spelled] [some (.ref (aM 0)), some (.int x1), some (.int x2)] [.int t0_1, .ref (aM 0)] 23 := by
      intro t0_1 hf
      rw [hj_1] at hf
      refine g_iconst F 2 dX10_word_23 rfl ?_
      obtain ⟨r_3, M_thrown_2, hg_3, hf⟩ := gb2_el hf
      refine g_callV (C := RX10) (T := TX10) (N := 27) (Lr := [sArrI E anow 365 now, sArrI E aspelled 12 spelled]) (As := [.int t0_1, .int 2]) (rest := []) F 0 0 2 (ctX10_throwsIf l E aM anow aaside anames anamesAside atext aspelled acost afewestFrom afirst afresh aways aundo aslots aisSaved t0_1 2 M_thrown_1 M_length M_textSize M_start M_next M_token M_value M_error M_errorAt M_number M_many M_freshMany M_undos r_3 M_thrown_2 hg_3) gX10_word_X10_throwsIf rfl rfl rfl h0X10_throwsIf ⟨Nat.le_of_ble_eq_true rfl, Nat.le_of_ble_eq_true rfl⟩ rfl rfl rfl [0] [1, 2] rfl rfl rfl rfl rfl rfl (Nat.le_of_ble_eq_true rfl) dX10_word_24 ⟨Nat.le_of_ble_eq_true rfl, Nat.le_of_ble_eq_true rfl⟩ ?_
      rintro v w ⟨rfl, rfl, hz_3⟩
      refine g_norm (Lw' := [sModel E aM anow aaside anames anamesAside atext aspelled acost afewestFrom afirst afresh aways aundo aslots aisSaved M_thrown_2 M_length M_textSize M_start M_next M_token M_value M_error M_errorAt M_number M_many M_freshMany M_undos, sArrI E anow 365 now, sArrI E aspelled 12 spelled]) (st' := [.int r_3]) (pc' := 27) [0, 1, 2] rfl rfl rfl rfl ?_
      refine g_ifeq F 32 dX10_word_27 (by decide) (fun hc_4 => ?_) (fun hc_4 => ?_)
      · replace hf := gi_t hc_4 hf
        refine g_aload_n F dX10_word_32 rfl ?_
        refine g_iload_n F dX10_word_33 rfl ?_
        obtain ⟨M_many_1, spelled_1, hg_4, hf⟩ := gb2_el hf
        refine g_callV (C := RX10) (T := TX10) (N := 27) (Lr := []) (As := [.int x1]) (rest := []) F 0 0 1 (ctX10_spellsWord l E aM anow aaside anames anamesAside atext aspelled acost afewestFrom afirst afresh aways aundo aslots aisSaved x1 M_thrown_2 M_length M_textSize M_start M_next M_token M_value M_error M_errorAt M_number M_many M_freshMany M_undos now spelled M_many_1 spelled_1 hg_4) gX10_word_X10_spellsWord rfl rfl rfl h0X10_spellsWord ⟨Nat.le_of_ble_eq_true rfl, Nat.le_of_ble_eq_true rfl⟩ rfl rfl rfl [0, 1, 2] [] rfl rfl rfl rfl rfl rfl (Nat.le_of_ble_eq_true rfl) dX10_word_34 ⟨Nat.le_of_ble_eq_true rfl, Nat.le_of_ble_eq_true rfl⟩ ?_
        rintro v w ⟨rfl, rfl⟩
        refine g_norm (Lw' := [sModel E aM anow aaside anames anamesAside atext aspelled acost afewestFrom afirst afresh aways aundo aslots aisSaved M_thrown_2 M_length M_textSize M_start M_next M_token M_value M_error M_errorAt M_number M_many_1 M_freshMany M_undos, sArrI E anow 365 now, sArrI E aspelled 12 spelled_1]) (st' := []) (pc' := 37) [0, 1, 2] rfl rfl rfl rfl ?_
        refine g_iload_n F dX10_word_37 rfl ?_
        refine g_ifne F 50 dX10_word_38 (by decide) (fun hc_3 => ?_) (fun hc_3 => ?_)
        · replace hf := gi_f hc_3 hf
          refine g_iload_n F dX10_word_50 rfl ?_
          refine g_iconst F 1 dX10_word_51 rfl ?_
          refine g_icmp_ne F 62 dX10_word_52 (by decide) (fun hc_2 => ?_) (fun hc_2 => ?_)
          · replace hf := gi_f hc_2 hf
            refine g_iload_n F dX10_word_62 rfl ?_
            refine g_iconst F 2 dX10_word_63 rfl ?_
            refine g_icmp_ne F 76 dX10_word_64 (by decide) (fun hc_1 => ?_) (fun hc_1 => ?_)
            · replace hf := gi_f hc_1 hf
              refine g_aload_n F dX10_word_76 rfl ?_
              refine g_get (C := RX10) (T := TX10) (N := 27) F 0 0 1 rfl rfl rfl iX10_word_X10 (by decide) (by decide +kernel) rfl dX10_word_77 ?_
              refine g_iconst F 2 dX10_word_80 rfl ?_
              refine g_iald F 1 0 2 (by decide) rfl rfl (by decide) dX10_word_81 ?_
              refine g_aload_n F dX10_word_82 rfl ?_
              refine g_iload_n F dX10_word_83 rfl ?_
              refine g_iconst F 1 dX10_word_84 rfl ?_
              obtain ⟨r_6, hg_7, hf⟩ := gb1_el hf
              refine g_callV (C := RX10) (T := TX10) (N := 27) (Lr := [sArrI E aspelled 12 spelled_1]) (As := [.int x1, .int 1]) (rest := [.int (now 2)]) F 0 0 2 (ctX10_ofWord l E aM anow aaside anames anamesAside atext aspelled acost afewestFrom afirst afresh aways aundo aslots aisSaved x1 1 M_thrown_2 M_length M_textSize M_start M_next M_token M_value M_error M_errorAt M_number M_many_1 M_freshMany M_undos now r_6 hg_7) gX10_word_X10_ofWord rfl rfl rfl h0X10_ofWord ⟨Nat.le_of_ble_eq_true rfl, Nat.le_of_ble_eq_true rfl⟩ rfl rfl rfl [0, 1] [2] rfl rfl rfl rfl rfl rfl (Nat.le_of_ble_eq_true rfl) dX10_word_85 ⟨Nat.le_of_ble_eq_true rfl, Nat.le_of_ble_eq_true rfl⟩ ?_
              rintro v w ⟨rfl, rfl⟩
              refine g_norm (Lw' := [sModel E aM anow aaside anames anamesAside atext aspelled acost afewestFrom afirst afresh aways aundo aslots aisSaved M_thrown_2 M_length M_textSize M_start M_next M_token M_value M_error M_errorAt M_number M_many_1 M_freshMany M_undos, sArrI E anow 365 now, sArrI E aspelled 12 spelled_1]) (st' := [.int r_6, .int (now 2)]) (pc' := 88) [0, 1, 2] rfl rfl rfl rfl ?_
              refine g_imul F dX10_word_88 ?_
              cases hf
              exact g_iret F rfl ⟨rfl, rfl⟩ dX10_word_89
            · replace hf := gi_t hc_1 hf
              refine g_aload_n F dX10_word_67 rfl ?_
              refine g_iload_n F dX10_word_68 rfl ?_
              refine g_iconst F 1 dX10_word_69 rfl ?_
              obtain ⟨r_5, hg_6, hf⟩ := gb1_el hf
              refine g_callV (C := RX10) (T := TX10) (N := 27) (Lr := [sArrI E aspelled 12 spelled_1]) (As := [.int x1, .int 1]) (rest := []) F 0 0 2 (ctX10_ofWord l E aM anow aaside anames anamesAside atext aspelled acost afewestFrom afirst afresh aways aundo aslots aisSaved x1 1 M_thrown_2 M_length M_textSize M_start M_next M_token M_value M_error M_errorAt M_number M_many_1 M_freshMany M_undos now r_5 hg_6) gX10_word_X10_ofWord rfl rfl rfl h0X10_ofWord ⟨Nat.le_of_ble_eq_true rfl, Nat.le_of_ble_eq_true rfl⟩ rfl rfl rfl [0, 1] [2] rfl rfl rfl rfl rfl rfl (Nat.le_of_ble_eq_true rfl) dX10_word_70 ⟨Nat.le_of_ble_eq_true rfl, Nat.le_of_ble_eq_true rfl⟩ ?_
              rintro v w ⟨rfl, rfl⟩
              refine g_norm (Lw' := [sModel E aM anow aaside anames anamesAside atext aspelled acost afewestFrom afirst afresh aways aundo aslots aisSaved M_thrown_2 M_length M_textSize M_start M_next M_token M_value M_error M_errorAt M_number M_many_1 M_freshMany M_undos, sArrI E anow 365 now, sArrI E aspelled 12 spelled_1]) (st' := [.int r_5]) (pc' := 73) [0, 1, 2] rfl rfl rfl rfl ?_
              refine g_goto F 89 dX10_word_73 (by decide) ?_
              cases hf
              exact g_iret F rfl ⟨rfl, rfl⟩ dX10_word_89
          · replace hf := gi_t hc_2 hf
            refine g_aload_n F dX10_word_55 rfl ?_
            refine g_get (C := RX10) (T := TX10) (N := 27) F 0 0 16 rfl rfl rfl iX10_word_X10 (by decide) (by decide +kernel) rfl dX10_word_56 ?_
            refine g_goto F 89 dX10_word_59 (by decide) ?_
            cases hf
            exact g_iret F rfl ⟨rfl, rfl⟩ dX10_word_89
        · replace hf := gi_t hc_3 hf
          refine g_aload_n F dX10_word_41 rfl ?_
          refine g_iload_n F dX10_word_42 rfl ?_
          refine g_iconst F 0 dX10_word_43 rfl ?_
          obtain ⟨r_4, hg_5, hf⟩ := gb1_el hf
          refine g_callV (C := RX10) (T := TX10) (N := 27) (Lr := [sArrI E aspelled 12 spelled_1]) (As := [.int x1, .int 0]) (rest := []) F 0 0 2 (ctX10_ofWord l E aM anow aaside anames anamesAside atext aspelled acost afewestFrom afirst afresh aways aundo aslots aisSaved x1 0 M_thrown_2 M_length M_textSize M_start M_next M_token M_value M_error M_errorAt M_number M_many_1 M_freshMany M_undos now r_4 hg_5) gX10_word_X10_ofWord rfl rfl rfl h0X10_ofWord ⟨Nat.le_of_ble_eq_true rfl, Nat.le_of_ble_eq_true rfl⟩ rfl rfl rfl [0, 1] [2] rfl rfl rfl rfl rfl rfl (Nat.le_of_ble_eq_true rfl) dX10_word_44 ⟨Nat.le_of_ble_eq_true rfl, Nat.le_of_ble_eq_true rfl⟩ ?_
          rintro v w ⟨rfl, rfl⟩
          refine g_norm (Lw' := [sModel E aM anow aaside anames anamesAside atext aspelled acost afewestFrom afirst afresh aways aundo aslots aisSaved M_thrown_2 M_length M_textSize M_start M_next M_token M_value M_error M_errorAt M_number M_many_1 M_freshMany M_undos, sArrI E anow 365 now, sArrI E aspelled 12 spelled_1]) (st' := [.int r_4]) (pc' := 47) [0, 1, 2] rfl rfl rfl rfl ?_
          refine g_goto F 89 dX10_word_47 (by decide) ?_
          cases hf
          exact g_iret F rfl ⟨rfl, rfl⟩ dX10_word_89
      · replace hf := gi_f hc_4 hf
        refine g_iconst F 0 dX10_word_30 rfl ?_
        cases hf
        exact g_iret F rfl ⟨rfl, rfl⟩ dX10_word_31
    refine g_ifne F 22 dX10_word_15 (by decide) (fun hc_5 => ?_) (fun hc_5 => ?_)
    · replace hf := gi_f hc_5 hf
      refine g_iconst F 0 dX10_word_22 rfl ?_
      exact hj_1 0 hf
    · replace hf := gi_t hc_5 hf
      refine g_iconst F 1 dX10_word_18 rfl ?_
      refine g_goto F 23 dX10_word_19 (by decide) ?_
      exact hj_1 1 hf
set_option maxHeartbeats 4000000 in
set_option maxRecDepth 100000 in
theorem ctX10_wordLetter (l : Launch) (E : gE) (aM anow aaside anames anamesAside atext aspelled acost afewestFrom afirst afresh aways aundo aslots aisSaved : Nat → Nat) (x1 : Int32) (x2 : Int32) (M_thrown : Int32) (M_length : Int32) (M_textSize : Int32) (M_start : Int32) (M_next : Int32) (M_token : Int32) (M_value : Int32) (M_error : Int32) (M_errorAt : Int32) (M_number : Int32) (M_many : Int32) (M_freshMany : Int32) (M_undos : Int32) (now : (Nat → Int32)) (spelled : (Nat → Int32)) (r : Int32) (M_thrown' : Int32) (M_many' : Int32) (spelled' : (Nat → Int32)) (hf : fX10_wordLetter x1 x2 M_thrown M_many now spelled = some (r, M_thrown', M_many', spelled')) : gMet l yX10_wordLetter wsX10_wordLetter rmX10_wordLetter vwCl E [.ref (aM 0), .int x1, .int x2] [sModel E aM anow aaside anames anamesAside atext aspelled acost afewestFrom afirst afresh aways aundo aslots aisSaved M_thrown M_length M_textSize M_start M_next M_token M_value M_error M_errorAt M_number M_many M_freshMany M_undos, sArrI E anow 365 now, sArrI E aspelled 12 spelled] (fun v w => v = some (.int r) ∧ w = [sModel E aM anow aaside anames anamesAside atext aspelled acost afewestFrom afirst afresh aways aundo aslots aisSaved M_thrown' M_length M_textSize M_start M_next M_token M_value M_error M_errorAt M_number M_many' M_freshMany M_undos, sArrI E anow 365 now, sArrI E aspelled 12 spelled']) 0 0 := by
  refine g_entry [some (.ref (aM 0)), some (.int x1), some (.int x2)] (by decide) rfl (Nat.le_of_ble_eq_true rfl) rfl ?_
  intro p e s m below meth c A F hnm
  unfold fX10_wordLetter at hf
  refine g_aload_n F dX10_wordLetter_0 rfl ?_
  refine g_iload_n F dX10_wordLetter_1 rfl ?_
  obtain ⟨r_1, M_thrown_1, hg_1, hf⟩ := gb2_el hf
  refine g_callV (C := RX10) (T := TX10) (N := 27) (Lr := [sArrI E aspelled 12 spelled]) (As := [.int x1]) (rest := []) F 0 0 1 (ctX10_noWord l E aM anow aaside anames anamesAside atext aspelled acost afewestFrom afirst afresh aways aundo aslots aisSaved x1 M_thrown M_length M_textSize M_start M_next M_token M_value M_error M_errorAt M_number M_many M_freshMany M_undos now r_1 M_thrown_1 hg_1) gX10_wordLetter_X10_noWord rfl rfl rfl h0X10_noWord ⟨Nat.le_of_ble_eq_true rfl, Nat.le_of_ble_eq_true rfl⟩ rfl rfl rfl [0, 1] [2] rfl rfl rfl rfl rfl rfl (Nat.le_of_ble_eq_true rfl) dX10_wordLetter_2 ⟨Nat.le_of_ble_eq_true rfl, Nat.le_of_ble_eq_true rfl⟩ ?_
  rintro v w ⟨rfl, rfl, hz_1⟩
  refine g_norm (Lw' := [sModel E aM anow aaside anames anamesAside atext aspelled acost afewestFrom afirst afresh aways aundo aslots aisSaved M_thrown_1 M_length M_textSize M_start M_next M_token M_value M_error M_errorAt M_number M_many M_freshMany M_undos, sArrI E anow 365 now, sArrI E aspelled 12 spelled]) (st' := [.int r_1]) (pc' := 5) [0, 1, 2] rfl rfl rfl rfl ?_
  refine g_ifeq F 10 dX10_wordLetter_5 (by decide) (fun hc_2 => ?_) (fun hc_2 => ?_)
  · replace hf := gi_t hc_2 hf
    refine g_aload_n F dX10_wordLetter_10 rfl ?_
    refine g_iload_n F dX10_wordLetter_11 rfl ?_
    obtain ⟨M_many_1, spelled_1, hg_2, hf⟩ := gb2_el hf
    refine g_callV (C := RX10) (T := TX10) (N := 27) (Lr := []) (As := [.int x1]) (rest := []) F 0 0 1 (ctX10_spellsWord l E aM anow aaside anames anamesAside atext aspelled acost afewestFrom afirst afresh aways aundo aslots aisSaved x1 M_thrown_1 M_length M_textSize M_start M_next M_token M_value M_error M_errorAt M_number M_many M_freshMany M_undos now spelled M_many_1 spelled_1 hg_2) gX10_wordLetter_X10_spellsWord rfl rfl rfl h0X10_spellsWord ⟨Nat.le_of_ble_eq_true rfl, Nat.le_of_ble_eq_true rfl⟩ rfl rfl rfl [0, 1, 2] [] rfl rfl rfl rfl rfl rfl (Nat.le_of_ble_eq_true rfl) dX10_wordLetter_12 ⟨Nat.le_of_ble_eq_true rfl, Nat.le_of_ble_eq_true rfl⟩ ?_
    rintro v w ⟨rfl, rfl⟩
    refine g_norm (Lw' := [sModel E aM anow aaside anames anamesAside atext aspelled acost afewestFrom afirst afresh aways aundo aslots aisSaved M_thrown_1 M_length M_textSize M_start M_next M_token M_value M_error M_errorAt M_number M_many_1 M_freshMany M_undos, sArrI E anow 365 now, sArrI E aspelled 12 spelled_1]) (st' := []) (pc' := 15) [0, 1, 2] rfl rfl rfl rfl ?_
    refine g_iload_n F dX10_wordLetter_15 rfl ?_
    refine g_iconst F 0 dX10_wordLetter_16 rfl ?_
    refine g_aload_n F dX10_wordLetter_17 rfl ?_
    refine g_get (C := RX10) (T := TX10) (N := 27) F 0 0 16 rfl rfl rfl iX10_wordLetter_X10 (by decide) (by decide +kernel) rfl dX10_wordLetter_18 ?_
    refine g_iconst F 1 dX10_wordLetter_21 rfl ?_
    refine g_isub F dX10_wordLetter_22 ?_
    obtain ⟨r_2, hg_3, hf⟩ := gb1_el hf
    refine g_callS (Lr := [sModel E aM anow aaside anames anamesAside atext aspelled acost afewestFrom afirst afresh aways aundo aslots aisSaved M_thrown_1 M_length M_textSize M_start M_next M_token M_value M_error M_errorAt M_number M_many_1 M_freshMany M_undos, sArrI E anow 365 now, sArrI E aspelled 12 spelled_1]) (As := [.int x2, .int 0, .int (M_many_1 - 1)]) (rest := []) F 3 (ctX10_within l E x2 0 (M_many_1 - 1) r_2 hg_3) (va_cwS 3 F.2.2.2.2.2.1 gX10_wordLetter_X10_within rfl rfl rfl h0X10_within ⟨Nat.le_of_ble_eq_true rfl, Nat.le_of_ble_eq_true rfl⟩) [] [0, 1, 2] rfl rfl rfl rfl rfl rfl (Nat.le_of_ble_eq_true rfl) dX10_wordLetter_23 ⟨Nat.le_of_ble_eq_true rfl, Nat.le_of_ble_eq_true rfl⟩ ?_
    rintro v w ⟨rfl, rfl, hz_2⟩
    refine g_norm (Lw' := [sModel E aM anow aaside anames anamesAside atext aspelled acost afewestFrom afirst afresh aways aundo aslots aisSaved M_thrown_1 M_length M_textSize M_start M_next M_token M_value M_error M_errorAt M_number M_many_1 M_freshMany M_undos, sArrI E anow 365 now, sArrI E aspelled 12 spelled_1]) (st' := [.int r_2]) (pc' := 26) [0, 1, 2] rfl rfl rfl rfl ?_
    refine g_ifeq F 40 dX10_wordLetter_26 (by decide) (fun hc_1 => ?_) (fun hc_1 => ?_)
    · replace hf := gi_t hc_1 hf
      refine g_iconst F (-1) dX10_wordLetter_40 rfl ?_
      cases hf
      exact g_iret F rfl ⟨rfl, rfl⟩ dX10_wordLetter_41
    · replace hf := gi_f hc_1 hf
      refine g_aload_n F dX10_wordLetter_29 rfl ?_
      refine g_get (C := RX10) (T := TX10) (N := 27) F 0 0 15 rfl rfl rfl iX10_wordLetter_X10 (by decide) (by decide +kernel) rfl dX10_wordLetter_30 ?_
      refine g_iload_n F dX10_wordLetter_33 rfl ?_
      obtain ⟨hb_1, hf⟩ := gb_in hf
      refine g_iald F 2 0 (x2.toNatClampNeg) rfl rfl rfl hb_1 dX10_wordLetter_34 ?_
      refine g_iconst F 1 dX10_wordLetter_35 rfl ?_
      refine g_isub F dX10_wordLetter_36 ?_
      refine g_goto F 41 dX10_wordLetter_37 (by decide) ?_
      cases hf
      exact g_iret F rfl ⟨rfl, rfl⟩ dX10_wordLetter_41
  · replace hf := gi_f hc_2 hf
    refine g_iconst F 0 dX10_wordLetter_8 rfl ?_
    cases hf
    exact g_iret F rfl ⟨rfl, rfl⟩ dX10_wordLetter_9
set_option maxHeartbeats 4000000 in
set_option maxRecDepth 100000 in
theorem ctX10_part (l : Launch) (E : gE) (aM anow aaside anames anamesAside atext aspelled acost afewestFrom afirst afresh aways aundo aslots aisSaved : Nat → Nat) (x1 : Int32) (x2 : Int32) (M_thrown : Int32) (M_length : Int32) (M_textSize : Int32) (M_start : Int32) (M_next : Int32) (M_token : Int32) (M_value : Int32) (M_error : Int32) (M_errorAt : Int32) (M_number : Int32) (M_many : Int32) (M_freshMany : Int32) (M_undos : Int32) (now : (Nat → Int32)) (r : Int32) (M_thrown' : Int32) (hf : fX10_part x1 x2 M_thrown now = some (r, M_thrown')) : gMet l yX10_part wsX10_part rmX10_part vwCl E [.ref (aM 0), .int x1, .int x2] [sModel E aM anow aaside anames anamesAside atext aspelled acost afewestFrom afirst afresh aways aundo aslots aisSaved M_thrown M_length M_textSize M_start M_next M_token M_value M_error M_errorAt M_number M_many M_freshMany M_undos, sArrI E anow 365 now] (fun v w => v = some (.int r) ∧ w = [sModel E aM anow aaside anames anamesAside atext aspelled acost afewestFrom afirst afresh aways aundo aslots aisSaved M_thrown' M_length M_textSize M_start M_next M_token M_value M_error M_errorAt M_number M_many M_freshMany M_undos, sArrI E anow 365 now]) 0 0 := by
  refine g_entry [some (.ref (aM 0)), some (.int x1), some (.int x2)] (by decide) rfl (Nat.le_of_ble_eq_true rfl) rfl ?_
  intro p e s m below meth c A F hnm
  unfold fX10_part at hf
  refine g_aload_n F dX10_part_0 rfl ?_
  refine g_iload_n F dX10_part_1 rfl ?_
  obtain ⟨r_1, M_thrown_1, hg_1, hf⟩ := gb2_el hf
  refine g_callV (C := RX10) (T := TX10) (N := 27) (Lr := []) (As := [.int x1]) (rest := []) F 0 0 1 (ctX10_noWord l E aM anow aaside anames anamesAside atext aspelled acost afewestFrom afirst afresh aways aundo aslots aisSaved x1 M_thrown M_length M_textSize M_start M_next M_token M_value M_error M_errorAt M_number M_many M_freshMany M_undos now r_1 M_thrown_1 hg_1) gX10_part_X10_noWord rfl rfl rfl h0X10_noWord ⟨Nat.le_of_ble_eq_true rfl, Nat.le_of_ble_eq_true rfl⟩ rfl rfl rfl [0, 1] [] rfl rfl rfl rfl rfl rfl (Nat.le_of_ble_eq_true rfl) dX10_part_2 ⟨Nat.le_of_ble_eq_true rfl, Nat.le_of_ble_eq_true rfl⟩ ?_
  rintro v w ⟨rfl, rfl, hz_1⟩
  refine g_norm (Lw' := [sModel E aM anow aaside anames anamesAside atext aspelled acost afewestFrom afirst afresh aways aundo aslots aisSaved M_thrown_1 M_length M_textSize M_start M_next M_token M_value M_error M_errorAt M_number M_many M_freshMany M_undos, sArrI E anow 365 now]) (st' := [.int r_1]) (pc' := 5) [0, 1] rfl rfl rfl rfl ?_
  refine g_ifeq F 12 dX10_part_5 (by decide) (fun hc_2 => ?_) (fun hc_2 => ?_)
  · replace hf := gi_t hc_2 hf
    refine g_iload_n F dX10_part_12 rfl ?_
    refine g_iconst F 0 dX10_part_13 rfl ?_
    refine g_aload_n F dX10_part_14 rfl ?_
    refine g_iload_n F dX10_part_15 rfl ?_
    refine g_iconst F 1 dX10_part_16 rfl ?_
    obtain ⟨r_2, hg_2, hf⟩ := gb1_el hf
    refine g_callV (C := RX10) (T := TX10) (N := 27) (Lr := []) (As := [.int x1, .int 1]) (rest := [.int 0, .int x2]) F 0 0 2 (ctX10_ofWord l E aM anow aaside anames anamesAside atext aspelled acost afewestFrom afirst afresh aways aundo aslots aisSaved x1 1 M_thrown_1 M_length M_textSize M_start M_next M_token M_value M_error M_errorAt M_number M_many M_freshMany M_undos now r_2 hg_2) gX10_part_X10_ofWord rfl rfl rfl h0X10_ofWord ⟨Nat.le_of_ble_eq_true rfl, Nat.le_of_ble_eq_true rfl⟩ rfl rfl rfl [0, 1] [] rfl rfl rfl rfl rfl rfl (Nat.le_of_ble_eq_true rfl) dX10_part_17 ⟨Nat.le_of_ble_eq_true rfl, Nat.le_of_ble_eq_true rfl⟩ ?_
    rintro v w ⟨rfl, rfl⟩
    refine g_norm (Lw' := [sModel E aM anow aaside anames anamesAside atext aspelled acost afewestFrom afirst afresh aways aundo aslots aisSaved M_thrown_1 M_length M_textSize M_start M_next M_token M_value M_error M_errorAt M_number M_many M_freshMany M_undos, sArrI E anow 365 now]) (st' := [.int r_2, .int 0, .int x2]) (pc' := 20) [0, 1] rfl rfl rfl rfl ?_
    refine g_iconst F 1 dX10_part_20 rfl ?_
    refine g_isub F dX10_part_21 ?_
    obtain ⟨r_3, hg_3, hf⟩ := gb1_el hf
    refine g_callS (Lr := [sModel E aM anow aaside anames anamesAside atext aspelled acost afewestFrom afirst afresh aways aundo aslots aisSaved M_thrown_1 M_length M_textSize M_start M_next M_token M_value M_error M_errorAt M_number M_many M_freshMany M_undos, sArrI E anow 365 now]) (As := [.int x2, .int 0, .int (r_2 - 1)]) (rest := []) F 3 (ctX10_within l E x2 0 (r_2 - 1) r_3 hg_3) (va_cwS 3 F.2.2.2.2.2.1 gX10_part_X10_within rfl rfl rfl h0X10_within ⟨Nat.le_of_ble_eq_true rfl, Nat.le_of_ble_eq_true rfl⟩) [] [0, 1] rfl rfl rfl rfl rfl rfl (Nat.le_of_ble_eq_true rfl) dX10_part_22 ⟨Nat.le_of_ble_eq_true rfl, Nat.le_of_ble_eq_true rfl⟩ ?_
    rintro v w ⟨rfl, rfl, hz_2⟩
    refine g_norm (Lw' := [sModel E aM anow aaside anames anamesAside atext aspelled acost afewestFrom afirst afresh aways aundo aslots aisSaved M_thrown_1 M_length M_textSize M_start M_next M_token M_value M_error M_errorAt M_number M_many M_freshMany M_undos, sArrI E anow 365 now]) (st' := [.int r_3]) (pc' := 25) [0, 1] rfl rfl rfl rfl ?_
    refine g_ifeq F 39 dX10_part_25 (by decide) (fun hc_1 => ?_) (fun hc_1 => ?_)
    · replace hf := gi_t hc_1 hf
      refine g_iconst F (-1) dX10_part_39 rfl ?_
      cases hf
      exact g_iret F rfl ⟨rfl, rfl⟩ dX10_part_40
    · replace hf := gi_f hc_1 hf
      refine g_aload_n F dX10_part_28 rfl ?_
      refine g_iload_n F dX10_part_29 rfl ?_
      refine g_iconst F 2 dX10_part_30 rfl ?_
      refine g_iload_n F dX10_part_31 rfl ?_
      refine g_iadd F dX10_part_32 ?_
      obtain ⟨r_4, hg_4, hf⟩ := gb1_el hf
      refine g_callV (C := RX10) (T := TX10) (N := 27) (Lr := []) (As := [.int x1, .int (2 + x2)]) (rest := []) F 0 0 2 (ctX10_ofWord l E aM anow aaside anames anamesAside atext aspelled acost afewestFrom afirst afresh aways aundo aslots aisSaved x1 (2 + x2) M_thrown_1 M_length M_textSize M_start M_next M_token M_value M_error M_errorAt M_number M_many M_freshMany M_undos now r_4 hg_4) gX10_part_X10_ofWord rfl rfl rfl h0X10_ofWord ⟨Nat.le_of_ble_eq_true rfl, Nat.le_of_ble_eq_true rfl⟩ rfl rfl rfl [0, 1] [] rfl rfl rfl rfl rfl rfl (Nat.le_of_ble_eq_true rfl) dX10_part_33 ⟨Nat.le_of_ble_eq_true rfl, Nat.le_of_ble_eq_true rfl⟩ ?_
      rintro v w ⟨rfl, rfl⟩
      refine g_norm (Lw' := [sModel E aM anow aaside anames anamesAside atext aspelled acost afewestFrom afirst afresh aways aundo aslots aisSaved M_thrown_1 M_length M_textSize M_start M_next M_token M_value M_error M_errorAt M_number M_many M_freshMany M_undos, sArrI E anow 365 now]) (st' := [.int r_4]) (pc' := 36) [0, 1] rfl rfl rfl rfl ?_
      refine g_goto F 40 dX10_part_36 (by decide) ?_
      cases hf
      exact g_iret F rfl ⟨rfl, rfl⟩ dX10_part_40
  · replace hf := gi_f hc_2 hf
    refine g_iconst F 0 dX10_part_8 rfl ?_
    refine g_goto F 40 dX10_part_9 (by decide) ?_
    cases hf
    exact g_iret F rfl ⟨rfl, rfl⟩ dX10_part_40
set_option maxHeartbeats 4000000 in
set_option maxRecDepth 100000 in
theorem ctX10_quote (l : Launch) (E : gE) (aM anow aaside anames anamesAside atext aspelled acost afewestFrom afirst afresh aways aundo aslots aisSaved : Nat → Nat) (x1 : Int32) (M_thrown : Int32) (M_length : Int32) (M_textSize : Int32) (M_start : Int32) (M_next : Int32) (M_token : Int32) (M_value : Int32) (M_error : Int32) (M_errorAt : Int32) (M_number : Int32) (M_many : Int32) (M_freshMany : Int32) (M_undos : Int32) (now : (Nat → Int32)) (text : (Nat → Int32)) (spelled : (Nat → Int32)) (cost : (Nat → Int32)) (fewestFrom : (Nat → Int32)) (first : (Nat → Int32)) (fresh : (Nat → Int32)) (r : Int32) (M_thrown' : Int32) (M_length' : Int32) (M_textSize' : Int32) (M_start' : Int32) (M_next' : Int32) (M_many' : Int32) (M_freshMany' : Int32) (spelled' : (Nat → Int32)) (cost' : (Nat → Int32)) (fewestFrom' : (Nat → Int32)) (first' : (Nat → Int32)) (fresh' : (Nat → Int32)) (hf : fX10_quote x1 M_thrown M_length M_textSize M_start M_next M_many M_freshMany now text spelled cost fewestFrom first fresh = some (r, M_thrown', M_length', M_textSize', M_start', M_next', M_many', M_freshMany', spelled', cost', fewestFrom', first', fresh')) : gMet l yX10_quote wsX10_quote rmX10_quote vwCl E [.ref (aM 0), .int x1] [sModel E aM anow aaside anames anamesAside atext aspelled acost afewestFrom afirst afresh aways aundo aslots aisSaved M_thrown M_length M_textSize M_start M_next M_token M_value M_error M_errorAt M_number M_many M_freshMany M_undos, sArrI E anow 365 now, sArrB E atext 600 text, sArrI E aspelled 12 spelled, sArrI E acost 13 cost, sArrI E afewestFrom 13 fewestFrom, sArrI E afirst 13 first, sArrI E afresh 12 fresh] (fun v w => v = some (.int r) ∧ w = [sModel E aM anow aaside anames anamesAside atext aspelled acost afewestFrom afirst afresh aways aundo aslots aisSaved M_thrown' M_length' M_textSize' M_start' M_next' M_token M_value M_error M_errorAt M_number M_many' M_freshMany' M_undos, sArrI E anow 365 now, sArrB E atext 600 text, sArrI E aspelled 12 spelled', sArrI E acost 13 cost', sArrI E afewestFrom 13 fewestFrom', sArrI E afirst 13 first', sArrI E afresh 12 fresh']) 0 0 := by
  refine g_entry [some (.ref (aM 0)), some (.int x1), none, none] (by decide) rfl (Nat.le_of_ble_eq_true rfl) rfl ?_
  intro p e s m below meth c A F hnm
  unfold fX10_quote at hf
  refine g_aload_n F dX10_quote_0 rfl ?_
  refine g_iconst F 0 dX10_quote_1 rfl ?_
  refine g_put (C := RX10) (T := TX10) (N := 27) (tys := tyX10) (Lw' := [sModel E aM anow aaside anames anamesAside atext aspelled acost afewestFrom afirst afresh aways aundo aslots aisSaved 0 M_length M_textSize M_start M_next M_token M_value M_error M_errorAt M_number M_many M_freshMany M_undos, sArrI E anow 365 now, sArrB E atext 600 text, sArrI E aspelled 12 spelled, sArrI E acost 13 cost, sArrI E afewestFrom 13 fewestFrom, sArrI E afirst 13 first, sArrI E afresh 12 fresh]) F 0 0 0 rfl rfl rfl iX10_quote_X10 tyX10_ok nmX10 (by decide) (by decide +kernel) rfl rfl rfl rfl (Nat.le_of_ble_eq_true rfl) dX10_quote_2 rfl ?_
  refine g_aload_n F dX10_quote_5 rfl ?_
  obtain ⟨r_1, M_length_1, M_textSize_1, M_start_1, M_next_1, M_many_1, spelled_1, hg_1, hf⟩ := gb7_el hf
  refine g_callV (C := RX10) (T := TX10) (N := 27) (Lr := [sArrI E anow 365 now, sArrI E acost 13 cost, sArrI E afewestFrom 13 fewestFrom, sArrI E afirst 13 first, sArrI E afresh 12 fresh]) (As := []) (rest := []) F 0 0 0 (ctX10_reads l E aM anow aaside anames anamesAside atext aspelled acost afewestFrom afirst afresh aways aundo aslots aisSaved 0 M_length M_textSize M_start M_next M_token M_value M_error M_errorAt M_number M_many M_freshMany M_undos text spelled r_1 M_length_1 M_textSize_1 M_start_1 M_next_1 M_many_1 spelled_1 hg_1) gX10_quote_X10_reads rfl rfl rfl h0X10_reads ⟨Nat.le_of_ble_eq_true rfl, Nat.le_of_ble_eq_true rfl⟩ rfl rfl rfl [0, 2, 3] [1, 4, 5, 6, 7] rfl rfl rfl rfl rfl rfl (Nat.le_of_ble_eq_true rfl) dX10_quote_6 ⟨Nat.le_of_ble_eq_true rfl, Nat.le_of_ble_eq_true rfl⟩ ?_
  rintro v w ⟨rfl, rfl, hz_1⟩
  refine g_norm (Lw' := [sModel E aM anow aaside anames anamesAside atext aspelled acost afewestFrom afirst afresh aways aundo aslots aisSaved 0 M_length_1 M_textSize_1 M_start_1 M_next_1 M_token M_value M_error M_errorAt M_number M_many_1 M_freshMany M_undos, sArrI E anow 365 now, sArrB E atext 600 text, sArrI E aspelled 12 spelled_1, sArrI E acost 13 cost, sArrI E afewestFrom 13 fewestFrom, sArrI E afirst 13 first, sArrI E afresh 12 fresh]) (st' := [.int r_1]) (pc' := 9) [0, 3, 1, 2, 4, 5, 6, 7] rfl rfl rfl rfl ?_
  refine g_istore_n (lv' := [some (.ref (aM 0)), some (.int x1), some (.int r_1), none]) F dX10_quote_9 (Nat.le_of_ble_eq_true rfl) rfl rfl ?_
  refine g_aload_n F dX10_quote_10 rfl ?_
  refine g_iload_n F dX10_quote_11 rfl ?_
  refine g_iconst F 0 dX10_quote_12 rfl ?_
  refine g_iconst F 4 dX10_quote_13 rfl ?_
  obtain ⟨r_2, hg_2, hf⟩ := gb1_el hf
  refine g_callS (Lr := [sModel E aM anow aaside anames anamesAside atext aspelled acost afewestFrom afirst afresh aways aundo aslots aisSaved 0 M_length_1 M_textSize_1 M_start_1 M_next_1 M_token M_value M_error M_errorAt M_number M_many_1 M_freshMany M_undos, sArrI E anow 365 now, sArrB E atext 600 text, sArrI E aspelled 12 spelled_1, sArrI E acost 13 cost, sArrI E afewestFrom 13 fewestFrom, sArrI E afirst 13 first, sArrI E afresh 12 fresh]) (As := [.int x1, .int 0, .int 4]) (rest := [.ref (aM 0)]) F 3 (ctX10_within l E x1 0 4 r_2 hg_2) (va_cwS 3 F.2.2.2.2.2.1 gX10_quote_X10_within rfl rfl rfl h0X10_within ⟨Nat.le_of_ble_eq_true rfl, Nat.le_of_ble_eq_true rfl⟩) [] [0, 1, 2, 3, 4, 5, 6, 7] rfl rfl rfl rfl rfl rfl (Nat.le_of_ble_eq_true rfl) dX10_quote_14 ⟨Nat.le_of_ble_eq_true rfl, Nat.le_of_ble_eq_true rfl⟩ ?_
  rintro v w ⟨rfl, rfl, hz_2⟩
  refine g_norm (Lw' := [sModel E aM anow aaside anames anamesAside atext aspelled acost afewestFrom afirst afresh aways aundo aslots aisSaved 0 M_length_1 M_textSize_1 M_start_1 M_next_1 M_token M_value M_error M_errorAt M_number M_many_1 M_freshMany M_undos, sArrI E anow 365 now, sArrB E atext 600 text, sArrI E aspelled 12 spelled_1, sArrI E acost 13 cost, sArrI E afewestFrom 13 fewestFrom, sArrI E afirst 13 first, sArrI E afresh 12 fresh]) (st' := [.int r_2, .ref (aM 0)]) (pc' := 17) [0, 1, 2, 3, 4, 5, 6, 7] rfl rfl rfl rfl ?_
  obtain ⟨j_1, hj_1, hf⟩ := Lt_el hf
  have hj_1 : ∀ (t0_1 : Int32), j_1 t0_1 = some (r, M_thrown', M_length', M_textSize', M_start', M_next', M_many', M_freshMany', spelled', cost', fewestFrom', first', fresh') → Gj p l e rmX10_quote s m ([.ref (aM 0), .int x1] : List Value).toArray below meth c 0 0 (MQ below (gQ vwCl E A (fun v w => v = some (.int r) ∧ w = [sModel E aM anow aaside anames anamesAside atext aspelled acost afewestFrom afirst afresh aways aundo aslots aisSaved M_thrown' M_length' M_textSize' M_start' M_next' M_token M_value M_error M_errorAt M_number M_many' M_freshMany' M_undos, sArrI E anow 365 now, sArrB E atext 600 text, sArrI E aspelled 12 spelled', sArrI E acost 13 cost', sArrI E afewestFrom 13 fewestFrom', sArrI E afirst 13 first', sArrI E afresh 12 fresh'])) ([.ref (aM 0), .int x1] : List Value).toArray s 0 0 A) vwCl E A [sModel E aM anow aaside anames anamesAside atext aspelled acost afewestFrom afirst afresh aways aundo aslots aisSaved 0 M_length_1 M_textSize_1 M_start_1 M_next_1 M_token M_value M_error M_errorAt M_number M_many_1 M_freshMany M_undos, sArrI E anow 365 now, sArrB E atext 600 text, sArrI E aspelled 12 spelled_1, sArrI E acost 13 cost, sArrI E afewestFrom 13 fewestFrom, sArrI E afirst 13 first, sArrI E afresh 12 fresh] [some (.ref (aM 0)), some (.int x1), some (.int r_1), none] [.int t0_1, .ref (aM 0)] 25 := by
    intro t0_1 hf
    rw [hj_1] at hf
    refine g_iconst F 1 dX10_quote_25 rfl ?_
    obtain ⟨r_3, M_thrown_1, hg_3, hf⟩ := gb2_el hf
    refine g_callV (C := RX10) (T := TX10) (N := 27) (Lr := [sArrI E anow 365 now, sArrB E atext 600 text, sArrI E aspelled 12 spelled_1, sArrI E acost 13 cost, sArrI E afewestFrom 13 fewestFrom, sArrI E afirst 13 first, sArrI E afresh 12 fresh]) (As := [.int t0_1, .int 1]) (rest := []) F 0 0 2 (ctX10_throwsIf l E aM anow aaside anames anamesAside atext aspelled acost afewestFrom afirst afresh aways aundo aslots aisSaved t0_1 1 0 M_length_1 M_textSize_1 M_start_1 M_next_1 M_token M_value M_error M_errorAt M_number M_many_1 M_freshMany M_undos r_3 M_thrown_1 hg_3) gX10_quote_X10_throwsIf rfl rfl rfl h0X10_throwsIf ⟨Nat.le_of_ble_eq_true rfl, Nat.le_of_ble_eq_true rfl⟩ rfl rfl rfl [0] [1, 2, 3, 4, 5, 6, 7] rfl rfl rfl rfl rfl rfl (Nat.le_of_ble_eq_true rfl) dX10_quote_26 ⟨Nat.le_of_ble_eq_true rfl, Nat.le_of_ble_eq_true rfl⟩ ?_
    rintro v w ⟨rfl, rfl, hz_3⟩
    refine g_norm (Lw' := [sModel E aM anow aaside anames anamesAside atext aspelled acost afewestFrom afirst afresh aways aundo aslots aisSaved M_thrown_1 M_length_1 M_textSize_1 M_start_1 M_next_1 M_token M_value M_error M_errorAt M_number M_many_1 M_freshMany M_undos, sArrI E anow 365 now, sArrB E atext 600 text, sArrI E aspelled 12 spelled_1, sArrI E acost 13 cost, sArrI E afewestFrom 13 fewestFrom, sArrI E afirst 13 first, sArrI E afresh 12 fresh]) (st' := [.int r_3]) (pc' := 29) [0, 1, 2, 3, 4, 5, 6, 7] rfl rfl rfl rfl ?_
    refine g_ifeq F 34 dX10_quote_29 (by decide) (fun hc_6 => ?_) (fun hc_6 => ?_)
    · replace hf := gi_t hc_6 hf
      refine g_iload_n F dX10_quote_34 rfl ?_
      refine g_ifne F 40 dX10_quote_35 (by decide) (fun hc_5 => ?_) (fun hc_5 => ?_)
      · replace hf := gi_f hc_5 hf
        refine g_aload_n F dX10_quote_40 rfl ?_
        obtain ⟨cost_1, fewestFrom_1, first_1, hg_4, hf⟩ := gb3_el hf
        refine g_callV (C := RX10) (T := TX10) (N := 27) (Lr := [sArrB E atext 600 text, sArrI E afresh 12 fresh]) (As := []) (rest := []) F 0 0 0 (ctX10_cutsCheapest l E aM anow aaside anames anamesAside atext aspelled acost afewestFrom afirst afresh aways aundo aslots aisSaved M_thrown_1 M_length_1 M_textSize_1 M_start_1 M_next_1 M_token M_value M_error M_errorAt M_number M_many_1 M_freshMany M_undos now spelled_1 cost fewestFrom first cost_1 fewestFrom_1 first_1 hg_4) gX10_quote_X10_cutsCheapest rfl rfl rfl h0X10_cutsCheapest ⟨Nat.le_of_ble_eq_true rfl, Nat.le_of_ble_eq_true rfl⟩ rfl rfl rfl [0, 1, 3, 4, 5, 6] [2, 7] rfl rfl rfl rfl rfl rfl (Nat.le_of_ble_eq_true rfl) dX10_quote_41 ⟨Nat.le_of_ble_eq_true rfl, Nat.le_of_ble_eq_true rfl⟩ ?_
        rintro v w ⟨rfl, rfl⟩
        refine g_norm (Lw' := [sModel E aM anow aaside anames anamesAside atext aspelled acost afewestFrom afirst afresh aways aundo aslots aisSaved M_thrown_1 M_length_1 M_textSize_1 M_start_1 M_next_1 M_token M_value M_error M_errorAt M_number M_many_1 M_freshMany M_undos, sArrI E anow 365 now, sArrB E atext 600 text, sArrI E aspelled 12 spelled_1, sArrI E acost 13 cost_1, sArrI E afewestFrom 13 fewestFrom_1, sArrI E afirst 13 first_1, sArrI E afresh 12 fresh]) (st' := []) (pc' := 44) [0, 1, 6, 2, 3, 4, 5, 7] rfl rfl rfl rfl ?_
        refine g_aload_n F dX10_quote_44 rfl ?_
        obtain ⟨M_freshMany_1, fresh_1, hg_5, hf⟩ := gb2_el hf
        refine g_callV (C := RX10) (T := TX10) (N := 27) (Lr := [sArrB E atext 600 text, sArrI E acost 13 cost_1, sArrI E afewestFrom 13 fewestFrom_1]) (As := []) (rest := []) F 0 0 0 (ctX10_laysFresh l E aM anow aaside anames anamesAside atext aspelled acost afewestFrom afirst afresh aways aundo aslots aisSaved M_thrown_1 M_length_1 M_textSize_1 M_start_1 M_next_1 M_token M_value M_error M_errorAt M_number M_many_1 M_freshMany M_undos now spelled_1 first_1 fresh M_freshMany_1 fresh_1 hg_5) gX10_quote_X10_laysFresh rfl rfl rfl h0X10_laysFresh ⟨Nat.le_of_ble_eq_true rfl, Nat.le_of_ble_eq_true rfl⟩ rfl rfl rfl [0, 1, 3, 6, 7] [2, 4, 5] rfl rfl rfl rfl rfl rfl (Nat.le_of_ble_eq_true rfl) dX10_quote_45 ⟨Nat.le_of_ble_eq_true rfl, Nat.le_of_ble_eq_true rfl⟩ ?_
        rintro v w ⟨rfl, rfl⟩
        refine g_norm (Lw' := [sModel E aM anow aaside anames anamesAside atext aspelled acost afewestFrom afirst afresh aways aundo aslots aisSaved M_thrown_1 M_length_1 M_textSize_1 M_start_1 M_next_1 M_token M_value M_error M_errorAt M_number M_many_1 M_freshMany_1 M_undos, sArrI E anow 365 now, sArrB E atext 600 text, sArrI E aspelled 12 spelled_1, sArrI E acost 13 cost_1, sArrI E afewestFrom 13 fewestFrom_1, sArrI E afirst 13 first_1, sArrI E afresh 12 fresh_1]) (st' := []) (pc' := 48) [0, 1, 5, 2, 6, 7, 3, 4] rfl rfl rfl rfl ?_
        refine g_aload_n F dX10_quote_48 rfl ?_
        refine g_get (C := RX10) (T := TX10) (N := 27) F 0 0 1 rfl rfl rfl iX10_quote_X10 (by decide) (by decide +kernel) rfl dX10_quote_49 ?_
        refine g_iconst F 2 dX10_quote_52 rfl ?_
        refine g_iald F 1 0 2 (by decide) rfl rfl (by decide) dX10_quote_53 ?_
        refine g_aload_n F dX10_quote_54 rfl ?_
        refine g_get (C := RX10) (T := TX10) (N := 27) F 0 0 18 rfl rfl rfl iX10_quote_X10 (by decide) (by decide +kernel) rfl dX10_quote_55 ?_
        refine g_iconst F 0 dX10_quote_58 rfl ?_
        refine g_iald F 5 0 0 (by decide) rfl rfl (by decide) dX10_quote_59 ?_
        refine g_imul F dX10_quote_60 ?_
        refine g_istore_n (lv' := [some (.ref (aM 0)), some (.int x1), some (.int r_1), some (.int ((now 2) * (fewestFrom_1 0)))]) F dX10_quote_61 (Nat.le_of_ble_eq_true rfl) rfl rfl ?_
        refine g_iload_n F dX10_quote_62 rfl ?_
        by_cases hc_1 : x1 = 0
        · replace hf := gi_t hc_1 hf
          refine g_tabIn F 92 0 hc_1 dX10_quote_63 (by decide) (by decide) rfl (by decide) ?_
          refine g_iload_n F dX10_quote_92 rfl ?_
          refine g_aload_n F dX10_quote_93 rfl ?_
          obtain ⟨r_4, hg_6, hf⟩ := gb1_el hf
          refine g_callV (C := RX10) (T := TX10) (N := 27) (Lr := [sArrB E atext 600 text, sArrI E aspelled 12 spelled_1, sArrI E acost 13 cost_1, sArrI E afewestFrom 13 fewestFrom_1, sArrI E afirst 13 first_1]) (As := []) (rest := [.int ((now 2) * (fewestFrom_1 0))]) F 0 0 0 (ctX10_freshPrice l E aM anow aaside anames anamesAside atext aspelled acost afewestFrom afirst afresh aways aundo aslots aisSaved M_thrown_1 M_length_1 M_textSize_1 M_start_1 M_next_1 M_token M_value M_error M_errorAt M_number M_many_1 M_freshMany_1 M_undos now fresh_1 r_4 hg_6) gX10_quote_X10_freshPrice rfl rfl rfl h0X10_freshPrice ⟨Nat.le_of_ble_eq_true rfl, Nat.le_of_ble_eq_true rfl⟩ rfl rfl rfl [0, 1, 7] [2, 3, 4, 5, 6] rfl rfl rfl rfl rfl rfl (Nat.le_of_ble_eq_true rfl) dX10_quote_94 ⟨Nat.le_of_ble_eq_true rfl, Nat.le_of_ble_eq_true rfl⟩ ?_
          rintro v w ⟨rfl, rfl⟩
          refine g_norm (Lw' := [sModel E aM anow aaside anames anamesAside atext aspelled acost afewestFrom afirst afresh aways aundo aslots aisSaved M_thrown_1 M_length_1 M_textSize_1 M_start_1 M_next_1 M_token M_value M_error M_errorAt M_number M_many_1 M_freshMany_1 M_undos, sArrI E anow 365 now, sArrB E atext 600 text, sArrI E aspelled 12 spelled_1, sArrI E acost 13 cost_1, sArrI E afewestFrom 13 fewestFrom_1, sArrI E afirst 13 first_1, sArrI E afresh 12 fresh_1]) (st' := [.int r_4, .int ((now 2) * (fewestFrom_1 0))]) (pc' := 97) [0, 1, 3, 4, 5, 6, 7, 2] rfl rfl rfl rfl ?_
          refine g_iadd F dX10_quote_97 ?_
          cases hf
          exact g_iret F rfl ⟨rfl, rfl⟩ dX10_quote_98
        replace hf := gi_f hc_1 hf
        by_cases hc_2 : x1 = 1
        · replace hf := gi_t hc_2 hf
          refine g_tabIn F 99 1 hc_2 dX10_quote_63 (by decide) (by decide) rfl (by decide) ?_
          refine g_iload_n F dX10_quote_99 rfl ?_
          cases hf
          exact g_iret F rfl ⟨rfl, rfl⟩ dX10_quote_100
        replace hf := gi_f hc_2 hf
        by_cases hc_3 : x1 = 2
        · replace hf := gi_t hc_3 hf
          refine g_tabIn F 101 2 hc_3 dX10_quote_63 (by decide) (by decide) rfl (by decide) ?_
          refine g_aload_n F dX10_quote_101 rfl ?_
          obtain ⟨r_5, hg_7, hf⟩ := gb1_el hf
          refine g_callV (C := RX10) (T := TX10) (N := 27) (Lr := [sArrB E atext 600 text, sArrI E aspelled 12 spelled_1, sArrI E acost 13 cost_1, sArrI E afewestFrom 13 fewestFrom_1, sArrI E afirst 13 first_1]) (As := []) (rest := []) F 0 0 0 (ctX10_freshPrice l E aM anow aaside anames anamesAside atext aspelled acost afewestFrom afirst afresh aways aundo aslots aisSaved M_thrown_1 M_length_1 M_textSize_1 M_start_1 M_next_1 M_token M_value M_error M_errorAt M_number M_many_1 M_freshMany_1 M_undos now fresh_1 r_5 hg_7) gX10_quote_X10_freshPrice rfl rfl rfl h0X10_freshPrice ⟨Nat.le_of_ble_eq_true rfl, Nat.le_of_ble_eq_true rfl⟩ rfl rfl rfl [0, 1, 7] [2, 3, 4, 5, 6] rfl rfl rfl rfl rfl rfl (Nat.le_of_ble_eq_true rfl) dX10_quote_102 ⟨Nat.le_of_ble_eq_true rfl, Nat.le_of_ble_eq_true rfl⟩ ?_
          rintro v w ⟨rfl, rfl⟩
          refine g_norm (Lw' := [sModel E aM anow aaside anames anamesAside atext aspelled acost afewestFrom afirst afresh aways aundo aslots aisSaved M_thrown_1 M_length_1 M_textSize_1 M_start_1 M_next_1 M_token M_value M_error M_errorAt M_number M_many_1 M_freshMany_1 M_undos, sArrI E anow 365 now, sArrB E atext 600 text, sArrI E aspelled 12 spelled_1, sArrI E acost 13 cost_1, sArrI E afewestFrom 13 fewestFrom_1, sArrI E afirst 13 first_1, sArrI E afresh 12 fresh_1]) (st' := [.int r_5]) (pc' := 105) [0, 1, 3, 4, 5, 6, 7, 2] rfl rfl rfl rfl ?_
          cases hf
          exact g_iret F rfl ⟨rfl, rfl⟩ dX10_quote_105
        replace hf := gi_f hc_3 hf
        by_cases hc_4 : x1 = 3
        · replace hf := gi_t hc_4 hf
          refine g_tabIn F 106 3 hc_4 dX10_quote_63 (by decide) (by decide) rfl (by decide) ?_
          refine g_aload_n F dX10_quote_106 rfl ?_
          refine g_get (C := RX10) (T := TX10) (N := 27) F 0 0 18 rfl rfl rfl iX10_quote_X10 (by decide) (by decide +kernel) rfl dX10_quote_107 ?_
          refine g_iconst F 0 dX10_quote_110 rfl ?_
          refine g_iald F 5 0 0 (by decide) rfl rfl (by decide) dX10_quote_111 ?_
          cases hf
          exact g_iret F rfl ⟨rfl, rfl⟩ dX10_quote_112
        replace hf := gi_f hc_4 hf
        refine g_tabOut F 113 dX10_quote_63 (gtl_3 hc_1 hc_2 hc_3 hc_4) (by decide) ?_
        refine g_aload_n F dX10_quote_113 rfl ?_
        refine g_get (C := RX10) (T := TX10) (N := 27) F 0 0 21 rfl rfl rfl iX10_quote_X10 (by decide) (by decide +kernel) rfl dX10_quote_114 ?_
        cases hf
        exact g_iret F rfl ⟨rfl, rfl⟩ dX10_quote_117
      · replace hf := gi_t hc_5 hf
        refine g_iconst F (-1) dX10_quote_38 rfl ?_
        cases hf
        exact g_iret F rfl ⟨rfl, rfl⟩ dX10_quote_39
    · replace hf := gi_f hc_6 hf
      refine g_iconst F 0 dX10_quote_32 rfl ?_
      cases hf
      exact g_iret F rfl ⟨rfl, rfl⟩ dX10_quote_33
  refine g_ifne F 24 dX10_quote_17 (by decide) (fun hc_7 => ?_) (fun hc_7 => ?_)
  · replace hf := gi_f hc_7 hf
    refine g_iconst F 0 dX10_quote_24 rfl ?_
    exact hj_1 0 hf
  · replace hf := gi_t hc_7 hf
    refine g_iconst F 1 dX10_quote_20 rfl ?_
    refine g_goto F 25 dX10_quote_21 (by decide) ?_
    exact hj_1 1 hf
set_option maxHeartbeats 4000000 in
set_option maxRecDepth 100000 in
theorem ctX10_whyNotStore (l : Launch) (E : gE) (aM anow aaside anames anamesAside atext aspelled acost afewestFrom afirst afresh aways aundo aslots aisSaved : Nat → Nat) (x1 : Int32) (M_thrown : Int32) (M_length : Int32) (M_textSize : Int32) (M_start : Int32) (M_next : Int32) (M_token : Int32) (M_value : Int32) (M_error : Int32) (M_errorAt : Int32) (M_number : Int32) (M_many : Int32) (M_freshMany : Int32) (M_undos : Int32) (now : (Nat → Int32)) (text : (Nat → Int32)) (spelled : (Nat → Int32)) (cost : (Nat → Int32)) (fewestFrom : (Nat → Int32)) (first : (Nat → Int32)) (fresh : (Nat → Int32)) (r : Int32) (M_thrown' : Int32) (M_length' : Int32) (M_textSize' : Int32) (M_start' : Int32) (M_next' : Int32) (M_many' : Int32) (M_freshMany' : Int32) (spelled' : (Nat → Int32)) (cost' : (Nat → Int32)) (fewestFrom' : (Nat → Int32)) (first' : (Nat → Int32)) (fresh' : (Nat → Int32)) (hf : fX10_whyNotStore x1 M_thrown M_length M_textSize M_start M_next M_many M_freshMany now text spelled cost fewestFrom first fresh = some (r, M_thrown', M_length', M_textSize', M_start', M_next', M_many', M_freshMany', spelled', cost', fewestFrom', first', fresh')) : gMet l yX10_whyNotStore wsX10_whyNotStore rmX10_whyNotStore vwCl E [.ref (aM 0), .int x1] [sModel E aM anow aaside anames anamesAside atext aspelled acost afewestFrom afirst afresh aways aundo aslots aisSaved M_thrown M_length M_textSize M_start M_next M_token M_value M_error M_errorAt M_number M_many M_freshMany M_undos, sArrI E anow 365 now, sArrB E atext 600 text, sArrI E aspelled 12 spelled, sArrI E acost 13 cost, sArrI E afewestFrom 13 fewestFrom, sArrI E afirst 13 first, sArrI E afresh 12 fresh] (fun v w => v = some (.int r) ∧ w = [sModel E aM anow aaside anames anamesAside atext aspelled acost afewestFrom afirst afresh aways aundo aslots aisSaved M_thrown' M_length' M_textSize' M_start' M_next' M_token M_value M_error M_errorAt M_number M_many' M_freshMany' M_undos, sArrI E anow 365 now, sArrB E atext 600 text, sArrI E aspelled 12 spelled', sArrI E acost 13 cost', sArrI E afewestFrom 13 fewestFrom', sArrI E afirst 13 first', sArrI E afresh 12 fresh']) 0 0 := by
  refine g_entry [some (.ref (aM 0)), some (.int x1), none] (by decide) rfl (Nat.le_of_ble_eq_true rfl) rfl ?_
  intro p e s m below meth c A F hnm
  unfold fX10_whyNotStore at hf
  refine g_aload_n F dX10_whyNotStore_0 rfl ?_
  obtain ⟨r_1, M_length_1, M_textSize_1, M_start_1, M_next_1, M_many_1, spelled_1, hg_1, hf⟩ := gb7_el hf
  refine g_callV (C := RX10) (T := TX10) (N := 27) (Lr := [sArrI E anow 365 now, sArrI E acost 13 cost, sArrI E afewestFrom 13 fewestFrom, sArrI E afirst 13 first, sArrI E afresh 12 fresh]) (As := []) (rest := []) F 0 0 0 (ctX10_reads l E aM anow aaside anames anamesAside atext aspelled acost afewestFrom afirst afresh aways aundo aslots aisSaved M_thrown M_length M_textSize M_start M_next M_token M_value M_error M_errorAt M_number M_many M_freshMany M_undos text spelled r_1 M_length_1 M_textSize_1 M_start_1 M_next_1 M_many_1 spelled_1 hg_1) gX10_whyNotStore_X10_reads rfl rfl rfl h0X10_reads ⟨Nat.le_of_ble_eq_true rfl, Nat.le_of_ble_eq_true rfl⟩ rfl rfl rfl [0, 2, 3] [1, 4, 5, 6, 7] rfl rfl rfl rfl rfl rfl (Nat.le_of_ble_eq_true rfl) dX10_whyNotStore_1 ⟨Nat.le_of_ble_eq_true rfl, Nat.le_of_ble_eq_true rfl⟩ ?_
  rintro v w ⟨rfl, rfl, hz_1⟩
  refine g_norm (Lw' := [sModel E aM anow aaside anames anamesAside atext aspelled acost afewestFrom afirst afresh aways aundo aslots aisSaved M_thrown M_length_1 M_textSize_1 M_start_1 M_next_1 M_token M_value M_error M_errorAt M_number M_many_1 M_freshMany M_undos, sArrI E anow 365 now, sArrB E atext 600 text, sArrI E aspelled 12 spelled_1, sArrI E acost 13 cost, sArrI E afewestFrom 13 fewestFrom, sArrI E afirst 13 first, sArrI E afresh 12 fresh]) (st' := [.int r_1]) (pc' := 4) [0, 3, 1, 2, 4, 5, 6, 7] rfl rfl rfl rfl ?_
  refine g_istore_n (lv' := [some (.ref (aM 0)), some (.int x1), some (.int r_1)]) F dX10_whyNotStore_4 (Nat.le_of_ble_eq_true rfl) rfl rfl ?_
  refine g_aload_n F dX10_whyNotStore_5 rfl ?_
  refine g_iload_n F dX10_whyNotStore_6 rfl ?_
  obtain ⟨r_2, M_thrown_1, hg_2, hf⟩ := gb2_el hf
  refine g_callV (C := RX10) (T := TX10) (N := 27) (Lr := [sArrB E atext 600 text, sArrI E aspelled 12 spelled_1, sArrI E acost 13 cost, sArrI E afewestFrom 13 fewestFrom, sArrI E afirst 13 first, sArrI E afresh 12 fresh]) (As := [.int x1]) (rest := []) F 0 0 1 (ctX10_noUser l E aM anow aaside anames anamesAside atext aspelled acost afewestFrom afirst afresh aways aundo aslots aisSaved x1 M_thrown M_length_1 M_textSize_1 M_start_1 M_next_1 M_token M_value M_error M_errorAt M_number M_many_1 M_freshMany M_undos now r_2 M_thrown_1 hg_2) gX10_whyNotStore_X10_noUser rfl rfl rfl h0X10_noUser ⟨Nat.le_of_ble_eq_true rfl, Nat.le_of_ble_eq_true rfl⟩ rfl rfl rfl [0, 1] [2, 3, 4, 5, 6, 7] rfl rfl rfl rfl rfl rfl (Nat.le_of_ble_eq_true rfl) dX10_whyNotStore_7 ⟨Nat.le_of_ble_eq_true rfl, Nat.le_of_ble_eq_true rfl⟩ ?_
  rintro v w ⟨rfl, rfl, hz_2⟩
  refine g_norm (Lw' := [sModel E aM anow aaside anames anamesAside atext aspelled acost afewestFrom afirst afresh aways aundo aslots aisSaved M_thrown_1 M_length_1 M_textSize_1 M_start_1 M_next_1 M_token M_value M_error M_errorAt M_number M_many_1 M_freshMany M_undos, sArrI E anow 365 now, sArrB E atext 600 text, sArrI E aspelled 12 spelled_1, sArrI E acost 13 cost, sArrI E afewestFrom 13 fewestFrom, sArrI E afirst 13 first, sArrI E afresh 12 fresh]) (st' := [.int r_2]) (pc' := 10) [0, 1, 2, 3, 4, 5, 6, 7] rfl rfl rfl rfl ?_
  refine g_ifeq F 15 dX10_whyNotStore_10 (by decide) (fun hc_2 => ?_) (fun hc_2 => ?_)
  · replace hf := gi_t hc_2 hf
    refine g_iload_n F dX10_whyNotStore_15 rfl ?_
    refine g_ifne F 21 dX10_whyNotStore_16 (by decide) (fun hc_1 => ?_) (fun hc_1 => ?_)
    · replace hf := gi_f hc_1 hf
      refine g_aload_n F dX10_whyNotStore_21 rfl ?_
      obtain ⟨cost_1, fewestFrom_1, first_1, hg_3, hf⟩ := gb3_el hf
      refine g_callV (C := RX10) (T := TX10) (N := 27) (Lr := [sArrB E atext 600 text, sArrI E afresh 12 fresh]) (As := []) (rest := []) F 0 0 0 (ctX10_cutsCheapest l E aM anow aaside anames anamesAside atext aspelled acost afewestFrom afirst afresh aways aundo aslots aisSaved M_thrown_1 M_length_1 M_textSize_1 M_start_1 M_next_1 M_token M_value M_error M_errorAt M_number M_many_1 M_freshMany M_undos now spelled_1 cost fewestFrom first cost_1 fewestFrom_1 first_1 hg_3) gX10_whyNotStore_X10_cutsCheapest rfl rfl rfl h0X10_cutsCheapest ⟨Nat.le_of_ble_eq_true rfl, Nat.le_of_ble_eq_true rfl⟩ rfl rfl rfl [0, 1, 3, 4, 5, 6] [2, 7] rfl rfl rfl rfl rfl rfl (Nat.le_of_ble_eq_true rfl) dX10_whyNotStore_22 ⟨Nat.le_of_ble_eq_true rfl, Nat.le_of_ble_eq_true rfl⟩ ?_
      rintro v w ⟨rfl, rfl⟩
      refine g_norm (Lw' := [sModel E aM anow aaside anames anamesAside atext aspelled acost afewestFrom afirst afresh aways aundo aslots aisSaved M_thrown_1 M_length_1 M_textSize_1 M_start_1 M_next_1 M_token M_value M_error M_errorAt M_number M_many_1 M_freshMany M_undos, sArrI E anow 365 now, sArrB E atext 600 text, sArrI E aspelled 12 spelled_1, sArrI E acost 13 cost_1, sArrI E afewestFrom 13 fewestFrom_1, sArrI E afirst 13 first_1, sArrI E afresh 12 fresh]) (st' := []) (pc' := 25) [0, 1, 6, 2, 3, 4, 5, 7] rfl rfl rfl rfl ?_
      refine g_aload_n F dX10_whyNotStore_25 rfl ?_
      refine g_iload_n F dX10_whyNotStore_26 rfl ?_
      obtain ⟨r_3, M_freshMany_1, fresh_1, hg_4, hf⟩ := gb3_el hf
      refine g_callV (C := RX10) (T := TX10) (N := 27) (Lr := [sArrB E atext 600 text, sArrI E acost 13 cost_1]) (As := [.int x1]) (rest := []) F 0 0 1 (ctX10_why l E aM anow aaside anames anamesAside atext aspelled acost afewestFrom afirst afresh aways aundo aslots aisSaved x1 M_thrown_1 M_length_1 M_textSize_1 M_start_1 M_next_1 M_token M_value M_error M_errorAt M_number M_many_1 M_freshMany M_undos now spelled_1 fewestFrom_1 first_1 fresh r_3 M_freshMany_1 fresh_1 hg_4) gX10_whyNotStore_X10_why rfl rfl rfl h0X10_why ⟨Nat.le_of_ble_eq_true rfl, Nat.le_of_ble_eq_true rfl⟩ rfl rfl rfl [0, 1, 3, 5, 6, 7] [2, 4] rfl rfl rfl rfl rfl rfl (Nat.le_of_ble_eq_true rfl) dX10_whyNotStore_27 ⟨Nat.le_of_ble_eq_true rfl, Nat.le_of_ble_eq_true rfl⟩ ?_
      rintro v w ⟨rfl, rfl⟩
      refine g_norm (Lw' := [sModel E aM anow aaside anames anamesAside atext aspelled acost afewestFrom afirst afresh aways aundo aslots aisSaved M_thrown_1 M_length_1 M_textSize_1 M_start_1 M_next_1 M_token M_value M_error M_errorAt M_number M_many_1 M_freshMany_1 M_undos, sArrI E anow 365 now, sArrB E atext 600 text, sArrI E aspelled 12 spelled_1, sArrI E acost 13 cost_1, sArrI E afewestFrom 13 fewestFrom_1, sArrI E afirst 13 first_1, sArrI E afresh 12 fresh_1]) (st' := [.int r_3]) (pc' := 30) [0, 1, 6, 2, 7, 3, 4, 5] rfl rfl rfl rfl ?_
      cases hf
      exact g_iret F rfl ⟨rfl, rfl⟩ dX10_whyNotStore_30
    · replace hf := gi_t hc_1 hf
      refine g_iconst F 1 dX10_whyNotStore_19 rfl ?_
      cases hf
      exact g_iret F rfl ⟨rfl, rfl⟩ dX10_whyNotStore_20
  · replace hf := gi_f hc_2 hf
    refine g_iconst F 0 dX10_whyNotStore_13 rfl ?_
    cases hf
    exact g_iret F rfl ⟨rfl, rfl⟩ dX10_whyNotStore_14
set_option maxHeartbeats 4000000 in
set_option maxRecDepth 100000 in
theorem ktX10_ways_L45 {p : Program} {l : Launch} {e : Env} {s : State} {m : MethodId} {args : Array Value} {below : List Frame} {meth : Method} {c : Code} {E : gE} {A : Nat → Prop} (F : gFx p s m args meth c RX10 wsX10_ways cX10_ways 4 (some .int) vwCl E A) (aM anow aaside anames anamesAside atext aspelled acost afewestFrom afirst afresh aways aundo aslots aisSaved : Nat → Nat) (x2 : Int32) (M_many : Int32) (now : (Nat → Int32)) (spelled : (Nat → Int32)) (M_thrown : Int32) (M_length : Int32) (M_textSize : Int32) (M_start : Int32) (M_next : Int32) (M_token : Int32) (M_value : Int32) (M_error : Int32) (M_errorAt : Int32) (M_number : Int32) (M_freshMany : Int32) (M_undos : Int32) (r : Int32) (M_thrown' : Int32) (M_many' : Int32) (spelled' : (Nat → Int32)) (ways' : (Nat → Int32)) {k : (Nat → Int32) → Option (Int32 × Int32 × Int32 × (Nat → Int32) × (Nat → Int32))} (hk : ∀ (ways : (Nat → Int32)), k ways = some (r, M_thrown', M_many', spelled', ways') → Gj p l e rmX10_ways s m args below meth c 0 0 (MQ below (gQ vwCl E A (fun v w => v = some (.int r) ∧ w = [sModel E aM anow aaside anames anamesAside atext aspelled acost afewestFrom afirst afresh aways aundo aslots aisSaved M_thrown' M_length M_textSize M_start M_next M_token M_value M_error M_errorAt M_number M_many' M_freshMany M_undos, sArrI E anow 365 now, sArrI E aspelled 12 spelled', sArrI E aways 13 ways'])) args s 0 0 A) vwCl E A [sModel E aM anow aaside anames anamesAside atext aspelled acost afewestFrom afirst afresh aways aundo aslots aisSaved M_thrown M_length M_textSize M_start M_next M_token M_value M_error M_errorAt M_number M_many M_freshMany M_undos, sArrI E anow 365 now, sArrI E aspelled 12 spelled, sArrI E aways 13 ways] [some (.ref (aM 0)), none, some (.int x2), none] [] 102) : ∀ (n : Nat) (x3 : Int32) (ways : (Nat → Int32)), fX10_ways_L45 x2 M_many now spelled k n x3 ways = some (r, M_thrown', M_many', spelled', ways') → Gj p l e rmX10_ways s m args below meth c 0 0 (MQ below (gQ vwCl E A (fun v w => v = some (.int r) ∧ w = [sModel E aM anow aaside anames anamesAside atext aspelled acost afewestFrom afirst afresh aways aundo aslots aisSaved M_thrown' M_length M_textSize M_start M_next M_token M_value M_error M_errorAt M_number M_many' M_freshMany M_undos, sArrI E anow 365 now, sArrI E aspelled 12 spelled', sArrI E aways 13 ways'])) args s 0 0 A) vwCl E A [sModel E aM anow aaside anames anamesAside atext aspelled acost afewestFrom afirst afresh aways aundo aslots aisSaved M_thrown M_length M_textSize M_start M_next M_token M_value M_error M_errorAt M_number M_many M_freshMany M_undos, sArrI E anow 365 now, sArrI E aspelled 12 spelled, sArrI E aways 13 ways] [some (.ref (aM 0)), none, some (.int x2), some (.int x3)] [] 45
  | 0, _, _, hf => by cases hf
  | n + 1, x3, ways, hf => by
    have ih := ktX10_ways_L45 F aM anow aaside anames anamesAside atext aspelled acost afewestFrom afirst afresh aways aundo aslots aisSaved x2 M_many now spelled M_thrown M_length M_textSize M_start M_next M_token M_value M_error M_errorAt M_number M_freshMany M_undos r M_thrown' M_many' spelled' ways' hk n
    rw [fX10_ways_L45] at hf
    refine g_iload_n F dX10_ways_45 rfl ?_
    refine g_bipush F 6 dX10_ways_46 rfl ?_
    refine g_icmp_gt F 102 dX10_ways_48 (by decide) (fun hc_3 => ?_) (fun hc_3 => ?_)
    · replace hf := gi_t hc_3 hf
      refine g_mask [true, true, true, false] rfl ?_
      exact hk ways hf
    · replace hf := gi_f hc_3 hf
      refine g_iload_n F dX10_ways_51 rfl ?_
      refine g_iload_n F dX10_ways_52 rfl ?_
      refine g_iadd F dX10_ways_53 ?_
      refine g_aload_n F dX10_ways_54 rfl ?_
      refine g_get (C := RX10) (T := TX10) (N := 27) F 0 0 16 rfl rfl rfl iX10_ways_X10 (by decide) (by decide +kernel) rfl dX10_ways_55 ?_
      refine g_icmp_gt F 102 dX10_ways_58 (by decide) (fun hc_2 => ?_) (fun hc_2 => ?_)
      · replace hf := gi_t hc_2 hf
        refine g_mask [true, true, true, false] rfl ?_
        exact hk ways hf
      · replace hf := gi_f hc_2 hf
        refine g_aload_n F dX10_ways_61 rfl ?_
        refine g_get (C := RX10) (T := TX10) (N := 27) F 0 0 22 rfl rfl rfl iX10_ways_X10 (by decide) (by decide +kernel) rfl dX10_ways_62 ?_
        refine g_iload_n F dX10_ways_65 rfl ?_
        refine g_dup2 F dX10_ways_66 rfl rfl ?_
        obtain ⟨hb_1, hf⟩ := gb_in hf
        refine g_iald F 3 0 (x2.toNatClampNeg) rfl rfl rfl hb_1 dX10_ways_67 ?_
        refine g_aload_n F dX10_ways_68 rfl ?_
        refine g_aload_n F dX10_ways_69 rfl ?_
        refine g_iload_n F dX10_ways_70 rfl ?_
        refine g_iload_n F dX10_ways_71 rfl ?_
        obtain ⟨r_1, hg_1, hf⟩ := gb1_el hf
        refine g_callV (C := RX10) (T := TX10) (N := 27) (Lr := [sArrI E anow 365 now, sArrI E aways 13 ways]) (As := [.int x2, .int x3]) (rest := [.ref (aM 0), .int (ways (x2.toNatClampNeg)), .int x2, .ref (aways 0)]) F 0 0 2 (ctX10_code l E aM anow aaside anames anamesAside atext aspelled acost afewestFrom afirst afresh aways aundo aslots aisSaved x2 x3 M_thrown M_length M_textSize M_start M_next M_token M_value M_error M_errorAt M_number M_many M_freshMany M_undos spelled r_1 hg_1) gX10_ways_X10_code rfl rfl rfl h0X10_code ⟨Nat.le_of_ble_eq_true rfl, Nat.le_of_ble_eq_true rfl⟩ rfl rfl rfl [0, 2] [1, 3] rfl rfl rfl rfl rfl rfl (Nat.le_of_ble_eq_true rfl) dX10_ways_72 ⟨Nat.le_of_ble_eq_true rfl, Nat.le_of_ble_eq_true rfl⟩ ?_
        rintro v w ⟨rfl, rfl⟩
        refine g_norm (Lw' := [sModel E aM anow aaside anames anamesAside atext aspelled acost afewestFrom afirst afresh aways aundo aslots aisSaved M_thrown M_length M_textSize M_start M_next M_token M_value M_error M_errorAt M_number M_many M_freshMany M_undos, sArrI E anow 365 now, sArrI E aspelled 12 spelled, sArrI E aways 13 ways]) (st' := [.int r_1, .ref (aM 0), .int (ways (x2.toNatClampNeg)), .int x2, .ref (aways 0)]) (pc' := 75) [0, 2, 1, 3] rfl rfl rfl rfl ?_
        obtain ⟨r_2, hg_2, hf⟩ := gb1_el hf
        refine g_callV (C := RX10) (T := TX10) (N := 27) (Lr := [sArrI E aspelled 12 spelled, sArrI E aways 13 ways]) (As := [.int r_1]) (rest := [.int (ways (x2.toNatClampNeg)), .int x2, .ref (aways 0)]) F 0 0 1 (ctX10_pieceOf l E aM anow aaside anames anamesAside atext aspelled acost afewestFrom afirst afresh aways aundo aslots aisSaved r_1 M_thrown M_length M_textSize M_start M_next M_token M_value M_error M_errorAt M_number M_many M_freshMany M_undos now r_2 hg_2) gX10_ways_X10_pieceOf rfl rfl rfl h0X10_pieceOf ⟨Nat.le_of_ble_eq_true rfl, Nat.le_of_ble_eq_true rfl⟩ rfl rfl rfl [0, 1] [2, 3] rfl rfl rfl rfl rfl rfl (Nat.le_of_ble_eq_true rfl) dX10_ways_75 ⟨Nat.le_of_ble_eq_true rfl, Nat.le_of_ble_eq_true rfl⟩ ?_
        rintro v w ⟨rfl, rfl⟩
        refine g_norm (Lw' := [sModel E aM anow aaside anames anamesAside atext aspelled acost afewestFrom afirst afresh aways aundo aslots aisSaved M_thrown M_length M_textSize M_start M_next M_token M_value M_error M_errorAt M_number M_many M_freshMany M_undos, sArrI E anow 365 now, sArrI E aspelled 12 spelled, sArrI E aways 13 ways]) (st' := [.int r_2, .int (ways (x2.toNatClampNeg)), .int x2, .ref (aways 0)]) (pc' := 78) [0, 1, 2, 3] rfl rfl rfl rfl ?_
        refine g_iconst F (-1) dX10_ways_78 rfl ?_
        obtain ⟨j_1, hj_1, hf⟩ := Lt_el hf
        have hj_1 : ∀ (t0_1 : Int32), j_1 t0_1 = some (r, M_thrown', M_many', spelled', ways') → Gj p l e rmX10_ways s m args below meth c 0 0 (MQ below (gQ vwCl E A (fun v w => v = some (.int r) ∧ w = [sModel E aM anow aaside anames anamesAside atext aspelled acost afewestFrom afirst afresh aways aundo aslots aisSaved M_thrown' M_length M_textSize M_start M_next M_token M_value M_error M_errorAt M_number M_many' M_freshMany M_undos, sArrI E anow 365 now, sArrI E aspelled 12 spelled', sArrI E aways 13 ways'])) args s 0 0 A) vwCl E A [sModel E aM anow aaside anames anamesAside atext aspelled acost afewestFrom afirst afresh aways aundo aslots aisSaved M_thrown M_length M_textSize M_start M_next M_token M_value M_error M_errorAt M_number M_many M_freshMany M_undos, sArrI E anow 365 now, sArrI E aspelled 12 spelled, sArrI E aways 13 ways] [some (.ref (aM 0)), none, some (.int x2), some (.int x3)] [.int t0_1, .int (ways (x2.toNatClampNeg)), .int x2, .ref (aways 0)] 94 := by
          intro t0_1 hf
          rw [hj_1] at hf
          refine g_iadd F dX10_ways_94 ?_
          obtain ⟨hb_2, hf⟩ := gb_in hf
          obtain ⟨ways_1, hways_1, hf⟩ := Lt_el hf
          refine g_iast (Lw' := [sModel E aM anow aaside anames anamesAside atext aspelled acost afewestFrom afirst afresh aways aundo aslots aisSaved M_thrown M_length M_textSize M_start M_next M_token M_value M_error M_errorAt M_number M_many M_freshMany M_undos, sArrI E anow 365 now, sArrI E aspelled 12 spelled, sArrI E aways 13 ways_1]) F 3 0 (x2.toNatClampNeg) rfl rfl rfl hb_2 dX10_ways_95 (by subst hways_1; rfl) ?_
          refine g_iinc (lv' := [some (.ref (aM 0)), none, some (.int x2), some (.int (x3 + 1))]) F (x3 + 1) dX10_ways_96 rfl rfl rfl rfl ?_
          refine g_goto F 45 dX10_ways_99 (by decide) ?_
          exact ih (x3 + 1) ways_1 hf
        refine g_icmp_ne F 86 dX10_ways_79 (by decide) (fun hc_1 => ?_) (fun hc_1 => ?_)
        · replace hf := gi_f hc_1 hf
          refine g_aload_n F dX10_ways_86 rfl ?_
          refine g_get (C := RX10) (T := TX10) (N := 27) F 0 0 22 rfl rfl rfl iX10_ways_X10 (by decide) (by decide +kernel) rfl dX10_ways_87 ?_
          refine g_iload_n F dX10_ways_90 rfl ?_
          refine g_iload_n F dX10_ways_91 rfl ?_
          refine g_iadd F dX10_ways_92 ?_
          obtain ⟨hb_3, hf⟩ := gb_in hf
          refine g_iald F 3 0 ((x2 + x3).toNatClampNeg) rfl rfl rfl hb_3 dX10_ways_93 ?_
          exact hj_1 (ways ((x2 + x3).toNatClampNeg)) hf
        · replace hf := gi_t hc_1 hf
          refine g_iconst F 0 dX10_ways_82 rfl ?_
          refine g_goto F 94 dX10_ways_83 (by decide) ?_
          exact hj_1 0 hf
set_option maxHeartbeats 4000000 in
set_option maxRecDepth 100000 in
theorem ktX10_ways_L32 {p : Program} {l : Launch} {e : Env} {s : State} {m : MethodId} {args : Array Value} {below : List Frame} {meth : Method} {c : Code} {E : gE} {A : Nat → Prop} (F : gFx p s m args meth c RX10 wsX10_ways cX10_ways 4 (some .int) vwCl E A) (aM anow aaside anames anamesAside atext aspelled acost afewestFrom afirst afresh aways aundo aslots aisSaved : Nat → Nat) (M_many : Int32) (now : (Nat → Int32)) (spelled : (Nat → Int32)) (M_thrown : Int32) (M_length : Int32) (M_textSize : Int32) (M_start : Int32) (M_next : Int32) (M_token : Int32) (M_value : Int32) (M_error : Int32) (M_errorAt : Int32) (M_number : Int32) (M_freshMany : Int32) (M_undos : Int32) (r : Int32) (M_thrown' : Int32) (M_many' : Int32) (spelled' : (Nat → Int32)) (ways' : (Nat → Int32)) {k : (Nat → Int32) → Option (Int32 × Int32 × Int32 × (Nat → Int32) × (Nat → Int32))} (hk : ∀ (ways : (Nat → Int32)), k ways = some (r, M_thrown', M_many', spelled', ways') → Gj p l e rmX10_ways s m args below meth c 0 0 (MQ below (gQ vwCl E A (fun v w => v = some (.int r) ∧ w = [sModel E aM anow aaside anames anamesAside atext aspelled acost afewestFrom afirst afresh aways aundo aslots aisSaved M_thrown' M_length M_textSize M_start M_next M_token M_value M_error M_errorAt M_number M_many' M_freshMany M_undos, sArrI E anow 365 now, sArrI E aspelled 12 spelled', sArrI E aways 13 ways'])) args s 0 0 A) vwCl E A [sModel E aM anow aaside anames anamesAside atext aspelled acost afewestFrom afirst afresh aways aundo aslots aisSaved M_thrown M_length M_textSize M_start M_next M_token M_value M_error M_errorAt M_number M_many M_freshMany M_undos, sArrI E anow 365 now, sArrI E aspelled 12 spelled, sArrI E aways 13 ways] [some (.ref (aM 0)), none, none, none] [] 108) : ∀ (n : Nat) (x2 : Int32) (ways : (Nat → Int32)), fX10_ways_L32 M_many now spelled k n x2 ways = some (r, M_thrown', M_many', spelled', ways') → Gj p l e rmX10_ways s m args below meth c 0 0 (MQ below (gQ vwCl E A (fun v w => v = some (.int r) ∧ w = [sModel E aM anow aaside anames anamesAside atext aspelled acost afewestFrom afirst afresh aways aundo aslots aisSaved M_thrown' M_length M_textSize M_start M_next M_token M_value M_error M_errorAt M_number M_many' M_freshMany M_undos, sArrI E anow 365 now, sArrI E aspelled 12 spelled', sArrI E aways 13 ways'])) args s 0 0 A) vwCl E A [sModel E aM anow aaside anames anamesAside atext aspelled acost afewestFrom afirst afresh aways aundo aslots aisSaved M_thrown M_length M_textSize M_start M_next M_token M_value M_error M_errorAt M_number M_many M_freshMany M_undos, sArrI E anow 365 now, sArrI E aspelled 12 spelled, sArrI E aways 13 ways] [some (.ref (aM 0)), none, some (.int x2), none] [] 32
  | 0, _, _, hf => by cases hf
  | n + 1, x2, ways, hf => by
    have ih := ktX10_ways_L32 F aM anow aaside anames anamesAside atext aspelled acost afewestFrom afirst afresh aways aundo aslots aisSaved M_many now spelled M_thrown M_length M_textSize M_start M_next M_token M_value M_error M_errorAt M_number M_freshMany M_undos r M_thrown' M_many' spelled' ways' hk n
    rw [fX10_ways_L32] at hf
    refine g_iload_n F dX10_ways_32 rfl ?_
    refine g_iflt F 108 dX10_ways_33 (by decide) (fun hc_1 => ?_) (fun hc_1 => ?_)
    · replace hf := gi_t hc_1 hf
      refine g_mask [true, true, false, true] rfl ?_
      exact hk ways hf
    · replace hf := gi_f hc_1 hf
      refine g_aload_n F dX10_ways_36 rfl ?_
      refine g_get (C := RX10) (T := TX10) (N := 27) F 0 0 22 rfl rfl rfl iX10_ways_X10 (by decide) (by decide +kernel) rfl dX10_ways_37 ?_
      refine g_iload_n F dX10_ways_40 rfl ?_
      refine g_iconst F 0 dX10_ways_41 rfl ?_
      obtain ⟨hb_1, hf⟩ := gb_in hf
      obtain ⟨ways_1, hways_1, hf⟩ := Lt_el hf
      refine g_iast (Lw' := [sModel E aM anow aaside anames anamesAside atext aspelled acost afewestFrom afirst afresh aways aundo aslots aisSaved M_thrown M_length M_textSize M_start M_next M_token M_value M_error M_errorAt M_number M_many M_freshMany M_undos, sArrI E anow 365 now, sArrI E aspelled 12 spelled, sArrI E aways 13 ways_1]) F 3 0 (x2.toNatClampNeg) rfl rfl rfl hb_1 dX10_ways_42 (by subst hways_1; rfl) ?_
      refine g_iconst F 1 dX10_ways_43 rfl ?_
      refine g_istore_n (lv' := [some (.ref (aM 0)), none, some (.int x2), some (.int 1)]) F dX10_ways_44 (Nat.le_of_ble_eq_true rfl) rfl rfl ?_
      refine ktX10_ways_L45 F aM anow aaside anames anamesAside atext aspelled acost afewestFrom afirst afresh aways aundo aslots aisSaved x2 M_many now spelled M_thrown M_length M_textSize M_start M_next M_token M_value M_error M_errorAt M_number M_freshMany M_undos r M_thrown' M_many' spelled' ways' (fun ways_2 hf => ?_) FU 1 ways_1 hf
      refine g_iinc (lv' := [some (.ref (aM 0)), none, some (.int (x2 + (-1))), none]) F (x2 + (-1)) dX10_ways_102 rfl rfl rfl rfl ?_
      refine g_goto F 32 dX10_ways_105 (by decide) ?_
      exact ih (x2 + (-1)) ways_2 hf
set_option maxHeartbeats 4000000 in
set_option maxRecDepth 100000 in
theorem ctX10_ways (l : Launch) (E : gE) (aM anow aaside anames anamesAside atext aspelled acost afewestFrom afirst afresh aways aundo aslots aisSaved : Nat → Nat) (x1 : Int32) (M_thrown : Int32) (M_length : Int32) (M_textSize : Int32) (M_start : Int32) (M_next : Int32) (M_token : Int32) (M_value : Int32) (M_error : Int32) (M_errorAt : Int32) (M_number : Int32) (M_many : Int32) (M_freshMany : Int32) (M_undos : Int32) (now : (Nat → Int32)) (spelled : (Nat → Int32)) (ways : (Nat → Int32)) (r : Int32) (M_thrown' : Int32) (M_many' : Int32) (spelled' : (Nat → Int32)) (ways' : (Nat → Int32)) (hf : fX10_ways x1 M_thrown M_many now spelled ways = some (r, M_thrown', M_many', spelled', ways')) : gMet l yX10_ways wsX10_ways rmX10_ways vwCl E [.ref (aM 0), .int x1] [sModel E aM anow aaside anames anamesAside atext aspelled acost afewestFrom afirst afresh aways aundo aslots aisSaved M_thrown M_length M_textSize M_start M_next M_token M_value M_error M_errorAt M_number M_many M_freshMany M_undos, sArrI E anow 365 now, sArrI E aspelled 12 spelled, sArrI E aways 13 ways] (fun v w => v = some (.int r) ∧ w = [sModel E aM anow aaside anames anamesAside atext aspelled acost afewestFrom afirst afresh aways aundo aslots aisSaved M_thrown' M_length M_textSize M_start M_next M_token M_value M_error M_errorAt M_number M_many' M_freshMany M_undos, sArrI E anow 365 now, sArrI E aspelled 12 spelled', sArrI E aways 13 ways']) 0 0 := by
  refine g_entry [some (.ref (aM 0)), some (.int x1), none, none] (by decide) rfl (Nat.le_of_ble_eq_true rfl) rfl ?_
  intro p e s m below meth c A F hnm
  unfold fX10_ways at hf
  refine g_aload_n F dX10_ways_0 rfl ?_
  refine g_iload_n F dX10_ways_1 rfl ?_
  obtain ⟨r_1, M_thrown_1, hg_1, hf⟩ := gb2_el hf
  refine g_callV (C := RX10) (T := TX10) (N := 27) (Lr := [sArrI E aspelled 12 spelled, sArrI E aways 13 ways]) (As := [.int x1]) (rest := []) F 0 0 1 (ctX10_noWord l E aM anow aaside anames anamesAside atext aspelled acost afewestFrom afirst afresh aways aundo aslots aisSaved x1 M_thrown M_length M_textSize M_start M_next M_token M_value M_error M_errorAt M_number M_many M_freshMany M_undos now r_1 M_thrown_1 hg_1) gX10_ways_X10_noWord rfl rfl rfl h0X10_noWord ⟨Nat.le_of_ble_eq_true rfl, Nat.le_of_ble_eq_true rfl⟩ rfl rfl rfl [0, 1] [2, 3] rfl rfl rfl rfl rfl rfl (Nat.le_of_ble_eq_true rfl) dX10_ways_2 ⟨Nat.le_of_ble_eq_true rfl, Nat.le_of_ble_eq_true rfl⟩ ?_
  rintro v w ⟨rfl, rfl, hz_1⟩
  refine g_norm (Lw' := [sModel E aM anow aaside anames anamesAside atext aspelled acost afewestFrom afirst afresh aways aundo aslots aisSaved M_thrown_1 M_length M_textSize M_start M_next M_token M_value M_error M_errorAt M_number M_many M_freshMany M_undos, sArrI E anow 365 now, sArrI E aspelled 12 spelled, sArrI E aways 13 ways]) (st' := [.int r_1]) (pc' := 5) [0, 1, 2, 3] rfl rfl rfl rfl ?_
  refine g_ifeq F 10 dX10_ways_5 (by decide) (fun hc_1 => ?_) (fun hc_1 => ?_)
  · replace hf := gi_t hc_1 hf
    refine g_aload_n F dX10_ways_10 rfl ?_
    refine g_iload_n F dX10_ways_11 rfl ?_
    obtain ⟨M_many_1, spelled_1, hg_2, hf⟩ := gb2_el hf
    refine g_callV (C := RX10) (T := TX10) (N := 27) (Lr := [sArrI E aways 13 ways]) (As := [.int x1]) (rest := []) F 0 0 1 (ctX10_spellsWord l E aM anow aaside anames anamesAside atext aspelled acost afewestFrom afirst afresh aways aundo aslots aisSaved x1 M_thrown_1 M_length M_textSize M_start M_next M_token M_value M_error M_errorAt M_number M_many M_freshMany M_undos now spelled M_many_1 spelled_1 hg_2) gX10_ways_X10_spellsWord rfl rfl rfl h0X10_spellsWord ⟨Nat.le_of_ble_eq_true rfl, Nat.le_of_ble_eq_true rfl⟩ rfl rfl rfl [0, 1, 2] [3] rfl rfl rfl rfl rfl rfl (Nat.le_of_ble_eq_true rfl) dX10_ways_12 ⟨Nat.le_of_ble_eq_true rfl, Nat.le_of_ble_eq_true rfl⟩ ?_
    rintro v w ⟨rfl, rfl⟩
    refine g_norm (Lw' := [sModel E aM anow aaside anames anamesAside atext aspelled acost afewestFrom afirst afresh aways aundo aslots aisSaved M_thrown_1 M_length M_textSize M_start M_next M_token M_value M_error M_errorAt M_number M_many_1 M_freshMany M_undos, sArrI E anow 365 now, sArrI E aspelled 12 spelled_1, sArrI E aways 13 ways]) (st' := []) (pc' := 15) [0, 1, 2, 3] rfl rfl rfl rfl ?_
    refine g_aload_n F dX10_ways_15 rfl ?_
    refine g_get (C := RX10) (T := TX10) (N := 27) F 0 0 22 rfl rfl rfl iX10_ways_X10 (by decide) (by decide +kernel) rfl dX10_ways_16 ?_
    refine g_aload_n F dX10_ways_19 rfl ?_
    refine g_get (C := RX10) (T := TX10) (N := 27) F 0 0 16 rfl rfl rfl iX10_ways_X10 (by decide) (by decide +kernel) rfl dX10_ways_20 ?_
    refine g_iconst F 1 dX10_ways_23 rfl ?_
    obtain ⟨hb_1, hf⟩ := gb_in hf
    obtain ⟨ways_1, hways_1, hf⟩ := Lt_el hf
    refine g_iast (Lw' := [sModel E aM anow aaside anames anamesAside atext aspelled acost afewestFrom afirst afresh aways aundo aslots aisSaved M_thrown_1 M_length M_textSize M_start M_next M_token M_value M_error M_errorAt M_number M_many_1 M_freshMany M_undos, sArrI E anow 365 now, sArrI E aspelled 12 spelled_1, sArrI E aways 13 ways_1]) F 3 0 (M_many_1.toNatClampNeg) rfl rfl rfl hb_1 dX10_ways_24 (by subst hways_1; rfl) ?_
    refine g_aload_n F dX10_ways_25 rfl ?_
    refine g_get (C := RX10) (T := TX10) (N := 27) F 0 0 16 rfl rfl rfl iX10_ways_X10 (by decide) (by decide +kernel) rfl dX10_ways_26 ?_
    refine g_iconst F 1 dX10_ways_29 rfl ?_
    refine g_isub F dX10_ways_30 ?_
    refine g_istore_n (lv' := [some (.ref (aM 0)), some (.int x1), some (.int (M_many_1 - 1)), none]) F dX10_ways_31 (Nat.le_of_ble_eq_true rfl) rfl rfl ?_
    refine g_mask [true, false, true, true] rfl ?_
    refine ktX10_ways_L32 F aM anow aaside anames anamesAside atext aspelled acost afewestFrom afirst afresh aways aundo aslots aisSaved M_many_1 now spelled_1 M_thrown_1 M_length M_textSize M_start M_next M_token M_value M_error M_errorAt M_number M_freshMany M_undos r M_thrown' M_many' spelled' ways' (fun ways_2 hf => ?_) FU (M_many_1 - 1) ways_1 hf
    refine g_aload_n F dX10_ways_108 rfl ?_
    refine g_get (C := RX10) (T := TX10) (N := 27) F 0 0 22 rfl rfl rfl iX10_ways_X10 (by decide) (by decide +kernel) rfl dX10_ways_109 ?_
    refine g_iconst F 0 dX10_ways_112 rfl ?_
    refine g_iald F 3 0 0 (by decide) rfl rfl (by decide) dX10_ways_113 ?_
    cases hf
    exact g_iret F rfl ⟨rfl, rfl⟩ dX10_ways_114
  · replace hf := gi_f hc_1 hf
    refine g_iconst F 0 dX10_ways_8 rfl ?_
    cases hf
    exact g_iret F rfl ⟨rfl, rfl⟩ dX10_ways_9
set_option maxHeartbeats 4000000 in
set_option maxRecDepth 100000 in
theorem ctX10_fewest (l : Launch) (E : gE) (aM anow aaside anames anamesAside atext aspelled acost afewestFrom afirst afresh aways aundo aslots aisSaved : Nat → Nat) (x1 : Int32) (M_thrown : Int32) (M_length : Int32) (M_textSize : Int32) (M_start : Int32) (M_next : Int32) (M_token : Int32) (M_value : Int32) (M_error : Int32) (M_errorAt : Int32) (M_number : Int32) (M_many : Int32) (M_freshMany : Int32) (M_undos : Int32) (now : (Nat → Int32)) (spelled : (Nat → Int32)) (cost : (Nat → Int32)) (fewestFrom : (Nat → Int32)) (first : (Nat → Int32)) (r : Int32) (M_thrown' : Int32) (M_many' : Int32) (spelled' : (Nat → Int32)) (cost' : (Nat → Int32)) (fewestFrom' : (Nat → Int32)) (first' : (Nat → Int32)) (hf : fX10_fewest x1 M_thrown M_many now spelled cost fewestFrom first = some (r, M_thrown', M_many', spelled', cost', fewestFrom', first')) : gMet l yX10_fewest wsX10_fewest rmX10_fewest vwCl E [.ref (aM 0), .int x1] [sModel E aM anow aaside anames anamesAside atext aspelled acost afewestFrom afirst afresh aways aundo aslots aisSaved M_thrown M_length M_textSize M_start M_next M_token M_value M_error M_errorAt M_number M_many M_freshMany M_undos, sArrI E anow 365 now, sArrI E aspelled 12 spelled, sArrI E acost 13 cost, sArrI E afewestFrom 13 fewestFrom, sArrI E afirst 13 first] (fun v w => v = some (.int r) ∧ w = [sModel E aM anow aaside anames anamesAside atext aspelled acost afewestFrom afirst afresh aways aundo aslots aisSaved M_thrown' M_length M_textSize M_start M_next M_token M_value M_error M_errorAt M_number M_many' M_freshMany M_undos, sArrI E anow 365 now, sArrI E aspelled 12 spelled', sArrI E acost 13 cost', sArrI E afewestFrom 13 fewestFrom', sArrI E afirst 13 first']) 0 0 := by
  refine g_entry [some (.ref (aM 0)), some (.int x1)] (by decide) rfl (Nat.le_of_ble_eq_true rfl) rfl ?_
  intro p e s m below meth c A F hnm
  unfold fX10_fewest at hf
  refine g_aload_n F dX10_fewest_0 rfl ?_
  refine g_iload_n F dX10_fewest_1 rfl ?_
  obtain ⟨r_1, M_thrown_1, hg_1, hf⟩ := gb2_el hf
  refine g_callV (C := RX10) (T := TX10) (N := 27) (Lr := [sArrI E aspelled 12 spelled, sArrI E acost 13 cost, sArrI E afewestFrom 13 fewestFrom, sArrI E afirst 13 first]) (As := [.int x1]) (rest := []) F 0 0 1 (ctX10_noWord l E aM anow aaside anames anamesAside atext aspelled acost afewestFrom afirst afresh aways aundo aslots aisSaved x1 M_thrown M_length M_textSize M_start M_next M_token M_value M_error M_errorAt M_number M_many M_freshMany M_undos now r_1 M_thrown_1 hg_1) gX10_fewest_X10_noWord rfl rfl rfl h0X10_noWord ⟨Nat.le_of_ble_eq_true rfl, Nat.le_of_ble_eq_true rfl⟩ rfl rfl rfl [0, 1] [2, 3, 4, 5] rfl rfl rfl rfl rfl rfl (Nat.le_of_ble_eq_true rfl) dX10_fewest_2 ⟨Nat.le_of_ble_eq_true rfl, Nat.le_of_ble_eq_true rfl⟩ ?_
  rintro v w ⟨rfl, rfl, hz_1⟩
  refine g_norm (Lw' := [sModel E aM anow aaside anames anamesAside atext aspelled acost afewestFrom afirst afresh aways aundo aslots aisSaved M_thrown_1 M_length M_textSize M_start M_next M_token M_value M_error M_errorAt M_number M_many M_freshMany M_undos, sArrI E anow 365 now, sArrI E aspelled 12 spelled, sArrI E acost 13 cost, sArrI E afewestFrom 13 fewestFrom, sArrI E afirst 13 first]) (st' := [.int r_1]) (pc' := 5) [0, 1, 2, 3, 4, 5] rfl rfl rfl rfl ?_
  refine g_ifeq F 12 dX10_fewest_5 (by decide) (fun hc_1 => ?_) (fun hc_1 => ?_)
  · replace hf := gi_t hc_1 hf
    refine g_aload_n F dX10_fewest_12 rfl ?_
    refine g_iload_n F dX10_fewest_13 rfl ?_
    refine g_iconst F 0 dX10_fewest_14 rfl ?_
    obtain ⟨r_2, M_many_1, spelled_1, cost_1, fewestFrom_1, first_1, hg_2, hf⟩ := gb6_el hf
    refine g_callV (C := RX10) (T := TX10) (N := 27) (Lr := []) (As := [.int x1, .int 0]) (rest := []) F 0 0 2 (ctX10_fewestOf l E aM anow aaside anames anamesAside atext aspelled acost afewestFrom afirst afresh aways aundo aslots aisSaved x1 0 M_thrown_1 M_length M_textSize M_start M_next M_token M_value M_error M_errorAt M_number M_many M_freshMany M_undos now spelled cost fewestFrom first r_2 M_many_1 spelled_1 cost_1 fewestFrom_1 first_1 hg_2) gX10_fewest_X10_fewestOf rfl rfl rfl h0X10_fewestOf ⟨Nat.le_of_ble_eq_true rfl, Nat.le_of_ble_eq_true rfl⟩ rfl rfl rfl [0, 1, 2, 3, 4, 5] [] rfl rfl rfl rfl rfl rfl (Nat.le_of_ble_eq_true rfl) dX10_fewest_15 ⟨Nat.le_of_ble_eq_true rfl, Nat.le_of_ble_eq_true rfl⟩ ?_
    rintro v w ⟨rfl, rfl⟩
    refine g_norm (Lw' := [sModel E aM anow aaside anames anamesAside atext aspelled acost afewestFrom afirst afresh aways aundo aslots aisSaved M_thrown_1 M_length M_textSize M_start M_next M_token M_value M_error M_errorAt M_number M_many_1 M_freshMany M_undos, sArrI E anow 365 now, sArrI E aspelled 12 spelled_1, sArrI E acost 13 cost_1, sArrI E afewestFrom 13 fewestFrom_1, sArrI E afirst 13 first_1]) (st' := [.int r_2]) (pc' := 18) [0, 1, 2, 3, 4, 5] rfl rfl rfl rfl ?_
    cases hf
    exact g_iret F rfl ⟨rfl, rfl⟩ dX10_fewest_18
  · replace hf := gi_f hc_1 hf
    refine g_iconst F 0 dX10_fewest_8 rfl ?_
    refine g_goto F 18 dX10_fewest_9 (by decide) ?_
    cases hf
    exact g_iret F rfl ⟨rfl, rfl⟩ dX10_fewest_18
set_option maxHeartbeats 4000000 in
set_option maxRecDepth 100000 in
theorem ctX10_saving (l : Launch) (E : gE) (aM anow aaside anames anamesAside atext aspelled acost afewestFrom afirst afresh aways aundo aslots aisSaved : Nat → Nat) (x1 : Int32) (M_thrown : Int32) (M_length : Int32) (M_textSize : Int32) (M_start : Int32) (M_next : Int32) (M_token : Int32) (M_value : Int32) (M_error : Int32) (M_errorAt : Int32) (M_number : Int32) (M_many : Int32) (M_freshMany : Int32) (M_undos : Int32) (now : (Nat → Int32)) (spelled : (Nat → Int32)) (cost : (Nat → Int32)) (fewestFrom : (Nat → Int32)) (first : (Nat → Int32)) (r : Int32) (M_thrown' : Int32) (M_many' : Int32) (spelled' : (Nat → Int32)) (cost' : (Nat → Int32)) (fewestFrom' : (Nat → Int32)) (first' : (Nat → Int32)) (hf : fX10_saving x1 M_thrown M_many now spelled cost fewestFrom first = some (r, M_thrown', M_many', spelled', cost', fewestFrom', first')) : gMet l yX10_saving wsX10_saving rmX10_saving vwCl E [.ref (aM 0), .int x1] [sModel E aM anow aaside anames anamesAside atext aspelled acost afewestFrom afirst afresh aways aundo aslots aisSaved M_thrown M_length M_textSize M_start M_next M_token M_value M_error M_errorAt M_number M_many M_freshMany M_undos, sArrI E anow 365 now, sArrI E aspelled 12 spelled, sArrI E acost 13 cost, sArrI E afewestFrom 13 fewestFrom, sArrI E afirst 13 first] (fun v w => v = some (.int r) ∧ w = [sModel E aM anow aaside anames anamesAside atext aspelled acost afewestFrom afirst afresh aways aundo aslots aisSaved M_thrown' M_length M_textSize M_start M_next M_token M_value M_error M_errorAt M_number M_many' M_freshMany M_undos, sArrI E anow 365 now, sArrI E aspelled 12 spelled', sArrI E acost 13 cost', sArrI E afewestFrom 13 fewestFrom', sArrI E afirst 13 first']) 0 0 := by
  refine g_entry [some (.ref (aM 0)), some (.int x1)] (by decide) rfl (Nat.le_of_ble_eq_true rfl) rfl ?_
  intro p e s m below meth c A F hnm
  unfold fX10_saving at hf
  refine g_aload_n F dX10_saving_0 rfl ?_
  refine g_iload_n F dX10_saving_1 rfl ?_
  obtain ⟨r_1, M_thrown_1, hg_1, hf⟩ := gb2_el hf
  refine g_callV (C := RX10) (T := TX10) (N := 27) (Lr := [sArrI E aspelled 12 spelled, sArrI E acost 13 cost, sArrI E afewestFrom 13 fewestFrom, sArrI E afirst 13 first]) (As := [.int x1]) (rest := []) F 0 0 1 (ctX10_noWord l E aM anow aaside anames anamesAside atext aspelled acost afewestFrom afirst afresh aways aundo aslots aisSaved x1 M_thrown M_length M_textSize M_start M_next M_token M_value M_error M_errorAt M_number M_many M_freshMany M_undos now r_1 M_thrown_1 hg_1) gX10_saving_X10_noWord rfl rfl rfl h0X10_noWord ⟨Nat.le_of_ble_eq_true rfl, Nat.le_of_ble_eq_true rfl⟩ rfl rfl rfl [0, 1] [2, 3, 4, 5] rfl rfl rfl rfl rfl rfl (Nat.le_of_ble_eq_true rfl) dX10_saving_2 ⟨Nat.le_of_ble_eq_true rfl, Nat.le_of_ble_eq_true rfl⟩ ?_
  rintro v w ⟨rfl, rfl, hz_1⟩
  refine g_norm (Lw' := [sModel E aM anow aaside anames anamesAside atext aspelled acost afewestFrom afirst afresh aways aundo aslots aisSaved M_thrown_1 M_length M_textSize M_start M_next M_token M_value M_error M_errorAt M_number M_many M_freshMany M_undos, sArrI E anow 365 now, sArrI E aspelled 12 spelled, sArrI E acost 13 cost, sArrI E afewestFrom 13 fewestFrom, sArrI E afirst 13 first]) (st' := [.int r_1]) (pc' := 5) [0, 1, 2, 3, 4, 5] rfl rfl rfl rfl ?_
  refine g_ifeq F 12 dX10_saving_5 (by decide) (fun hc_1 => ?_) (fun hc_1 => ?_)
  · replace hf := gi_t hc_1 hf
    refine g_aload_n F dX10_saving_12 rfl ?_
    refine g_get (C := RX10) (T := TX10) (N := 27) F 0 0 1 rfl rfl rfl iX10_saving_X10 (by decide) (by decide +kernel) rfl dX10_saving_13 ?_
    refine g_iconst F 2 dX10_saving_16 rfl ?_
    refine g_iald F 1 0 2 (by decide) rfl rfl (by decide) dX10_saving_17 ?_
    refine g_aload_n F dX10_saving_18 rfl ?_
    refine g_iload_n F dX10_saving_19 rfl ?_
    refine g_iconst F 1 dX10_saving_20 rfl ?_
    obtain ⟨r_2, hg_2, hf⟩ := gb1_el hf
    refine g_callV (C := RX10) (T := TX10) (N := 27) (Lr := [sArrI E aspelled 12 spelled, sArrI E acost 13 cost, sArrI E afewestFrom 13 fewestFrom, sArrI E afirst 13 first]) (As := [.int x1, .int 1]) (rest := [.int (now 2)]) F 0 0 2 (ctX10_ofWord l E aM anow aaside anames anamesAside atext aspelled acost afewestFrom afirst afresh aways aundo aslots aisSaved x1 1 M_thrown_1 M_length M_textSize M_start M_next M_token M_value M_error M_errorAt M_number M_many M_freshMany M_undos now r_2 hg_2) gX10_saving_X10_ofWord rfl rfl rfl h0X10_ofWord ⟨Nat.le_of_ble_eq_true rfl, Nat.le_of_ble_eq_true rfl⟩ rfl rfl rfl [0, 1] [2, 3, 4, 5] rfl rfl rfl rfl rfl rfl (Nat.le_of_ble_eq_true rfl) dX10_saving_21 ⟨Nat.le_of_ble_eq_true rfl, Nat.le_of_ble_eq_true rfl⟩ ?_
    rintro v w ⟨rfl, rfl⟩
    refine g_norm (Lw' := [sModel E aM anow aaside anames anamesAside atext aspelled acost afewestFrom afirst afresh aways aundo aslots aisSaved M_thrown_1 M_length M_textSize M_start M_next M_token M_value M_error M_errorAt M_number M_many M_freshMany M_undos, sArrI E anow 365 now, sArrI E aspelled 12 spelled, sArrI E acost 13 cost, sArrI E afewestFrom 13 fewestFrom, sArrI E afirst 13 first]) (st' := [.int r_2, .int (now 2)]) (pc' := 24) [0, 1, 2, 3, 4, 5] rfl rfl rfl rfl ?_
    refine g_aload_n F dX10_saving_24 rfl ?_
    refine g_iload_n F dX10_saving_25 rfl ?_
    refine g_iconst F 0 dX10_saving_26 rfl ?_
    obtain ⟨r_3, M_many_1, spelled_1, cost_1, fewestFrom_1, first_1, hg_3, hf⟩ := gb6_el hf
    refine g_callV (C := RX10) (T := TX10) (N := 27) (Lr := []) (As := [.int x1, .int 0]) (rest := [.int r_2, .int (now 2)]) F 0 0 2 (ctX10_fewestOf l E aM anow aaside anames anamesAside atext aspelled acost afewestFrom afirst afresh aways aundo aslots aisSaved x1 0 M_thrown_1 M_length M_textSize M_start M_next M_token M_value M_error M_errorAt M_number M_many M_freshMany M_undos now spelled cost fewestFrom first r_3 M_many_1 spelled_1 cost_1 fewestFrom_1 first_1 hg_3) gX10_saving_X10_fewestOf rfl rfl rfl h0X10_fewestOf ⟨Nat.le_of_ble_eq_true rfl, Nat.le_of_ble_eq_true rfl⟩ rfl rfl rfl [0, 1, 2, 3, 4, 5] [] rfl rfl rfl rfl rfl rfl (Nat.le_of_ble_eq_true rfl) dX10_saving_27 ⟨Nat.le_of_ble_eq_true rfl, Nat.le_of_ble_eq_true rfl⟩ ?_
    rintro v w ⟨rfl, rfl⟩
    refine g_norm (Lw' := [sModel E aM anow aaside anames anamesAside atext aspelled acost afewestFrom afirst afresh aways aundo aslots aisSaved M_thrown_1 M_length M_textSize M_start M_next M_token M_value M_error M_errorAt M_number M_many_1 M_freshMany M_undos, sArrI E anow 365 now, sArrI E aspelled 12 spelled_1, sArrI E acost 13 cost_1, sArrI E afewestFrom 13 fewestFrom_1, sArrI E afirst 13 first_1]) (st' := [.int r_3, .int r_2, .int (now 2)]) (pc' := 30) [0, 1, 2, 3, 4, 5] rfl rfl rfl rfl ?_
    refine g_isub F dX10_saving_30 ?_
    refine g_imul F dX10_saving_31 ?_
    cases hf
    exact g_iret F rfl ⟨rfl, rfl⟩ dX10_saving_32
  · replace hf := gi_f hc_1 hf
    refine g_iconst F 0 dX10_saving_8 rfl ?_
    refine g_goto F 32 dX10_saving_9 (by decide) ?_
    cases hf
    exact g_iret F rfl ⟨rfl, rfl⟩ dX10_saving_32
set_option maxHeartbeats 4000000 in
set_option maxRecDepth 100000 in
theorem ktX10_fewestOfAll_L4 {p : Program} {l : Launch} {e : Env} {s : State} {m : MethodId} {args : Array Value} {below : List Frame} {meth : Method} {c : Code} {E : gE} {A : Nat → Prop} (F : gFx p s m args meth c RX10 wsX10_fewestOfAll cX10_fewestOfAll 4 (some .int) vwCl E A) (aM anow aaside anames anamesAside atext aspelled acost afewestFrom afirst afresh aways aundo aslots aisSaved : Nat → Nat) (x1 : Int32) (now : (Nat → Int32)) (M_thrown : Int32) (M_length : Int32) (M_textSize : Int32) (M_start : Int32) (M_next : Int32) (M_token : Int32) (M_value : Int32) (M_error : Int32) (M_errorAt : Int32) (M_number : Int32) (M_freshMany : Int32) (M_undos : Int32) (r : Int32) (M_many' : Int32) (spelled' : (Nat → Int32)) (cost' : (Nat → Int32)) (fewestFrom' : (Nat → Int32)) (first' : (Nat → Int32)) {k : Int32 → Int32 → (Nat → Int32) → (Nat → Int32) → (Nat → Int32) → (Nat → Int32) → Option (Int32 × Int32 × (Nat → Int32) × (Nat → Int32) × (Nat → Int32) × (Nat → Int32))} (hk : ∀ (x2 : Int32) (M_many : Int32) (spelled : (Nat → Int32)) (cost : (Nat → Int32)) (fewestFrom : (Nat → Int32)) (first : (Nat → Int32)), k x2 M_many spelled cost fewestFrom first = some (r, M_many', spelled', cost', fewestFrom', first') → Gj p l e rmX10_fewestOfAll s m args below meth c 0 0 (MQ below (gQ vwCl E A (fun v w => v = some (.int r) ∧ w = [sModel E aM anow aaside anames anamesAside atext aspelled acost afewestFrom afirst afresh aways aundo aslots aisSaved M_thrown M_length M_textSize M_start M_next M_token M_value M_error M_errorAt M_number M_many' M_freshMany M_undos, sArrI E anow 365 now, sArrI E aspelled 12 spelled', sArrI E acost 13 cost', sArrI E afewestFrom 13 fewestFrom', sArrI E afirst 13 first'])) args s 0 0 A) vwCl E A [sModel E aM anow aaside anames anamesAside atext aspelled acost afewestFrom afirst afresh aways aundo aslots aisSaved M_thrown M_length M_textSize M_start M_next M_token M_value M_error M_errorAt M_number M_many M_freshMany M_undos, sArrI E anow 365 now, sArrI E aspelled 12 spelled, sArrI E acost 13 cost, sArrI E afewestFrom 13 fewestFrom, sArrI E afirst 13 first] [none, none, some (.int x2), none] [] 30) : ∀ (n : Nat) (x2 : Int32) (x3 : Int32) (M_many : Int32) (spelled : (Nat → Int32)) (cost : (Nat → Int32)) (fewestFrom : (Nat → Int32)) (first : (Nat → Int32)), fX10_fewestOfAll_L4 x1 now k n x2 x3 M_many spelled cost fewestFrom first = some (r, M_many', spelled', cost', fewestFrom', first') → Gj p l e rmX10_fewestOfAll s m args below meth c 0 0 (MQ below (gQ vwCl E A (fun v w => v = some (.int r) ∧ w = [sModel E aM anow aaside anames anamesAside atext aspelled acost afewestFrom afirst afresh aways aundo aslots aisSaved M_thrown M_length M_textSize M_start M_next M_token M_value M_error M_errorAt M_number M_many' M_freshMany M_undos, sArrI E anow 365 now, sArrI E aspelled 12 spelled', sArrI E acost 13 cost', sArrI E afewestFrom 13 fewestFrom', sArrI E afirst 13 first'])) args s 0 0 A) vwCl E A [sModel E aM anow aaside anames anamesAside atext aspelled acost afewestFrom afirst afresh aways aundo aslots aisSaved M_thrown M_length M_textSize M_start M_next M_token M_value M_error M_errorAt M_number M_many M_freshMany M_undos, sArrI E anow 365 now, sArrI E aspelled 12 spelled, sArrI E acost 13 cost, sArrI E afewestFrom 13 fewestFrom, sArrI E afirst 13 first] [some (.ref (aM 0)), some (.int x1), some (.int x2), some (.int x3)] [] 4
  | 0, _, _, _, _, _, _, _, hf => by cases hf
  | n + 1, x2, x3, M_many, spelled, cost, fewestFrom, first, hf => by
    have ih := ktX10_fewestOfAll_L4 F aM anow aaside anames anamesAside atext aspelled acost afewestFrom afirst afresh aways aundo aslots aisSaved x1 now M_thrown M_length M_textSize M_start M_next M_token M_value M_error M_errorAt M_number M_freshMany M_undos r M_many' spelled' cost' fewestFrom' first' hk n
    rw [fX10_fewestOfAll_L4] at hf
    refine g_iload_n F dX10_fewestOfAll_4 rfl ?_
    refine g_aload_n F dX10_fewestOfAll_5 rfl ?_
    refine g_get (C := RX10) (T := TX10) (N := 27) F 0 0 1 rfl rfl rfl iX10_fewestOfAll_X10 (by decide) (by decide +kernel) rfl dX10_fewestOfAll_6 ?_
    refine g_bipush F 10 dX10_fewestOfAll_9 rfl ?_
    refine g_iald F 1 0 10 (by decide) rfl rfl (by decide) dX10_fewestOfAll_11 ?_
    refine g_icmp_ge F 30 dX10_fewestOfAll_12 (by decide) (fun hc_1 => ?_) (fun hc_1 => ?_)
    · replace hf := gi_t hc_1 hf
      refine g_mask [false, false, true, false] rfl ?_
      exact hk x2 M_many spelled cost fewestFrom first hf
    · replace hf := gi_f hc_1 hf
      refine g_iload_n F dX10_fewestOfAll_15 rfl ?_
      refine g_aload_n F dX10_fewestOfAll_16 rfl ?_
      refine g_iload_n F dX10_fewestOfAll_17 rfl ?_
      refine g_iload_n F dX10_fewestOfAll_18 rfl ?_
      obtain ⟨r_1, M_many_1, spelled_1, cost_1, fewestFrom_1, first_1, hg_1, hf⟩ := gb6_el hf
      refine g_callV (C := RX10) (T := TX10) (N := 27) (Lr := []) (As := [.int x3, .int x1]) (rest := [.int x2]) F 0 0 2 (ctX10_fewestOf l E aM anow aaside anames anamesAside atext aspelled acost afewestFrom afirst afresh aways aundo aslots aisSaved x3 x1 M_thrown M_length M_textSize M_start M_next M_token M_value M_error M_errorAt M_number M_many M_freshMany M_undos now spelled cost fewestFrom first r_1 M_many_1 spelled_1 cost_1 fewestFrom_1 first_1 hg_1) gX10_fewestOfAll_X10_fewestOf rfl rfl rfl h0X10_fewestOf ⟨Nat.le_of_ble_eq_true rfl, Nat.le_of_ble_eq_true rfl⟩ rfl rfl rfl [0, 1, 2, 3, 4, 5] [] rfl rfl rfl rfl rfl rfl (Nat.le_of_ble_eq_true rfl) dX10_fewestOfAll_19 ⟨Nat.le_of_ble_eq_true rfl, Nat.le_of_ble_eq_true rfl⟩ ?_
      rintro v w ⟨rfl, rfl⟩
      refine g_norm (Lw' := [sModel E aM anow aaside anames anamesAside atext aspelled acost afewestFrom afirst afresh aways aundo aslots aisSaved M_thrown M_length M_textSize M_start M_next M_token M_value M_error M_errorAt M_number M_many_1 M_freshMany M_undos, sArrI E anow 365 now, sArrI E aspelled 12 spelled_1, sArrI E acost 13 cost_1, sArrI E afewestFrom 13 fewestFrom_1, sArrI E afirst 13 first_1]) (st' := [.int r_1, .int x2]) (pc' := 22) [0, 1, 2, 3, 4, 5] rfl rfl rfl rfl ?_
      refine g_iadd F dX10_fewestOfAll_22 ?_
      refine g_istore_n (lv' := [some (.ref (aM 0)), some (.int x1), some (.int (x2 + r_1)), some (.int x3)]) F dX10_fewestOfAll_23 (Nat.le_of_ble_eq_true rfl) rfl rfl ?_
      refine g_iinc (lv' := [some (.ref (aM 0)), some (.int x1), some (.int (x2 + r_1)), some (.int (x3 + 1))]) F (x3 + 1) dX10_fewestOfAll_24 rfl rfl rfl rfl ?_
      refine g_goto F 4 dX10_fewestOfAll_27 (by decide) ?_
      exact ih (x2 + r_1) (x3 + 1) M_many_1 spelled_1 cost_1 fewestFrom_1 first_1 hf
set_option maxHeartbeats 4000000 in
set_option maxRecDepth 100000 in
theorem ctX10_fewestOfAll (l : Launch) (E : gE) (aM anow aaside anames anamesAside atext aspelled acost afewestFrom afirst afresh aways aundo aslots aisSaved : Nat → Nat) (x1 : Int32) (M_thrown : Int32) (M_length : Int32) (M_textSize : Int32) (M_start : Int32) (M_next : Int32) (M_token : Int32) (M_value : Int32) (M_error : Int32) (M_errorAt : Int32) (M_number : Int32) (M_many : Int32) (M_freshMany : Int32) (M_undos : Int32) (now : (Nat → Int32)) (spelled : (Nat → Int32)) (cost : (Nat → Int32)) (fewestFrom : (Nat → Int32)) (first : (Nat → Int32)) (r : Int32) (M_many' : Int32) (spelled' : (Nat → Int32)) (cost' : (Nat → Int32)) (fewestFrom' : (Nat → Int32)) (first' : (Nat → Int32)) (hf : fX10_fewestOfAll x1 M_many now spelled cost fewestFrom first = some (r, M_many', spelled', cost', fewestFrom', first')) : gMet l yX10_fewestOfAll wsX10_fewestOfAll rmX10_fewestOfAll vwCl E [.ref (aM 0), .int x1] [sModel E aM anow aaside anames anamesAside atext aspelled acost afewestFrom afirst afresh aways aundo aslots aisSaved M_thrown M_length M_textSize M_start M_next M_token M_value M_error M_errorAt M_number M_many M_freshMany M_undos, sArrI E anow 365 now, sArrI E aspelled 12 spelled, sArrI E acost 13 cost, sArrI E afewestFrom 13 fewestFrom, sArrI E afirst 13 first] (fun v w => v = some (.int r) ∧ w = [sModel E aM anow aaside anames anamesAside atext aspelled acost afewestFrom afirst afresh aways aundo aslots aisSaved M_thrown M_length M_textSize M_start M_next M_token M_value M_error M_errorAt M_number M_many' M_freshMany M_undos, sArrI E anow 365 now, sArrI E aspelled 12 spelled', sArrI E acost 13 cost', sArrI E afewestFrom 13 fewestFrom', sArrI E afirst 13 first']) 0 0 := by
  refine g_entry [some (.ref (aM 0)), some (.int x1), none, none] (by decide) rfl (Nat.le_of_ble_eq_true rfl) rfl ?_
  intro p e s m below meth c A F hnm
  unfold fX10_fewestOfAll at hf
  refine g_iconst F 0 dX10_fewestOfAll_0 rfl ?_
  refine g_istore_n (lv' := [some (.ref (aM 0)), some (.int x1), some (.int 0), none]) F dX10_fewestOfAll_1 (Nat.le_of_ble_eq_true rfl) rfl rfl ?_
  refine g_iconst F 0 dX10_fewestOfAll_2 rfl ?_
  refine g_istore_n (lv' := [some (.ref (aM 0)), some (.int x1), some (.int 0), some (.int 0)]) F dX10_fewestOfAll_3 (Nat.le_of_ble_eq_true rfl) rfl rfl ?_
  refine ktX10_fewestOfAll_L4 F aM anow aaside anames anamesAside atext aspelled acost afewestFrom afirst afresh aways aundo aslots aisSaved x1 now M_thrown M_length M_textSize M_start M_next M_token M_value M_error M_errorAt M_number M_freshMany M_undos r M_many' spelled' cost' fewestFrom' first' (fun x2_1 M_many_1 spelled_1 cost_1 fewestFrom_1 first_1 hf => ?_) FU 0 0 M_many spelled cost fewestFrom first hf
  refine g_iload_n F dX10_fewestOfAll_30 rfl ?_
  cases hf
  exact g_iret F rfl ⟨rfl, rfl⟩ dX10_fewestOfAll_31
set_option maxHeartbeats 4000000 in
set_option maxRecDepth 100000 in
theorem ktX10_bestPart_L71 {p : Program} {l : Launch} {e : Env} {s : State} {m : MethodId} {args : Array Value} {below : List Frame} {meth : Method} {c : Code} {E : gE} {A : Nat → Prop} (F : gFx p s m args meth c RX10 wsX10_bestPart cX10_bestPart 12 (some .int) vwCl E A) (aM anow aaside anames anamesAside atext aspelled acost afewestFrom afirst afresh aways aundo aslots aisSaved : Nat → Nat) (x1 : Int32) (x2 : Int32) (x3 : Int32) (x7 : Int32) (x8 : Int32) (now : (Nat → Int32)) (M_thrown : Int32) (M_length : Int32) (M_textSize : Int32) (M_start : Int32) (M_next : Int32) (M_token : Int32) (M_value : Int32) (M_error : Int32) (M_errorAt : Int32) (M_number : Int32) (M_freshMany : Int32) (M_undos : Int32) (r : Int32) (M_thrown' : Int32) (M_many' : Int32) (spelled' : (Nat → Int32)) (cost' : (Nat → Int32)) (fewestFrom' : (Nat → Int32)) (first' : (Nat → Int32)) {k : Int32 → Int32 → Int32 → Int32 → (Nat → Int32) → (Nat → Int32) → (Nat → Int32) → (Nat → Int32) → Option (Int32 × Int32 × Int32 × (Nat → Int32) × (Nat → Int32) × (Nat → Int32) × (Nat → Int32))} (hk : ∀ (x4 : Int32) (x5 : Int32) (x6 : Int32) (M_many : Int32) (spelled : (Nat → Int32)) (cost : (Nat → Int32)) (fewestFrom : (Nat → Int32)) (first : (Nat → Int32)), k x4 x5 x6 M_many spelled cost fewestFrom first = some (r, M_thrown', M_many', spelled', cost', fewestFrom', first') → Gj p l e rmX10_bestPart s m args below meth c 0 0 (MQ below (gQ vwCl E A (fun v w => v = some (.int r) ∧ w = [sModel E aM anow aaside anames anamesAside atext aspelled acost afewestFrom afirst afresh aways aundo aslots aisSaved M_thrown' M_length M_textSize M_start M_next M_token M_value M_error M_errorAt M_number M_many' M_freshMany M_undos, sArrI E anow 365 now, sArrI E aspelled 12 spelled', sArrI E acost 13 cost', sArrI E afewestFrom 13 fewestFrom', sArrI E afirst 13 first'])) args s 0 0 A) vwCl E A [sModel E aM anow aaside anames anamesAside atext aspelled acost afewestFrom afirst afresh aways aundo aslots aisSaved M_thrown M_length M_textSize M_start M_next M_token M_value M_error M_errorAt M_number M_many M_freshMany M_undos, sArrI E anow 365 now, sArrI E aspelled 12 spelled, sArrI E acost 13 cost, sArrI E afewestFrom 13 fewestFrom, sArrI E afirst 13 first] [some (.ref (aM 0)), some (.int x1), some (.int x2), some (.int x3), some (.int x4), some (.int x5), some (.int x6), some (.int x7), some (.int x8), none, none, none] [] 145) : ∀ (n : Nat) (x4 : Int32) (x5 : Int32) (x6 : Int32) (x9 : Int32) (M_many : Int32) (spelled : (Nat → Int32)) (cost : (Nat → Int32)) (fewestFrom : (Nat → Int32)) (first : (Nat → Int32)), fX10_bestPart_L71 x1 x2 x3 x7 x8 now k n x4 x5 x6 x9 M_many spelled cost fewestFrom first = some (r, M_thrown', M_many', spelled', cost', fewestFrom', first') → Gj p l e rmX10_bestPart s m args below meth c 0 0 (MQ below (gQ vwCl E A (fun v w => v = some (.int r) ∧ w = [sModel E aM anow aaside anames anamesAside atext aspelled acost afewestFrom afirst afresh aways aundo aslots aisSaved M_thrown' M_length M_textSize M_start M_next M_token M_value M_error M_errorAt M_number M_many' M_freshMany M_undos, sArrI E anow 365 now, sArrI E aspelled 12 spelled', sArrI E acost 13 cost', sArrI E afewestFrom 13 fewestFrom', sArrI E afirst 13 first'])) args s 0 0 A) vwCl E A [sModel E aM anow aaside anames anamesAside atext aspelled acost afewestFrom afirst afresh aways aundo aslots aisSaved M_thrown M_length M_textSize M_start M_next M_token M_value M_error M_errorAt M_number M_many M_freshMany M_undos, sArrI E anow 365 now, sArrI E aspelled 12 spelled, sArrI E acost 13 cost, sArrI E afewestFrom 13 fewestFrom, sArrI E afirst 13 first] [some (.ref (aM 0)), some (.int x1), some (.int x2), some (.int x3), some (.int x4), some (.int x5), some (.int x6), some (.int x7), some (.int x8), some (.int x9), none, none] [] 71
  | 0, _, _, _, _, _, _, _, _, _, hf => by cases hf
  | n + 1, x4, x5, x6, x9, M_many, spelled, cost, fewestFrom, first, hf => by
    have ih := ktX10_bestPart_L71 F aM anow aaside anames anamesAside atext aspelled acost afewestFrom afirst afresh aways aundo aslots aisSaved x1 x2 x3 x7 x8 now M_thrown M_length M_textSize M_start M_next M_token M_value M_error M_errorAt M_number M_freshMany M_undos r M_thrown' M_many' spelled' cost' fewestFrom' first' hk n
    rw [fX10_bestPart_L71] at hf
    refine g_iload F dX10_bestPart_71 rfl ?_
    refine g_iload F dX10_bestPart_73 rfl ?_
    refine g_iadd F dX10_bestPart_75 ?_
    refine g_iload F dX10_bestPart_76 rfl ?_
    refine g_icmp_gt F 145 dX10_bestPart_78 (by decide) (fun hc_3 => ?_) (fun hc_3 => ?_)
    · replace hf := gi_t hc_3 hf
      refine g_mask [true, true, true, true, true, true, true, true, true, false, true, true] rfl ?_
      exact hk x4 x5 x6 M_many spelled cost fewestFrom first hf
    · replace hf := gi_f hc_3 hf
      refine g_aload_n F dX10_bestPart_81 rfl ?_
      refine g_iload_n F dX10_bestPart_82 rfl ?_
      obtain ⟨M_many_1, spelled_1, hg_1, hf⟩ := gb2_el hf
      refine g_callV (C := RX10) (T := TX10) (N := 27) (Lr := [sArrI E acost 13 cost, sArrI E afewestFrom 13 fewestFrom, sArrI E afirst 13 first]) (As := [.int x1]) (rest := []) F 0 0 1 (ctX10_spellsWord l E aM anow aaside anames anamesAside atext aspelled acost afewestFrom afirst afresh aways aundo aslots aisSaved x1 M_thrown M_length M_textSize M_start M_next M_token M_value M_error M_errorAt M_number M_many M_freshMany M_undos now spelled M_many_1 spelled_1 hg_1) gX10_bestPart_X10_spellsWord rfl rfl rfl h0X10_spellsWord ⟨Nat.le_of_ble_eq_true rfl, Nat.le_of_ble_eq_true rfl⟩ rfl rfl rfl [0, 1, 2] [3, 4, 5] rfl rfl rfl rfl rfl rfl (Nat.le_of_ble_eq_true rfl) dX10_bestPart_83 ⟨Nat.le_of_ble_eq_true rfl, Nat.le_of_ble_eq_true rfl⟩ ?_
      rintro v w ⟨rfl, rfl⟩
      refine g_norm (Lw' := [sModel E aM anow aaside anames anamesAside atext aspelled acost afewestFrom afirst afresh aways aundo aslots aisSaved M_thrown M_length M_textSize M_start M_next M_token M_value M_error M_errorAt M_number M_many_1 M_freshMany M_undos, sArrI E anow 365 now, sArrI E aspelled 12 spelled_1, sArrI E acost 13 cost, sArrI E afewestFrom 13 fewestFrom, sArrI E afirst 13 first]) (st' := []) (pc' := 86) [0, 1, 2, 3, 4, 5] rfl rfl rfl rfl ?_
      refine g_aload_n F dX10_bestPart_86 rfl ?_
      refine g_iload F dX10_bestPart_87 rfl ?_
      refine g_iload F dX10_bestPart_89 rfl ?_
      obtain ⟨r_1, hg_2, hf⟩ := gb1_el hf
      refine g_callV (C := RX10) (T := TX10) (N := 27) (Lr := [sArrI E anow 365 now, sArrI E acost 13 cost, sArrI E afewestFrom 13 fewestFrom, sArrI E afirst 13 first]) (As := [.int x9, .int x8]) (rest := []) F 0 0 2 (ctX10_code l E aM anow aaside anames anamesAside atext aspelled acost afewestFrom afirst afresh aways aundo aslots aisSaved x9 x8 M_thrown M_length M_textSize M_start M_next M_token M_value M_error M_errorAt M_number M_many_1 M_freshMany M_undos spelled_1 r_1 hg_2) gX10_bestPart_X10_code rfl rfl rfl h0X10_code ⟨Nat.le_of_ble_eq_true rfl, Nat.le_of_ble_eq_true rfl⟩ rfl rfl rfl [0, 2] [1, 3, 4, 5] rfl rfl rfl rfl rfl rfl (Nat.le_of_ble_eq_true rfl) dX10_bestPart_91 ⟨Nat.le_of_ble_eq_true rfl, Nat.le_of_ble_eq_true rfl⟩ ?_
      rintro v w ⟨rfl, rfl⟩
      refine g_norm (Lw' := [sModel E aM anow aaside anames anamesAside atext aspelled acost afewestFrom afirst afresh aways aundo aslots aisSaved M_thrown M_length M_textSize M_start M_next M_token M_value M_error M_errorAt M_number M_many_1 M_freshMany M_undos, sArrI E anow 365 now, sArrI E aspelled 12 spelled_1, sArrI E acost 13 cost, sArrI E afewestFrom 13 fewestFrom, sArrI E afirst 13 first]) (st' := [.int r_1]) (pc' := 94) [0, 2, 1, 3, 4, 5] rfl rfl rfl rfl ?_
      refine g_istore (lv' := [some (.ref (aM 0)), some (.int x1), some (.int x2), some (.int x3), some (.int x4), some (.int x5), some (.int x6), some (.int x7), some (.int x8), some (.int x9), some (.int r_1), none]) F dX10_bestPart_94 (Nat.le_of_ble_eq_true rfl) rfl rfl ?_
      refine g_aload_n F dX10_bestPart_96 rfl ?_
      refine g_iload F dX10_bestPart_97 rfl ?_
      obtain ⟨r_2, hg_3, hf⟩ := gb1_el hf
      refine g_callV (C := RX10) (T := TX10) (N := 27) (Lr := [sArrI E aspelled 12 spelled_1, sArrI E acost 13 cost, sArrI E afewestFrom 13 fewestFrom, sArrI E afirst 13 first]) (As := [.int r_1]) (rest := []) F 0 0 1 (ctX10_pieceOf l E aM anow aaside anames anamesAside atext aspelled acost afewestFrom afirst afresh aways aundo aslots aisSaved r_1 M_thrown M_length M_textSize M_start M_next M_token M_value M_error M_errorAt M_number M_many_1 M_freshMany M_undos now r_2 hg_3) gX10_bestPart_X10_pieceOf rfl rfl rfl h0X10_pieceOf ⟨Nat.le_of_ble_eq_true rfl, Nat.le_of_ble_eq_true rfl⟩ rfl rfl rfl [0, 1] [2, 3, 4, 5] rfl rfl rfl rfl rfl rfl (Nat.le_of_ble_eq_true rfl) dX10_bestPart_99 ⟨Nat.le_of_ble_eq_true rfl, Nat.le_of_ble_eq_true rfl⟩ ?_
      rintro v w ⟨rfl, rfl⟩
      refine g_norm (Lw' := [sModel E aM anow aaside anames anamesAside atext aspelled acost afewestFrom afirst afresh aways aundo aslots aisSaved M_thrown M_length M_textSize M_start M_next M_token M_value M_error M_errorAt M_number M_many_1 M_freshMany M_undos, sArrI E anow 365 now, sArrI E aspelled 12 spelled_1, sArrI E acost 13 cost, sArrI E afewestFrom 13 fewestFrom, sArrI E afirst 13 first]) (st' := [.int r_2]) (pc' := 102) [0, 1, 2, 3, 4, 5] rfl rfl rfl rfl ?_
      refine g_iconst F (-1) dX10_bestPart_102 rfl ?_
      obtain ⟨j_1, hj_1, hf⟩ := Lt_el hf
      have hj_1 : ∀ (t0_1 : Int32) (M_many_2 : Int32) (spelled_2 : (Nat → Int32)) (cost_1 : (Nat → Int32)) (fewestFrom_1 : (Nat → Int32)) (first_1 : (Nat → Int32)), j_1 t0_1 M_many_2 spelled_2 cost_1 fewestFrom_1 first_1 = some (r, M_thrown', M_many', spelled', cost', fewestFrom', first') → Gj p l e rmX10_bestPart s m args below meth c 0 0 (MQ below (gQ vwCl E A (fun v w => v = some (.int r) ∧ w = [sModel E aM anow aaside anames anamesAside atext aspelled acost afewestFrom afirst afresh aways aundo aslots aisSaved M_thrown' M_length M_textSize M_start M_next M_token M_value M_error M_errorAt M_number M_many' M_freshMany M_undos, sArrI E anow 365 now, sArrI E aspelled 12 spelled', sArrI E acost 13 cost', sArrI E afewestFrom 13 fewestFrom', sArrI E afirst 13 first'])) args s 0 0 A) vwCl E A [sModel E aM anow aaside anames anamesAside atext aspelled acost afewestFrom afirst afresh aways aundo aslots aisSaved M_thrown M_length M_textSize M_start M_next M_token M_value M_error M_errorAt M_number M_many_2 M_freshMany M_undos, sArrI E anow 365 now, sArrI E aspelled 12 spelled_2, sArrI E acost 13 cost_1, sArrI E afewestFrom 13 fewestFrom_1, sArrI E afirst 13 first_1] [some (.ref (aM 0)), some (.int x1), some (.int x2), some (.int x3), some (.int x4), some (.int x5), some (.int x6), some (.int x7), some (.int x8), some (.int x9), none, none] [.int t0_1] 118 := by
        intro t0_1 M_many_2 spelled_2 cost_1 fewestFrom_1 first_1 hf
        rw [hj_1] at hf
        refine g_istore (lv' := [some (.ref (aM 0)), some (.int x1), some (.int x2), some (.int x3), some (.int x4), some (.int x5), some (.int x6), some (.int x7), some (.int x8), some (.int x9), none, some (.int t0_1)]) F dX10_bestPart_118 (Nat.le_of_ble_eq_true rfl) rfl rfl ?_
        refine g_iload F dX10_bestPart_120 rfl ?_
        refine g_iload F dX10_bestPart_122 rfl ?_
        refine g_icmp_le F 139 dX10_bestPart_124 (by decide) (fun hc_1 => ?_) (fun hc_1 => ?_)
        · replace hf := gi_t hc_1 hf
          refine g_iinc (lv' := [some (.ref (aM 0)), some (.int x1), some (.int x2), some (.int x3), some (.int x4), some (.int x5), some (.int x6), some (.int x7), some (.int x8), some (.int (x9 + 1)), none, some (.int t0_1)]) F (x9 + 1) dX10_bestPart_139 rfl rfl rfl rfl ?_
          refine g_goto F 71 dX10_bestPart_142 (by decide) ?_
          refine g_mask [true, true, true, true, true, true, true, true, true, true, true, false] rfl ?_
          exact ih x4 x5 x6 (x9 + 1) M_many_2 spelled_2 cost_1 fewestFrom_1 first_1 hf
        · replace hf := gi_f hc_1 hf
          refine g_iload F dX10_bestPart_127 rfl ?_
          refine g_istore (lv' := [some (.ref (aM 0)), some (.int x1), some (.int x2), some (.int x3), some (.int x9), some (.int x5), some (.int x6), some (.int x7), some (.int x8), some (.int x9), none, some (.int t0_1)]) F dX10_bestPart_129 (Nat.le_of_ble_eq_true rfl) rfl rfl ?_
          refine g_iload F dX10_bestPart_131 rfl ?_
          refine g_istore (lv' := [some (.ref (aM 0)), some (.int x1), some (.int x2), some (.int x3), some (.int x9), some (.int x8), some (.int x6), some (.int x7), some (.int x8), some (.int x9), none, some (.int t0_1)]) F dX10_bestPart_133 (Nat.le_of_ble_eq_true rfl) rfl rfl ?_
          refine g_iload F dX10_bestPart_135 rfl ?_
          refine g_istore (lv' := [some (.ref (aM 0)), some (.int x1), some (.int x2), some (.int x3), some (.int x9), some (.int x8), some (.int t0_1), some (.int x7), some (.int x8), some (.int x9), none, some (.int t0_1)]) F dX10_bestPart_137 (Nat.le_of_ble_eq_true rfl) rfl rfl ?_
          refine g_iinc (lv' := [some (.ref (aM 0)), some (.int x1), some (.int x2), some (.int x3), some (.int x9), some (.int x8), some (.int t0_1), some (.int x7), some (.int x8), some (.int (x9 + 1)), none, some (.int t0_1)]) F (x9 + 1) dX10_bestPart_139 rfl rfl rfl rfl ?_
          refine g_goto F 71 dX10_bestPart_142 (by decide) ?_
          refine g_mask [true, true, true, true, true, true, true, true, true, true, true, false] rfl ?_
          exact ih x9 x8 t0_1 (x9 + 1) M_many_2 spelled_2 cost_1 fewestFrom_1 first_1 hf
      refine g_icmp_eq F 110 dX10_bestPart_103 (by decide) (fun hc_2 => ?_) (fun hc_2 => ?_)
      · replace hf := gi_t hc_2 hf
        refine g_iload_n F dX10_bestPart_110 rfl ?_
        refine g_aload_n F dX10_bestPart_111 rfl ?_
        refine g_iload F dX10_bestPart_112 rfl ?_
        obtain ⟨r_3, M_many_3, spelled_3, cost_2, fewestFrom_2, first_2, hg_4, hf⟩ := gb6_el hf
        refine g_callV (C := RX10) (T := TX10) (N := 27) (Lr := []) (As := [.int r_1]) (rest := [.int x3]) F 0 0 1 (ctX10_fewestOfAll l E aM anow aaside anames anamesAside atext aspelled acost afewestFrom afirst afresh aways aundo aslots aisSaved r_1 M_thrown M_length M_textSize M_start M_next M_token M_value M_error M_errorAt M_number M_many_1 M_freshMany M_undos now spelled_1 cost fewestFrom first r_3 M_many_3 spelled_3 cost_2 fewestFrom_2 first_2 hg_4) gX10_bestPart_X10_fewestOfAll rfl rfl rfl h0X10_fewestOfAll ⟨Nat.le_of_ble_eq_true rfl, Nat.le_of_ble_eq_true rfl⟩ rfl rfl rfl [0, 1, 2, 3, 4, 5] [] rfl rfl rfl rfl rfl rfl (Nat.le_of_ble_eq_true rfl) dX10_bestPart_114 ⟨Nat.le_of_ble_eq_true rfl, Nat.le_of_ble_eq_true rfl⟩ ?_
        rintro v w ⟨rfl, rfl⟩
        refine g_norm (Lw' := [sModel E aM anow aaside anames anamesAside atext aspelled acost afewestFrom afirst afresh aways aundo aslots aisSaved M_thrown M_length M_textSize M_start M_next M_token M_value M_error M_errorAt M_number M_many_3 M_freshMany M_undos, sArrI E anow 365 now, sArrI E aspelled 12 spelled_3, sArrI E acost 13 cost_2, sArrI E afewestFrom 13 fewestFrom_2, sArrI E afirst 13 first_2]) (st' := [.int r_3, .int x3]) (pc' := 117) [0, 1, 2, 3, 4, 5] rfl rfl rfl rfl ?_
        refine g_isub F dX10_bestPart_117 ?_
        refine g_mask [true, true, true, true, true, true, true, true, true, true, false, true] rfl ?_
        exact hj_1 (x3 - r_3) M_many_3 spelled_3 cost_2 fewestFrom_2 first_2 hf
      · replace hf := gi_f hc_2 hf
        refine g_iconst F 0 dX10_bestPart_106 rfl ?_
        refine g_goto F 118 dX10_bestPart_107 (by decide) ?_
        refine g_mask [true, true, true, true, true, true, true, true, true, true, false, true] rfl ?_
        exact hj_1 0 M_many_1 spelled_1 cost fewestFrom first hf
set_option maxHeartbeats 4000000 in
set_option maxRecDepth 100000 in
theorem ktX10_bestPart_L61 {p : Program} {l : Launch} {e : Env} {s : State} {m : MethodId} {args : Array Value} {below : List Frame} {meth : Method} {c : Code} {E : gE} {A : Nat → Prop} (F : gFx p s m args meth c RX10 wsX10_bestPart cX10_bestPart 12 (some .int) vwCl E A) (aM anow aaside anames anamesAside atext aspelled acost afewestFrom afirst afresh aways aundo aslots aisSaved : Nat → Nat) (x1 : Int32) (x2 : Int32) (x3 : Int32) (x7 : Int32) (now : (Nat → Int32)) (M_thrown : Int32) (M_length : Int32) (M_textSize : Int32) (M_start : Int32) (M_next : Int32) (M_token : Int32) (M_value : Int32) (M_error : Int32) (M_errorAt : Int32) (M_number : Int32) (M_freshMany : Int32) (M_undos : Int32) (r : Int32) (M_thrown' : Int32) (M_many' : Int32) (spelled' : (Nat → Int32)) (cost' : (Nat → Int32)) (fewestFrom' : (Nat → Int32)) (first' : (Nat → Int32)) {k : Int32 → Int32 → Int32 → Int32 → (Nat → Int32) → (Nat → Int32) → (Nat → Int32) → (Nat → Int32) → Option (Int32 × Int32 × Int32 × (Nat → Int32) × (Nat → Int32) × (Nat → Int32) × (Nat → Int32))} (hk : ∀ (x4 : Int32) (x5 : Int32) (x6 : Int32) (M_many : Int32) (spelled : (Nat → Int32)) (cost : (Nat → Int32)) (fewestFrom : (Nat → Int32)) (first : (Nat → Int32)), k x4 x5 x6 M_many spelled cost fewestFrom first = some (r, M_thrown', M_many', spelled', cost', fewestFrom', first') → Gj p l e rmX10_bestPart s m args below meth c 0 0 (MQ below (gQ vwCl E A (fun v w => v = some (.int r) ∧ w = [sModel E aM anow aaside anames anamesAside atext aspelled acost afewestFrom afirst afresh aways aundo aslots aisSaved M_thrown' M_length M_textSize M_start M_next M_token M_value M_error M_errorAt M_number M_many' M_freshMany M_undos, sArrI E anow 365 now, sArrI E aspelled 12 spelled', sArrI E acost 13 cost', sArrI E afewestFrom 13 fewestFrom', sArrI E afirst 13 first'])) args s 0 0 A) vwCl E A [sModel E aM anow aaside anames anamesAside atext aspelled acost afewestFrom afirst afresh aways aundo aslots aisSaved M_thrown M_length M_textSize M_start M_next M_token M_value M_error M_errorAt M_number M_many M_freshMany M_undos, sArrI E anow 365 now, sArrI E aspelled 12 spelled, sArrI E acost 13 cost, sArrI E afewestFrom 13 fewestFrom, sArrI E afirst 13 first] [none, none, some (.int x2), none, some (.int x4), some (.int x5), some (.int x6), none, none, none, none, none] [] 151) : ∀ (n : Nat) (x4 : Int32) (x5 : Int32) (x6 : Int32) (x8 : Int32) (M_many : Int32) (spelled : (Nat → Int32)) (cost : (Nat → Int32)) (fewestFrom : (Nat → Int32)) (first : (Nat → Int32)), fX10_bestPart_L61 x1 x2 x3 x7 now k n x4 x5 x6 x8 M_many spelled cost fewestFrom first = some (r, M_thrown', M_many', spelled', cost', fewestFrom', first') → Gj p l e rmX10_bestPart s m args below meth c 0 0 (MQ below (gQ vwCl E A (fun v w => v = some (.int r) ∧ w = [sModel E aM anow aaside anames anamesAside atext aspelled acost afewestFrom afirst afresh aways aundo aslots aisSaved M_thrown' M_length M_textSize M_start M_next M_token M_value M_error M_errorAt M_number M_many' M_freshMany M_undos, sArrI E anow 365 now, sArrI E aspelled 12 spelled', sArrI E acost 13 cost', sArrI E afewestFrom 13 fewestFrom', sArrI E afirst 13 first'])) args s 0 0 A) vwCl E A [sModel E aM anow aaside anames anamesAside atext aspelled acost afewestFrom afirst afresh aways aundo aslots aisSaved M_thrown M_length M_textSize M_start M_next M_token M_value M_error M_errorAt M_number M_many M_freshMany M_undos, sArrI E anow 365 now, sArrI E aspelled 12 spelled, sArrI E acost 13 cost, sArrI E afewestFrom 13 fewestFrom, sArrI E afirst 13 first] [some (.ref (aM 0)), some (.int x1), some (.int x2), some (.int x3), some (.int x4), some (.int x5), some (.int x6), some (.int x7), some (.int x8), none, none, none] [] 61
  | 0, _, _, _, _, _, _, _, _, _, hf => by cases hf
  | n + 1, x4, x5, x6, x8, M_many, spelled, cost, fewestFrom, first, hf => by
    have ih := ktX10_bestPart_L61 F aM anow aaside anames anamesAside atext aspelled acost afewestFrom afirst afresh aways aundo aslots aisSaved x1 x2 x3 x7 now M_thrown M_length M_textSize M_start M_next M_token M_value M_error M_errorAt M_number M_freshMany M_undos r M_thrown' M_many' spelled' cost' fewestFrom' first' hk n
    rw [fX10_bestPart_L61] at hf
    refine g_iload F dX10_bestPart_61 rfl ?_
    refine g_bipush F 6 dX10_bestPart_63 rfl ?_
    refine g_icmp_gt F 151 dX10_bestPart_65 (by decide) (fun hc_1 => ?_) (fun hc_1 => ?_)
    · replace hf := gi_t hc_1 hf
      refine g_mask [false, false, true, false, true, true, true, false, false, true, true, true] rfl ?_
      exact hk x4 x5 x6 M_many spelled cost fewestFrom first hf
    · replace hf := gi_f hc_1 hf
      refine g_iconst F 0 dX10_bestPart_68 rfl ?_
      refine g_istore (lv' := [some (.ref (aM 0)), some (.int x1), some (.int x2), some (.int x3), some (.int x4), some (.int x5), some (.int x6), some (.int x7), some (.int x8), some (.int 0), none, none]) F dX10_bestPart_69 (Nat.le_of_ble_eq_true rfl) rfl rfl ?_
      refine ktX10_bestPart_L71 F aM anow aaside anames anamesAside atext aspelled acost afewestFrom afirst afresh aways aundo aslots aisSaved x1 x2 x3 x7 x8 now M_thrown M_length M_textSize M_start M_next M_token M_value M_error M_errorAt M_number M_freshMany M_undos r M_thrown' M_many' spelled' cost' fewestFrom' first' (fun x4_1 x5_1 x6_1 M_many_1 spelled_1 cost_1 fewestFrom_1 first_1 hf => ?_) FU x4 x5 x6 0 M_many spelled cost fewestFrom first hf
      refine g_iinc (lv' := [some (.ref (aM 0)), some (.int x1), some (.int x2), some (.int x3), some (.int x4_1), some (.int x5_1), some (.int x6_1), some (.int x7), some (.int (x8 + 1)), none, none, none]) F (x8 + 1) dX10_bestPart_145 rfl rfl rfl rfl ?_
      refine g_goto F 61 dX10_bestPart_148 (by decide) ?_
      exact ih x4_1 x5_1 x6_1 (x8 + 1) M_many_1 spelled_1 cost_1 fewestFrom_1 first_1 hf
set_option maxHeartbeats 4000000 in
set_option maxRecDepth 100000 in
theorem ctX10_bestPart (l : Launch) (E : gE) (aM anow aaside anames anamesAside atext aspelled acost afewestFrom afirst afresh aways aundo aslots aisSaved : Nat → Nat) (x1 : Int32) (x2 : Int32) (M_thrown : Int32) (M_length : Int32) (M_textSize : Int32) (M_start : Int32) (M_next : Int32) (M_token : Int32) (M_value : Int32) (M_error : Int32) (M_errorAt : Int32) (M_number : Int32) (M_many : Int32) (M_freshMany : Int32) (M_undos : Int32) (now : (Nat → Int32)) (spelled : (Nat → Int32)) (cost : (Nat → Int32)) (fewestFrom : (Nat → Int32)) (first : (Nat → Int32)) (r : Int32) (M_thrown' : Int32) (M_many' : Int32) (spelled' : (Nat → Int32)) (cost' : (Nat → Int32)) (fewestFrom' : (Nat → Int32)) (first' : (Nat → Int32)) (hf : fX10_bestPart x1 x2 M_thrown M_many now spelled cost fewestFrom first = some (r, M_thrown', M_many', spelled', cost', fewestFrom', first')) : gMet l yX10_bestPart wsX10_bestPart rmX10_bestPart vwCl E [.ref (aM 0), .int x1, .int x2] [sModel E aM anow aaside anames anamesAside atext aspelled acost afewestFrom afirst afresh aways aundo aslots aisSaved M_thrown M_length M_textSize M_start M_next M_token M_value M_error M_errorAt M_number M_many M_freshMany M_undos, sArrI E anow 365 now, sArrI E aspelled 12 spelled, sArrI E acost 13 cost, sArrI E afewestFrom 13 fewestFrom, sArrI E afirst 13 first] (fun v w => v = some (.int r) ∧ w = [sModel E aM anow aaside anames anamesAside atext aspelled acost afewestFrom afirst afresh aways aundo aslots aisSaved M_thrown' M_length M_textSize M_start M_next M_token M_value M_error M_errorAt M_number M_many' M_freshMany M_undos, sArrI E anow 365 now, sArrI E aspelled 12 spelled', sArrI E acost 13 cost', sArrI E afewestFrom 13 fewestFrom', sArrI E afirst 13 first']) 0 0 := by
  refine g_entry [some (.ref (aM 0)), some (.int x1), some (.int x2), none, none, none, none, none, none, none, none, none] (by decide) rfl (Nat.le_of_ble_eq_true rfl) rfl ?_
  intro p e s m below meth c A F hnm
  unfold fX10_bestPart at hf
  refine g_aload_n F dX10_bestPart_0 rfl ?_
  refine g_iload_n F dX10_bestPart_1 rfl ?_
  obtain ⟨r_1, M_thrown_1, hg_1, hf⟩ := gb2_el hf
  refine g_callV (C := RX10) (T := TX10) (N := 27) (Lr := [sArrI E aspelled 12 spelled, sArrI E acost 13 cost, sArrI E afewestFrom 13 fewestFrom, sArrI E afirst 13 first]) (As := [.int x1]) (rest := []) F 0 0 1 (ctX10_noWord l E aM anow aaside anames anamesAside atext aspelled acost afewestFrom afirst afresh aways aundo aslots aisSaved x1 M_thrown M_length M_textSize M_start M_next M_token M_value M_error M_errorAt M_number M_many M_freshMany M_undos now r_1 M_thrown_1 hg_1) gX10_bestPart_X10_noWord rfl rfl rfl h0X10_noWord ⟨Nat.le_of_ble_eq_true rfl, Nat.le_of_ble_eq_true rfl⟩ rfl rfl rfl [0, 1] [2, 3, 4, 5] rfl rfl rfl rfl rfl rfl (Nat.le_of_ble_eq_true rfl) dX10_bestPart_2 ⟨Nat.le_of_ble_eq_true rfl, Nat.le_of_ble_eq_true rfl⟩ ?_
  rintro v w ⟨rfl, rfl, hz_1⟩
  refine g_norm (Lw' := [sModel E aM anow aaside anames anamesAside atext aspelled acost afewestFrom afirst afresh aways aundo aslots aisSaved M_thrown_1 M_length M_textSize M_start M_next M_token M_value M_error M_errorAt M_number M_many M_freshMany M_undos, sArrI E anow 365 now, sArrI E aspelled 12 spelled, sArrI E acost 13 cost, sArrI E afewestFrom 13 fewestFrom, sArrI E afirst 13 first]) (st' := [.int r_1]) (pc' := 5) [0, 1, 2, 3, 4, 5] rfl rfl rfl rfl ?_
  refine g_ifne F 30 dX10_bestPart_5 (by decide) (fun hc_6 => ?_) (fun hc_6 => ?_)
  · replace hf := gi_f hc_6 hf
    refine g_iconst F 0 dX10_bestPart_30 rfl ?_
    cases hf
    exact g_iret F rfl ⟨rfl, rfl⟩ dX10_bestPart_31
  · replace hf := gi_t hc_6 hf
    refine g_aload_n F dX10_bestPart_8 rfl ?_
    refine g_iload_n F dX10_bestPart_9 rfl ?_
    refine g_iconst F 0 dX10_bestPart_10 rfl ?_
    refine g_iconst F 2 dX10_bestPart_11 rfl ?_
    obtain ⟨r_2, hg_2, hf⟩ := gb1_el hf
    refine g_callS (Lr := [sModel E aM anow aaside anames anamesAside atext aspelled acost afewestFrom afirst afresh aways aundo aslots aisSaved M_thrown_1 M_length M_textSize M_start M_next M_token M_value M_error M_errorAt M_number M_many M_freshMany M_undos, sArrI E anow 365 now, sArrI E aspelled 12 spelled, sArrI E acost 13 cost, sArrI E afewestFrom 13 fewestFrom, sArrI E afirst 13 first]) (As := [.int x2, .int 0, .int 2]) (rest := [.ref (aM 0)]) F 3 (ctX10_within l E x2 0 2 r_2 hg_2) (va_cwS 3 F.2.2.2.2.2.1 gX10_bestPart_X10_within rfl rfl rfl h0X10_within ⟨Nat.le_of_ble_eq_true rfl, Nat.le_of_ble_eq_true rfl⟩) [] [0, 1, 2, 3, 4, 5] rfl rfl rfl rfl rfl rfl (Nat.le_of_ble_eq_true rfl) dX10_bestPart_12 ⟨Nat.le_of_ble_eq_true rfl, Nat.le_of_ble_eq_true rfl⟩ ?_
    rintro v w ⟨rfl, rfl, hz_2⟩
    refine g_norm (Lw' := [sModel E aM anow aaside anames anamesAside atext aspelled acost afewestFrom afirst afresh aways aundo aslots aisSaved M_thrown_1 M_length M_textSize M_start M_next M_token M_value M_error M_errorAt M_number M_many M_freshMany M_undos, sArrI E anow 365 now, sArrI E aspelled 12 spelled, sArrI E acost 13 cost, sArrI E afewestFrom 13 fewestFrom, sArrI E afirst 13 first]) (st' := [.int r_2, .ref (aM 0)]) (pc' := 15) [0, 1, 2, 3, 4, 5] rfl rfl rfl rfl ?_
    obtain ⟨j_1, hj_1, hf⟩ := Lt_el hf
    have hj_1 : ∀ (t0_1 : Int32), j_1 t0_1 = some (r, M_thrown', M_many', spelled', cost', fewestFrom', first') → Gj p l e rmX10_bestPart s m ([.ref (aM 0), .int x1, .int x2] : List Value).toArray below meth c 0 0 (MQ below (gQ vwCl E A (fun v w => v = some (.int r) ∧ w = [sModel E aM anow aaside anames anamesAside atext aspelled acost afewestFrom afirst afresh aways aundo aslots aisSaved M_thrown' M_length M_textSize M_start M_next M_token M_value M_error M_errorAt M_number M_many' M_freshMany M_undos, sArrI E anow 365 now, sArrI E aspelled 12 spelled', sArrI E acost 13 cost', sArrI E afewestFrom 13 fewestFrom', sArrI E afirst 13 first'])) ([.ref (aM 0), .int x1, .int x2] : List Value).toArray s 0 0 A) vwCl E A [sModel E aM anow aaside anames anamesAside atext aspelled acost afewestFrom afirst afresh aways aundo aslots aisSaved M_thrown_1 M_length M_textSize M_start M_next M_token M_value M_error M_errorAt M_number M_many M_freshMany M_undos, sArrI E anow 365 now, sArrI E aspelled 12 spelled, sArrI E acost 13 cost, sArrI E afewestFrom 13 fewestFrom, sArrI E afirst 13 first] [some (.ref (aM 0)), some (.int x1), some (.int x2), none, none, none, none, none, none, none, none, none] [.int t0_1, .ref (aM 0)] 23 := by
      intro t0_1 hf
      rw [hj_1] at hf
      refine g_iconst F 2 dX10_bestPart_23 rfl ?_
      obtain ⟨r_3, M_thrown_2, hg_3, hf⟩ := gb2_el hf
      refine g_callV (C := RX10) (T := TX10) (N := 27) (Lr := [sArrI E anow 365 now, sArrI E aspelled 12 spelled, sArrI E acost 13 cost, sArrI E afewestFrom 13 fewestFrom, sArrI E afirst 13 first]) (As := [.int t0_1, .int 2]) (rest := []) F 0 0 2 (ctX10_throwsIf l E aM anow aaside anames anamesAside atext aspelled acost afewestFrom afirst afresh aways aundo aslots aisSaved t0_1 2 M_thrown_1 M_length M_textSize M_start M_next M_token M_value M_error M_errorAt M_number M_many M_freshMany M_undos r_3 M_thrown_2 hg_3) gX10_bestPart_X10_throwsIf rfl rfl rfl h0X10_throwsIf ⟨Nat.le_of_ble_eq_true rfl, Nat.le_of_ble_eq_true rfl⟩ rfl rfl rfl [0] [1, 2, 3, 4, 5] rfl rfl rfl rfl rfl rfl (Nat.le_of_ble_eq_true rfl) dX10_bestPart_24 ⟨Nat.le_of_ble_eq_true rfl, Nat.le_of_ble_eq_true rfl⟩ ?_
      rintro v w ⟨rfl, rfl, hz_3⟩
      refine g_norm (Lw' := [sModel E aM anow aaside anames anamesAside atext aspelled acost afewestFrom afirst afresh aways aundo aslots aisSaved M_thrown_2 M_length M_textSize M_start M_next M_token M_value M_error M_errorAt M_number M_many M_freshMany M_undos, sArrI E anow 365 now, sArrI E aspelled 12 spelled, sArrI E acost 13 cost, sArrI E afewestFrom 13 fewestFrom, sArrI E afirst 13 first]) (st' := [.int r_3]) (pc' := 27) [0, 1, 2, 3, 4, 5] rfl rfl rfl rfl ?_
      refine g_ifeq F 32 dX10_bestPart_27 (by decide) (fun hc_4 => ?_) (fun hc_4 => ?_)
      · replace hf := gi_t hc_4 hf
        refine g_aload_n F dX10_bestPart_32 rfl ?_
        refine g_iconst F 0 dX10_bestPart_33 rfl ?_
        obtain ⟨r_4, M_many_1, spelled_1, cost_1, fewestFrom_1, first_1, hg_4, hf⟩ := gb6_el hf
        refine g_callV (C := RX10) (T := TX10) (N := 27) (Lr := []) (As := [.int 0]) (rest := []) F 0 0 1 (ctX10_fewestOfAll l E aM anow aaside anames anamesAside atext aspelled acost afewestFrom afirst afresh aways aundo aslots aisSaved 0 M_thrown_2 M_length M_textSize M_start M_next M_token M_value M_error M_errorAt M_number M_many M_freshMany M_undos now spelled cost fewestFrom first r_4 M_many_1 spelled_1 cost_1 fewestFrom_1 first_1 hg_4) gX10_bestPart_X10_fewestOfAll rfl rfl rfl h0X10_fewestOfAll ⟨Nat.le_of_ble_eq_true rfl, Nat.le_of_ble_eq_true rfl⟩ rfl rfl rfl [0, 1, 2, 3, 4, 5] [] rfl rfl rfl rfl rfl rfl (Nat.le_of_ble_eq_true rfl) dX10_bestPart_34 ⟨Nat.le_of_ble_eq_true rfl, Nat.le_of_ble_eq_true rfl⟩ ?_
        rintro v w ⟨rfl, rfl⟩
        refine g_norm (Lw' := [sModel E aM anow aaside anames anamesAside atext aspelled acost afewestFrom afirst afresh aways aundo aslots aisSaved M_thrown_2 M_length M_textSize M_start M_next M_token M_value M_error M_errorAt M_number M_many_1 M_freshMany M_undos, sArrI E anow 365 now, sArrI E aspelled 12 spelled_1, sArrI E acost 13 cost_1, sArrI E afewestFrom 13 fewestFrom_1, sArrI E afirst 13 first_1]) (st' := [.int r_4]) (pc' := 37) [0, 1, 2, 3, 4, 5] rfl rfl rfl rfl ?_
        refine g_istore_n (lv' := [some (.ref (aM 0)), some (.int x1), some (.int x2), some (.int r_4), none, none, none, none, none, none, none, none]) F dX10_bestPart_37 (Nat.le_of_ble_eq_true rfl) rfl rfl ?_
        refine g_iconst F (-1) dX10_bestPart_38 rfl ?_
        refine g_istore (lv' := [some (.ref (aM 0)), some (.int x1), some (.int x2), some (.int r_4), some (.int (-1)), none, none, none, none, none, none, none]) F dX10_bestPart_39 (Nat.le_of_ble_eq_true rfl) rfl rfl ?_
        refine g_iconst F 0 dX10_bestPart_41 rfl ?_
        refine g_istore (lv' := [some (.ref (aM 0)), some (.int x1), some (.int x2), some (.int r_4), some (.int (-1)), some (.int 0), none, none, none, none, none, none]) F dX10_bestPart_42 (Nat.le_of_ble_eq_true rfl) rfl rfl ?_
        refine g_iconst F 0 dX10_bestPart_44 rfl ?_
        refine g_istore (lv' := [some (.ref (aM 0)), some (.int x1), some (.int x2), some (.int r_4), some (.int (-1)), some (.int 0), some (.int 0), none, none, none, none, none]) F dX10_bestPart_45 (Nat.le_of_ble_eq_true rfl) rfl rfl ?_
        refine g_aload_n F dX10_bestPart_47 rfl ?_
        refine g_iload_n F dX10_bestPart_48 rfl ?_
        obtain ⟨M_many_2, spelled_2, hg_5, hf⟩ := gb2_el hf
        refine g_callV (C := RX10) (T := TX10) (N := 27) (Lr := [sArrI E acost 13 cost_1, sArrI E afewestFrom 13 fewestFrom_1, sArrI E afirst 13 first_1]) (As := [.int x1]) (rest := []) F 0 0 1 (ctX10_spellsWord l E aM anow aaside anames anamesAside atext aspelled acost afewestFrom afirst afresh aways aundo aslots aisSaved x1 M_thrown_2 M_length M_textSize M_start M_next M_token M_value M_error M_errorAt M_number M_many_1 M_freshMany M_undos now spelled_1 M_many_2 spelled_2 hg_5) gX10_bestPart_X10_spellsWord rfl rfl rfl h0X10_spellsWord ⟨Nat.le_of_ble_eq_true rfl, Nat.le_of_ble_eq_true rfl⟩ rfl rfl rfl [0, 1, 2] [3, 4, 5] rfl rfl rfl rfl rfl rfl (Nat.le_of_ble_eq_true rfl) dX10_bestPart_49 ⟨Nat.le_of_ble_eq_true rfl, Nat.le_of_ble_eq_true rfl⟩ ?_
        rintro v w ⟨rfl, rfl⟩
        refine g_norm (Lw' := [sModel E aM anow aaside anames anamesAside atext aspelled acost afewestFrom afirst afresh aways aundo aslots aisSaved M_thrown_2 M_length M_textSize M_start M_next M_token M_value M_error M_errorAt M_number M_many_2 M_freshMany M_undos, sArrI E anow 365 now, sArrI E aspelled 12 spelled_2, sArrI E acost 13 cost_1, sArrI E afewestFrom 13 fewestFrom_1, sArrI E afirst 13 first_1]) (st' := []) (pc' := 52) [0, 1, 2, 3, 4, 5] rfl rfl rfl rfl ?_
        refine g_aload_n F dX10_bestPart_52 rfl ?_
        refine g_get (C := RX10) (T := TX10) (N := 27) F 0 0 16 rfl rfl rfl iX10_bestPart_X10 (by decide) (by decide +kernel) rfl dX10_bestPart_53 ?_
        refine g_istore (lv' := [some (.ref (aM 0)), some (.int x1), some (.int x2), some (.int r_4), some (.int (-1)), some (.int 0), some (.int 0), some (.int M_many_2), none, none, none, none]) F dX10_bestPart_56 (Nat.le_of_ble_eq_true rfl) rfl rfl ?_
        refine g_iconst F 1 dX10_bestPart_58 rfl ?_
        refine g_istore (lv' := [some (.ref (aM 0)), some (.int x1), some (.int x2), some (.int r_4), some (.int (-1)), some (.int 0), some (.int 0), some (.int M_many_2), some (.int 1), none, none, none]) F dX10_bestPart_59 (Nat.le_of_ble_eq_true rfl) rfl rfl ?_
        refine ktX10_bestPart_L61 F aM anow aaside anames anamesAside atext aspelled acost afewestFrom afirst afresh aways aundo aslots aisSaved x1 x2 r_4 M_many_2 now M_thrown_2 M_length M_textSize M_start M_next M_token M_value M_error M_errorAt M_number M_freshMany M_undos r M_thrown' M_many' spelled' cost' fewestFrom' first' (fun x4_1 x5_1 x6_1 M_many_3 spelled_3 cost_2 fewestFrom_2 first_2 hf => ?_) FU (-1) 0 0 1 M_many_2 spelled_2 cost_1 fewestFrom_1 first_1 hf
        refine g_iload F dX10_bestPart_151 rfl ?_
        refine g_iconst F (-1) dX10_bestPart_153 rfl ?_
        refine g_icmp_eq F 161 dX10_bestPart_154 (by decide) (fun hc_3 => ?_) (fun hc_3 => ?_)
        · replace hf := gi_t hc_3 hf
          refine g_iload F dX10_bestPart_161 rfl ?_
          refine g_goto F 178 dX10_bestPart_163 (by decide) ?_
          cases hf
          exact g_iret F rfl ⟨rfl, rfl⟩ dX10_bestPart_178
        · replace hf := gi_f hc_3 hf
          refine g_iload_n F dX10_bestPart_157 rfl ?_
          refine g_ifne F 166 dX10_bestPart_158 (by decide) (fun hc_2 => ?_) (fun hc_2 => ?_)
          · replace hf := gi_f hc_2 hf
            refine g_iload_n F dX10_bestPart_166 rfl ?_
            refine g_iconst F 1 dX10_bestPart_167 rfl ?_
            refine g_icmp_ne F 176 dX10_bestPart_168 (by decide) (fun hc_1 => ?_) (fun hc_1 => ?_)
            · replace hf := gi_f hc_1 hf
              refine g_iload F dX10_bestPart_176 rfl ?_
              cases hf
              exact g_iret F rfl ⟨rfl, rfl⟩ dX10_bestPart_178
            · replace hf := gi_t hc_1 hf
              refine g_iload F dX10_bestPart_171 rfl ?_
              refine g_goto F 178 dX10_bestPart_173 (by decide) ?_
              cases hf
              exact g_iret F rfl ⟨rfl, rfl⟩ dX10_bestPart_178
          · replace hf := gi_t hc_2 hf
            refine g_iload F dX10_bestPart_161 rfl ?_
            refine g_goto F 178 dX10_bestPart_163 (by decide) ?_
            cases hf
            exact g_iret F rfl ⟨rfl, rfl⟩ dX10_bestPart_178
      · replace hf := gi_f hc_4 hf
        refine g_iconst F 0 dX10_bestPart_30 rfl ?_
        cases hf
        exact g_iret F rfl ⟨rfl, rfl⟩ dX10_bestPart_31
    refine g_ifne F 22 dX10_bestPart_15 (by decide) (fun hc_5 => ?_) (fun hc_5 => ?_)
    · replace hf := gi_f hc_5 hf
      refine g_iconst F 0 dX10_bestPart_22 rfl ?_
      exact hj_1 0 hf
    · replace hf := gi_t hc_5 hf
      refine g_iconst F 1 dX10_bestPart_18 rfl ?_
      refine g_goto F 23 dX10_bestPart_19 (by decide) ?_
      exact hj_1 1 hf
set_option maxHeartbeats 4000000 in
set_option maxRecDepth 100000 in
theorem ktX10_piecesOf_L4 {p : Program} {l : Launch} {e : Env} {s : State} {m : MethodId} {args : Array Value} {below : List Frame} {meth : Method} {c : Code} {E : gE} {A : Nat → Prop} (F : gFx p s m args meth c RX10 wsX10_piecesOf cX10_piecesOf 4 (some .int) vwCl E A) (aM anow aaside anames anamesAside atext aspelled acost afewestFrom afirst afresh aways aundo aslots aisSaved : Nat → Nat) (x1 : Int32) (now : (Nat → Int32)) (M_thrown : Int32) (M_length : Int32) (M_textSize : Int32) (M_start : Int32) (M_next : Int32) (M_token : Int32) (M_value : Int32) (M_error : Int32) (M_errorAt : Int32) (M_number : Int32) (M_many : Int32) (M_freshMany : Int32) (M_undos : Int32) (r : Int32) {k : Int32 → Option (Int32)} (hk : ∀ (x2 : Int32), k x2 = some r → Gj p l e rmX10_piecesOf s m args below meth c 0 0 (MQ below (gQ vwCl E A (fun v w => v = some (.int r) ∧ w = [sModel E aM anow aaside anames anamesAside atext aspelled acost afewestFrom afirst afresh aways aundo aslots aisSaved M_thrown M_length M_textSize M_start M_next M_token M_value M_error M_errorAt M_number M_many M_freshMany M_undos, sArrI E anow 365 now])) args s 0 0 A) vwCl E A [sModel E aM anow aaside anames anamesAside atext aspelled acost afewestFrom afirst afresh aways aundo aslots aisSaved M_thrown M_length M_textSize M_start M_next M_token M_value M_error M_errorAt M_number M_many M_freshMany M_undos, sArrI E anow 365 now] [none, none, some (.int x2), none] [] 33) : ∀ (n : Nat) (x2 : Int32) (x3 : Int32), fX10_piecesOf_L4 x1 now k n x2 x3 = some r → Gj p l e rmX10_piecesOf s m args below meth c 0 0 (MQ below (gQ vwCl E A (fun v w => v = some (.int r) ∧ w = [sModel E aM anow aaside anames anamesAside atext aspelled acost afewestFrom afirst afresh aways aundo aslots aisSaved M_thrown M_length M_textSize M_start M_next M_token M_value M_error M_errorAt M_number M_many M_freshMany M_undos, sArrI E anow 365 now])) args s 0 0 A) vwCl E A [sModel E aM anow aaside anames anamesAside atext aspelled acost afewestFrom afirst afresh aways aundo aslots aisSaved M_thrown M_length M_textSize M_start M_next M_token M_value M_error M_errorAt M_number M_many M_freshMany M_undos, sArrI E anow 365 now] [some (.ref (aM 0)), some (.int x1), some (.int x2), some (.int x3)] [] 4
  | 0, _, _, hf => by cases hf
  | n + 1, x2, x3, hf => by
    have ih := ktX10_piecesOf_L4 F aM anow aaside anames anamesAside atext aspelled acost afewestFrom afirst afresh aways aundo aslots aisSaved x1 now M_thrown M_length M_textSize M_start M_next M_token M_value M_error M_errorAt M_number M_many M_freshMany M_undos r hk n
    rw [fX10_piecesOf_L4] at hf
    refine g_iload_n F dX10_piecesOf_4 rfl ?_
    refine g_aload_n F dX10_piecesOf_5 rfl ?_
    refine g_iload_n F dX10_piecesOf_6 rfl ?_
    refine g_iconst F 1 dX10_piecesOf_7 rfl ?_
    obtain ⟨r_1, hg_1, hf⟩ := gb1_el hf
    refine g_callV (C := RX10) (T := TX10) (N := 27) (Lr := []) (As := [.int x1, .int 1]) (rest := [.int x3]) F 0 0 2 (ctX10_ofWord l E aM anow aaside anames anamesAside atext aspelled acost afewestFrom afirst afresh aways aundo aslots aisSaved x1 1 M_thrown M_length M_textSize M_start M_next M_token M_value M_error M_errorAt M_number M_many M_freshMany M_undos now r_1 hg_1) gX10_piecesOf_X10_ofWord rfl rfl rfl h0X10_ofWord ⟨Nat.le_of_ble_eq_true rfl, Nat.le_of_ble_eq_true rfl⟩ rfl rfl rfl [0, 1] [] rfl rfl rfl rfl rfl rfl (Nat.le_of_ble_eq_true rfl) dX10_piecesOf_8 ⟨Nat.le_of_ble_eq_true rfl, Nat.le_of_ble_eq_true rfl⟩ ?_
    rintro v w ⟨rfl, rfl⟩
    refine g_norm (Lw' := [sModel E aM anow aaside anames anamesAside atext aspelled acost afewestFrom afirst afresh aways aundo aslots aisSaved M_thrown M_length M_textSize M_start M_next M_token M_value M_error M_errorAt M_number M_many M_freshMany M_undos, sArrI E anow 365 now]) (st' := [.int r_1, .int x3]) (pc' := 11) [0, 1] rfl rfl rfl rfl ?_
    refine g_icmp_ge F 33 dX10_piecesOf_11 (by decide) (fun hc_1 => ?_) (fun hc_1 => ?_)
    · replace hf := gi_t hc_1 hf
      refine g_mask [false, false, true, false] rfl ?_
      exact hk x2 hf
    · replace hf := gi_f hc_1 hf
      refine g_iload_n F dX10_piecesOf_14 rfl ?_
      refine g_iconst F 1 dX10_piecesOf_15 rfl ?_
      refine g_aload_n F dX10_piecesOf_16 rfl ?_
      refine g_iload_n F dX10_piecesOf_17 rfl ?_
      refine g_iconst F 2 dX10_piecesOf_18 rfl ?_
      refine g_iload_n F dX10_piecesOf_19 rfl ?_
      refine g_iadd F dX10_piecesOf_20 ?_
      obtain ⟨r_2, hg_2, hf⟩ := gb1_el hf
      refine g_callV (C := RX10) (T := TX10) (N := 27) (Lr := []) (As := [.int x1, .int (2 + x3)]) (rest := [.int 1, .int x2]) F 0 0 2 (ctX10_ofWord l E aM anow aaside anames anamesAside atext aspelled acost afewestFrom afirst afresh aways aundo aslots aisSaved x1 (2 + x3) M_thrown M_length M_textSize M_start M_next M_token M_value M_error M_errorAt M_number M_many M_freshMany M_undos now r_2 hg_2) gX10_piecesOf_X10_ofWord rfl rfl rfl h0X10_ofWord ⟨Nat.le_of_ble_eq_true rfl, Nat.le_of_ble_eq_true rfl⟩ rfl rfl rfl [0, 1] [] rfl rfl rfl rfl rfl rfl (Nat.le_of_ble_eq_true rfl) dX10_piecesOf_21 ⟨Nat.le_of_ble_eq_true rfl, Nat.le_of_ble_eq_true rfl⟩ ?_
      rintro v w ⟨rfl, rfl⟩
      refine g_norm (Lw' := [sModel E aM anow aaside anames anamesAside atext aspelled acost afewestFrom afirst afresh aways aundo aslots aisSaved M_thrown M_length M_textSize M_start M_next M_token M_value M_error M_errorAt M_number M_many M_freshMany M_undos, sArrI E anow 365 now]) (st' := [.int r_2, .int 1, .int x2]) (pc' := 24) [0, 1] rfl rfl rfl rfl ?_
      refine g_ishl F dX10_piecesOf_24 ?_
      refine g_ior F dX10_piecesOf_25 ?_
      refine g_istore_n (lv' := [some (.ref (aM 0)), some (.int x1), some (.int (x2 ||| (1 <<< (r_2 &&& 31)))), some (.int x3)]) F dX10_piecesOf_26 (Nat.le_of_ble_eq_true rfl) rfl rfl ?_
      refine g_iinc (lv' := [some (.ref (aM 0)), some (.int x1), some (.int (x2 ||| (1 <<< (r_2 &&& 31)))), some (.int (x3 + 1))]) F (x3 + 1) dX10_piecesOf_27 rfl rfl rfl rfl ?_
      refine g_goto F 4 dX10_piecesOf_30 (by decide) ?_
      exact ih (x2 ||| (1 <<< (r_2 &&& 31))) (x3 + 1) hf
set_option maxHeartbeats 4000000 in
set_option maxRecDepth 100000 in
theorem ctX10_piecesOf (l : Launch) (E : gE) (aM anow aaside anames anamesAside atext aspelled acost afewestFrom afirst afresh aways aundo aslots aisSaved : Nat → Nat) (x1 : Int32) (M_thrown : Int32) (M_length : Int32) (M_textSize : Int32) (M_start : Int32) (M_next : Int32) (M_token : Int32) (M_value : Int32) (M_error : Int32) (M_errorAt : Int32) (M_number : Int32) (M_many : Int32) (M_freshMany : Int32) (M_undos : Int32) (now : (Nat → Int32)) (r : Int32) (hf : fX10_piecesOf x1 now = some r) : gMet l yX10_piecesOf wsX10_piecesOf rmX10_piecesOf vwCl E [.ref (aM 0), .int x1] [sModel E aM anow aaside anames anamesAside atext aspelled acost afewestFrom afirst afresh aways aundo aslots aisSaved M_thrown M_length M_textSize M_start M_next M_token M_value M_error M_errorAt M_number M_many M_freshMany M_undos, sArrI E anow 365 now] (fun v w => v = some (.int r) ∧ w = [sModel E aM anow aaside anames anamesAside atext aspelled acost afewestFrom afirst afresh aways aundo aslots aisSaved M_thrown M_length M_textSize M_start M_next M_token M_value M_error M_errorAt M_number M_many M_freshMany M_undos, sArrI E anow 365 now]) 0 0 := by
  refine g_entry [some (.ref (aM 0)), some (.int x1), none, none] (by decide) rfl (Nat.le_of_ble_eq_true rfl) rfl ?_
  intro p e s m below meth c A F hnm
  unfold fX10_piecesOf at hf
  refine g_iconst F 0 dX10_piecesOf_0 rfl ?_
  refine g_istore_n (lv' := [some (.ref (aM 0)), some (.int x1), some (.int 0), none]) F dX10_piecesOf_1 (Nat.le_of_ble_eq_true rfl) rfl rfl ?_
  refine g_iconst F 0 dX10_piecesOf_2 rfl ?_
  refine g_istore_n (lv' := [some (.ref (aM 0)), some (.int x1), some (.int 0), some (.int 0)]) F dX10_piecesOf_3 (Nat.le_of_ble_eq_true rfl) rfl rfl ?_
  refine ktX10_piecesOf_L4 F aM anow aaside anames anamesAside atext aspelled acost afewestFrom afirst afresh aways aundo aslots aisSaved x1 now M_thrown M_length M_textSize M_start M_next M_token M_value M_error M_errorAt M_number M_many M_freshMany M_undos r (fun x2_1 hf => ?_) FU 0 0 hf
  refine g_iload_n F dX10_piecesOf_33 rfl ?_
  cases hf
  exact g_iret F rfl ⟨rfl, rfl⟩ dX10_piecesOf_34
set_option maxHeartbeats 4000000 in
set_option maxRecDepth 100000 in
theorem ktX10_shared_L40 {p : Program} {l : Launch} {e : Env} {s : State} {m : MethodId} {args : Array Value} {below : List Frame} {meth : Method} {c : Code} {E : gE} {A : Nat → Prop} (F : gFx p s m args meth c RX10 wsX10_shared cX10_shared 5 (some .int) vwCl E A) (aM anow aaside anames anamesAside atext aspelled acost afewestFrom afirst afresh aways aundo aslots aisSaved : Nat → Nat) (M_thrown : Int32) (M_length : Int32) (M_textSize : Int32) (M_start : Int32) (M_next : Int32) (M_token : Int32) (M_value : Int32) (M_error : Int32) (M_errorAt : Int32) (M_number : Int32) (M_many : Int32) (M_freshMany : Int32) (M_undos : Int32) (now : (Nat → Int32)) (r : Int32) (M_thrown' : Int32) {k : Int32 → Option (Int32 × Int32)} (hk : ∀ (x3 : Int32), k x3 = some (r, M_thrown') → Gj p l e rmX10_shared s m args below meth c 0 0 (MQ below (gQ vwCl E A (fun v w => v = some (.int r) ∧ w = [sModel E aM anow aaside anames anamesAside atext aspelled acost afewestFrom afirst afresh aways aundo aslots aisSaved M_thrown' M_length M_textSize M_start M_next M_token M_value M_error M_errorAt M_number M_many M_freshMany M_undos, sArrI E anow 365 now])) args s 0 0 A) vwCl E A [sModel E aM anow aaside anames anamesAside atext aspelled acost afewestFrom afirst afresh aways aundo aslots aisSaved M_thrown M_length M_textSize M_start M_next M_token M_value M_error M_errorAt M_number M_many M_freshMany M_undos, sArrI E anow 365 now] [none, none, none, some (.int x3), none] [] 60) : ∀ (n : Nat) (x3 : Int32) (x4 : Int32), fX10_shared_L40 k n x3 x4 = some (r, M_thrown') → Gj p l e rmX10_shared s m args below meth c 0 0 (MQ below (gQ vwCl E A (fun v w => v = some (.int r) ∧ w = [sModel E aM anow aaside anames anamesAside atext aspelled acost afewestFrom afirst afresh aways aundo aslots aisSaved M_thrown' M_length M_textSize M_start M_next M_token M_value M_error M_errorAt M_number M_many M_freshMany M_undos, sArrI E anow 365 now])) args s 0 0 A) vwCl E A [sModel E aM anow aaside anames anamesAside atext aspelled acost afewestFrom afirst afresh aways aundo aslots aisSaved M_thrown M_length M_textSize M_start M_next M_token M_value M_error M_errorAt M_number M_many M_freshMany M_undos, sArrI E anow 365 now] [none, none, none, some (.int x3), some (.int x4)] [] 40
  | 0, _, _, hf => by cases hf
  | n + 1, x3, x4, hf => by
    have ih := ktX10_shared_L40 F aM anow aaside anames anamesAside atext aspelled acost afewestFrom afirst afresh aways aundo aslots aisSaved M_thrown M_length M_textSize M_start M_next M_token M_value M_error M_errorAt M_number M_many M_freshMany M_undos now r M_thrown' hk n
    rw [fX10_shared_L40] at hf
    refine g_iload F dX10_shared_40 rfl ?_
    refine g_ifeq F 60 dX10_shared_42 (by decide) (fun hc_1 => ?_) (fun hc_1 => ?_)
    · replace hf := gi_t hc_1 hf
      refine g_mask [true, true, true, true, false] rfl ?_
      exact hk x3 hf
    · replace hf := gi_f hc_1 hf
      refine g_iinc (lv' := [none, none, none, some (.int (x3 + 1)), some (.int x4)]) F (x3 + 1) dX10_shared_45 rfl rfl rfl rfl ?_
      refine g_iload F dX10_shared_48 rfl ?_
      refine g_iload F dX10_shared_50 rfl ?_
      refine g_iconst F 1 dX10_shared_52 rfl ?_
      refine g_isub F dX10_shared_53 ?_
      refine g_iand F dX10_shared_54 ?_
      refine g_istore (lv' := [none, none, none, some (.int (x3 + 1)), some (.int (x4 &&& (x4 - 1)))]) F dX10_shared_55 (Nat.le_of_ble_eq_true rfl) rfl rfl ?_
      refine g_goto F 40 dX10_shared_57 (by decide) ?_
      exact ih (x3 + 1) (x4 &&& (x4 - 1)) hf
set_option maxHeartbeats 4000000 in
set_option maxRecDepth 100000 in
theorem ctX10_shared (l : Launch) (E : gE) (aM anow aaside anames anamesAside atext aspelled acost afewestFrom afirst afresh aways aundo aslots aisSaved : Nat → Nat) (x1 : Int32) (x2 : Int32) (M_thrown : Int32) (M_length : Int32) (M_textSize : Int32) (M_start : Int32) (M_next : Int32) (M_token : Int32) (M_value : Int32) (M_error : Int32) (M_errorAt : Int32) (M_number : Int32) (M_many : Int32) (M_freshMany : Int32) (M_undos : Int32) (now : (Nat → Int32)) (r : Int32) (M_thrown' : Int32) (hf : fX10_shared x1 x2 M_thrown now = some (r, M_thrown')) : gMet l yX10_shared wsX10_shared rmX10_shared vwCl E [.ref (aM 0), .int x1, .int x2] [sModel E aM anow aaside anames anamesAside atext aspelled acost afewestFrom afirst afresh aways aundo aslots aisSaved M_thrown M_length M_textSize M_start M_next M_token M_value M_error M_errorAt M_number M_many M_freshMany M_undos, sArrI E anow 365 now] (fun v w => v = some (.int r) ∧ w = [sModel E aM anow aaside anames anamesAside atext aspelled acost afewestFrom afirst afresh aways aundo aslots aisSaved M_thrown' M_length M_textSize M_start M_next M_token M_value M_error M_errorAt M_number M_many M_freshMany M_undos, sArrI E anow 365 now]) 0 0 := by
  refine g_entry [some (.ref (aM 0)), some (.int x1), some (.int x2), none, none] (by decide) rfl (Nat.le_of_ble_eq_true rfl) rfl ?_
  intro p e s m below meth c A F hnm
  unfold fX10_shared at hf
  refine g_aload_n F dX10_shared_0 rfl ?_
  refine g_iload_n F dX10_shared_1 rfl ?_
  obtain ⟨r_1, M_thrown_1, hg_1, hf⟩ := gb2_el hf
  refine g_callV (C := RX10) (T := TX10) (N := 27) (Lr := []) (As := [.int x1]) (rest := []) F 0 0 1 (ctX10_noWord l E aM anow aaside anames anamesAside atext aspelled acost afewestFrom afirst afresh aways aundo aslots aisSaved x1 M_thrown M_length M_textSize M_start M_next M_token M_value M_error M_errorAt M_number M_many M_freshMany M_undos now r_1 M_thrown_1 hg_1) gX10_shared_X10_noWord rfl rfl rfl h0X10_noWord ⟨Nat.le_of_ble_eq_true rfl, Nat.le_of_ble_eq_true rfl⟩ rfl rfl rfl [0, 1] [] rfl rfl rfl rfl rfl rfl (Nat.le_of_ble_eq_true rfl) dX10_shared_2 ⟨Nat.le_of_ble_eq_true rfl, Nat.le_of_ble_eq_true rfl⟩ ?_
  rintro v w ⟨rfl, rfl, hz_1⟩
  refine g_norm (Lw' := [sModel E aM anow aaside anames anamesAside atext aspelled acost afewestFrom afirst afresh aways aundo aslots aisSaved M_thrown_1 M_length M_textSize M_start M_next M_token M_value M_error M_errorAt M_number M_many M_freshMany M_undos, sArrI E anow 365 now]) (st' := [.int r_1]) (pc' := 5) [0, 1] rfl rfl rfl rfl ?_
  refine g_ifne F 23 dX10_shared_5 (by decide) (fun hc_2 => ?_) (fun hc_2 => ?_)
  · replace hf := gi_f hc_2 hf
    refine g_iconst F 0 dX10_shared_23 rfl ?_
    cases hf
    exact g_iret F rfl ⟨rfl, rfl⟩ dX10_shared_24
  · replace hf := gi_t hc_2 hf
    refine g_aload_n F dX10_shared_8 rfl ?_
    refine g_iload_n F dX10_shared_9 rfl ?_
    refine g_aload_n F dX10_shared_10 rfl ?_
    refine g_get (C := RX10) (T := TX10) (N := 27) F 0 0 1 rfl rfl rfl iX10_shared_X10 (by decide) (by decide +kernel) rfl dX10_shared_11 ?_
    refine g_bipush F 10 dX10_shared_14 rfl ?_
    refine g_iald F 1 0 10 (by decide) rfl rfl (by decide) dX10_shared_16 ?_
    obtain ⟨r_2, M_thrown_2, hg_2, hf⟩ := gb2_el hf
    refine g_callV (C := RX10) (T := TX10) (N := 27) (Lr := [sArrI E anow 365 now]) (As := [.int x2, .int (now 10)]) (rest := []) F 0 0 2 (ctX10_no l E aM anow aaside anames anamesAside atext aspelled acost afewestFrom afirst afresh aways aundo aslots aisSaved x2 (now 10) M_thrown_1 M_length M_textSize M_start M_next M_token M_value M_error M_errorAt M_number M_many M_freshMany M_undos r_2 M_thrown_2 hg_2) gX10_shared_X10_no rfl rfl rfl h0X10_no ⟨Nat.le_of_ble_eq_true rfl, Nat.le_of_ble_eq_true rfl⟩ rfl rfl rfl [0] [1] rfl rfl rfl rfl rfl rfl (Nat.le_of_ble_eq_true rfl) dX10_shared_17 ⟨Nat.le_of_ble_eq_true rfl, Nat.le_of_ble_eq_true rfl⟩ ?_
    rintro v w ⟨rfl, rfl, hz_2⟩
    refine g_norm (Lw' := [sModel E aM anow aaside anames anamesAside atext aspelled acost afewestFrom afirst afresh aways aundo aslots aisSaved M_thrown_2 M_length M_textSize M_start M_next M_token M_value M_error M_errorAt M_number M_many M_freshMany M_undos, sArrI E anow 365 now]) (st' := [.int r_2]) (pc' := 20) [0, 1] rfl rfl rfl rfl ?_
    refine g_ifeq F 25 dX10_shared_20 (by decide) (fun hc_1 => ?_) (fun hc_1 => ?_)
    · replace hf := gi_t hc_1 hf
      refine g_iconst F 0 dX10_shared_25 rfl ?_
      refine g_istore_n (lv' := [some (.ref (aM 0)), some (.int x1), some (.int x2), some (.int 0), none]) F dX10_shared_26 (Nat.le_of_ble_eq_true rfl) rfl rfl ?_
      refine g_aload_n F dX10_shared_27 rfl ?_
      refine g_iload_n F dX10_shared_28 rfl ?_
      obtain ⟨r_3, hg_3, hf⟩ := gb1_el hf
      refine g_callV (C := RX10) (T := TX10) (N := 27) (Lr := []) (As := [.int x1]) (rest := []) F 0 0 1 (ctX10_piecesOf l E aM anow aaside anames anamesAside atext aspelled acost afewestFrom afirst afresh aways aundo aslots aisSaved x1 M_thrown_2 M_length M_textSize M_start M_next M_token M_value M_error M_errorAt M_number M_many M_freshMany M_undos now r_3 hg_3) gX10_shared_X10_piecesOf rfl rfl rfl h0X10_piecesOf ⟨Nat.le_of_ble_eq_true rfl, Nat.le_of_ble_eq_true rfl⟩ rfl rfl rfl [0, 1] [] rfl rfl rfl rfl rfl rfl (Nat.le_of_ble_eq_true rfl) dX10_shared_29 ⟨Nat.le_of_ble_eq_true rfl, Nat.le_of_ble_eq_true rfl⟩ ?_
      rintro v w ⟨rfl, rfl⟩
      refine g_norm (Lw' := [sModel E aM anow aaside anames anamesAside atext aspelled acost afewestFrom afirst afresh aways aundo aslots aisSaved M_thrown_2 M_length M_textSize M_start M_next M_token M_value M_error M_errorAt M_number M_many M_freshMany M_undos, sArrI E anow 365 now]) (st' := [.int r_3]) (pc' := 32) [0, 1] rfl rfl rfl rfl ?_
      refine g_aload_n F dX10_shared_32 rfl ?_
      refine g_iload_n F dX10_shared_33 rfl ?_
      obtain ⟨r_4, hg_4, hf⟩ := gb1_el hf
      refine g_callV (C := RX10) (T := TX10) (N := 27) (Lr := []) (As := [.int x2]) (rest := [.int r_3]) F 0 0 1 (ctX10_piecesOf l E aM anow aaside anames anamesAside atext aspelled acost afewestFrom afirst afresh aways aundo aslots aisSaved x2 M_thrown_2 M_length M_textSize M_start M_next M_token M_value M_error M_errorAt M_number M_many M_freshMany M_undos now r_4 hg_4) gX10_shared_X10_piecesOf rfl rfl rfl h0X10_piecesOf ⟨Nat.le_of_ble_eq_true rfl, Nat.le_of_ble_eq_true rfl⟩ rfl rfl rfl [0, 1] [] rfl rfl rfl rfl rfl rfl (Nat.le_of_ble_eq_true rfl) dX10_shared_34 ⟨Nat.le_of_ble_eq_true rfl, Nat.le_of_ble_eq_true rfl⟩ ?_
      rintro v w ⟨rfl, rfl⟩
      refine g_norm (Lw' := [sModel E aM anow aaside anames anamesAside atext aspelled acost afewestFrom afirst afresh aways aundo aslots aisSaved M_thrown_2 M_length M_textSize M_start M_next M_token M_value M_error M_errorAt M_number M_many M_freshMany M_undos, sArrI E anow 365 now]) (st' := [.int r_4, .int r_3]) (pc' := 37) [0, 1] rfl rfl rfl rfl ?_
      refine g_iand F dX10_shared_37 ?_
      refine g_istore (lv' := [some (.ref (aM 0)), some (.int x1), some (.int x2), some (.int 0), some (.int (r_3 &&& r_4))]) F dX10_shared_38 (Nat.le_of_ble_eq_true rfl) rfl rfl ?_
      refine g_mask [false, false, false, true, true] rfl ?_
      refine ktX10_shared_L40 F aM anow aaside anames anamesAside atext aspelled acost afewestFrom afirst afresh aways aundo aslots aisSaved M_thrown_2 M_length M_textSize M_start M_next M_token M_value M_error M_errorAt M_number M_many M_freshMany M_undos now r M_thrown' (fun x3_1 hf => ?_) FU 0 (r_3 &&& r_4) hf
      refine g_iload_n F dX10_shared_60 rfl ?_
      cases hf
      exact g_iret F rfl ⟨rfl, rfl⟩ dX10_shared_61
    · replace hf := gi_f hc_1 hf
      refine g_iconst F 0 dX10_shared_23 rfl ?_
      cases hf
      exact g_iret F rfl ⟨rfl, rfl⟩ dX10_shared_24
set_option maxHeartbeats 4000000 in
set_option maxRecDepth 100000 in
theorem ktX10_favourite_L9 {p : Program} {l : Launch} {e : Env} {s : State} {m : MethodId} {args : Array Value} {below : List Frame} {meth : Method} {c : Code} {E : gE} {A : Nat → Prop} (F : gFx p s m args meth c RX10 wsX10_favourite cX10_favourite 3 (some .int) vwCl E A) (aM anow aaside anames anamesAside atext aspelled acost afewestFrom afirst afresh aways aundo aslots aisSaved : Nat → Nat) (now : (Nat → Int32)) (M_thrown : Int32) (M_length : Int32) (M_textSize : Int32) (M_start : Int32) (M_next : Int32) (M_token : Int32) (M_value : Int32) (M_error : Int32) (M_errorAt : Int32) (M_number : Int32) (M_many : Int32) (M_freshMany : Int32) (M_undos : Int32) (r : Int32) (M_thrown' : Int32) {k : Int32 → Option (Int32 × Int32)} (hk : ∀ (x1 : Int32), k x1 = some (r, M_thrown') → Gj p l e rmX10_favourite s m args below meth c 0 0 (MQ below (gQ vwCl E A (fun v w => v = some (.int r) ∧ w = [sModel E aM anow aaside anames anamesAside atext aspelled acost afewestFrom afirst afresh aways aundo aslots aisSaved M_thrown' M_length M_textSize M_start M_next M_token M_value M_error M_errorAt M_number M_many M_freshMany M_undos, sArrI E anow 365 now])) args s 0 0 A) vwCl E A [sModel E aM anow aaside anames anamesAside atext aspelled acost afewestFrom afirst afresh aways aundo aslots aisSaved M_thrown M_length M_textSize M_start M_next M_token M_value M_error M_errorAt M_number M_many M_freshMany M_undos, sArrI E anow 365 now] [none, some (.int x1), none] [] 52) : ∀ (n : Nat) (x1 : Int32) (x2 : Int32), fX10_favourite_L9 now k n x1 x2 = some (r, M_thrown') → Gj p l e rmX10_favourite s m args below meth c 0 0 (MQ below (gQ vwCl E A (fun v w => v = some (.int r) ∧ w = [sModel E aM anow aaside anames anamesAside atext aspelled acost afewestFrom afirst afresh aways aundo aslots aisSaved M_thrown' M_length M_textSize M_start M_next M_token M_value M_error M_errorAt M_number M_many M_freshMany M_undos, sArrI E anow 365 now])) args s 0 0 A) vwCl E A [sModel E aM anow aaside anames anamesAside atext aspelled acost afewestFrom afirst afresh aways aundo aslots aisSaved M_thrown M_length M_textSize M_start M_next M_token M_value M_error M_errorAt M_number M_many M_freshMany M_undos, sArrI E anow 365 now] [some (.ref (aM 0)), some (.int x1), some (.int x2)] [] 9
  | 0, _, _, hf => by cases hf
  | n + 1, x1, x2, hf => by
    have ih := ktX10_favourite_L9 F aM anow aaside anames anamesAside atext aspelled acost afewestFrom afirst afresh aways aundo aslots aisSaved now M_thrown M_length M_textSize M_start M_next M_token M_value M_error M_errorAt M_number M_many M_freshMany M_undos r M_thrown' hk n
    rw [fX10_favourite_L9] at hf
    refine g_iload_n F dX10_favourite_9 rfl ?_
    refine g_aload_n F dX10_favourite_10 rfl ?_
    refine g_get (C := RX10) (T := TX10) (N := 27) F 0 0 1 rfl rfl rfl iX10_favourite_X10 (by decide) (by decide +kernel) rfl dX10_favourite_11 ?_
    refine g_bipush F 9 dX10_favourite_14 rfl ?_
    refine g_iald F 1 0 9 (by decide) rfl rfl (by decide) dX10_favourite_16 ?_
    refine g_icmp_ge F 52 dX10_favourite_17 (by decide) (fun hc_3 => ?_) (fun hc_3 => ?_)
    · replace hf := gi_t hc_3 hf
      refine g_mask [false, true, false] rfl ?_
      exact hk x1 hf
    · replace hf := gi_f hc_3 hf
      refine g_iload_n F dX10_favourite_20 rfl ?_
      refine g_iconst F (-1) dX10_favourite_21 rfl ?_
      obtain ⟨j_1, hj_1, hf⟩ := Lt_el hf
      have hj_1 : j_1 = some (r, M_thrown') → Gj p l e rmX10_favourite s m args below meth c 0 0 (MQ below (gQ vwCl E A (fun v w => v = some (.int r) ∧ w = [sModel E aM anow aaside anames anamesAside atext aspelled acost afewestFrom afirst afresh aways aundo aslots aisSaved M_thrown' M_length M_textSize M_start M_next M_token M_value M_error M_errorAt M_number M_many M_freshMany M_undos, sArrI E anow 365 now])) args s 0 0 A) vwCl E A [sModel E aM anow aaside anames anamesAside atext aspelled acost afewestFrom afirst afresh aways aundo aslots aisSaved M_thrown M_length M_textSize M_start M_next M_token M_value M_error M_errorAt M_number M_many M_freshMany M_undos, sArrI E anow 365 now] [some (.ref (aM 0)), none, some (.int x2)] [] 40 := by
        intro hf
        rw [hj_1] at hf
        refine g_iload_n F dX10_favourite_40 rfl ?_
        refine g_goto F 45 dX10_favourite_41 (by decide) ?_
        refine g_istore_n (lv' := [some (.ref (aM 0)), some (.int x2), some (.int x2)]) F dX10_favourite_45 (Nat.le_of_ble_eq_true rfl) rfl rfl ?_
        refine g_iinc (lv' := [some (.ref (aM 0)), some (.int x2), some (.int (x2 + 1))]) F (x2 + 1) dX10_favourite_46 rfl rfl rfl rfl ?_
        refine g_goto F 9 dX10_favourite_49 (by decide) ?_
        exact ih x2 (x2 + 1) hf
      refine g_icmp_eq F 40 dX10_favourite_22 (by decide) (fun hc_2 => ?_) (fun hc_2 => ?_)
      · replace hf := gi_t hc_2 hf
        refine g_mask [true, false, true] rfl ?_
        exact hj_1 hf
      · replace hf := gi_f hc_2 hf
        refine g_aload_n F dX10_favourite_25 rfl ?_
        refine g_iload_n F dX10_favourite_26 rfl ?_
        refine g_iconst F 3 dX10_favourite_27 rfl ?_
        obtain ⟨r_1, hg_1, hf⟩ := gb1_el hf
        refine g_callV (C := RX10) (T := TX10) (N := 27) (Lr := []) (As := [.int x2, .int 3]) (rest := []) F 0 0 2 (ctX10_ofPiece l E aM anow aaside anames anamesAside atext aspelled acost afewestFrom afirst afresh aways aundo aslots aisSaved x2 3 M_thrown M_length M_textSize M_start M_next M_token M_value M_error M_errorAt M_number M_many M_freshMany M_undos now r_1 hg_1) gX10_favourite_X10_ofPiece rfl rfl rfl h0X10_ofPiece ⟨Nat.le_of_ble_eq_true rfl, Nat.le_of_ble_eq_true rfl⟩ rfl rfl rfl [0, 1] [] rfl rfl rfl rfl rfl rfl (Nat.le_of_ble_eq_true rfl) dX10_favourite_28 ⟨Nat.le_of_ble_eq_true rfl, Nat.le_of_ble_eq_true rfl⟩ ?_
        rintro v w ⟨rfl, rfl⟩
        refine g_norm (Lw' := [sModel E aM anow aaside anames anamesAside atext aspelled acost afewestFrom afirst afresh aways aundo aslots aisSaved M_thrown M_length M_textSize M_start M_next M_token M_value M_error M_errorAt M_number M_many M_freshMany M_undos, sArrI E anow 365 now]) (st' := [.int r_1]) (pc' := 31) [0, 1] rfl rfl rfl rfl ?_
        refine g_aload_n F dX10_favourite_31 rfl ?_
        refine g_iload_n F dX10_favourite_32 rfl ?_
        refine g_iconst F 3 dX10_favourite_33 rfl ?_
        obtain ⟨r_2, hg_2, hf⟩ := gb1_el hf
        refine g_callV (C := RX10) (T := TX10) (N := 27) (Lr := []) (As := [.int x1, .int 3]) (rest := [.int r_1]) F 0 0 2 (ctX10_ofPiece l E aM anow aaside anames anamesAside atext aspelled acost afewestFrom afirst afresh aways aundo aslots aisSaved x1 3 M_thrown M_length M_textSize M_start M_next M_token M_value M_error M_errorAt M_number M_many M_freshMany M_undos now r_2 hg_2) gX10_favourite_X10_ofPiece rfl rfl rfl h0X10_ofPiece ⟨Nat.le_of_ble_eq_true rfl, Nat.le_of_ble_eq_true rfl⟩ rfl rfl rfl [0, 1] [] rfl rfl rfl rfl rfl rfl (Nat.le_of_ble_eq_true rfl) dX10_favourite_34 ⟨Nat.le_of_ble_eq_true rfl, Nat.le_of_ble_eq_true rfl⟩ ?_
        rintro v w ⟨rfl, rfl⟩
        refine g_norm (Lw' := [sModel E aM anow aaside anames anamesAside atext aspelled acost afewestFrom afirst afresh aways aundo aslots aisSaved M_thrown M_length M_textSize M_start M_next M_token M_value M_error M_errorAt M_number M_many M_freshMany M_undos, sArrI E anow 365 now]) (st' := [.int r_2, .int r_1]) (pc' := 37) [0, 1] rfl rfl rfl rfl ?_
        refine g_icmp_le F 44 dX10_favourite_37 (by decide) (fun hc_1 => ?_) (fun hc_1 => ?_)
        · replace hf := gi_t hc_1 hf
          refine g_iload_n F dX10_favourite_44 rfl ?_
          refine g_istore_n (lv' := [some (.ref (aM 0)), some (.int x1), some (.int x2)]) F dX10_favourite_45 (Nat.le_of_ble_eq_true rfl) rfl rfl ?_
          refine g_iinc (lv' := [some (.ref (aM 0)), some (.int x1), some (.int (x2 + 1))]) F (x2 + 1) dX10_favourite_46 rfl rfl rfl rfl ?_
          refine g_goto F 9 dX10_favourite_49 (by decide) ?_
          exact ih x1 (x2 + 1) hf
        · replace hf := gi_f hc_1 hf
          refine g_mask [true, false, true] rfl ?_
          exact hj_1 hf
set_option maxHeartbeats 4000000 in
set_option maxRecDepth 100000 in
theorem ctX10_favourite (l : Launch) (E : gE) (aM anow aaside anames anamesAside atext aspelled acost afewestFrom afirst afresh aways aundo aslots aisSaved : Nat → Nat) (M_thrown : Int32) (M_length : Int32) (M_textSize : Int32) (M_start : Int32) (M_next : Int32) (M_token : Int32) (M_value : Int32) (M_error : Int32) (M_errorAt : Int32) (M_number : Int32) (M_many : Int32) (M_freshMany : Int32) (M_undos : Int32) (now : (Nat → Int32)) (r : Int32) (M_thrown' : Int32) (hf : fX10_favourite M_thrown now = some (r, M_thrown')) : gMet l yX10_favourite wsX10_favourite rmX10_favourite vwCl E [.ref (aM 0)] [sModel E aM anow aaside anames anamesAside atext aspelled acost afewestFrom afirst afresh aways aundo aslots aisSaved M_thrown M_length M_textSize M_start M_next M_token M_value M_error M_errorAt M_number M_many M_freshMany M_undos, sArrI E anow 365 now] (fun v w => v = some (.int r) ∧ w = [sModel E aM anow aaside anames anamesAside atext aspelled acost afewestFrom afirst afresh aways aundo aslots aisSaved M_thrown' M_length M_textSize M_start M_next M_token M_value M_error M_errorAt M_number M_many M_freshMany M_undos, sArrI E anow 365 now]) 0 0 := by
  refine g_entry [some (.ref (aM 0)), none, none] (by decide) rfl (Nat.le_of_ble_eq_true rfl) rfl ?_
  intro p e s m below meth c A F hnm
  unfold fX10_favourite at hf
  refine g_aload_n F dX10_favourite_0 rfl ?_
  refine g_iconst F 0 dX10_favourite_1 rfl ?_
  refine g_put (C := RX10) (T := TX10) (N := 27) (tys := tyX10) (Lw' := [sModel E aM anow aaside anames anamesAside atext aspelled acost afewestFrom afirst afresh aways aundo aslots aisSaved 0 M_length M_textSize M_start M_next M_token M_value M_error M_errorAt M_number M_many M_freshMany M_undos, sArrI E anow 365 now]) F 0 0 0 rfl rfl rfl iX10_favourite_X10 tyX10_ok nmX10 (by decide) (by decide +kernel) rfl rfl rfl rfl (Nat.le_of_ble_eq_true rfl) dX10_favourite_2 rfl ?_
  refine g_iconst F (-1) dX10_favourite_5 rfl ?_
  refine g_istore_n (lv' := [some (.ref (aM 0)), some (.int (-1)), none]) F dX10_favourite_6 (Nat.le_of_ble_eq_true rfl) rfl rfl ?_
  refine g_iconst F 0 dX10_favourite_7 rfl ?_
  refine g_istore_n (lv' := [some (.ref (aM 0)), some (.int (-1)), some (.int 0)]) F dX10_favourite_8 (Nat.le_of_ble_eq_true rfl) rfl rfl ?_
  refine ktX10_favourite_L9 F aM anow aaside anames anamesAside atext aspelled acost afewestFrom afirst afresh aways aundo aslots aisSaved now 0 M_length M_textSize M_start M_next M_token M_value M_error M_errorAt M_number M_many M_freshMany M_undos r M_thrown' (fun x1_1 hf => ?_) FU (-1) 0 hf
  refine g_iload_n F dX10_favourite_52 rfl ?_
  cases hf
  exact g_iret F rfl ⟨rfl, rfl⟩ dX10_favourite_53
set_option maxHeartbeats 4000000 in
set_option maxRecDepth 100000 in
theorem ctX10_wealth (l : Launch) (E : gE) (aM anow aaside anames anamesAside atext aspelled acost afewestFrom afirst afresh aways aundo aslots aisSaved : Nat → Nat) (x1 : Int32) (M_thrown : Int32) (M_length : Int32) (M_textSize : Int32) (M_start : Int32) (M_next : Int32) (M_token : Int32) (M_value : Int32) (M_error : Int32) (M_errorAt : Int32) (M_number : Int32) (M_many : Int32) (M_freshMany : Int32) (M_undos : Int32) (now : (Nat → Int32)) (r : Int32) (hf : fX10_wealth x1 now = some r) : gMet l yX10_wealth wsX10_wealth rmX10_wealth vwCl E [.ref (aM 0), .int x1] [sModel E aM anow aaside anames anamesAside atext aspelled acost afewestFrom afirst afresh aways aundo aslots aisSaved M_thrown M_length M_textSize M_start M_next M_token M_value M_error M_errorAt M_number M_many M_freshMany M_undos, sArrI E anow 365 now] (fun v w => v = some (.int r) ∧ w = [sModel E aM anow aaside anames anamesAside atext aspelled acost afewestFrom afirst afresh aways aundo aslots aisSaved M_thrown M_length M_textSize M_start M_next M_token M_value M_error M_errorAt M_number M_many M_freshMany M_undos, sArrI E anow 365 now]) 0 0 := by
  refine g_entry [some (.ref (aM 0)), some (.int x1)] (by decide) rfl (Nat.le_of_ble_eq_true rfl) rfl ?_
  intro p e s m below meth c A F hnm
  unfold fX10_wealth at hf
  refine g_aload_n F dX10_wealth_0 rfl ?_
  refine g_get (C := RX10) (T := TX10) (N := 27) F 0 0 1 rfl rfl rfl iX10_wealth_X10 (by decide) (by decide +kernel) rfl dX10_wealth_1 ?_
  refine g_bipush F 17 dX10_wealth_4 rfl ?_
  refine g_iload_n F dX10_wealth_6 rfl ?_
  refine g_iadd F dX10_wealth_7 ?_
  obtain ⟨hb_1, hf⟩ := gb_in hf
  refine g_iald F 1 0 ((17 + x1).toNatClampNeg) rfl rfl rfl hb_1 dX10_wealth_8 ?_
  refine g_aload_n F dX10_wealth_9 rfl ?_
  refine g_iload_n F dX10_wealth_10 rfl ?_
  refine g_iconst F 2 dX10_wealth_11 rfl ?_
  obtain ⟨r_1, hg_1, hf⟩ := gb1_el hf
  refine g_callV (C := RX10) (T := TX10) (N := 27) (Lr := []) (As := [.int x1, .int 2]) (rest := [.int (now ((17 + x1).toNatClampNeg))]) F 0 0 2 (ctX10_ofUser l E aM anow aaside anames anamesAside atext aspelled acost afewestFrom afirst afresh aways aundo aslots aisSaved x1 2 M_thrown M_length M_textSize M_start M_next M_token M_value M_error M_errorAt M_number M_many M_freshMany M_undos now r_1 hg_1) gX10_wealth_X10_ofUser rfl rfl rfl h0X10_ofUser ⟨Nat.le_of_ble_eq_true rfl, Nat.le_of_ble_eq_true rfl⟩ rfl rfl rfl [0, 1] [] rfl rfl rfl rfl rfl rfl (Nat.le_of_ble_eq_true rfl) dX10_wealth_12 ⟨Nat.le_of_ble_eq_true rfl, Nat.le_of_ble_eq_true rfl⟩ ?_
  rintro v w ⟨rfl, rfl⟩
  refine g_norm (Lw' := [sModel E aM anow aaside anames anamesAside atext aspelled acost afewestFrom afirst afresh aways aundo aslots aisSaved M_thrown M_length M_textSize M_start M_next M_token M_value M_error M_errorAt M_number M_many M_freshMany M_undos, sArrI E anow 365 now]) (st' := [.int r_1, .int (now ((17 + x1).toNatClampNeg))]) (pc' := 15) [0, 1] rfl rfl rfl rfl ?_
  refine g_iadd F dX10_wealth_15 ?_
  cases hf
  exact g_iret F rfl ⟨rfl, rfl⟩ dX10_wealth_16
set_option maxHeartbeats 4000000 in
set_option maxRecDepth 100000 in
theorem ktX10_richest_L9 {p : Program} {l : Launch} {e : Env} {s : State} {m : MethodId} {args : Array Value} {below : List Frame} {meth : Method} {c : Code} {E : gE} {A : Nat → Prop} (F : gFx p s m args meth c RX10 wsX10_richest cX10_richest 3 (some .int) vwCl E A) (aM anow aaside anames anamesAside atext aspelled acost afewestFrom afirst afresh aways aundo aslots aisSaved : Nat → Nat) (now : (Nat → Int32)) (M_thrown : Int32) (M_length : Int32) (M_textSize : Int32) (M_start : Int32) (M_next : Int32) (M_token : Int32) (M_value : Int32) (M_error : Int32) (M_errorAt : Int32) (M_number : Int32) (M_many : Int32) (M_freshMany : Int32) (M_undos : Int32) (r : Int32) (M_thrown' : Int32) {k : Int32 → Option (Int32 × Int32)} (hk : ∀ (x1 : Int32), k x1 = some (r, M_thrown') → Gj p l e rmX10_richest s m args below meth c 0 0 (MQ below (gQ vwCl E A (fun v w => v = some (.int r) ∧ w = [sModel E aM anow aaside anames anamesAside atext aspelled acost afewestFrom afirst afresh aways aundo aslots aisSaved M_thrown' M_length M_textSize M_start M_next M_token M_value M_error M_errorAt M_number M_many M_freshMany M_undos, sArrI E anow 365 now])) args s 0 0 A) vwCl E A [sModel E aM anow aaside anames anamesAside atext aspelled acost afewestFrom afirst afresh aways aundo aslots aisSaved M_thrown M_length M_textSize M_start M_next M_token M_value M_error M_errorAt M_number M_many M_freshMany M_undos, sArrI E anow 365 now] [none, some (.int x1), none] [] 49) : ∀ (n : Nat) (x1 : Int32) (x2 : Int32), fX10_richest_L9 now k n x1 x2 = some (r, M_thrown') → Gj p l e rmX10_richest s m args below meth c 0 0 (MQ below (gQ vwCl E A (fun v w => v = some (.int r) ∧ w = [sModel E aM anow aaside anames anamesAside atext aspelled acost afewestFrom afirst afresh aways aundo aslots aisSaved M_thrown' M_length M_textSize M_start M_next M_token M_value M_error M_errorAt M_number M_many M_freshMany M_undos, sArrI E anow 365 now])) args s 0 0 A) vwCl E A [sModel E aM anow aaside anames anamesAside atext aspelled acost afewestFrom afirst afresh aways aundo aslots aisSaved M_thrown M_length M_textSize M_start M_next M_token M_value M_error M_errorAt M_number M_many M_freshMany M_undos, sArrI E anow 365 now] [some (.ref (aM 0)), some (.int x1), some (.int x2)] [] 9
  | 0, _, _, hf => by cases hf
  | n + 1, x1, x2, hf => by
    have ih := ktX10_richest_L9 F aM anow aaside anames anamesAside atext aspelled acost afewestFrom afirst afresh aways aundo aslots aisSaved now M_thrown M_length M_textSize M_start M_next M_token M_value M_error M_errorAt M_number M_many M_freshMany M_undos r M_thrown' hk n
    rw [fX10_richest_L9] at hf
    refine g_iload_n F dX10_richest_9 rfl ?_
    refine g_aload_n F dX10_richest_10 rfl ?_
    refine g_get (C := RX10) (T := TX10) (N := 27) F 0 0 1 rfl rfl rfl iX10_richest_X10 (by decide) (by decide +kernel) rfl dX10_richest_11 ?_
    refine g_iconst F 5 dX10_richest_14 rfl ?_
    refine g_iald F 1 0 5 (by decide) rfl rfl (by decide) dX10_richest_15 ?_
    refine g_icmp_ge F 49 dX10_richest_16 (by decide) (fun hc_3 => ?_) (fun hc_3 => ?_)
    · replace hf := gi_t hc_3 hf
      refine g_mask [false, true, false] rfl ?_
      exact hk x1 hf
    · replace hf := gi_f hc_3 hf
      refine g_iload_n F dX10_richest_19 rfl ?_
      refine g_iconst F (-1) dX10_richest_20 rfl ?_
      obtain ⟨j_1, hj_1, hf⟩ := Lt_el hf
      have hj_1 : j_1 = some (r, M_thrown') → Gj p l e rmX10_richest s m args below meth c 0 0 (MQ below (gQ vwCl E A (fun v w => v = some (.int r) ∧ w = [sModel E aM anow aaside anames anamesAside atext aspelled acost afewestFrom afirst afresh aways aundo aslots aisSaved M_thrown' M_length M_textSize M_start M_next M_token M_value M_error M_errorAt M_number M_many M_freshMany M_undos, sArrI E anow 365 now])) args s 0 0 A) vwCl E A [sModel E aM anow aaside anames anamesAside atext aspelled acost afewestFrom afirst afresh aways aundo aslots aisSaved M_thrown M_length M_textSize M_start M_next M_token M_value M_error M_errorAt M_number M_many M_freshMany M_undos, sArrI E anow 365 now] [some (.ref (aM 0)), none, some (.int x2)] [] 37 := by
        intro hf
        rw [hj_1] at hf
        refine g_iload_n F dX10_richest_37 rfl ?_
        refine g_goto F 42 dX10_richest_38 (by decide) ?_
        refine g_istore_n (lv' := [some (.ref (aM 0)), some (.int x2), some (.int x2)]) F dX10_richest_42 (Nat.le_of_ble_eq_true rfl) rfl rfl ?_
        refine g_iinc (lv' := [some (.ref (aM 0)), some (.int x2), some (.int (x2 + 1))]) F (x2 + 1) dX10_richest_43 rfl rfl rfl rfl ?_
        refine g_goto F 9 dX10_richest_46 (by decide) ?_
        exact ih x2 (x2 + 1) hf
      refine g_icmp_eq F 37 dX10_richest_21 (by decide) (fun hc_2 => ?_) (fun hc_2 => ?_)
      · replace hf := gi_t hc_2 hf
        refine g_mask [true, false, true] rfl ?_
        exact hj_1 hf
      · replace hf := gi_f hc_2 hf
        refine g_aload_n F dX10_richest_24 rfl ?_
        refine g_iload_n F dX10_richest_25 rfl ?_
        obtain ⟨r_1, hg_1, hf⟩ := gb1_el hf
        refine g_callV (C := RX10) (T := TX10) (N := 27) (Lr := []) (As := [.int x2]) (rest := []) F 0 0 1 (ctX10_wealth l E aM anow aaside anames anamesAside atext aspelled acost afewestFrom afirst afresh aways aundo aslots aisSaved x2 M_thrown M_length M_textSize M_start M_next M_token M_value M_error M_errorAt M_number M_many M_freshMany M_undos now r_1 hg_1) gX10_richest_X10_wealth rfl rfl rfl h0X10_wealth ⟨Nat.le_of_ble_eq_true rfl, Nat.le_of_ble_eq_true rfl⟩ rfl rfl rfl [0, 1] [] rfl rfl rfl rfl rfl rfl (Nat.le_of_ble_eq_true rfl) dX10_richest_26 ⟨Nat.le_of_ble_eq_true rfl, Nat.le_of_ble_eq_true rfl⟩ ?_
        rintro v w ⟨rfl, rfl⟩
        refine g_norm (Lw' := [sModel E aM anow aaside anames anamesAside atext aspelled acost afewestFrom afirst afresh aways aundo aslots aisSaved M_thrown M_length M_textSize M_start M_next M_token M_value M_error M_errorAt M_number M_many M_freshMany M_undos, sArrI E anow 365 now]) (st' := [.int r_1]) (pc' := 29) [0, 1] rfl rfl rfl rfl ?_
        refine g_aload_n F dX10_richest_29 rfl ?_
        refine g_iload_n F dX10_richest_30 rfl ?_
        obtain ⟨r_2, hg_2, hf⟩ := gb1_el hf
        refine g_callV (C := RX10) (T := TX10) (N := 27) (Lr := []) (As := [.int x1]) (rest := [.int r_1]) F 0 0 1 (ctX10_wealth l E aM anow aaside anames anamesAside atext aspelled acost afewestFrom afirst afresh aways aundo aslots aisSaved x1 M_thrown M_length M_textSize M_start M_next M_token M_value M_error M_errorAt M_number M_many M_freshMany M_undos now r_2 hg_2) gX10_richest_X10_wealth rfl rfl rfl h0X10_wealth ⟨Nat.le_of_ble_eq_true rfl, Nat.le_of_ble_eq_true rfl⟩ rfl rfl rfl [0, 1] [] rfl rfl rfl rfl rfl rfl (Nat.le_of_ble_eq_true rfl) dX10_richest_31 ⟨Nat.le_of_ble_eq_true rfl, Nat.le_of_ble_eq_true rfl⟩ ?_
        rintro v w ⟨rfl, rfl⟩
        refine g_norm (Lw' := [sModel E aM anow aaside anames anamesAside atext aspelled acost afewestFrom afirst afresh aways aundo aslots aisSaved M_thrown M_length M_textSize M_start M_next M_token M_value M_error M_errorAt M_number M_many M_freshMany M_undos, sArrI E anow 365 now]) (st' := [.int r_2, .int r_1]) (pc' := 34) [0, 1] rfl rfl rfl rfl ?_
        refine g_icmp_le F 41 dX10_richest_34 (by decide) (fun hc_1 => ?_) (fun hc_1 => ?_)
        · replace hf := gi_t hc_1 hf
          refine g_iload_n F dX10_richest_41 rfl ?_
          refine g_istore_n (lv' := [some (.ref (aM 0)), some (.int x1), some (.int x2)]) F dX10_richest_42 (Nat.le_of_ble_eq_true rfl) rfl rfl ?_
          refine g_iinc (lv' := [some (.ref (aM 0)), some (.int x1), some (.int (x2 + 1))]) F (x2 + 1) dX10_richest_43 rfl rfl rfl rfl ?_
          refine g_goto F 9 dX10_richest_46 (by decide) ?_
          exact ih x1 (x2 + 1) hf
        · replace hf := gi_f hc_1 hf
          refine g_mask [true, false, true] rfl ?_
          exact hj_1 hf
set_option maxHeartbeats 4000000 in
set_option maxRecDepth 100000 in
theorem ctX10_richest (l : Launch) (E : gE) (aM anow aaside anames anamesAside atext aspelled acost afewestFrom afirst afresh aways aundo aslots aisSaved : Nat → Nat) (M_thrown : Int32) (M_length : Int32) (M_textSize : Int32) (M_start : Int32) (M_next : Int32) (M_token : Int32) (M_value : Int32) (M_error : Int32) (M_errorAt : Int32) (M_number : Int32) (M_many : Int32) (M_freshMany : Int32) (M_undos : Int32) (now : (Nat → Int32)) (r : Int32) (M_thrown' : Int32) (hf : fX10_richest M_thrown now = some (r, M_thrown')) : gMet l yX10_richest wsX10_richest rmX10_richest vwCl E [.ref (aM 0)] [sModel E aM anow aaside anames anamesAside atext aspelled acost afewestFrom afirst afresh aways aundo aslots aisSaved M_thrown M_length M_textSize M_start M_next M_token M_value M_error M_errorAt M_number M_many M_freshMany M_undos, sArrI E anow 365 now] (fun v w => v = some (.int r) ∧ w = [sModel E aM anow aaside anames anamesAside atext aspelled acost afewestFrom afirst afresh aways aundo aslots aisSaved M_thrown' M_length M_textSize M_start M_next M_token M_value M_error M_errorAt M_number M_many M_freshMany M_undos, sArrI E anow 365 now]) 0 0 := by
  refine g_entry [some (.ref (aM 0)), none, none] (by decide) rfl (Nat.le_of_ble_eq_true rfl) rfl ?_
  intro p e s m below meth c A F hnm
  unfold fX10_richest at hf
  refine g_aload_n F dX10_richest_0 rfl ?_
  refine g_iconst F 0 dX10_richest_1 rfl ?_
  refine g_put (C := RX10) (T := TX10) (N := 27) (tys := tyX10) (Lw' := [sModel E aM anow aaside anames anamesAside atext aspelled acost afewestFrom afirst afresh aways aundo aslots aisSaved 0 M_length M_textSize M_start M_next M_token M_value M_error M_errorAt M_number M_many M_freshMany M_undos, sArrI E anow 365 now]) F 0 0 0 rfl rfl rfl iX10_richest_X10 tyX10_ok nmX10 (by decide) (by decide +kernel) rfl rfl rfl rfl (Nat.le_of_ble_eq_true rfl) dX10_richest_2 rfl ?_
  refine g_iconst F (-1) dX10_richest_5 rfl ?_
  refine g_istore_n (lv' := [some (.ref (aM 0)), some (.int (-1)), none]) F dX10_richest_6 (Nat.le_of_ble_eq_true rfl) rfl rfl ?_
  refine g_iconst F 0 dX10_richest_7 rfl ?_
  refine g_istore_n (lv' := [some (.ref (aM 0)), some (.int (-1)), some (.int 0)]) F dX10_richest_8 (Nat.le_of_ble_eq_true rfl) rfl rfl ?_
  refine ktX10_richest_L9 F aM anow aaside anames anamesAside atext aspelled acost afewestFrom afirst afresh aways aundo aslots aisSaved now 0 M_length M_textSize M_start M_next M_token M_value M_error M_errorAt M_number M_many M_freshMany M_undos r M_thrown' (fun x1_1 hf => ?_) FU (-1) 0 hf
  refine g_iload_n F dX10_richest_49 rfl ?_
  cases hf
  exact g_iret F rfl ⟨rfl, rfl⟩ dX10_richest_50
