set_option maxRecDepth 20000
abbrev rmX10_size : Room := { frames := 1, cells := 0, slots := 0, locals := 21 }
theorem h0X10_size : yX10_size.cls ≠ "java/lang/invoke/MethodHandle" ∧ yX10_size.cls ≠ "java/lang/invoke/VarHandle" ∧ (parseMethodDescriptor yX10_size.desc).map (fun d => d.parameters.length) = some 1 := by decide +kernel
abbrev rmX10_part : Room := { frames := 2, cells := 0, slots := 0, locals := 41 }
theorem h0X10_part : yX10_part.cls ≠ "java/lang/invoke/MethodHandle" ∧ yX10_part.cls ≠ "java/lang/invoke/VarHandle" ∧ (parseMethodDescriptor yX10_part.desc).map (fun d => d.parameters.length) = some 3 := by decide +kernel
abbrev rmX10_find : Room := { frames := 0, cells := 0, slots := 0, locals := 0 }
theorem iX10_find_X10 : ∀ w ∈ u_ws RX10 TX10 21, w ∈ wsX10_find := by decide +kernel
theorem h0X10_find : yX10_find.cls = RX10 ∧ yX10_find.cls ≠ "java/lang/invoke/MethodHandle" ∧ yX10_find.cls ≠ "java/lang/invoke/VarHandle" ∧ (parseMethodDescriptor yX10_find.desc).map (fun d => d.parameters.length) = some 1 := by decide +kernel
abbrev rmX10_priceOf : Room := { frames := 2, cells := 0, slots := 0, locals := 41 }
theorem iX10_priceOf_X10 : ∀ w ∈ u_ws RX10 TX10 21, w ∈ wsX10_priceOf := by decide +kernel
theorem h0X10_priceOf : yX10_priceOf.cls = RX10 ∧ yX10_priceOf.cls ≠ "java/lang/invoke/MethodHandle" ∧ yX10_priceOf.cls ≠ "java/lang/invoke/VarHandle" ∧ (parseMethodDescriptor yX10_priceOf.desc).map (fun d => d.parameters.length) = some 1 := by decide +kernel
abbrev rmX10_costOf : Room := { frames := 3, cells := 0, slots := 0, locals := 63 }
theorem iX10_costOf_X10 : ∀ w ∈ u_ws RX10 TX10 21, w ∈ wsX10_costOf := by decide +kernel
theorem h0X10_costOf : yX10_costOf.cls = RX10 ∧ yX10_costOf.cls ≠ "java/lang/invoke/MethodHandle" ∧ yX10_costOf.cls ≠ "java/lang/invoke/VarHandle" ∧ (parseMethodDescriptor yX10_costOf.desc).map (fun d => d.parameters.length) = some 4 := by decide +kernel
abbrev rmX10_best : Room := { frames := 4, cells := 0, slots := 0, locals := 92 }
theorem h0X10_best : yX10_best.cls = RX10 ∧ yX10_best.cls ≠ "java/lang/invoke/MethodHandle" ∧ yX10_best.cls ≠ "java/lang/invoke/VarHandle" ∧ (parseMethodDescriptor yX10_best.desc).map (fun d => d.parameters.length) = some 3 := by decide +kernel
abbrev rmX10_ways : Room := { frames := 4, cells := 0, slots := 0, locals := 92 }
theorem h0X10_ways : yX10_ways.cls = RX10 ∧ yX10_ways.cls ≠ "java/lang/invoke/MethodHandle" ∧ yX10_ways.cls ≠ "java/lang/invoke/VarHandle" ∧ (parseMethodDescriptor yX10_ways.desc).map (fun d => d.parameters.length) = some 1 := by decide +kernel
abbrev rmX10_fewest : Room := { frames := 5, cells := 0, slots := 0, locals := 120 }
theorem iX10_fewest_X10 : ∀ w ∈ u_ws RX10 TX10 21, w ∈ wsX10_fewest := by decide +kernel
theorem h0X10_fewest : yX10_fewest.cls = RX10 ∧ yX10_fewest.cls ≠ "java/lang/invoke/MethodHandle" ∧ yX10_fewest.cls ≠ "java/lang/invoke/VarHandle" ∧ (parseMethodDescriptor yX10_fewest.desc).map (fun d => d.parameters.length) = some 2 := by decide +kernel
abbrev rmX10_piece : Room := { frames := 3, cells := 0, slots := 0, locals := 63 }
theorem h0X10_piece : yX10_piece.cls = RX10 ∧ yX10_piece.cls ≠ "java/lang/invoke/MethodHandle" ∧ yX10_piece.cls ≠ "java/lang/invoke/VarHandle" ∧ (parseMethodDescriptor yX10_piece.desc).map (fun d => d.parameters.length) = some 3 := by decide +kernel
abbrev rmX10_isFresh : Room := { frames := 4, cells := 0, slots := 0, locals := 89 }
theorem h0X10_isFresh : yX10_isFresh.cls = RX10 ∧ yX10_isFresh.cls ≠ "java/lang/invoke/MethodHandle" ∧ yX10_isFresh.cls ≠ "java/lang/invoke/VarHandle" ∧ (parseMethodDescriptor yX10_isFresh.desc).map (fun d => d.parameters.length) = some 3 := by decide +kernel
abbrev rmX10_fresh : Room := { frames := 5, cells := 0, slots := 0, locals := 114 }
theorem h0X10_fresh : yX10_fresh.cls = RX10 ∧ yX10_fresh.cls ≠ "java/lang/invoke/MethodHandle" ∧ yX10_fresh.cls ≠ "java/lang/invoke/VarHandle" ∧ (parseMethodDescriptor yX10_fresh.desc).map (fun d => d.parameters.length) = some 3 := by decide +kernel
abbrev rmX10_why : Room := { frames := 6, cells := 0, slots := 0, locals := 139 }
theorem iX10_why_X10 : ∀ w ∈ u_ws RX10 TX10 21, w ∈ wsX10_why := by decide +kernel
theorem h0X10_why : yX10_why.cls = RX10 ∧ yX10_why.cls ≠ "java/lang/invoke/MethodHandle" ∧ yX10_why.cls ≠ "java/lang/invoke/VarHandle" ∧ (parseMethodDescriptor yX10_why.desc).map (fun d => d.parameters.length) = some 3 := by decide +kernel
abbrev rmX10_comes : Room := { frames := 0, cells := 0, slots := 0, locals := 0 }
theorem iX10_comes_X10 : ∀ w ∈ u_ws RX10 TX10 21, w ∈ wsX10_comes := by decide +kernel
theorem h0X10_comes : yX10_comes.cls = RX10 ∧ yX10_comes.cls ≠ "java/lang/invoke/MethodHandle" ∧ yX10_comes.cls ≠ "java/lang/invoke/VarHandle" ∧ (parseMethodDescriptor yX10_comes.desc).map (fun d => d.parameters.length) = some 3 := by decide +kernel
abbrev rmX10_buys : Room := { frames := 3, cells := 0, slots := 0, locals := 62 }
theorem iX10_buys_X10 : ∀ w ∈ u_ws RX10 TX10 21, w ∈ wsX10_buys := by decide +kernel
theorem h0X10_buys : yX10_buys.cls = RX10 ∧ yX10_buys.cls ≠ "java/lang/invoke/MethodHandle" ∧ yX10_buys.cls ≠ "java/lang/invoke/VarHandle" ∧ (parseMethodDescriptor yX10_buys.desc).map (fun d => d.parameters.length) = some 2 := by decide +kernel
abbrev rmX10_uses : Room := { frames := 4, cells := 0, slots := 0, locals := 89 }
theorem iX10_uses_X10 : ∀ w ∈ u_ws RX10 TX10 21, w ∈ wsX10_uses := by decide +kernel
theorem h0X10_uses : yX10_uses.cls = RX10 ∧ yX10_uses.cls ≠ "java/lang/invoke/MethodHandle" ∧ yX10_uses.cls ≠ "java/lang/invoke/VarHandle" ∧ (parseMethodDescriptor yX10_uses.desc).map (fun d => d.parameters.length) = some 3 := by decide +kernel
abbrev rmX10_store : Room := { frames := 5, cells := 0, slots := 0, locals := 120 }
theorem iX10_store_X10 : ∀ w ∈ u_ws RX10 TX10 21, w ∈ wsX10_store := by decide +kernel
theorem h0X10_store : yX10_store.cls = RX10 ∧ yX10_store.cls ≠ "java/lang/invoke/MethodHandle" ∧ yX10_store.cls ≠ "java/lang/invoke/VarHandle" ∧ (parseMethodDescriptor yX10_store.desc).map (fun d => d.parameters.length) = some 2 := by decide +kernel
abbrev rmX10_back : Room := { frames := 0, cells := 0, slots := 0, locals := 0 }
theorem iX10_back_X10 : ∀ w ∈ u_ws RX10 TX10 21, w ∈ wsX10_back := by decide +kernel
theorem h0X10_back : yX10_back.cls = RX10 ∧ yX10_back.cls ≠ "java/lang/invoke/MethodHandle" ∧ yX10_back.cls ≠ "java/lang/invoke/VarHandle" ∧ (parseMethodDescriptor yX10_back.desc).map (fun d => d.parameters.length) = some 2 := by decide +kernel
abbrev rmX10_recut : Room := { frames := 5, cells := 0, slots := 0, locals := 120 }
theorem iX10_recut_X10 : ∀ w ∈ u_ws RX10 TX10 21, w ∈ wsX10_recut := by decide +kernel
theorem h0X10_recut : yX10_recut.cls = RX10 ∧ yX10_recut.cls ≠ "java/lang/invoke/MethodHandle" ∧ yX10_recut.cls ≠ "java/lang/invoke/VarHandle" ∧ (parseMethodDescriptor yX10_recut.desc).map (fun d => d.parameters.length) = some 1 := by decide +kernel
abbrev rmX10_remove : Room := { frames := 5, cells := 0, slots := 0, locals := 114 }
theorem iX10_remove_X10 : ∀ w ∈ u_ws RX10 TX10 21, w ∈ wsX10_remove := by decide +kernel
theorem h0X10_remove : yX10_remove.cls = RX10 ∧ yX10_remove.cls ≠ "java/lang/invoke/MethodHandle" ∧ yX10_remove.cls ≠ "java/lang/invoke/VarHandle" ∧ (parseMethodDescriptor yX10_remove.desc).map (fun d => d.parameters.length) = some 1 := by decide +kernel
abbrev rmX10_tick : Room := { frames := 0, cells := 0, slots := 0, locals := 0 }
theorem iX10_tick_X10 : ∀ w ∈ u_ws RX10 TX10 21, w ∈ wsX10_tick := by decide +kernel
theorem h0X10_tick : yX10_tick.cls = RX10 ∧ yX10_tick.cls ≠ "java/lang/invoke/MethodHandle" ∧ yX10_tick.cls ≠ "java/lang/invoke/VarHandle" ∧ (parseMethodDescriptor yX10_tick.desc).map (fun d => d.parameters.length) = some 0 := by decide +kernel
def fX10_size (x0 : Int32) : Option (Int32) := gb1 (fJ6_numberOfLeadingZeros_0f7a4 x0) fun (r_1 : Int32) => some (31 - r_1)
def fX10_part (x0 : Int32) (x1 : Int32) (x2 : Int32) : Option (Int32) := gb1 (fX10_size x0) fun (r_1 : Int32) => some (((1 : Int32) <<< ((x2 - x1) &&& 31)) ||| ((x0 >>> ((r_1 - x2) &&& 31)) &&& (((1 : Int32) <<< ((x2 - x1) &&& 31)) - 1)))
def fX10_find_L2 (x1 : Int32) (L_pieces : Int32) (code : (Nat → Int32)) (k : Option (Int32)) : Nat → Int32 → Option (Int32)
  | 0, _ => none
  | n + 1, x2 => if L_pieces ≤ x2 then (k) else (if x2 < 0 ∨ 25 ≤ x2.toNatClampNeg then none else if (code (x2.toNatClampNeg)) = x1 then (some x2) else (fX10_find_L2 x1 L_pieces code k n (x2 + 1)))
def fX10_find (x1 : Int32) (L_pieces : Int32) (code : (Nat → Int32)) : Option (Int32) := fX10_find_L2 x1 L_pieces code (some (-1)) FU 0
def fX10_priceOf (x1 : Int32) (L_price : Int32) (L_letter : Int32) : Option (Int32) := gb1 (fX10_size x1) fun (r_1 : Int32) => some (L_price + (L_letter * r_1))
def fX10_costOf_L9 (x1 : Int32) (x2 : Int32) (x3 : Int32) (x4 : Int32) (L_price : Int32) (L_letter : Int32) (L_deposit : Int32) (L_pieces : Int32) (code : (Nat → Int32)) (k : Int32 → Option (Int32)) : Nat → Int32 → Int32 → Int32 → Option (Int32)
  | 0, _, _, _ => none
  | n + 1, x5, x6, x7 => gb1 (fX10_size x1) fun (r_1 : Int32) => if r_1 < x7 then (k x6) else (gb1 (fX10_size x1) fun (r_2 : Int32) => Lt ((gb1 (fX10_part x1 x5 x7) fun (r_3 : Int32) => Lt (fun (t0_1 : Int32) => (if 6 < (x7 - x5) then (some (-1)) else (Lt ((Lt (fun (t0_2 : Int32) => (fX10_costOf_L9 x1 x2 x3 x4 L_price L_letter L_deposit L_pieces code k n x7 (x6 + (L_deposit + t0_2)) (x7 + 1))) fun (j_4 : Int32 → Option (Int32)) => if t0_1 = 0 then (gb1 (fX10_priceOf r_3 L_price L_letter) fun (r_4 : Int32) => j_4 r_4) else (j_4 0)) : Option (Int32)) fun (j_3 : Option (Int32)) => if x3 = 0 then (if t0_1 = 0 then (some (-1)) else (j_3)) else (j_3)))) fun (j_2 : Int32 → Option (Int32)) => Lt ((j_2 1) : Option (Int32)) fun (j_5 : Option (Int32)) => if r_3 = x4 then (j_5) else (gb1 (fX10_find r_3 L_pieces code) fun (r_5 : Int32) => if r_5 < 0 then (j_2 0) else (j_5))) : Option (Int32)) fun (j_1 : Option (Int32)) => if r_2 ≤ x7 then (j_1) else (if ((x2 >>> (x7 &&& 31)) &&& 1) = 0 then (fX10_costOf_L9 x1 x2 x3 x4 L_price L_letter L_deposit L_pieces code k n x5 x6 (x7 + 1)) else (j_1)))
def fX10_costOf (x1 : Int32) (x2 : Int32) (x3 : Int32) (x4 : Int32) (L_price : Int32) (L_letter : Int32) (L_deposit : Int32) (L_pieces : Int32) (code : (Nat → Int32)) : Option (Int32) := fX10_costOf_L9 x1 x2 x3 x4 L_price L_letter L_deposit L_pieces code (fun (x6_1 : Int32) => (some x6_1)) FU 0 0 1
def fX10_best_L9 (x1 : Int32) (x2 : Int32) (x3 : Int32) (L_price : Int32) (L_letter : Int32) (L_deposit : Int32) (L_pieces : Int32) (code : (Nat → Int32)) (k : Int32 → Option (Int32)) : Nat → Int32 → Int32 → Int32 → Option (Int32)
  | 0, _, _, _ => none
  | n + 1, x4, x5, x6 => gb1 (fX10_size x1) fun (r_1 : Int32) => if ((1 : Int32) <<< (r_1 &&& 31)) ≤ x6 then (k x4) else (gb1 (fX10_costOf x1 x6 x2 x3 L_price L_letter L_deposit L_pieces code) fun (r_2 : Int32) => if 0 ≤ r_2 then (Lt (fun (t0_1 : Int32) => (Lt (fun (x8_1 : Int32) => (Lt (fun (x8_2 : Int32) => (if x8_2 < 0 then (fX10_best_L9 x1 x2 x3 L_price L_letter L_deposit L_pieces code k n x6 r_2 (x6 + 2)) else (fX10_best_L9 x1 x2 x3 L_price L_letter L_deposit L_pieces code k n x4 x5 (x6 + 2)))) fun (j_3 : Int32 → Option (Int32)) => if x8_1 = 0 then (gb1 (fJ6_lowestOneBit_0f7a4 (x6 ^^^ x4)) fun (r_3 : Int32) => Lt (fun (t0_2 : Int32) => (j_3 t0_2)) fun (j_4 : Int32 → Option (Int32)) => if (x6 &&& r_3) = 0 then (j_4 (-1)) else (j_4 1)) else (j_3 x8_1))) fun (j_2 : Int32 → Option (Int32)) => if t0_1 = 0 then (gb1 (fJ6_bitCount_0f7a4 x6) fun (r_4 : Int32) => gb1 (fJ6_bitCount_0f7a4 x4) fun (r_5 : Int32) => j_2 (r_4 - r_5)) else (j_2 t0_1))) fun (j_1 : Int32 → Option (Int32)) => if 0 ≤ x4 then (j_1 (r_2 - x5)) else (j_1 (-1))) else (fX10_best_L9 x1 x2 x3 L_price L_letter L_deposit L_pieces code k n x4 x5 (x6 + 2)))
def fX10_best (x1 : Int32) (x2 : Int32) (x3 : Int32) (L_price : Int32) (L_letter : Int32) (L_deposit : Int32) (L_pieces : Int32) (code : (Nat → Int32)) : Option (Int32) := fX10_best_L9 x1 x2 x3 L_price L_letter L_deposit L_pieces code (fun (x4_1 : Int32) => (some x4_1)) FU (-1) 0 0
def fX10_ways_L4 (x1 : Int32) (L_price : Int32) (L_letter : Int32) (L_deposit : Int32) (L_pieces : Int32) (code : (Nat → Int32)) (k : Int32 → Option (Int32)) : Nat → Int32 → Int32 → Option (Int32)
  | 0, _, _ => none
  | n + 1, x2, x3 => gb1 (fX10_size x1) fun (r_1 : Int32) => if ((1 : Int32) <<< (r_1 &&& 31)) ≤ x3 then (k x2) else (gb1 (fX10_costOf x1 x3 0 0 L_price L_letter L_deposit L_pieces code) fun (r_2 : Int32) => if r_2 < 0 then (fX10_ways_L4 x1 L_price L_letter L_deposit L_pieces code k n x2 (x3 + 2)) else (fX10_ways_L4 x1 L_price L_letter L_deposit L_pieces code k n (x2 + 1) (x3 + 2)))
def fX10_ways (x1 : Int32) (L_price : Int32) (L_letter : Int32) (L_deposit : Int32) (L_pieces : Int32) (code : (Nat → Int32)) : Option (Int32) := fX10_ways_L4 x1 L_price L_letter L_deposit L_pieces code (fun (x2_1 : Int32) => (some x2_1)) FU 0 0
def fX10_fewest (x1 : Int32) (x2 : Int32) (L_price : Int32) (L_letter : Int32) (L_deposit : Int32) (L_pieces : Int32) (code : (Nat → Int32)) (word : (Nat → Int32)) : Option (Int32) := if x1 < 0 ∨ 17 ≤ x1.toNatClampNeg then none else gb1 (fX10_best (word (x1.toNatClampNeg)) 0 x2 L_price L_letter L_deposit L_pieces code) fun (r_1 : Int32) => gb1 (fJ6_bitCount_0f7a4 r_1) fun (r_2 : Int32) => some (r_2 + 1)
def fX10_piece_L9 (x1 : Int32) (x2 : Int32) (x3 : Int32) (k : Option (Int32)) : Nat → Int32 → Int32 → Int32 → Option (Int32)
  | 0, _, _, _ => none
  | n + 1, x4, x5, x6 => gb1 (fX10_size x1) fun (r_1 : Int32) => if r_1 < x6 then (k) else (gb1 (fX10_size x1) fun (r_2 : Int32) => Lt ((if x5 = x3 then (gb1 (fX10_part x1 x4 x6) fun (r_3 : Int32) => some r_3) else (fX10_piece_L9 x1 x2 x3 k n x6 (x5 + 1) (x6 + 1))) : Option (Int32)) fun (j_1 : Option (Int32)) => if r_2 ≤ x6 then (j_1) else (if ((x2 >>> (x6 &&& 31)) &&& 1) = 0 then (fX10_piece_L9 x1 x2 x3 k n x4 x5 (x6 + 1)) else (j_1)))
def fX10_piece (x1 : Int32) (x2 : Int32) (x3 : Int32) : Option (Int32) := fX10_piece_L9 x1 x2 x3 (some 0) FU 0 0 1
def fX10_isFresh_L12 (x1 : Int32) (x2 : Int32) (x3 : Int32) (x4 : Int32) (k : Option (Int32)) : Nat → Int32 → Option (Int32)
  | 0, _ => none
  | n + 1, x5 => if x3 ≤ x5 then (k) else (gb1 (fX10_piece x1 x2 x5) fun (r_1 : Int32) => if r_1 = x4 then (some 0) else (fX10_isFresh_L12 x1 x2 x3 x4 k n (x5 + 1)))
def fX10_isFresh (x1 : Int32) (x2 : Int32) (x3 : Int32) (L_pieces : Int32) (code : (Nat → Int32)) : Option (Int32) := gb1 (fX10_piece x1 x2 x3) fun (r_1 : Int32) => fX10_isFresh_L12 x1 x2 x3 r_1 (gb1 (fX10_find r_1 L_pieces code) fun (r_2 : Int32) => if 0 ≤ r_2 then (some 0) else (some 1)) FU 0
def fX10_fresh_L6 (x1 : Int32) (x2 : Int32) (x3 : Int32) (L_price : Int32) (L_letter : Int32) (L_pieces : Int32) (code : (Nat → Int32)) (k : Int32 → Option (Int32)) : Nat → Int32 → Int32 → Option (Int32)
  | 0, _, _ => none
  | n + 1, x4, x5 => gb1 (fJ6_bitCount_0f7a4 x2) fun (r_1 : Int32) => if r_1 < x5 then (k x4) else (gb1 (fX10_isFresh x1 x2 x5 L_pieces code) fun (r_2 : Int32) => if r_2 = 0 then (fX10_fresh_L6 x1 x2 x3 L_price L_letter L_pieces code k n x4 (x5 + 1)) else (if x3 = 0 then (fX10_fresh_L6 x1 x2 x3 L_price L_letter L_pieces code k n (x4 + 1) (x5 + 1)) else (gb1 (fX10_piece x1 x2 x5) fun (r_3 : Int32) => gb1 (fX10_priceOf r_3 L_price L_letter) fun (r_4 : Int32) => fX10_fresh_L6 x1 x2 x3 L_price L_letter L_pieces code k n (x4 + r_4) (x5 + 1))))
def fX10_fresh (x1 : Int32) (x2 : Int32) (x3 : Int32) (L_price : Int32) (L_letter : Int32) (L_pieces : Int32) (code : (Nat → Int32)) : Option (Int32) := fX10_fresh_L6 x1 x2 x3 L_price L_letter L_pieces code (fun (x4_1 : Int32) => (some x4_1)) FU 0 0
def fX10_why (x1 : Int32) (x2 : Int32) (x3 : Int32) (L_price : Int32) (L_letter : Int32) (L_deposit : Int32) (L_pieces : Int32) (L_words : Int32) (coins : (Nat → Int32)) (code : (Nat → Int32)) : Option (Int32) := if L_words = 16 then (some 2) else (gb1 (fX10_fresh x2 x3 0 L_price L_letter L_pieces code) fun (r_1 : Int32) => if (L_pieces + r_1) ≤ 24 then (if x1 < 0 ∨ 4 ≤ x1.toNatClampNeg then none else gb1 (fX10_fresh x2 x3 1 L_price L_letter L_pieces code) fun (r_2 : Int32) => gb1 (fJ6_bitCount_0f7a4 x3) fun (r_3 : Int32) => if (r_2 + (L_deposit * (r_3 + 1))) ≤ (coins (x1.toNatClampNeg)) then (some 0) else (some 4)) else (some 3))
def fX10_comes (x1 : Int32) (x2 : Int32) (x3 : Int32) (L_pieces : Int32) (L_time : Int32) (code : (Nat → Int32)) (paid : (Nat → Int32)) (owner : (Nat → Int32)) (uses : (Nat → Int32)) (idle : (Nat → Int32)) : Option (Int32 × (Nat → Int32) × (Nat → Int32) × (Nat → Int32) × (Nat → Int32) × (Nat → Int32)) := if L_pieces < 0 ∨ 25 ≤ L_pieces.toNatClampNeg then none else Lt (upd code (L_pieces.toNatClampNeg) x1) fun (code_1 : (Nat → Int32)) => if L_pieces < 0 ∨ 25 ≤ L_pieces.toNatClampNeg then none else Lt (upd paid (L_pieces.toNatClampNeg) x2) fun (paid_1 : (Nat → Int32)) => if L_pieces < 0 ∨ 25 ≤ L_pieces.toNatClampNeg then none else Lt (upd owner (L_pieces.toNatClampNeg) x3) fun (owner_1 : (Nat → Int32)) => if L_pieces < 0 ∨ 25 ≤ L_pieces.toNatClampNeg then none else Lt (upd uses (L_pieces.toNatClampNeg) 0) fun (uses_1 : (Nat → Int32)) => if L_pieces < 0 ∨ 25 ≤ L_pieces.toNatClampNeg then none else Lt (upd idle (L_pieces.toNatClampNeg) L_time) fun (idle_1 : (Nat → Int32)) => some (L_pieces + 1, code_1, paid_1, owner_1, uses_1, idle_1)
def fX10_buys (x1 : Int32) (x2 : Int32) (L_price : Int32) (L_letter : Int32) (L_pieces : Int32) (L_time : Int32) (L_chest : Int32) (coins : (Nat → Int32)) (accounts : (Nat → Int32)) (code : (Nat → Int32)) (paid : (Nat → Int32)) (owner : (Nat → Int32)) (uses : (Nat → Int32)) (idle : (Nat → Int32)) : Option (Int32 × Int32 × (Nat → Int32) × (Nat → Int32) × (Nat → Int32) × (Nat → Int32) × (Nat → Int32) × (Nat → Int32) × (Nat → Int32)) := gb1 (fX10_priceOf x1 L_price L_letter) fun (r_1 : Int32) => if x2 < 0 ∨ 4 ≤ x2.toNatClampNeg then none else if x2 < 0 ∨ 4 ≤ x2.toNatClampNeg then none else Lt (upd coins (x2.toNatClampNeg) ((coins (x2.toNatClampNeg)) - r_1)) fun (coins_1 : (Nat → Int32)) => Lt (upd accounts 0 ((accounts 0) + r_1)) fun (accounts_1 : (Nat → Int32)) => Lt (upd accounts_1 4 ((accounts_1 4) + 1)) fun (accounts_2 : (Nat → Int32)) => gb6 (fX10_comes x1 r_1 x2 L_pieces L_time code paid owner uses idle) fun (L_pieces_1 : Int32) (code_1 : (Nat → Int32)) (paid_1 : (Nat → Int32)) (owner_1 : (Nat → Int32)) (uses_1 : (Nat → Int32)) (idle_1 : (Nat → Int32)) => some (L_pieces_1, L_chest + r_1, coins_1, accounts_2, code_1, paid_1, owner_1, uses_1, idle_1)
def fX10_uses_L3 (x1 : Int32) (x2 : Int32) (x3 : Int32) (L_pieces : Int32) (L_time : Int32) (code : (Nat → Int32)) (k : (Nat → Int32) → (Nat → Int32) → Option ((Nat → Int32) × (Nat → Int32))) : Nat → Int32 → (Nat → Int32) → (Nat → Int32) → Option ((Nat → Int32) × (Nat → Int32))
  | 0, _, _, _ => none
  | n + 1, x4, uses, idle => gb1 (fJ6_bitCount_0f7a4 x2) fun (r_1 : Int32) => if r_1 < x4 then (k uses idle) else (gb1 (fX10_piece x1 x2 x4) fun (r_2 : Int32) => gb1 (fX10_find r_2 L_pieces code) fun (r_3 : Int32) => if r_3 < 0 ∨ 25 ≤ r_3.toNatClampNeg then none else if r_3 < 0 ∨ 25 ≤ r_3.toNatClampNeg then none else Lt (upd uses (r_3.toNatClampNeg) ((uses (r_3.toNatClampNeg)) + x3)) fun (uses_1 : (Nat → Int32)) => if r_3 < 0 ∨ 25 ≤ r_3.toNatClampNeg then none else if (uses_1 (r_3.toNatClampNeg)) = 0 then (if r_3 < 0 ∨ 25 ≤ r_3.toNatClampNeg then none else Lt (upd idle (r_3.toNatClampNeg) L_time) fun (idle_1 : (Nat → Int32)) => fX10_uses_L3 x1 x2 x3 L_pieces L_time code k n (x4 + 1) uses_1 idle_1) else (fX10_uses_L3 x1 x2 x3 L_pieces L_time code k n (x4 + 1) uses_1 idle))
def fX10_uses (x1 : Int32) (x2 : Int32) (x3 : Int32) (L_pieces : Int32) (L_time : Int32) (code : (Nat → Int32)) (uses : (Nat → Int32)) (idle : (Nat → Int32)) : Option ((Nat → Int32) × (Nat → Int32)) := fX10_uses_L3 x1 x2 x3 L_pieces L_time code (fun (uses_1 : (Nat → Int32)) (idle_1 : (Nat → Int32)) => (some (uses_1, idle_1))) FU 0 uses idle
def fX10_store_L11 (x1 : Int32) (x2 : Int32) (x3 : Int32) (L_price : Int32) (L_letter : Int32) (L_time : Int32) (k : Int32 → Int32 → (Nat → Int32) → (Nat → Int32) → (Nat → Int32) → (Nat → Int32) → (Nat → Int32) → (Nat → Int32) → (Nat → Int32) → Option (Int32 × Int32 × Int32 × Int32 × (Nat → Int32) × (Nat → Int32) × (Nat → Int32) × (Nat → Int32) × (Nat → Int32) × (Nat → Int32) × (Nat → Int32) × (Nat → Int32) × (Nat → Int32) × (Nat → Int32))) : Nat → Int32 → Int32 → Int32 → (Nat → Int32) → (Nat → Int32) → (Nat → Int32) → (Nat → Int32) → (Nat → Int32) → (Nat → Int32) → (Nat → Int32) → Option (Int32 × Int32 × Int32 × Int32 × (Nat → Int32) × (Nat → Int32) × (Nat → Int32) × (Nat → Int32) × (Nat → Int32) × (Nat → Int32) × (Nat → Int32) × (Nat → Int32) × (Nat → Int32) × (Nat → Int32))
  | 0, _, _, _, _, _, _, _, _, _, _ => none
  | n + 1, x4, L_pieces, L_chest, coins, accounts, code, paid, owner, uses, idle => gb1 (fJ6_bitCount_0f7a4 x3) fun (r_1 : Int32) => if r_1 < x4 then (k L_pieces L_chest coins accounts code paid owner uses idle) else (gb1 (fX10_piece x2 x3 x4) fun (r_2 : Int32) => gb1 (fX10_find r_2 L_pieces code) fun (r_3 : Int32) => if 0 ≤ r_3 then (fX10_store_L11 x1 x2 x3 L_price L_letter L_time k n (x4 + 1) L_pieces L_chest coins accounts code paid owner uses idle) else (gb1 (fX10_piece x2 x3 x4) fun (r_4 : Int32) => gb9 (fX10_buys r_4 x1 L_price L_letter L_pieces L_time L_chest coins accounts code paid owner uses idle) fun (L_pieces_1 : Int32) (L_chest_1 : Int32) (coins_1 : (Nat → Int32)) (accounts_1 : (Nat → Int32)) (code_1 : (Nat → Int32)) (paid_1 : (Nat → Int32)) (owner_1 : (Nat → Int32)) (uses_1 : (Nat → Int32)) (idle_1 : (Nat → Int32)) => fX10_store_L11 x1 x2 x3 L_price L_letter L_time k n (x4 + 1) L_pieces_1 L_chest_1 coins_1 accounts_1 code_1 paid_1 owner_1 uses_1 idle_1))
def fX10_store (x1 : Int32) (x2 : Int32) (L_price : Int32) (L_letter : Int32) (L_deposit : Int32) (L_pieces : Int32) (L_words : Int32) (L_time : Int32) (L_chest : Int32) (L_fund : Int32) (coins : (Nat → Int32)) (accounts : (Nat → Int32)) (code : (Nat → Int32)) (paid : (Nat → Int32)) (owner : (Nat → Int32)) (uses : (Nat → Int32)) (idle : (Nat → Int32)) (user : (Nat → Int32)) (word : (Nat → Int32)) (cut : (Nat → Int32)) : Option (Int32 × Int32 × Int32 × Int32 × (Nat → Int32) × (Nat → Int32) × (Nat → Int32) × (Nat → Int32) × (Nat → Int32) × (Nat → Int32) × (Nat → Int32) × (Nat → Int32) × (Nat → Int32) × (Nat → Int32)) := gb1 (fX10_best x2 1 0 L_price L_letter L_deposit L_pieces code) fun (r_1 : Int32) => fX10_store_L11 x1 x2 r_1 L_price L_letter L_time (fun (L_pieces_1 : Int32) (L_chest_1 : Int32) (coins_1 : (Nat → Int32)) (accounts_1 : (Nat → Int32)) (code_1 : (Nat → Int32)) (paid_1 : (Nat → Int32)) (owner_1 : (Nat → Int32)) (uses_1 : (Nat → Int32)) (idle_1 : (Nat → Int32)) => (gb2 (fX10_uses x2 r_1 1 L_pieces_1 L_time code_1 uses_1 idle_1) fun (uses_2 : (Nat → Int32)) (idle_2 : (Nat → Int32)) => gb1 (fJ6_bitCount_0f7a4 r_1) fun (r_2 : Int32) => if x1 < 0 ∨ 4 ≤ x1.toNatClampNeg then none else if x1 < 0 ∨ 4 ≤ x1.toNatClampNeg then none else Lt (upd coins_1 (x1.toNatClampNeg) ((coins_1 (x1.toNatClampNeg)) - (L_deposit * (r_2 + 1)))) fun (coins_2 : (Nat → Int32)) => Lt (L_fund + (L_deposit * (r_2 + 1))) fun (L_fund_1 : Int32) => Lt (upd accounts_1 2 ((accounts_1 2) + (L_deposit * (r_2 + 1)))) fun (accounts_2 : (Nat → Int32)) => if L_words < 0 ∨ 17 ≤ L_words.toNatClampNeg then none else Lt (upd user (L_words.toNatClampNeg) x1) fun (user_1 : (Nat → Int32)) => if L_words < 0 ∨ 17 ≤ L_words.toNatClampNeg then none else Lt (upd word (L_words.toNatClampNeg) x2) fun (word_1 : (Nat → Int32)) => if L_words < 0 ∨ 17 ≤ L_words.toNatClampNeg then none else Lt (upd cut (L_words.toNatClampNeg) r_1) fun (cut_1 : (Nat → Int32)) => some (L_pieces_1, L_words + 1, L_chest_1, L_fund_1, coins_2, accounts_2, code_1, paid_1, owner_1, uses_2, idle_2, user_1, word_1, cut_1))) FU 0 L_pieces L_chest coins accounts code paid owner uses idle
def fX10_back (x1 : Int32) (x2 : Int32) (L_fund : Int32) (coins : (Nat → Int32)) (accounts : (Nat → Int32)) : Option (Int32 × (Nat → Int32) × (Nat → Int32)) := if x1 < 0 ∨ 4 ≤ x1.toNatClampNeg then none else if x1 < 0 ∨ 4 ≤ x1.toNatClampNeg then none else Lt (upd coins (x1.toNatClampNeg) ((coins (x1.toNatClampNeg)) + x2)) fun (coins_1 : (Nat → Int32)) => Lt (upd accounts 3 ((accounts 3) + x2)) fun (accounts_1 : (Nat → Int32)) => some (L_fund - x2, coins_1, accounts_1)
def fX10_recut (x1 : Int32) (L_price : Int32) (L_letter : Int32) (L_deposit : Int32) (L_pieces : Int32) (L_time : Int32) (L_fund : Int32) (coins : (Nat → Int32)) (accounts : (Nat → Int32)) (code : (Nat → Int32)) (uses : (Nat → Int32)) (idle : (Nat → Int32)) (user : (Nat → Int32)) (word : (Nat → Int32)) (cut : (Nat → Int32)) : Option (Int32 × Int32 × (Nat → Int32) × (Nat → Int32) × (Nat → Int32) × (Nat → Int32) × (Nat → Int32)) := if x1 < 0 ∨ 17 ≤ x1.toNatClampNeg then none else gb1 (fX10_best (word (x1.toNatClampNeg)) 0 0 L_price L_letter L_deposit L_pieces code) fun (r_1 : Int32) => if x1 < 0 ∨ 17 ≤ x1.toNatClampNeg then none else gb2 (fX10_uses (word (x1.toNatClampNeg)) r_1 1 L_pieces L_time code uses idle) fun (uses_1 : (Nat → Int32)) (idle_1 : (Nat → Int32)) => if x1 < 0 ∨ 17 ≤ x1.toNatClampNeg then none else if x1 < 0 ∨ 17 ≤ x1.toNatClampNeg then none else gb2 (fX10_uses (word (x1.toNatClampNeg)) (cut (x1.toNatClampNeg)) (-1) L_pieces L_time code uses_1 idle_1) fun (uses_2 : (Nat → Int32)) (idle_2 : (Nat → Int32)) => if x1 < 0 ∨ 17 ≤ x1.toNatClampNeg then none else gb1 (fJ6_bitCount_0f7a4 (cut (x1.toNatClampNeg))) fun (r_2 : Int32) => gb1 (fJ6_bitCount_0f7a4 r_1) fun (r_3 : Int32) => if x1 < 0 ∨ 17 ≤ x1.toNatClampNeg then none else Lt (upd cut (x1.toNatClampNeg) r_1) fun (cut_1 : (Nat → Int32)) => if x1 < 0 ∨ 17 ≤ x1.toNatClampNeg then none else gb3 (fX10_back (user (x1.toNatClampNeg)) (L_deposit * (r_2 - r_3)) L_fund coins accounts) fun (L_fund_1 : Int32) (coins_1 : (Nat → Int32)) (accounts_1 : (Nat → Int32)) => some (L_deposit * (r_2 - r_3), L_fund_1, coins_1, accounts_1, uses_2, idle_2, cut_1)
def fX10_remove_L57 (x2 : Int32) (L_words : Int32) (k : (Nat → Int32) → (Nat → Int32) → (Nat → Int32) → Option (Int32 × Int32 × Int32 × (Nat → Int32) × (Nat → Int32) × (Nat → Int32) × (Nat → Int32) × (Nat → Int32) × (Nat → Int32) × (Nat → Int32))) : Nat → Int32 → (Nat → Int32) → (Nat → Int32) → (Nat → Int32) → Option (Int32 × Int32 × Int32 × (Nat → Int32) × (Nat → Int32) × (Nat → Int32) × (Nat → Int32) × (Nat → Int32) × (Nat → Int32) × (Nat → Int32))
  | 0, _, _, _, _ => none
  | n + 1, x3, user, word, cut => if L_words ≤ x3 then (k user word cut) else (if (x3 + 1) < 0 ∨ 17 ≤ (x3 + 1).toNatClampNeg then none else if x3 < 0 ∨ 17 ≤ x3.toNatClampNeg then none else Lt (upd user (x3.toNatClampNeg) (user ((x3 + 1).toNatClampNeg))) fun (user_1 : (Nat → Int32)) => if (x3 + 1) < 0 ∨ 17 ≤ (x3 + 1).toNatClampNeg then none else if x3 < 0 ∨ 17 ≤ x3.toNatClampNeg then none else Lt (upd word (x3.toNatClampNeg) (word ((x3 + 1).toNatClampNeg))) fun (word_1 : (Nat → Int32)) => if (x3 + 1) < 0 ∨ 17 ≤ (x3 + 1).toNatClampNeg then none else if x3 < 0 ∨ 17 ≤ x3.toNatClampNeg then none else Lt (upd cut (x3.toNatClampNeg) (cut ((x3 + 1).toNatClampNeg))) fun (cut_1 : (Nat → Int32)) => fX10_remove_L57 x2 L_words k n (x3 + 1) user_1 word_1 cut_1)
def fX10_remove (x1 : Int32) (L_deposit : Int32) (L_pieces : Int32) (L_words : Int32) (L_time : Int32) (L_fund : Int32) (coins : (Nat → Int32)) (accounts : (Nat → Int32)) (code : (Nat → Int32)) (uses : (Nat → Int32)) (idle : (Nat → Int32)) (user : (Nat → Int32)) (word : (Nat → Int32)) (cut : (Nat → Int32)) : Option (Int32 × Int32 × Int32 × (Nat → Int32) × (Nat → Int32) × (Nat → Int32) × (Nat → Int32) × (Nat → Int32) × (Nat → Int32) × (Nat → Int32)) := if x1 < 0 ∨ 17 ≤ x1.toNatClampNeg then none else if x1 < 0 ∨ 17 ≤ x1.toNatClampNeg then none else gb2 (fX10_uses (word (x1.toNatClampNeg)) (cut (x1.toNatClampNeg)) (-1) L_pieces L_time code uses idle) fun (uses_1 : (Nat → Int32)) (idle_1 : (Nat → Int32)) => if x1 < 0 ∨ 17 ≤ x1.toNatClampNeg then none else if x1 < 0 ∨ 17 ≤ x1.toNatClampNeg then none else gb1 (fJ6_bitCount_0f7a4 (cut (x1.toNatClampNeg))) fun (r_1 : Int32) => gb3 (fX10_back (user (x1.toNatClampNeg)) (L_deposit * (r_1 + 1)) L_fund coins accounts) fun (L_fund_1 : Int32) (coins_1 : (Nat → Int32)) (accounts_1 : (Nat → Int32)) => fX10_remove_L57 (user (x1.toNatClampNeg)) (L_words - 1) (fun (user_1 : (Nat → Int32)) (word_1 : (Nat → Int32)) (cut_1 : (Nat → Int32)) => (if (user (x1.toNatClampNeg)) < 0 ∨ 4 ≤ (user (x1.toNatClampNeg)).toNatClampNeg then none else some (coins_1 ((user (x1.toNatClampNeg)).toNatClampNeg), L_words - 1, L_fund_1, coins_1, accounts_1, uses_1, idle_1, user_1, word_1, cut_1))) FU x1 user word cut
def fX10_tick_L16 (L_keep : Int32) (L_refund : Int32) (L_pieces : Int32) (L_time : Int32) (k : Int32 → Int32 → Int32 → (Nat → Int32) → (Nat → Int32) → (Nat → Int32) → (Nat → Int32) → (Nat → Int32) → (Nat → Int32) → (Nat → Int32) → Option (Int32 × Int32 × Int32 × Int32 × (Nat → Int32) × (Nat → Int32) × (Nat → Int32) × (Nat → Int32) × (Nat → Int32) × (Nat → Int32) × (Nat → Int32))) : Nat → Int32 → Int32 → Int32 → Int32 → (Nat → Int32) → (Nat → Int32) → (Nat → Int32) → (Nat → Int32) → (Nat → Int32) → (Nat → Int32) → (Nat → Int32) → Option (Int32 × Int32 × Int32 × Int32 × (Nat → Int32) × (Nat → Int32) × (Nat → Int32) × (Nat → Int32) × (Nat → Int32) × (Nat → Int32) × (Nat → Int32))
  | 0, _, _, _, _, _, _, _, _, _, _, _ => none
  | n + 1, x1, x2, x3, L_chest, coins, accounts, code, paid, owner, uses, idle => if L_pieces ≤ x3 then (k x1 x2 L_chest coins accounts code paid owner uses idle) else (if x3 < 0 ∨ 25 ≤ x3.toNatClampNeg then none else Lt ((if x3 < 0 ∨ 25 ≤ x3.toNatClampNeg then none else if x1 < 0 ∨ 25 ≤ x1.toNatClampNeg then none else Lt (upd code (x1.toNatClampNeg) (code (x3.toNatClampNeg))) fun (code_1 : (Nat → Int32)) => if x3 < 0 ∨ 25 ≤ x3.toNatClampNeg then none else if x1 < 0 ∨ 25 ≤ x1.toNatClampNeg then none else Lt (upd paid (x1.toNatClampNeg) (paid (x3.toNatClampNeg))) fun (paid_1 : (Nat → Int32)) => if x3 < 0 ∨ 25 ≤ x3.toNatClampNeg then none else if x1 < 0 ∨ 25 ≤ x1.toNatClampNeg then none else Lt (upd owner (x1.toNatClampNeg) (owner (x3.toNatClampNeg))) fun (owner_1 : (Nat → Int32)) => if x3 < 0 ∨ 25 ≤ x3.toNatClampNeg then none else if x1 < 0 ∨ 25 ≤ x1.toNatClampNeg then none else Lt (upd uses (x1.toNatClampNeg) (uses (x3.toNatClampNeg))) fun (uses_1 : (Nat → Int32)) => if x3 < 0 ∨ 25 ≤ x3.toNatClampNeg then none else if x1 < 0 ∨ 25 ≤ x1.toNatClampNeg then none else Lt (upd idle (x1.toNatClampNeg) (idle (x3.toNatClampNeg))) fun (idle_1 : (Nat → Int32)) => fX10_tick_L16 L_keep L_refund L_pieces L_time k n (x1 + 1) x2 (x3 + 1) L_chest coins accounts code_1 paid_1 owner_1 uses_1 idle_1) : Option (Int32 × Int32 × Int32 × Int32 × (Nat → Int32) × (Nat → Int32) × (Nat → Int32) × (Nat → Int32) × (Nat → Int32) × (Nat → Int32) × (Nat → Int32))) fun (j_1 : Option (Int32 × Int32 × Int32 × Int32 × (Nat → Int32) × (Nat → Int32) × (Nat → Int32) × (Nat → Int32) × (Nat → Int32) × (Nat → Int32) × (Nat → Int32))) => if (owner (x3.toNatClampNeg)) < 0 then (j_1) else (if x3 < 0 ∨ 25 ≤ x3.toNatClampNeg then none else if (uses (x3.toNatClampNeg)) = 0 then (if x3 < 0 ∨ 25 ≤ x3.toNatClampNeg then none else if (L_time - (idle (x3.toNatClampNeg))) ≤ L_keep then (j_1) else (if x3 < 0 ∨ 25 ≤ x3.toNatClampNeg then none else Lt (L_chest - (((paid (x3.toNatClampNeg)) * L_refund) / 100)) fun (L_chest_1 : Int32) => if x3 < 0 ∨ 25 ≤ x3.toNatClampNeg then none else if (owner (x3.toNatClampNeg)) < 0 ∨ 4 ≤ (owner (x3.toNatClampNeg)).toNatClampNeg then none else if (owner (x3.toNatClampNeg)) < 0 ∨ 4 ≤ (owner (x3.toNatClampNeg)).toNatClampNeg then none else Lt (upd coins ((owner (x3.toNatClampNeg)).toNatClampNeg) ((coins ((owner (x3.toNatClampNeg)).toNatClampNeg)) + (((paid (x3.toNatClampNeg)) * L_refund) / 100))) fun (coins_1 : (Nat → Int32)) => Lt (upd accounts 1 ((accounts 1) + (((paid (x3.toNatClampNeg)) * L_refund) / 100))) fun (accounts_1 : (Nat → Int32)) => Lt (upd accounts_1 5 ((accounts_1 5) + 1)) fun (accounts_2 : (Nat → Int32)) => fX10_tick_L16 L_keep L_refund L_pieces L_time k n x1 (x2 + 1) (x3 + 1) L_chest_1 coins_1 accounts_2 code paid owner uses idle)) else (j_1)))
def fX10_tick (L_keep : Int32) (L_refund : Int32) (L_pieces : Int32) (L_time : Int32) (L_chest : Int32) (coins : (Nat → Int32)) (accounts : (Nat → Int32)) (code : (Nat → Int32)) (paid : (Nat → Int32)) (owner : (Nat → Int32)) (uses : (Nat → Int32)) (idle : (Nat → Int32)) : Option (Int32 × Int32 × Int32 × Int32 × (Nat → Int32) × (Nat → Int32) × (Nat → Int32) × (Nat → Int32) × (Nat → Int32) × (Nat → Int32) × (Nat → Int32)) := fX10_tick_L16 L_keep L_refund L_pieces (L_time + 1) (fun (x1_1 : Int32) (x2_1 : Int32) (L_chest_1 : Int32) (coins_1 : (Nat → Int32)) (accounts_1 : (Nat → Int32)) (code_1 : (Nat → Int32)) (paid_1 : (Nat → Int32)) (owner_1 : (Nat → Int32)) (uses_1 : (Nat → Int32)) (idle_1 : (Nat → Int32)) => (some (x2_1, x1_1, L_time + 1, L_chest_1, coins_1, accounts_1, code_1, paid_1, owner_1, uses_1, idle_1))) FU 0 0 0 L_chest coins accounts code paid owner uses idle
set_option maxHeartbeats 4000000 in
set_option maxRecDepth 100000 in
theorem ctX10_size (l : Launch) (E : gE) (x0 : Int32) (r : Int32) (hf : fX10_size x0 = some r) : gMet l yX10_size wsX10_size rmX10_size vwCl E [.int x0] [] (fun v w => v = some (.int r) ∧ w = []) 0 0 := by
  refine g_entry [some (.int x0)] (by decide) rfl (Nat.le_of_ble_eq_true rfl) rfl ?_
  intro p e s m below meth c A F hnm
  unfold fX10_size at hf
  refine g_bipush F 31 dX10_size_0 rfl ?_
  refine g_iload_n F dX10_size_2 rfl ?_
  obtain ⟨r_1, hg_1, hf⟩ := gb1_el hf
  refine g_callS (Lr := []) (As := [.int x0]) (rest := [.int 31]) F 1 (ctJ6_numberOfLeadingZeros_0f7a4 l E x0 r_1 hg_1) (va_cwS 1 F.2.2.2.2.2.1 gX10_size_J6_numberOfLeadingZeros_0f7a4 rfl rfl rfl h0J6_numberOfLeadingZeros_0f7a4 ⟨Nat.le_of_ble_eq_true rfl, Nat.le_of_ble_eq_true rfl⟩) [] [] rfl rfl rfl rfl rfl rfl (Nat.le_of_ble_eq_true rfl) dX10_size_3 ⟨(Nat.le_of_ble_eq_true rfl), (Nat.le_of_ble_eq_true rfl)⟩ ?_
  rintro v w ⟨rfl, rfl⟩
  refine g_norm (Lw' := []) (st' := [.int r_1, .int 31]) (pc' := 6) [] rfl rfl rfl rfl ?_
  refine g_isub F dX10_size_6 ?_
  cases hf
  exact g_iret F rfl ⟨rfl, rfl⟩ dX10_size_7
set_option maxHeartbeats 4000000 in
set_option maxRecDepth 100000 in
theorem ctX10_part (l : Launch) (E : gE) (x0 : Int32) (x1 : Int32) (x2 : Int32) (r : Int32) (hf : fX10_part x0 x1 x2 = some r) : gMet l yX10_part wsX10_part rmX10_part vwCl E [.int x0, .int x1, .int x2] [] (fun v w => v = some (.int r) ∧ w = []) 0 0 := by
  refine g_entry [some (.int x0), some (.int x1), some (.int x2)] (by decide) rfl (Nat.le_of_ble_eq_true rfl) rfl ?_
  intro p e s m below meth c A F hnm
  unfold fX10_part at hf
  refine g_iconst F 1 dX10_part_0 rfl ?_
  refine g_iload_n F dX10_part_1 rfl ?_
  refine g_iload_n F dX10_part_2 rfl ?_
  refine g_isub F dX10_part_3 ?_
  refine g_ishl F dX10_part_4 ?_
  refine g_iload_n F dX10_part_5 rfl ?_
  refine g_iload_n F dX10_part_6 rfl ?_
  obtain ⟨r_1, hg_1, hf⟩ := gb1_el hf
  refine g_callS (Lr := []) (As := [.int x0]) (rest := [.int x0, .int ((1 : Int32) <<< ((x2 - x1) &&& 31))]) F 1 (ctX10_size l E x0 r_1 hg_1) (va_cwS 1 F.2.2.2.2.2.1 gX10_part_X10_size rfl rfl rfl h0X10_size ⟨Nat.le_of_ble_eq_true rfl, Nat.le_of_ble_eq_true rfl⟩) [] [] rfl rfl rfl rfl rfl rfl (Nat.le_of_ble_eq_true rfl) dX10_part_7 ⟨(Nat.le_of_ble_eq_true rfl), (Nat.le_of_ble_eq_true rfl)⟩ ?_
  rintro v w ⟨rfl, rfl⟩
  refine g_norm (Lw' := []) (st' := [.int r_1, .int x0, .int ((1 : Int32) <<< ((x2 - x1) &&& 31))]) (pc' := 10) [] rfl rfl rfl rfl ?_
  refine g_iload_n F dX10_part_10 rfl ?_
  refine g_isub F dX10_part_11 ?_
  refine g_ishr F dX10_part_12 ?_
  refine g_iconst F 1 dX10_part_13 rfl ?_
  refine g_iload_n F dX10_part_14 rfl ?_
  refine g_iload_n F dX10_part_15 rfl ?_
  refine g_isub F dX10_part_16 ?_
  refine g_ishl F dX10_part_17 ?_
  refine g_iconst F 1 dX10_part_18 rfl ?_
  refine g_isub F dX10_part_19 ?_
  refine g_iand F dX10_part_20 ?_
  refine g_ior F dX10_part_21 ?_
  cases hf
  exact g_iret F rfl ⟨rfl, rfl⟩ dX10_part_22
set_option maxHeartbeats 4000000 in
set_option maxRecDepth 100000 in
theorem ktX10_find_L2 {p : Program} {l : Launch} {e : Env} {s : State} {m : MethodId} {args : Array Value} {below : List Frame} {meth : Method} {c : Code} {E : gE} {A : Nat → Prop} (F : gFx p s m args meth c RX10 wsX10_find cX10_find 3 (some .int) vwCl E A) (aL acoins aaccounts acode apaid aowner auses aidle auser aword acut : Nat → Nat) (x1 : Int32) (L_pieces : Int32) (code : (Nat → Int32)) (L_price : Int32) (L_letter : Int32) (L_deposit : Int32) (L_keep : Int32) (L_refund : Int32) (L_users : Int32) (L_words : Int32) (L_time : Int32) (L_chest : Int32) (L_fund : Int32) (r : Int32) {k : Option (Int32)} (hk : k = some r → Gj p l e rmX10_find s m args below meth c 0 0 (MQ below (gQ vwCl E A (fun v w => v = some (.int r) ∧ w = [sLB E aL acoins aaccounts acode apaid aowner auses aidle auser aword acut L_price L_letter L_deposit L_keep L_refund L_users L_pieces L_words L_time L_chest L_fund, sArrI E acode 25 code])) args s 0 0 A) vwCl E A [sLB E aL acoins aaccounts acode apaid aowner auses aidle auser aword acut L_price L_letter L_deposit L_keep L_refund L_users L_pieces L_words L_time L_chest L_fund, sArrI E acode 25 code] [none, none, none] [] 28) : ∀ (n : Nat) (x2 : Int32), fX10_find_L2 x1 L_pieces code k n x2 = some r → Gj p l e rmX10_find s m args below meth c 0 0 (MQ below (gQ vwCl E A (fun v w => v = some (.int r) ∧ w = [sLB E aL acoins aaccounts acode apaid aowner auses aidle auser aword acut L_price L_letter L_deposit L_keep L_refund L_users L_pieces L_words L_time L_chest L_fund, sArrI E acode 25 code])) args s 0 0 A) vwCl E A [sLB E aL acoins aaccounts acode apaid aowner auses aidle auser aword acut L_price L_letter L_deposit L_keep L_refund L_users L_pieces L_words L_time L_chest L_fund, sArrI E acode 25 code] [some (.ref (aL 0)), some (.int x1), some (.int x2)] [] 2
  | 0, _, hf => by cases hf
  | n + 1, x2, hf => by
    have ih := ktX10_find_L2 F aL acoins aaccounts acode apaid aowner auses aidle auser aword acut x1 L_pieces code L_price L_letter L_deposit L_keep L_refund L_users L_words L_time L_chest L_fund r hk n
    rw [fX10_find_L2] at hf
    refine g_iload_n F dX10_find_2 rfl ?_
    refine g_aload_n F dX10_find_3 rfl ?_
    refine g_get (C := RX10) (T := TX10) (N := 21) F 0 0 6 rfl rfl rfl iX10_find_X10 (by decide) (by decide +kernel) rfl dX10_find_4 ?_
    refine g_icmp_ge F 28 dX10_find_7 (by decide) (fun hc_2 => ?_) (fun hc_2 => ?_)
    · replace hf := gi_t hc_2 hf
      refine g_mask [false, false, false] rfl ?_
      exact hk hf
    · replace hf := gi_f hc_2 hf
      refine g_aload_n F dX10_find_10 rfl ?_
      refine g_get (C := RX10) (T := TX10) (N := 21) F 0 0 13 rfl rfl rfl iX10_find_X10 (by decide) (by decide +kernel) rfl dX10_find_11 ?_
      refine g_iload_n F dX10_find_14 rfl ?_
      obtain ⟨hb_1, hf⟩ := gb_in hf
      refine g_iald F 1 0 (x2.toNatClampNeg) rfl rfl rfl hb_1 dX10_find_15 ?_
      refine g_iload_n F dX10_find_16 rfl ?_
      refine g_icmp_ne F 22 dX10_find_17 (by decide) (fun hc_1 => ?_) (fun hc_1 => ?_)
      · replace hf := gi_f hc_1 hf
        refine g_iinc (lv' := [some (.ref (aL 0)), some (.int x1), some (.int (x2 + 1))]) F (x2 + 1) dX10_find_22 rfl rfl rfl rfl ?_
        refine g_goto F 2 dX10_find_25 (by decide) ?_
        exact ih (x2 + 1) hf
      · replace hf := gi_t hc_1 hf
        refine g_iload_n F dX10_find_20 rfl ?_
        cases hf
        exact g_iret F rfl ⟨rfl, rfl⟩ dX10_find_21
set_option maxHeartbeats 4000000 in
set_option maxRecDepth 100000 in
theorem ctX10_find (l : Launch) (E : gE) (aL acoins aaccounts acode apaid aowner auses aidle auser aword acut : Nat → Nat) (x1 : Int32) (L_price : Int32) (L_letter : Int32) (L_deposit : Int32) (L_keep : Int32) (L_refund : Int32) (L_users : Int32) (L_pieces : Int32) (L_words : Int32) (L_time : Int32) (L_chest : Int32) (L_fund : Int32) (code : (Nat → Int32)) (r : Int32) (hf : fX10_find x1 L_pieces code = some r) : gMet l yX10_find wsX10_find rmX10_find vwCl E [.ref (aL 0), .int x1] [sLB E aL acoins aaccounts acode apaid aowner auses aidle auser aword acut L_price L_letter L_deposit L_keep L_refund L_users L_pieces L_words L_time L_chest L_fund, sArrI E acode 25 code] (fun v w => v = some (.int r) ∧ w = [sLB E aL acoins aaccounts acode apaid aowner auses aidle auser aword acut L_price L_letter L_deposit L_keep L_refund L_users L_pieces L_words L_time L_chest L_fund, sArrI E acode 25 code]) 0 0 := by
  refine g_entry [some (.ref (aL 0)), some (.int x1), none] (by decide) rfl (Nat.le_of_ble_eq_true rfl) rfl ?_
  intro p e s m below meth c A F hnm
  unfold fX10_find at hf
  refine g_iconst F 0 dX10_find_0 rfl ?_
  refine g_istore_n (lv' := [some (.ref (aL 0)), some (.int x1), some (.int 0)]) F dX10_find_1 (Nat.le_of_ble_eq_true rfl) rfl rfl ?_
  refine ktX10_find_L2 F aL acoins aaccounts acode apaid aowner auses aidle auser aword acut x1 L_pieces code L_price L_letter L_deposit L_keep L_refund L_users L_words L_time L_chest L_fund r (fun hf => ?_) FU 0 hf
  refine g_iconst F (-1) dX10_find_28 rfl ?_
  cases hf
  exact g_iret F rfl ⟨rfl, rfl⟩ dX10_find_29
set_option maxHeartbeats 4000000 in
set_option maxRecDepth 100000 in
theorem ctX10_priceOf (l : Launch) (E : gE) (aL acoins aaccounts acode apaid aowner auses aidle auser aword acut : Nat → Nat) (x1 : Int32) (L_price : Int32) (L_letter : Int32) (L_deposit : Int32) (L_keep : Int32) (L_refund : Int32) (L_users : Int32) (L_pieces : Int32) (L_words : Int32) (L_time : Int32) (L_chest : Int32) (L_fund : Int32) (r : Int32) (hf : fX10_priceOf x1 L_price L_letter = some r) : gMet l yX10_priceOf wsX10_priceOf rmX10_priceOf vwCl E [.ref (aL 0), .int x1] [sLB E aL acoins aaccounts acode apaid aowner auses aidle auser aword acut L_price L_letter L_deposit L_keep L_refund L_users L_pieces L_words L_time L_chest L_fund] (fun v w => v = some (.int r) ∧ w = [sLB E aL acoins aaccounts acode apaid aowner auses aidle auser aword acut L_price L_letter L_deposit L_keep L_refund L_users L_pieces L_words L_time L_chest L_fund]) 0 0 := by
  refine g_entry [some (.ref (aL 0)), some (.int x1)] (by decide) rfl (Nat.le_of_ble_eq_true rfl) rfl ?_
  intro p e s m below meth c A F hnm
  unfold fX10_priceOf at hf
  refine g_aload_n F dX10_priceOf_0 rfl ?_
  refine g_get (C := RX10) (T := TX10) (N := 21) F 0 0 0 rfl rfl rfl iX10_priceOf_X10 (by decide) (by decide +kernel) rfl dX10_priceOf_1 ?_
  refine g_aload_n F dX10_priceOf_4 rfl ?_
  refine g_get (C := RX10) (T := TX10) (N := 21) F 0 0 1 rfl rfl rfl iX10_priceOf_X10 (by decide) (by decide +kernel) rfl dX10_priceOf_5 ?_
  refine g_iload_n F dX10_priceOf_8 rfl ?_
  obtain ⟨r_1, hg_1, hf⟩ := gb1_el hf
  refine g_callS (Lr := [sLB E aL acoins aaccounts acode apaid aowner auses aidle auser aword acut L_price L_letter L_deposit L_keep L_refund L_users L_pieces L_words L_time L_chest L_fund]) (As := [.int x1]) (rest := [.int L_letter, .int L_price]) F 1 (ctX10_size l E x1 r_1 hg_1) (va_cwS 1 F.2.2.2.2.2.1 gX10_priceOf_X10_size rfl rfl rfl h0X10_size ⟨Nat.le_of_ble_eq_true rfl, Nat.le_of_ble_eq_true rfl⟩) [] [0] rfl rfl rfl rfl rfl rfl (Nat.le_of_ble_eq_true rfl) dX10_priceOf_9 ⟨(Nat.le_of_ble_eq_true rfl), (Nat.le_of_ble_eq_true rfl)⟩ ?_
  rintro v w ⟨rfl, rfl⟩
  refine g_norm (Lw' := [sLB E aL acoins aaccounts acode apaid aowner auses aidle auser aword acut L_price L_letter L_deposit L_keep L_refund L_users L_pieces L_words L_time L_chest L_fund]) (st' := [.int r_1, .int L_letter, .int L_price]) (pc' := 12) [0] rfl rfl rfl rfl ?_
  refine g_imul F dX10_priceOf_12 ?_
  refine g_iadd F dX10_priceOf_13 ?_
  cases hf
  exact g_iret F rfl ⟨rfl, rfl⟩ dX10_priceOf_14
set_option maxHeartbeats 4000000 in
set_option maxRecDepth 100000 in
theorem ktX10_costOf_L9 {p : Program} {l : Launch} {e : Env} {s : State} {m : MethodId} {args : Array Value} {below : List Frame} {meth : Method} {c : Code} {E : gE} {A : Nat → Prop} (F : gFx p s m args meth c RX10 wsX10_costOf cX10_costOf 10 (some .int) vwCl E A) (aL acoins aaccounts acode apaid aowner auses aidle auser aword acut : Nat → Nat) (x1 : Int32) (x2 : Int32) (x3 : Int32) (x4 : Int32) (L_price : Int32) (L_letter : Int32) (L_deposit : Int32) (L_pieces : Int32) (code : (Nat → Int32)) (L_keep : Int32) (L_refund : Int32) (L_users : Int32) (L_words : Int32) (L_time : Int32) (L_chest : Int32) (L_fund : Int32) (r : Int32) {k : Int32 → Option (Int32)} (hk : ∀ (x6 : Int32), k x6 = some r → Gj p l e rmX10_costOf s m args below meth c 0 0 (MQ below (gQ vwCl E A (fun v w => v = some (.int r) ∧ w = [sLB E aL acoins aaccounts acode apaid aowner auses aidle auser aword acut L_price L_letter L_deposit L_keep L_refund L_users L_pieces L_words L_time L_chest L_fund, sArrI E acode 25 code])) args s 0 0 A) vwCl E A [sLB E aL acoins aaccounts acode apaid aowner auses aidle auser aword acut L_price L_letter L_deposit L_keep L_refund L_users L_pieces L_words L_time L_chest L_fund, sArrI E acode 25 code] [none, none, none, none, none, none, some (.int x6), none, none, none] [] 128) : ∀ (n : Nat) (x5 : Int32) (x6 : Int32) (x7 : Int32), fX10_costOf_L9 x1 x2 x3 x4 L_price L_letter L_deposit L_pieces code k n x5 x6 x7 = some r → Gj p l e rmX10_costOf s m args below meth c 0 0 (MQ below (gQ vwCl E A (fun v w => v = some (.int r) ∧ w = [sLB E aL acoins aaccounts acode apaid aowner auses aidle auser aword acut L_price L_letter L_deposit L_keep L_refund L_users L_pieces L_words L_time L_chest L_fund, sArrI E acode 25 code])) args s 0 0 A) vwCl E A [sLB E aL acoins aaccounts acode apaid aowner auses aidle auser aword acut L_price L_letter L_deposit L_keep L_refund L_users L_pieces L_words L_time L_chest L_fund, sArrI E acode 25 code] [some (.ref (aL 0)), some (.int x1), some (.int x2), some (.int x3), some (.int x4), some (.int x5), some (.int x6), some (.int x7), none, none] [] 9
  | 0, _, _, _, hf => by cases hf
  | n + 1, x5, x6, x7, hf => by
    have ih := ktX10_costOf_L9 F aL acoins aaccounts acode apaid aowner auses aidle auser aword acut x1 x2 x3 x4 L_price L_letter L_deposit L_pieces code L_keep L_refund L_users L_words L_time L_chest L_fund r hk n
    rw [fX10_costOf_L9] at hf
    refine g_iload F dX10_costOf_9 rfl ?_
    refine g_iload_n F dX10_costOf_11 rfl ?_
    obtain ⟨r_1, hg_1, hf⟩ := gb1_el hf
    refine g_callS (Lr := [sLB E aL acoins aaccounts acode apaid aowner auses aidle auser aword acut L_price L_letter L_deposit L_keep L_refund L_users L_pieces L_words L_time L_chest L_fund, sArrI E acode 25 code]) (As := [.int x1]) (rest := [.int x7]) F 1 (ctX10_size l E x1 r_1 hg_1) (va_cwS 1 F.2.2.2.2.2.1 gX10_costOf_X10_size rfl rfl rfl h0X10_size ⟨Nat.le_of_ble_eq_true rfl, Nat.le_of_ble_eq_true rfl⟩) [] [0, 1] rfl rfl rfl rfl rfl rfl (Nat.le_of_ble_eq_true rfl) dX10_costOf_12 ⟨(Nat.le_of_ble_eq_true rfl), (Nat.le_of_ble_eq_true rfl)⟩ ?_
    rintro v w ⟨rfl, rfl⟩
    refine g_norm (Lw' := [sLB E aL acoins aaccounts acode apaid aowner auses aidle auser aword acut L_price L_letter L_deposit L_keep L_refund L_users L_pieces L_words L_time L_chest L_fund, sArrI E acode 25 code]) (st' := [.int r_1, .int x7]) (pc' := 15) [0, 1] rfl rfl rfl rfl ?_
    refine g_icmp_gt F 128 dX10_costOf_15 (by decide) (fun hc_9 => ?_) (fun hc_9 => ?_)
    · replace hf := gi_t hc_9 hf
      refine g_mask [false, false, false, false, false, false, true, false, true, true] rfl ?_
      exact hk x6 hf
    · replace hf := gi_f hc_9 hf
      refine g_iload F dX10_costOf_18 rfl ?_
      refine g_iload_n F dX10_costOf_20 rfl ?_
      obtain ⟨r_2, hg_2, hf⟩ := gb1_el hf
      refine g_callS (Lr := [sLB E aL acoins aaccounts acode apaid aowner auses aidle auser aword acut L_price L_letter L_deposit L_keep L_refund L_users L_pieces L_words L_time L_chest L_fund, sArrI E acode 25 code]) (As := [.int x1]) (rest := [.int x7]) F 1 (ctX10_size l E x1 r_2 hg_2) (va_cwS 1 F.2.2.2.2.2.1 gX10_costOf_X10_size rfl rfl rfl h0X10_size ⟨Nat.le_of_ble_eq_true rfl, Nat.le_of_ble_eq_true rfl⟩) [] [0, 1] rfl rfl rfl rfl rfl rfl (Nat.le_of_ble_eq_true rfl) dX10_costOf_21 ⟨(Nat.le_of_ble_eq_true rfl), (Nat.le_of_ble_eq_true rfl)⟩ ?_
      rintro v w ⟨rfl, rfl⟩
      refine g_norm (Lw' := [sLB E aL acoins aaccounts acode apaid aowner auses aidle auser aword acut L_price L_letter L_deposit L_keep L_refund L_users L_pieces L_words L_time L_chest L_fund, sArrI E acode 25 code]) (st' := [.int r_2, .int x7]) (pc' := 24) [0, 1] rfl rfl rfl rfl ?_
      obtain ⟨j_1, hj_1, hf⟩ := Lt_el hf
      have hj_1 : j_1 = some r → Gj p l e rmX10_costOf s m args below meth c 0 0 (MQ below (gQ vwCl E A (fun v w => v = some (.int r) ∧ w = [sLB E aL acoins aaccounts acode apaid aowner auses aidle auser aword acut L_price L_letter L_deposit L_keep L_refund L_users L_pieces L_words L_time L_chest L_fund, sArrI E acode 25 code])) args s 0 0 A) vwCl E A [sLB E aL acoins aaccounts acode apaid aowner auses aidle auser aword acut L_price L_letter L_deposit L_keep L_refund L_users L_pieces L_words L_time L_chest L_fund, sArrI E acode 25 code] [some (.ref (aL 0)), some (.int x1), some (.int x2), some (.int x3), some (.int x4), some (.int x5), some (.int x6), some (.int x7), none, none] [] 39 := by
        intro hf
        rw [hj_1] at hf
        refine g_iload_n F dX10_costOf_39 rfl ?_
        refine g_iload F dX10_costOf_40 rfl ?_
        refine g_iload F dX10_costOf_42 rfl ?_
        obtain ⟨r_3, hg_3, hf⟩ := gb1_el hf
        refine g_callS (Lr := [sLB E aL acoins aaccounts acode apaid aowner auses aidle auser aword acut L_price L_letter L_deposit L_keep L_refund L_users L_pieces L_words L_time L_chest L_fund, sArrI E acode 25 code]) (As := [.int x1, .int x5, .int x7]) (rest := []) F 3 (ctX10_part l E x1 x5 x7 r_3 hg_3) (va_cwS 3 F.2.2.2.2.2.1 gX10_costOf_X10_part rfl rfl rfl h0X10_part ⟨Nat.le_of_ble_eq_true rfl, Nat.le_of_ble_eq_true rfl⟩) [] [0, 1] rfl rfl rfl rfl rfl rfl (Nat.le_of_ble_eq_true rfl) dX10_costOf_44 ⟨(Nat.le_of_ble_eq_true rfl), (Nat.le_of_ble_eq_true rfl)⟩ ?_
        rintro v w ⟨rfl, rfl⟩
        refine g_norm (Lw' := [sLB E aL acoins aaccounts acode apaid aowner auses aidle auser aword acut L_price L_letter L_deposit L_keep L_refund L_users L_pieces L_words L_time L_chest L_fund, sArrI E acode 25 code]) (st' := [.int r_3]) (pc' := 47) [0, 1] rfl rfl rfl rfl ?_
        refine g_istore (lv' := [some (.ref (aL 0)), some (.int x1), some (.int x2), some (.int x3), some (.int x4), some (.int x5), some (.int x6), some (.int x7), some (.int r_3), none]) F dX10_costOf_47 (Nat.le_of_ble_eq_true rfl) rfl rfl ?_
        refine g_iload F dX10_costOf_49 rfl ?_
        refine g_iload F dX10_costOf_51 rfl ?_
        obtain ⟨j_2, hj_2, hf⟩ := Lt_el hf
        have hj_2 : ∀ (t0_1 : Int32), j_2 t0_1 = some r → Gj p l e rmX10_costOf s m args below meth c 0 0 (MQ below (gQ vwCl E A (fun v w => v = some (.int r) ∧ w = [sLB E aL acoins aaccounts acode apaid aowner auses aidle auser aword acut L_price L_letter L_deposit L_keep L_refund L_users L_pieces L_words L_time L_chest L_fund, sArrI E acode 25 code])) args s 0 0 A) vwCl E A [sLB E aL acoins aaccounts acode apaid aowner auses aidle auser aword acut L_price L_letter L_deposit L_keep L_refund L_users L_pieces L_words L_time L_chest L_fund, sArrI E acode 25 code] [some (.ref (aL 0)), some (.int x1), some (.int x2), some (.int x3), some (.int x4), some (.int x5), some (.int x6), some (.int x7), some (.int r_3), none] [.int t0_1] 70 := by
          intro t0_1 hf
          rw [hj_2] at hf
          refine g_istore (lv' := [some (.ref (aL 0)), some (.int x1), some (.int x2), some (.int x3), some (.int x4), some (.int x5), some (.int x6), some (.int x7), some (.int r_3), some (.int t0_1)]) F dX10_costOf_70 (Nat.le_of_ble_eq_true rfl) rfl rfl ?_
          refine g_iload F dX10_costOf_72 rfl ?_
          refine g_iload F dX10_costOf_74 rfl ?_
          refine g_isub F dX10_costOf_76 ?_
          refine g_bipush F 6 dX10_costOf_77 rfl ?_
          refine g_icmp_gt F 91 dX10_costOf_79 (by decide) (fun hc_4 => ?_) (fun hc_4 => ?_)
          · replace hf := gi_t hc_4 hf
            refine g_iconst F (-1) dX10_costOf_91 rfl ?_
            cases hf
            exact g_iret F rfl ⟨rfl, rfl⟩ dX10_costOf_92
          · replace hf := gi_f hc_4 hf
            refine g_iload_n F dX10_costOf_82 rfl ?_
            obtain ⟨j_3, hj_3, hf⟩ := Lt_el hf
            have hj_3 : j_3 = some r → Gj p l e rmX10_costOf s m args below meth c 0 0 (MQ below (gQ vwCl E A (fun v w => v = some (.int r) ∧ w = [sLB E aL acoins aaccounts acode apaid aowner auses aidle auser aword acut L_price L_letter L_deposit L_keep L_refund L_users L_pieces L_words L_time L_chest L_fund, sArrI E acode 25 code])) args s 0 0 A) vwCl E A [sLB E aL acoins aaccounts acode apaid aowner auses aidle auser aword acut L_price L_letter L_deposit L_keep L_refund L_users L_pieces L_words L_time L_chest L_fund, sArrI E acode 25 code] [some (.ref (aL 0)), some (.int x1), some (.int x2), some (.int x3), some (.int x4), none, some (.int x6), some (.int x7), some (.int r_3), some (.int t0_1)] [] 93 := by
              intro hf
              rw [hj_3] at hf
              refine g_iload F dX10_costOf_93 rfl ?_
              refine g_aload_n F dX10_costOf_95 rfl ?_
              refine g_get (C := RX10) (T := TX10) (N := 21) F 0 0 2 rfl rfl rfl iX10_costOf_X10 (by decide) (by decide +kernel) rfl dX10_costOf_96 ?_
              refine g_iload F dX10_costOf_99 rfl ?_
              obtain ⟨j_4, hj_4, hf⟩ := Lt_el hf
              have hj_4 : ∀ (t0_2 : Int32), j_4 t0_2 = some r → Gj p l e rmX10_costOf s m args below meth c 0 0 (MQ below (gQ vwCl E A (fun v w => v = some (.int r) ∧ w = [sLB E aL acoins aaccounts acode apaid aowner auses aidle auser aword acut L_price L_letter L_deposit L_keep L_refund L_users L_pieces L_words L_time L_chest L_fund, sArrI E acode 25 code])) args s 0 0 A) vwCl E A [sLB E aL acoins aaccounts acode apaid aowner auses aidle auser aword acut L_price L_letter L_deposit L_keep L_refund L_users L_pieces L_words L_time L_chest L_fund, sArrI E acode 25 code] [some (.ref (aL 0)), some (.int x1), some (.int x2), some (.int x3), some (.int x4), none, none, some (.int x7), none, none] [.int t0_2, .int L_deposit, .int x6] 114 := by
                intro t0_2 hf
                rw [hj_4] at hf
                refine g_iadd F dX10_costOf_114 ?_
                refine g_iadd F dX10_costOf_115 ?_
                refine g_istore (lv' := [some (.ref (aL 0)), some (.int x1), some (.int x2), some (.int x3), some (.int x4), none, some (.int (x6 + (L_deposit + t0_2))), some (.int x7), none, none]) F dX10_costOf_116 (Nat.le_of_ble_eq_true rfl) rfl rfl ?_
                refine g_iload F dX10_costOf_118 rfl ?_
                refine g_istore (lv' := [some (.ref (aL 0)), some (.int x1), some (.int x2), some (.int x3), some (.int x4), some (.int x7), some (.int (x6 + (L_deposit + t0_2))), some (.int x7), none, none]) F dX10_costOf_120 (Nat.le_of_ble_eq_true rfl) rfl rfl ?_
                refine g_iinc (lv' := [some (.ref (aL 0)), some (.int x1), some (.int x2), some (.int x3), some (.int x4), some (.int x7), some (.int (x6 + (L_deposit + t0_2))), some (.int (x7 + 1)), none, none]) F (x7 + 1) dX10_costOf_122 rfl rfl rfl rfl ?_
                refine g_goto F 9 dX10_costOf_125 (by decide) ?_
                exact ih x7 (x6 + (L_deposit + t0_2)) (x7 + 1) hf
              refine g_ifeq F 108 dX10_costOf_101 (by decide) (fun hc_1 => ?_) (fun hc_1 => ?_)
              · replace hf := gi_t hc_1 hf
                refine g_aload_n F dX10_costOf_108 rfl ?_
                refine g_iload F dX10_costOf_109 rfl ?_
                obtain ⟨r_4, hg_4, hf⟩ := gb1_el hf
                refine g_callV (C := RX10) (T := TX10) (N := 21) (Lr := [sArrI E acode 25 code]) (As := [.int r_3]) (rest := [.int L_deposit, .int x6]) F 0 0 1 (ctX10_priceOf l E aL acoins aaccounts acode apaid aowner auses aidle auser aword acut r_3 L_price L_letter L_deposit L_keep L_refund L_users L_pieces L_words L_time L_chest L_fund r_4 hg_4) gX10_costOf_X10_priceOf rfl rfl rfl h0X10_priceOf ⟨Nat.le_of_ble_eq_true rfl, Nat.le_of_ble_eq_true rfl⟩ rfl rfl rfl [0] [1] rfl rfl rfl rfl rfl rfl (Nat.le_of_ble_eq_true rfl) dX10_costOf_111 ⟨(Nat.le_of_ble_eq_true rfl), (Nat.le_of_ble_eq_true rfl)⟩ ?_
                rintro v w ⟨rfl, rfl⟩
                refine g_norm (Lw' := [sLB E aL acoins aaccounts acode apaid aowner auses aidle auser aword acut L_price L_letter L_deposit L_keep L_refund L_users L_pieces L_words L_time L_chest L_fund, sArrI E acode 25 code]) (st' := [.int r_4, .int L_deposit, .int x6]) (pc' := 114) [0, 1] rfl rfl rfl rfl ?_
                refine g_mask [true, true, true, true, true, true, false, true, false, false] rfl ?_
                exact hj_4 r_4 hf
              · replace hf := gi_f hc_1 hf
                refine g_iconst F 0 dX10_costOf_104 rfl ?_
                refine g_goto F 114 dX10_costOf_105 (by decide) ?_
                refine g_mask [true, true, true, true, true, true, false, true, false, false] rfl ?_
                exact hj_4 0 hf
            refine g_ifne F 93 dX10_costOf_83 (by decide) (fun hc_3 => ?_) (fun hc_3 => ?_)
            · replace hf := gi_f hc_3 hf
              refine g_mask [true, true, true, true, true, false, true, true, true, true] rfl ?_
              exact hj_3 hf
            · replace hf := gi_t hc_3 hf
              refine g_iload F dX10_costOf_86 rfl ?_
              refine g_ifne F 93 dX10_costOf_88 (by decide) (fun hc_2 => ?_) (fun hc_2 => ?_)
              · replace hf := gi_f hc_2 hf
                refine g_mask [true, true, true, true, true, false, true, true, true, true] rfl ?_
                exact hj_3 hf
              · replace hf := gi_t hc_2 hf
                refine g_iconst F (-1) dX10_costOf_91 rfl ?_
                cases hf
                exact g_iret F rfl ⟨rfl, rfl⟩ dX10_costOf_92
        obtain ⟨j_5, hj_5, hf⟩ := Lt_el hf
        have hj_5 : j_5 = some r → Gj p l e rmX10_costOf s m args below meth c 0 0 (MQ below (gQ vwCl E A (fun v w => v = some (.int r) ∧ w = [sLB E aL acoins aaccounts acode apaid aowner auses aidle auser aword acut L_price L_letter L_deposit L_keep L_refund L_users L_pieces L_words L_time L_chest L_fund, sArrI E acode 25 code])) args s 0 0 A) vwCl E A [sLB E aL acoins aaccounts acode apaid aowner auses aidle auser aword acut L_price L_letter L_deposit L_keep L_refund L_users L_pieces L_words L_time L_chest L_fund, sArrI E acode 25 code] [some (.ref (aL 0)), some (.int x1), some (.int x2), some (.int x3), some (.int x4), some (.int x5), some (.int x6), some (.int x7), some (.int r_3), none] [] 65 := by
          intro hf
          rw [hj_5] at hf
          refine g_iconst F 1 dX10_costOf_65 rfl ?_
          refine g_goto F 70 dX10_costOf_66 (by decide) ?_
          exact hj_2 1 hf
        refine g_icmp_eq F 65 dX10_costOf_53 (by decide) (fun hc_6 => ?_) (fun hc_6 => ?_)
        · replace hf := gi_t hc_6 hf
          exact hj_5 hf
        · replace hf := gi_f hc_6 hf
          refine g_aload_n F dX10_costOf_56 rfl ?_
          refine g_iload F dX10_costOf_57 rfl ?_
          obtain ⟨r_5, hg_5, hf⟩ := gb1_el hf
          refine g_callV (C := RX10) (T := TX10) (N := 21) (Lr := []) (As := [.int r_3]) (rest := []) F 0 0 1 (ctX10_find l E aL acoins aaccounts acode apaid aowner auses aidle auser aword acut r_3 L_price L_letter L_deposit L_keep L_refund L_users L_pieces L_words L_time L_chest L_fund code r_5 hg_5) gX10_costOf_X10_find rfl rfl rfl h0X10_find ⟨Nat.le_of_ble_eq_true rfl, Nat.le_of_ble_eq_true rfl⟩ rfl rfl rfl [0, 1] [] rfl rfl rfl rfl rfl rfl (Nat.le_of_ble_eq_true rfl) dX10_costOf_59 ⟨(Nat.le_of_ble_eq_true rfl), (Nat.le_of_ble_eq_true rfl)⟩ ?_
          rintro v w ⟨rfl, rfl⟩
          refine g_norm (Lw' := [sLB E aL acoins aaccounts acode apaid aowner auses aidle auser aword acut L_price L_letter L_deposit L_keep L_refund L_users L_pieces L_words L_time L_chest L_fund, sArrI E acode 25 code]) (st' := [.int r_5]) (pc' := 62) [0, 1] rfl rfl rfl rfl ?_
          refine g_iflt F 69 dX10_costOf_62 (by decide) (fun hc_5 => ?_) (fun hc_5 => ?_)
          · replace hf := gi_t hc_5 hf
            refine g_iconst F 0 dX10_costOf_69 rfl ?_
            exact hj_2 0 hf
          · replace hf := gi_f hc_5 hf
            exact hj_5 hf
      refine g_icmp_ge F 39 dX10_costOf_24 (by decide) (fun hc_8 => ?_) (fun hc_8 => ?_)
      · replace hf := gi_t hc_8 hf
        exact hj_1 hf
      · replace hf := gi_f hc_8 hf
        refine g_iload_n F dX10_costOf_27 rfl ?_
        refine g_iload F dX10_costOf_28 rfl ?_
        refine g_ishr F dX10_costOf_30 ?_
        refine g_iconst F 1 dX10_costOf_31 rfl ?_
        refine g_iand F dX10_costOf_32 ?_
        refine g_ifne F 39 dX10_costOf_33 (by decide) (fun hc_7 => ?_) (fun hc_7 => ?_)
        · replace hf := gi_f hc_7 hf
          exact hj_1 hf
        · replace hf := gi_t hc_7 hf
          refine g_goto F 122 dX10_costOf_36 (by decide) ?_
          refine g_iinc (lv' := [some (.ref (aL 0)), some (.int x1), some (.int x2), some (.int x3), some (.int x4), some (.int x5), some (.int x6), some (.int (x7 + 1)), none, none]) F (x7 + 1) dX10_costOf_122 rfl rfl rfl rfl ?_
          refine g_goto F 9 dX10_costOf_125 (by decide) ?_
          exact ih x5 x6 (x7 + 1) hf
set_option maxHeartbeats 4000000 in
set_option maxRecDepth 100000 in
theorem ctX10_costOf (l : Launch) (E : gE) (aL acoins aaccounts acode apaid aowner auses aidle auser aword acut : Nat → Nat) (x1 : Int32) (x2 : Int32) (x3 : Int32) (x4 : Int32) (L_price : Int32) (L_letter : Int32) (L_deposit : Int32) (L_keep : Int32) (L_refund : Int32) (L_users : Int32) (L_pieces : Int32) (L_words : Int32) (L_time : Int32) (L_chest : Int32) (L_fund : Int32) (code : (Nat → Int32)) (r : Int32) (hf : fX10_costOf x1 x2 x3 x4 L_price L_letter L_deposit L_pieces code = some r) : gMet l yX10_costOf wsX10_costOf rmX10_costOf vwCl E [.ref (aL 0), .int x1, .int x2, .int x3, .int x4] [sLB E aL acoins aaccounts acode apaid aowner auses aidle auser aword acut L_price L_letter L_deposit L_keep L_refund L_users L_pieces L_words L_time L_chest L_fund, sArrI E acode 25 code] (fun v w => v = some (.int r) ∧ w = [sLB E aL acoins aaccounts acode apaid aowner auses aidle auser aword acut L_price L_letter L_deposit L_keep L_refund L_users L_pieces L_words L_time L_chest L_fund, sArrI E acode 25 code]) 0 0 := by
  refine g_entry [some (.ref (aL 0)), some (.int x1), some (.int x2), some (.int x3), some (.int x4), none, none, none, none, none] (by decide) rfl (Nat.le_of_ble_eq_true rfl) rfl ?_
  intro p e s m below meth c A F hnm
  unfold fX10_costOf at hf
  refine g_iconst F 0 dX10_costOf_0 rfl ?_
  refine g_istore (lv' := [some (.ref (aL 0)), some (.int x1), some (.int x2), some (.int x3), some (.int x4), some (.int 0), none, none, none, none]) F dX10_costOf_1 (Nat.le_of_ble_eq_true rfl) rfl rfl ?_
  refine g_iconst F 0 dX10_costOf_3 rfl ?_
  refine g_istore (lv' := [some (.ref (aL 0)), some (.int x1), some (.int x2), some (.int x3), some (.int x4), some (.int 0), some (.int 0), none, none, none]) F dX10_costOf_4 (Nat.le_of_ble_eq_true rfl) rfl rfl ?_
  refine g_iconst F 1 dX10_costOf_6 rfl ?_
  refine g_istore (lv' := [some (.ref (aL 0)), some (.int x1), some (.int x2), some (.int x3), some (.int x4), some (.int 0), some (.int 0), some (.int 1), none, none]) F dX10_costOf_7 (Nat.le_of_ble_eq_true rfl) rfl rfl ?_
  refine ktX10_costOf_L9 F aL acoins aaccounts acode apaid aowner auses aidle auser aword acut x1 x2 x3 x4 L_price L_letter L_deposit L_pieces code L_keep L_refund L_users L_words L_time L_chest L_fund r (fun x6_1 hf => ?_) FU 0 0 1 hf
  refine g_iload F dX10_costOf_128 rfl ?_
  cases hf
  exact g_iret F rfl ⟨rfl, rfl⟩ dX10_costOf_130
set_option maxHeartbeats 4000000 in
set_option maxRecDepth 100000 in
theorem ktX10_best_L9 {p : Program} {l : Launch} {e : Env} {s : State} {m : MethodId} {args : Array Value} {below : List Frame} {meth : Method} {c : Code} {E : gE} {A : Nat → Prop} (F : gFx p s m args meth c RX10 wsX10_best cX10_best 9 (some .int) vwCl E A) (aL acoins aaccounts acode apaid aowner auses aidle auser aword acut : Nat → Nat) (x1 : Int32) (x2 : Int32) (x3 : Int32) (L_price : Int32) (L_letter : Int32) (L_deposit : Int32) (L_pieces : Int32) (code : (Nat → Int32)) (L_keep : Int32) (L_refund : Int32) (L_users : Int32) (L_words : Int32) (L_time : Int32) (L_chest : Int32) (L_fund : Int32) (r : Int32) {k : Int32 → Option (Int32)} (hk : ∀ (x4 : Int32), k x4 = some r → Gj p l e rmX10_best s m args below meth c 0 0 (MQ below (gQ vwCl E A (fun v w => v = some (.int r) ∧ w = [sLB E aL acoins aaccounts acode apaid aowner auses aidle auser aword acut L_price L_letter L_deposit L_keep L_refund L_users L_pieces L_words L_time L_chest L_fund, sArrI E acode 25 code])) args s 0 0 A) vwCl E A [sLB E aL acoins aaccounts acode apaid aowner auses aidle auser aword acut L_price L_letter L_deposit L_keep L_refund L_users L_pieces L_words L_time L_chest L_fund, sArrI E acode 25 code] [none, none, none, none, some (.int x4), none, none, none, none] [] 121) : ∀ (n : Nat) (x4 : Int32) (x5 : Int32) (x6 : Int32), fX10_best_L9 x1 x2 x3 L_price L_letter L_deposit L_pieces code k n x4 x5 x6 = some r → Gj p l e rmX10_best s m args below meth c 0 0 (MQ below (gQ vwCl E A (fun v w => v = some (.int r) ∧ w = [sLB E aL acoins aaccounts acode apaid aowner auses aidle auser aword acut L_price L_letter L_deposit L_keep L_refund L_users L_pieces L_words L_time L_chest L_fund, sArrI E acode 25 code])) args s 0 0 A) vwCl E A [sLB E aL acoins aaccounts acode apaid aowner auses aidle auser aword acut L_price L_letter L_deposit L_keep L_refund L_users L_pieces L_words L_time L_chest L_fund, sArrI E acode 25 code] [some (.ref (aL 0)), some (.int x1), some (.int x2), some (.int x3), some (.int x4), some (.int x5), some (.int x6), none, none] [] 9
  | 0, _, _, _, hf => by cases hf
  | n + 1, x4, x5, x6, hf => by
    have ih := ktX10_best_L9 F aL acoins aaccounts acode apaid aowner auses aidle auser aword acut x1 x2 x3 L_price L_letter L_deposit L_pieces code L_keep L_refund L_users L_words L_time L_chest L_fund r hk n
    rw [fX10_best_L9] at hf
    refine g_iload F dX10_best_9 rfl ?_
    refine g_iconst F 1 dX10_best_11 rfl ?_
    refine g_iload_n F dX10_best_12 rfl ?_
    obtain ⟨r_1, hg_1, hf⟩ := gb1_el hf
    refine g_callS (Lr := [sLB E aL acoins aaccounts acode apaid aowner auses aidle auser aword acut L_price L_letter L_deposit L_keep L_refund L_users L_pieces L_words L_time L_chest L_fund, sArrI E acode 25 code]) (As := [.int x1]) (rest := [.int 1, .int x6]) F 1 (ctX10_size l E x1 r_1 hg_1) (va_cwS 1 F.2.2.2.2.2.1 gX10_best_X10_size rfl rfl rfl h0X10_size ⟨Nat.le_of_ble_eq_true rfl, Nat.le_of_ble_eq_true rfl⟩) [] [0, 1] rfl rfl rfl rfl rfl rfl (Nat.le_of_ble_eq_true rfl) dX10_best_13 ⟨(Nat.le_of_ble_eq_true rfl), (Nat.le_of_ble_eq_true rfl)⟩ ?_
    rintro v w ⟨rfl, rfl⟩
    refine g_norm (Lw' := [sLB E aL acoins aaccounts acode apaid aowner auses aidle auser aword acut L_price L_letter L_deposit L_keep L_refund L_users L_pieces L_words L_time L_chest L_fund, sArrI E acode 25 code]) (st' := [.int r_1, .int 1, .int x6]) (pc' := 16) [0, 1] rfl rfl rfl rfl ?_
    refine g_ishl F dX10_best_16 ?_
    refine g_icmp_ge F 121 dX10_best_17 (by decide) (fun hc_7 => ?_) (fun hc_7 => ?_)
    · replace hf := gi_t hc_7 hf
      refine g_mask [false, false, false, false, true, false, false, true, true] rfl ?_
      exact hk x4 hf
    · replace hf := gi_f hc_7 hf
      refine g_aload_n F dX10_best_20 rfl ?_
      refine g_iload_n F dX10_best_21 rfl ?_
      refine g_iload F dX10_best_22 rfl ?_
      refine g_iload_n F dX10_best_24 rfl ?_
      refine g_iload_n F dX10_best_25 rfl ?_
      obtain ⟨r_2, hg_2, hf⟩ := gb1_el hf
      refine g_callV (C := RX10) (T := TX10) (N := 21) (Lr := []) (As := [.int x1, .int x6, .int x2, .int x3]) (rest := []) F 0 0 4 (ctX10_costOf l E aL acoins aaccounts acode apaid aowner auses aidle auser aword acut x1 x6 x2 x3 L_price L_letter L_deposit L_keep L_refund L_users L_pieces L_words L_time L_chest L_fund code r_2 hg_2) gX10_best_X10_costOf rfl rfl rfl h0X10_costOf ⟨Nat.le_of_ble_eq_true rfl, Nat.le_of_ble_eq_true rfl⟩ rfl rfl rfl [0, 1] [] rfl rfl rfl rfl rfl rfl (Nat.le_of_ble_eq_true rfl) dX10_best_26 ⟨(Nat.le_of_ble_eq_true rfl), (Nat.le_of_ble_eq_true rfl)⟩ ?_
      rintro v w ⟨rfl, rfl⟩
      refine g_norm (Lw' := [sLB E aL acoins aaccounts acode apaid aowner auses aidle auser aword acut L_price L_letter L_deposit L_keep L_refund L_users L_pieces L_words L_time L_chest L_fund, sArrI E acode 25 code]) (st' := [.int r_2]) (pc' := 29) [0, 1] rfl rfl rfl rfl ?_
      refine g_istore (lv' := [some (.ref (aL 0)), some (.int x1), some (.int x2), some (.int x3), some (.int x4), some (.int x5), some (.int x6), some (.int r_2), none]) F dX10_best_29 (Nat.le_of_ble_eq_true rfl) rfl rfl ?_
      refine g_iload F dX10_best_31 rfl ?_
      refine g_ifge F 39 dX10_best_33 (by decide) (fun hc_6 => ?_) (fun hc_6 => ?_)
      · replace hf := gi_t hc_6 hf
        refine g_iload F dX10_best_39 rfl ?_
        obtain ⟨j_1, hj_1, hf⟩ := Lt_el hf
        have hj_1 : ∀ (t0_1 : Int32), j_1 t0_1 = some r → Gj p l e rmX10_best s m args below meth c 0 0 (MQ below (gQ vwCl E A (fun v w => v = some (.int r) ∧ w = [sLB E aL acoins aaccounts acode apaid aowner auses aidle auser aword acut L_price L_letter L_deposit L_keep L_refund L_users L_pieces L_words L_time L_chest L_fund, sArrI E acode 25 code])) args s 0 0 A) vwCl E A [sLB E aL acoins aaccounts acode apaid aowner auses aidle auser aword acut L_price L_letter L_deposit L_keep L_refund L_users L_pieces L_words L_time L_chest L_fund, sArrI E acode 25 code] [some (.ref (aL 0)), some (.int x1), some (.int x2), some (.int x3), some (.int x4), some (.int x5), some (.int x6), some (.int r_2), none] [.int t0_1] 53 := by
          intro t0_1 hf
          rw [hj_1] at hf
          refine g_istore (lv' := [some (.ref (aL 0)), some (.int x1), some (.int x2), some (.int x3), some (.int x4), some (.int x5), some (.int x6), some (.int r_2), some (.int t0_1)]) F dX10_best_53 (Nat.le_of_ble_eq_true rfl) rfl rfl ?_
          refine g_iload F dX10_best_55 rfl ?_
          obtain ⟨j_2, hj_2, hf⟩ := Lt_el hf
          have hj_2 : ∀ (x8_1 : Int32), j_2 x8_1 = some r → Gj p l e rmX10_best s m args below meth c 0 0 (MQ below (gQ vwCl E A (fun v w => v = some (.int r) ∧ w = [sLB E aL acoins aaccounts acode apaid aowner auses aidle auser aword acut L_price L_letter L_deposit L_keep L_refund L_users L_pieces L_words L_time L_chest L_fund, sArrI E acode 25 code])) args s 0 0 A) vwCl E A [sLB E aL acoins aaccounts acode apaid aowner auses aidle auser aword acut L_price L_letter L_deposit L_keep L_refund L_users L_pieces L_words L_time L_chest L_fund, sArrI E acode 25 code] [some (.ref (aL 0)), some (.int x1), some (.int x2), some (.int x3), some (.int x4), some (.int x5), some (.int x6), some (.int r_2), some (.int x8_1)] [] 73 := by
            intro x8_1 hf
            rw [hj_2] at hf
            refine g_iload F dX10_best_73 rfl ?_
            obtain ⟨j_3, hj_3, hf⟩ := Lt_el hf
            have hj_3 : ∀ (x8_2 : Int32), j_3 x8_2 = some r → Gj p l e rmX10_best s m args below meth c 0 0 (MQ below (gQ vwCl E A (fun v w => v = some (.int r) ∧ w = [sLB E aL acoins aaccounts acode apaid aowner auses aidle auser aword acut L_price L_letter L_deposit L_keep L_refund L_users L_pieces L_words L_time L_chest L_fund, sArrI E acode 25 code])) args s 0 0 A) vwCl E A [sLB E aL acoins aaccounts acode apaid aowner auses aidle auser aword acut L_price L_letter L_deposit L_keep L_refund L_users L_pieces L_words L_time L_chest L_fund, sArrI E acode 25 code] [some (.ref (aL 0)), some (.int x1), some (.int x2), some (.int x3), some (.int x4), some (.int x5), some (.int x6), some (.int r_2), some (.int x8_2)] [] 99 := by
              intro x8_2 hf
              rw [hj_3] at hf
              refine g_iload F dX10_best_99 rfl ?_
              refine g_iflt F 107 dX10_best_101 (by decide) (fun hc_1 => ?_) (fun hc_1 => ?_)
              · replace hf := gi_t hc_1 hf
                refine g_iload F dX10_best_107 rfl ?_
                refine g_istore (lv' := [some (.ref (aL 0)), some (.int x1), some (.int x2), some (.int x3), some (.int x6), some (.int x5), some (.int x6), some (.int r_2), some (.int x8_2)]) F dX10_best_109 (Nat.le_of_ble_eq_true rfl) rfl rfl ?_
                refine g_iload F dX10_best_111 rfl ?_
                refine g_istore (lv' := [some (.ref (aL 0)), some (.int x1), some (.int x2), some (.int x3), some (.int x6), some (.int r_2), some (.int x6), some (.int r_2), some (.int x8_2)]) F dX10_best_113 (Nat.le_of_ble_eq_true rfl) rfl rfl ?_
                refine g_iinc (lv' := [some (.ref (aL 0)), some (.int x1), some (.int x2), some (.int x3), some (.int x6), some (.int r_2), some (.int (x6 + 2)), some (.int r_2), some (.int x8_2)]) F (x6 + 2) dX10_best_115 rfl rfl rfl rfl ?_
                refine g_goto F 9 dX10_best_118 (by decide) ?_
                refine g_mask [true, true, true, true, true, true, true, false, false] rfl ?_
                exact ih x6 r_2 (x6 + 2) hf
              · replace hf := gi_f hc_1 hf
                refine g_goto F 115 dX10_best_104 (by decide) ?_
                refine g_iinc (lv' := [some (.ref (aL 0)), some (.int x1), some (.int x2), some (.int x3), some (.int x4), some (.int x5), some (.int (x6 + 2)), some (.int r_2), some (.int x8_2)]) F (x6 + 2) dX10_best_115 rfl rfl rfl rfl ?_
                refine g_goto F 9 dX10_best_118 (by decide) ?_
                refine g_mask [true, true, true, true, true, true, true, false, false] rfl ?_
                exact ih x4 x5 (x6 + 2) hf
            refine g_ifne F 99 dX10_best_75 (by decide) (fun hc_3 => ?_) (fun hc_3 => ?_)
            · replace hf := gi_f hc_3 hf
              exact hj_3 x8_1 hf
            · replace hf := gi_t hc_3 hf
              refine g_iload F dX10_best_78 rfl ?_
              refine g_iload F dX10_best_80 rfl ?_
              refine g_iload F dX10_best_82 rfl ?_
              refine g_ixor F dX10_best_84 ?_
              obtain ⟨r_3, hg_3, hf⟩ := gb1_el hf
              refine g_callS (Lr := [sLB E aL acoins aaccounts acode apaid aowner auses aidle auser aword acut L_price L_letter L_deposit L_keep L_refund L_users L_pieces L_words L_time L_chest L_fund, sArrI E acode 25 code]) (As := [.int (x6 ^^^ x4)]) (rest := [.int x6]) F 1 (ctJ6_lowestOneBit_0f7a4 l E (x6 ^^^ x4) r_3 hg_3) (va_cwS 1 F.2.2.2.2.2.1 gX10_best_J6_lowestOneBit_0f7a4 rfl rfl rfl h0J6_lowestOneBit_0f7a4 ⟨Nat.le_of_ble_eq_true rfl, Nat.le_of_ble_eq_true rfl⟩) [] [0, 1] rfl rfl rfl rfl rfl rfl (Nat.le_of_ble_eq_true rfl) dX10_best_85 ⟨(Nat.le_of_ble_eq_true rfl), (Nat.le_of_ble_eq_true rfl)⟩ ?_
              rintro v w ⟨rfl, rfl⟩
              refine g_norm (Lw' := [sLB E aL acoins aaccounts acode apaid aowner auses aidle auser aword acut L_price L_letter L_deposit L_keep L_refund L_users L_pieces L_words L_time L_chest L_fund, sArrI E acode 25 code]) (st' := [.int r_3, .int x6]) (pc' := 88) [0, 1] rfl rfl rfl rfl ?_
              refine g_iand F dX10_best_88 ?_
              obtain ⟨j_4, hj_4, hf⟩ := Lt_el hf
              have hj_4 : ∀ (t0_2 : Int32), j_4 t0_2 = some r → Gj p l e rmX10_best s m args below meth c 0 0 (MQ below (gQ vwCl E A (fun v w => v = some (.int r) ∧ w = [sLB E aL acoins aaccounts acode apaid aowner auses aidle auser aword acut L_price L_letter L_deposit L_keep L_refund L_users L_pieces L_words L_time L_chest L_fund, sArrI E acode 25 code])) args s 0 0 A) vwCl E A [sLB E aL acoins aaccounts acode apaid aowner auses aidle auser aword acut L_price L_letter L_deposit L_keep L_refund L_users L_pieces L_words L_time L_chest L_fund, sArrI E acode 25 code] [some (.ref (aL 0)), some (.int x1), some (.int x2), some (.int x3), some (.int x4), some (.int x5), some (.int x6), some (.int r_2), none] [.int t0_2] 97 := by
                intro t0_2 hf
                rw [hj_4] at hf
                refine g_istore (lv' := [some (.ref (aL 0)), some (.int x1), some (.int x2), some (.int x3), some (.int x4), some (.int x5), some (.int x6), some (.int r_2), some (.int t0_2)]) F dX10_best_97 (Nat.le_of_ble_eq_true rfl) rfl rfl ?_
                exact hj_3 t0_2 hf
              refine g_ifeq F 96 dX10_best_89 (by decide) (fun hc_2 => ?_) (fun hc_2 => ?_)
              · replace hf := gi_t hc_2 hf
                refine g_iconst F (-1) dX10_best_96 rfl ?_
                refine g_mask [true, true, true, true, true, true, true, true, false] rfl ?_
                exact hj_4 (-1) hf
              · replace hf := gi_f hc_2 hf
                refine g_iconst F 1 dX10_best_92 rfl ?_
                refine g_goto F 97 dX10_best_93 (by decide) ?_
                refine g_mask [true, true, true, true, true, true, true, true, false] rfl ?_
                exact hj_4 1 hf
          refine g_ifne F 73 dX10_best_57 (by decide) (fun hc_4 => ?_) (fun hc_4 => ?_)
          · replace hf := gi_f hc_4 hf
            exact hj_2 t0_1 hf
          · replace hf := gi_t hc_4 hf
            refine g_iload F dX10_best_60 rfl ?_
            obtain ⟨r_4, hg_4, hf⟩ := gb1_el hf
            refine g_callS (Lr := [sLB E aL acoins aaccounts acode apaid aowner auses aidle auser aword acut L_price L_letter L_deposit L_keep L_refund L_users L_pieces L_words L_time L_chest L_fund, sArrI E acode 25 code]) (As := [.int x6]) (rest := []) F 1 (ctJ6_bitCount_0f7a4 l E x6 r_4 hg_4) (va_cwS 1 F.2.2.2.2.2.1 gX10_best_J6_bitCount_0f7a4 rfl rfl rfl h0J6_bitCount_0f7a4 ⟨Nat.le_of_ble_eq_true rfl, Nat.le_of_ble_eq_true rfl⟩) [] [0, 1] rfl rfl rfl rfl rfl rfl (Nat.le_of_ble_eq_true rfl) dX10_best_62 ⟨(Nat.le_of_ble_eq_true rfl), (Nat.le_of_ble_eq_true rfl)⟩ ?_
            rintro v w ⟨rfl, rfl⟩
            refine g_norm (Lw' := [sLB E aL acoins aaccounts acode apaid aowner auses aidle auser aword acut L_price L_letter L_deposit L_keep L_refund L_users L_pieces L_words L_time L_chest L_fund, sArrI E acode 25 code]) (st' := [.int r_4]) (pc' := 65) [0, 1] rfl rfl rfl rfl ?_
            refine g_iload F dX10_best_65 rfl ?_
            obtain ⟨r_5, hg_5, hf⟩ := gb1_el hf
            refine g_callS (Lr := [sLB E aL acoins aaccounts acode apaid aowner auses aidle auser aword acut L_price L_letter L_deposit L_keep L_refund L_users L_pieces L_words L_time L_chest L_fund, sArrI E acode 25 code]) (As := [.int x4]) (rest := [.int r_4]) F 1 (ctJ6_bitCount_0f7a4 l E x4 r_5 hg_5) (va_cwS 1 F.2.2.2.2.2.1 gX10_best_J6_bitCount_0f7a4 rfl rfl rfl h0J6_bitCount_0f7a4 ⟨Nat.le_of_ble_eq_true rfl, Nat.le_of_ble_eq_true rfl⟩) [] [0, 1] rfl rfl rfl rfl rfl rfl (Nat.le_of_ble_eq_true rfl) dX10_best_67 ⟨(Nat.le_of_ble_eq_true rfl), (Nat.le_of_ble_eq_true rfl)⟩ ?_
            rintro v w ⟨rfl, rfl⟩
            refine g_norm (Lw' := [sLB E aL acoins aaccounts acode apaid aowner auses aidle auser aword acut L_price L_letter L_deposit L_keep L_refund L_users L_pieces L_words L_time L_chest L_fund, sArrI E acode 25 code]) (st' := [.int r_5, .int r_4]) (pc' := 70) [0, 1] rfl rfl rfl rfl ?_
            refine g_isub F dX10_best_70 ?_
            refine g_istore (lv' := [some (.ref (aL 0)), some (.int x1), some (.int x2), some (.int x3), some (.int x4), some (.int x5), some (.int x6), some (.int r_2), some (.int (r_4 - r_5))]) F dX10_best_71 (Nat.le_of_ble_eq_true rfl) rfl rfl ?_
            exact hj_2 (r_4 - r_5) hf
        refine g_ifge F 48 dX10_best_41 (by decide) (fun hc_5 => ?_) (fun hc_5 => ?_)
        · replace hf := gi_t hc_5 hf
          refine g_iload F dX10_best_48 rfl ?_
          refine g_iload F dX10_best_50 rfl ?_
          refine g_isub F dX10_best_52 ?_
          exact hj_1 (r_2 - x5) hf
        · replace hf := gi_f hc_5 hf
          refine g_iconst F (-1) dX10_best_44 rfl ?_
          refine g_goto F 53 dX10_best_45 (by decide) ?_
          exact hj_1 (-1) hf
      · replace hf := gi_f hc_6 hf
        refine g_goto F 115 dX10_best_36 (by decide) ?_
        refine g_iinc (lv' := [some (.ref (aL 0)), some (.int x1), some (.int x2), some (.int x3), some (.int x4), some (.int x5), some (.int (x6 + 2)), some (.int r_2), none]) F (x6 + 2) dX10_best_115 rfl rfl rfl rfl ?_
        refine g_goto F 9 dX10_best_118 (by decide) ?_
        refine g_mask [true, true, true, true, true, true, true, false, true] rfl ?_
        exact ih x4 x5 (x6 + 2) hf
set_option maxHeartbeats 4000000 in
set_option maxRecDepth 100000 in
theorem ctX10_best (l : Launch) (E : gE) (aL acoins aaccounts acode apaid aowner auses aidle auser aword acut : Nat → Nat) (x1 : Int32) (x2 : Int32) (x3 : Int32) (L_price : Int32) (L_letter : Int32) (L_deposit : Int32) (L_keep : Int32) (L_refund : Int32) (L_users : Int32) (L_pieces : Int32) (L_words : Int32) (L_time : Int32) (L_chest : Int32) (L_fund : Int32) (code : (Nat → Int32)) (r : Int32) (hf : fX10_best x1 x2 x3 L_price L_letter L_deposit L_pieces code = some r) : gMet l yX10_best wsX10_best rmX10_best vwCl E [.ref (aL 0), .int x1, .int x2, .int x3] [sLB E aL acoins aaccounts acode apaid aowner auses aidle auser aword acut L_price L_letter L_deposit L_keep L_refund L_users L_pieces L_words L_time L_chest L_fund, sArrI E acode 25 code] (fun v w => v = some (.int r) ∧ w = [sLB E aL acoins aaccounts acode apaid aowner auses aidle auser aword acut L_price L_letter L_deposit L_keep L_refund L_users L_pieces L_words L_time L_chest L_fund, sArrI E acode 25 code]) 0 0 := by
  refine g_entry [some (.ref (aL 0)), some (.int x1), some (.int x2), some (.int x3), none, none, none, none, none] (by decide) rfl (Nat.le_of_ble_eq_true rfl) rfl ?_
  intro p e s m below meth c A F hnm
  unfold fX10_best at hf
  refine g_iconst F (-1) dX10_best_0 rfl ?_
  refine g_istore (lv' := [some (.ref (aL 0)), some (.int x1), some (.int x2), some (.int x3), some (.int (-1)), none, none, none, none]) F dX10_best_1 (Nat.le_of_ble_eq_true rfl) rfl rfl ?_
  refine g_iconst F 0 dX10_best_3 rfl ?_
  refine g_istore (lv' := [some (.ref (aL 0)), some (.int x1), some (.int x2), some (.int x3), some (.int (-1)), some (.int 0), none, none, none]) F dX10_best_4 (Nat.le_of_ble_eq_true rfl) rfl rfl ?_
  refine g_iconst F 0 dX10_best_6 rfl ?_
  refine g_istore (lv' := [some (.ref (aL 0)), some (.int x1), some (.int x2), some (.int x3), some (.int (-1)), some (.int 0), some (.int 0), none, none]) F dX10_best_7 (Nat.le_of_ble_eq_true rfl) rfl rfl ?_
  refine ktX10_best_L9 F aL acoins aaccounts acode apaid aowner auses aidle auser aword acut x1 x2 x3 L_price L_letter L_deposit L_pieces code L_keep L_refund L_users L_words L_time L_chest L_fund r (fun x4_1 hf => ?_) FU (-1) 0 0 hf
  refine g_iload F dX10_best_121 rfl ?_
  cases hf
  exact g_iret F rfl ⟨rfl, rfl⟩ dX10_best_123
set_option maxHeartbeats 4000000 in
set_option maxRecDepth 100000 in
theorem ktX10_ways_L4 {p : Program} {l : Launch} {e : Env} {s : State} {m : MethodId} {args : Array Value} {below : List Frame} {meth : Method} {c : Code} {E : gE} {A : Nat → Prop} (F : gFx p s m args meth c RX10 wsX10_ways cX10_ways 4 (some .int) vwCl E A) (aL acoins aaccounts acode apaid aowner auses aidle auser aword acut : Nat → Nat) (x1 : Int32) (L_price : Int32) (L_letter : Int32) (L_deposit : Int32) (L_pieces : Int32) (code : (Nat → Int32)) (L_keep : Int32) (L_refund : Int32) (L_users : Int32) (L_words : Int32) (L_time : Int32) (L_chest : Int32) (L_fund : Int32) (r : Int32) {k : Int32 → Option (Int32)} (hk : ∀ (x2 : Int32), k x2 = some r → Gj p l e rmX10_ways s m args below meth c 0 0 (MQ below (gQ vwCl E A (fun v w => v = some (.int r) ∧ w = [sLB E aL acoins aaccounts acode apaid aowner auses aidle auser aword acut L_price L_letter L_deposit L_keep L_refund L_users L_pieces L_words L_time L_chest L_fund, sArrI E acode 25 code])) args s 0 0 A) vwCl E A [sLB E aL acoins aaccounts acode apaid aowner auses aidle auser aword acut L_price L_letter L_deposit L_keep L_refund L_users L_pieces L_words L_time L_chest L_fund, sArrI E acode 25 code] [none, none, some (.int x2), none] [] 34) : ∀ (n : Nat) (x2 : Int32) (x3 : Int32), fX10_ways_L4 x1 L_price L_letter L_deposit L_pieces code k n x2 x3 = some r → Gj p l e rmX10_ways s m args below meth c 0 0 (MQ below (gQ vwCl E A (fun v w => v = some (.int r) ∧ w = [sLB E aL acoins aaccounts acode apaid aowner auses aidle auser aword acut L_price L_letter L_deposit L_keep L_refund L_users L_pieces L_words L_time L_chest L_fund, sArrI E acode 25 code])) args s 0 0 A) vwCl E A [sLB E aL acoins aaccounts acode apaid aowner auses aidle auser aword acut L_price L_letter L_deposit L_keep L_refund L_users L_pieces L_words L_time L_chest L_fund, sArrI E acode 25 code] [some (.ref (aL 0)), some (.int x1), some (.int x2), some (.int x3)] [] 4
  | 0, _, _, hf => by cases hf
  | n + 1, x2, x3, hf => by
    have ih := ktX10_ways_L4 F aL acoins aaccounts acode apaid aowner auses aidle auser aword acut x1 L_price L_letter L_deposit L_pieces code L_keep L_refund L_users L_words L_time L_chest L_fund r hk n
    rw [fX10_ways_L4] at hf
    refine g_iload_n F dX10_ways_4 rfl ?_
    refine g_iconst F 1 dX10_ways_5 rfl ?_
    refine g_iload_n F dX10_ways_6 rfl ?_
    obtain ⟨r_1, hg_1, hf⟩ := gb1_el hf
    refine g_callS (Lr := [sLB E aL acoins aaccounts acode apaid aowner auses aidle auser aword acut L_price L_letter L_deposit L_keep L_refund L_users L_pieces L_words L_time L_chest L_fund, sArrI E acode 25 code]) (As := [.int x1]) (rest := [.int 1, .int x3]) F 1 (ctX10_size l E x1 r_1 hg_1) (va_cwS 1 F.2.2.2.2.2.1 gX10_ways_X10_size rfl rfl rfl h0X10_size ⟨Nat.le_of_ble_eq_true rfl, Nat.le_of_ble_eq_true rfl⟩) [] [0, 1] rfl rfl rfl rfl rfl rfl (Nat.le_of_ble_eq_true rfl) dX10_ways_7 ⟨(Nat.le_of_ble_eq_true rfl), (Nat.le_of_ble_eq_true rfl)⟩ ?_
    rintro v w ⟨rfl, rfl⟩
    refine g_norm (Lw' := [sLB E aL acoins aaccounts acode apaid aowner auses aidle auser aword acut L_price L_letter L_deposit L_keep L_refund L_users L_pieces L_words L_time L_chest L_fund, sArrI E acode 25 code]) (st' := [.int r_1, .int 1, .int x3]) (pc' := 10) [0, 1] rfl rfl rfl rfl ?_
    refine g_ishl F dX10_ways_10 ?_
    refine g_icmp_ge F 34 dX10_ways_11 (by decide) (fun hc_2 => ?_) (fun hc_2 => ?_)
    · replace hf := gi_t hc_2 hf
      refine g_mask [false, false, true, false] rfl ?_
      exact hk x2 hf
    · replace hf := gi_f hc_2 hf
      refine g_aload_n F dX10_ways_14 rfl ?_
      refine g_iload_n F dX10_ways_15 rfl ?_
      refine g_iload_n F dX10_ways_16 rfl ?_
      refine g_iconst F 0 dX10_ways_17 rfl ?_
      refine g_iconst F 0 dX10_ways_18 rfl ?_
      obtain ⟨r_2, hg_2, hf⟩ := gb1_el hf
      refine g_callV (C := RX10) (T := TX10) (N := 21) (Lr := []) (As := [.int x1, .int x3, .int 0, .int 0]) (rest := []) F 0 0 4 (ctX10_costOf l E aL acoins aaccounts acode apaid aowner auses aidle auser aword acut x1 x3 0 0 L_price L_letter L_deposit L_keep L_refund L_users L_pieces L_words L_time L_chest L_fund code r_2 hg_2) gX10_ways_X10_costOf rfl rfl rfl h0X10_costOf ⟨Nat.le_of_ble_eq_true rfl, Nat.le_of_ble_eq_true rfl⟩ rfl rfl rfl [0, 1] [] rfl rfl rfl rfl rfl rfl (Nat.le_of_ble_eq_true rfl) dX10_ways_19 ⟨(Nat.le_of_ble_eq_true rfl), (Nat.le_of_ble_eq_true rfl)⟩ ?_
      rintro v w ⟨rfl, rfl⟩
      refine g_norm (Lw' := [sLB E aL acoins aaccounts acode apaid aowner auses aidle auser aword acut L_price L_letter L_deposit L_keep L_refund L_users L_pieces L_words L_time L_chest L_fund, sArrI E acode 25 code]) (st' := [.int r_2]) (pc' := 22) [0, 1] rfl rfl rfl rfl ?_
      refine g_iflt F 28 dX10_ways_22 (by decide) (fun hc_1 => ?_) (fun hc_1 => ?_)
      · replace hf := gi_t hc_1 hf
        refine g_iinc (lv' := [some (.ref (aL 0)), some (.int x1), some (.int x2), some (.int (x3 + 2))]) F (x3 + 2) dX10_ways_28 rfl rfl rfl rfl ?_
        refine g_goto F 4 dX10_ways_31 (by decide) ?_
        exact ih x2 (x3 + 2) hf
      · replace hf := gi_f hc_1 hf
        refine g_iinc (lv' := [some (.ref (aL 0)), some (.int x1), some (.int (x2 + 1)), some (.int x3)]) F (x2 + 1) dX10_ways_25 rfl rfl rfl rfl ?_
        refine g_iinc (lv' := [some (.ref (aL 0)), some (.int x1), some (.int (x2 + 1)), some (.int (x3 + 2))]) F (x3 + 2) dX10_ways_28 rfl rfl rfl rfl ?_
        refine g_goto F 4 dX10_ways_31 (by decide) ?_
        exact ih (x2 + 1) (x3 + 2) hf
set_option maxHeartbeats 4000000 in
set_option maxRecDepth 100000 in
theorem ctX10_ways (l : Launch) (E : gE) (aL acoins aaccounts acode apaid aowner auses aidle auser aword acut : Nat → Nat) (x1 : Int32) (L_price : Int32) (L_letter : Int32) (L_deposit : Int32) (L_keep : Int32) (L_refund : Int32) (L_users : Int32) (L_pieces : Int32) (L_words : Int32) (L_time : Int32) (L_chest : Int32) (L_fund : Int32) (code : (Nat → Int32)) (r : Int32) (hf : fX10_ways x1 L_price L_letter L_deposit L_pieces code = some r) : gMet l yX10_ways wsX10_ways rmX10_ways vwCl E [.ref (aL 0), .int x1] [sLB E aL acoins aaccounts acode apaid aowner auses aidle auser aword acut L_price L_letter L_deposit L_keep L_refund L_users L_pieces L_words L_time L_chest L_fund, sArrI E acode 25 code] (fun v w => v = some (.int r) ∧ w = [sLB E aL acoins aaccounts acode apaid aowner auses aidle auser aword acut L_price L_letter L_deposit L_keep L_refund L_users L_pieces L_words L_time L_chest L_fund, sArrI E acode 25 code]) 0 0 := by
  refine g_entry [some (.ref (aL 0)), some (.int x1), none, none] (by decide) rfl (Nat.le_of_ble_eq_true rfl) rfl ?_
  intro p e s m below meth c A F hnm
  unfold fX10_ways at hf
  refine g_iconst F 0 dX10_ways_0 rfl ?_
  refine g_istore_n (lv' := [some (.ref (aL 0)), some (.int x1), some (.int 0), none]) F dX10_ways_1 (Nat.le_of_ble_eq_true rfl) rfl rfl ?_
  refine g_iconst F 0 dX10_ways_2 rfl ?_
  refine g_istore_n (lv' := [some (.ref (aL 0)), some (.int x1), some (.int 0), some (.int 0)]) F dX10_ways_3 (Nat.le_of_ble_eq_true rfl) rfl rfl ?_
  refine ktX10_ways_L4 F aL acoins aaccounts acode apaid aowner auses aidle auser aword acut x1 L_price L_letter L_deposit L_pieces code L_keep L_refund L_users L_words L_time L_chest L_fund r (fun x2_1 hf => ?_) FU 0 0 hf
  refine g_iload_n F dX10_ways_34 rfl ?_
  cases hf
  exact g_iret F rfl ⟨rfl, rfl⟩ dX10_ways_35
set_option maxHeartbeats 4000000 in
set_option maxRecDepth 100000 in
theorem ctX10_fewest (l : Launch) (E : gE) (aL acoins aaccounts acode apaid aowner auses aidle auser aword acut : Nat → Nat) (x1 : Int32) (x2 : Int32) (L_price : Int32) (L_letter : Int32) (L_deposit : Int32) (L_keep : Int32) (L_refund : Int32) (L_users : Int32) (L_pieces : Int32) (L_words : Int32) (L_time : Int32) (L_chest : Int32) (L_fund : Int32) (code : (Nat → Int32)) (word : (Nat → Int32)) (r : Int32) (hf : fX10_fewest x1 x2 L_price L_letter L_deposit L_pieces code word = some r) : gMet l yX10_fewest wsX10_fewest rmX10_fewest vwCl E [.ref (aL 0), .int x1, .int x2] [sLB E aL acoins aaccounts acode apaid aowner auses aidle auser aword acut L_price L_letter L_deposit L_keep L_refund L_users L_pieces L_words L_time L_chest L_fund, sArrI E acode 25 code, sArrI E aword 17 word] (fun v w => v = some (.int r) ∧ w = [sLB E aL acoins aaccounts acode apaid aowner auses aidle auser aword acut L_price L_letter L_deposit L_keep L_refund L_users L_pieces L_words L_time L_chest L_fund, sArrI E acode 25 code, sArrI E aword 17 word]) 0 0 := by
  refine g_entry [some (.ref (aL 0)), some (.int x1), some (.int x2)] (by decide) rfl (Nat.le_of_ble_eq_true rfl) rfl ?_
  intro p e s m below meth c A F hnm
  unfold fX10_fewest at hf
  refine g_aload_n F dX10_fewest_0 rfl ?_
  refine g_aload_n F dX10_fewest_1 rfl ?_
  refine g_get (C := RX10) (T := TX10) (N := 21) F 0 0 19 rfl rfl rfl iX10_fewest_X10 (by decide) (by decide +kernel) rfl dX10_fewest_2 ?_
  refine g_iload_n F dX10_fewest_5 rfl ?_
  obtain ⟨hb_1, hf⟩ := gb_in hf
  refine g_iald F 2 0 (x1.toNatClampNeg) rfl rfl rfl hb_1 dX10_fewest_6 ?_
  refine g_iconst F 0 dX10_fewest_7 rfl ?_
  refine g_iload_n F dX10_fewest_8 rfl ?_
  obtain ⟨r_1, hg_1, hf⟩ := gb1_el hf
  refine g_callV (C := RX10) (T := TX10) (N := 21) (Lr := [sArrI E aword 17 word]) (As := [.int (word (x1.toNatClampNeg)), .int 0, .int x2]) (rest := []) F 0 0 3 (ctX10_best l E aL acoins aaccounts acode apaid aowner auses aidle auser aword acut (word (x1.toNatClampNeg)) 0 x2 L_price L_letter L_deposit L_keep L_refund L_users L_pieces L_words L_time L_chest L_fund code r_1 hg_1) gX10_fewest_X10_best rfl rfl rfl h0X10_best ⟨Nat.le_of_ble_eq_true rfl, Nat.le_of_ble_eq_true rfl⟩ rfl rfl rfl [0, 1] [2] rfl rfl rfl rfl rfl rfl (Nat.le_of_ble_eq_true rfl) dX10_fewest_9 ⟨(Nat.le_of_ble_eq_true rfl), (Nat.le_of_ble_eq_true rfl)⟩ ?_
  rintro v w ⟨rfl, rfl⟩
  refine g_norm (Lw' := [sLB E aL acoins aaccounts acode apaid aowner auses aidle auser aword acut L_price L_letter L_deposit L_keep L_refund L_users L_pieces L_words L_time L_chest L_fund, sArrI E acode 25 code, sArrI E aword 17 word]) (st' := [.int r_1]) (pc' := 12) [0, 1, 2] rfl rfl rfl rfl ?_
  obtain ⟨r_2, hg_2, hf⟩ := gb1_el hf
  refine g_callS (Lr := [sLB E aL acoins aaccounts acode apaid aowner auses aidle auser aword acut L_price L_letter L_deposit L_keep L_refund L_users L_pieces L_words L_time L_chest L_fund, sArrI E acode 25 code, sArrI E aword 17 word]) (As := [.int r_1]) (rest := []) F 1 (ctJ6_bitCount_0f7a4 l E r_1 r_2 hg_2) (va_cwS 1 F.2.2.2.2.2.1 gX10_fewest_J6_bitCount_0f7a4 rfl rfl rfl h0J6_bitCount_0f7a4 ⟨Nat.le_of_ble_eq_true rfl, Nat.le_of_ble_eq_true rfl⟩) [] [0, 1, 2] rfl rfl rfl rfl rfl rfl (Nat.le_of_ble_eq_true rfl) dX10_fewest_12 ⟨(Nat.le_of_ble_eq_true rfl), (Nat.le_of_ble_eq_true rfl)⟩ ?_
  rintro v w ⟨rfl, rfl⟩
  refine g_norm (Lw' := [sLB E aL acoins aaccounts acode apaid aowner auses aidle auser aword acut L_price L_letter L_deposit L_keep L_refund L_users L_pieces L_words L_time L_chest L_fund, sArrI E acode 25 code, sArrI E aword 17 word]) (st' := [.int r_2]) (pc' := 15) [0, 1, 2] rfl rfl rfl rfl ?_
  refine g_iconst F 1 dX10_fewest_15 rfl ?_
  refine g_iadd F dX10_fewest_16 ?_
  cases hf
  exact g_iret F rfl ⟨rfl, rfl⟩ dX10_fewest_17
set_option maxHeartbeats 4000000 in
set_option maxRecDepth 100000 in
theorem ktX10_piece_L9 {p : Program} {l : Launch} {e : Env} {s : State} {m : MethodId} {args : Array Value} {below : List Frame} {meth : Method} {c : Code} {E : gE} {A : Nat → Prop} (F : gFx p s m args meth c RX10 wsX10_piece cX10_piece 7 (some .int) vwCl E A) (aL : Nat → Nat) (x1 : Int32) (x2 : Int32) (x3 : Int32) (r : Int32) {k : Option (Int32)} (hk : k = some r → Gj p l e rmX10_piece s m args below meth c 0 0 (MQ below (gQ vwCl E A (fun v w => v = some (.int r) ∧ w = [])) args s 0 0 A) vwCl E A [] [none, none, none, none, none, none, none] [] 67) : ∀ (n : Nat) (x4 : Int32) (x5 : Int32) (x6 : Int32), fX10_piece_L9 x1 x2 x3 k n x4 x5 x6 = some r → Gj p l e rmX10_piece s m args below meth c 0 0 (MQ below (gQ vwCl E A (fun v w => v = some (.int r) ∧ w = [])) args s 0 0 A) vwCl E A [] [none, some (.int x1), some (.int x2), some (.int x3), some (.int x4), some (.int x5), some (.int x6)] [] 9
  | 0, _, _, _, hf => by cases hf
  | n + 1, x4, x5, x6, hf => by
    have ih := ktX10_piece_L9 F aL x1 x2 x3 r hk n
    rw [fX10_piece_L9] at hf
    refine g_iload F dX10_piece_9 rfl ?_
    refine g_iload_n F dX10_piece_11 rfl ?_
    obtain ⟨r_1, hg_1, hf⟩ := gb1_el hf
    refine g_callS (Lr := []) (As := [.int x1]) (rest := [.int x6]) F 1 (ctX10_size l E x1 r_1 hg_1) (va_cwS 1 F.2.2.2.2.2.1 gX10_piece_X10_size rfl rfl rfl h0X10_size ⟨Nat.le_of_ble_eq_true rfl, Nat.le_of_ble_eq_true rfl⟩) [] [] rfl rfl rfl rfl rfl rfl (Nat.le_of_ble_eq_true rfl) dX10_piece_12 ⟨(Nat.le_of_ble_eq_true rfl), (Nat.le_of_ble_eq_true rfl)⟩ ?_
    rintro v w ⟨rfl, rfl⟩
    refine g_norm (Lw' := []) (st' := [.int r_1, .int x6]) (pc' := 15) [] rfl rfl rfl rfl ?_
    refine g_icmp_gt F 67 dX10_piece_15 (by decide) (fun hc_4 => ?_) (fun hc_4 => ?_)
    · replace hf := gi_t hc_4 hf
      refine g_mask [true, false, false, false, false, false, false] rfl ?_
      exact hk hf
    · replace hf := gi_f hc_4 hf
      refine g_iload F dX10_piece_18 rfl ?_
      refine g_iload_n F dX10_piece_20 rfl ?_
      obtain ⟨r_2, hg_2, hf⟩ := gb1_el hf
      refine g_callS (Lr := []) (As := [.int x1]) (rest := [.int x6]) F 1 (ctX10_size l E x1 r_2 hg_2) (va_cwS 1 F.2.2.2.2.2.1 gX10_piece_X10_size rfl rfl rfl h0X10_size ⟨Nat.le_of_ble_eq_true rfl, Nat.le_of_ble_eq_true rfl⟩) [] [] rfl rfl rfl rfl rfl rfl (Nat.le_of_ble_eq_true rfl) dX10_piece_21 ⟨(Nat.le_of_ble_eq_true rfl), (Nat.le_of_ble_eq_true rfl)⟩ ?_
      rintro v w ⟨rfl, rfl⟩
      refine g_norm (Lw' := []) (st' := [.int r_2, .int x6]) (pc' := 24) [] rfl rfl rfl rfl ?_
      obtain ⟨j_1, hj_1, hf⟩ := Lt_el hf
      have hj_1 : j_1 = some r → Gj p l e rmX10_piece s m args below meth c 0 0 (MQ below (gQ vwCl E A (fun v w => v = some (.int r) ∧ w = [])) args s 0 0 A) vwCl E A [] [none, some (.int x1), some (.int x2), some (.int x3), some (.int x4), some (.int x5), some (.int x6)] [] 39 := by
        intro hf
        rw [hj_1] at hf
        refine g_iload F dX10_piece_39 rfl ?_
        refine g_iload_n F dX10_piece_41 rfl ?_
        refine g_icmp_ne F 54 dX10_piece_42 (by decide) (fun hc_1 => ?_) (fun hc_1 => ?_)
        · replace hf := gi_f hc_1 hf
          refine g_iinc (lv' := [none, some (.int x1), some (.int x2), some (.int x3), some (.int x4), some (.int (x5 + 1)), some (.int x6)]) F (x5 + 1) dX10_piece_54 rfl rfl rfl rfl ?_
          refine g_iload F dX10_piece_57 rfl ?_
          refine g_istore (lv' := [none, some (.int x1), some (.int x2), some (.int x3), some (.int x6), some (.int (x5 + 1)), some (.int x6)]) F dX10_piece_59 (Nat.le_of_ble_eq_true rfl) rfl rfl ?_
          refine g_iinc (lv' := [none, some (.int x1), some (.int x2), some (.int x3), some (.int x6), some (.int (x5 + 1)), some (.int (x6 + 1))]) F (x6 + 1) dX10_piece_61 rfl rfl rfl rfl ?_
          refine g_goto F 9 dX10_piece_64 (by decide) ?_
          exact ih x6 (x5 + 1) (x6 + 1) hf
        · replace hf := gi_t hc_1 hf
          refine g_iload_n F dX10_piece_45 rfl ?_
          refine g_iload F dX10_piece_46 rfl ?_
          refine g_iload F dX10_piece_48 rfl ?_
          obtain ⟨r_3, hg_3, hf⟩ := gb1_el hf
          refine g_callS (Lr := []) (As := [.int x1, .int x4, .int x6]) (rest := []) F 3 (ctX10_part l E x1 x4 x6 r_3 hg_3) (va_cwS 3 F.2.2.2.2.2.1 gX10_piece_X10_part rfl rfl rfl h0X10_part ⟨Nat.le_of_ble_eq_true rfl, Nat.le_of_ble_eq_true rfl⟩) [] [] rfl rfl rfl rfl rfl rfl (Nat.le_of_ble_eq_true rfl) dX10_piece_50 ⟨(Nat.le_of_ble_eq_true rfl), (Nat.le_of_ble_eq_true rfl)⟩ ?_
          rintro v w ⟨rfl, rfl⟩
          refine g_norm (Lw' := []) (st' := [.int r_3]) (pc' := 53) [] rfl rfl rfl rfl ?_
          cases hf
          exact g_iret F rfl ⟨rfl, rfl⟩ dX10_piece_53
      refine g_icmp_ge F 39 dX10_piece_24 (by decide) (fun hc_3 => ?_) (fun hc_3 => ?_)
      · replace hf := gi_t hc_3 hf
        exact hj_1 hf
      · replace hf := gi_f hc_3 hf
        refine g_iload_n F dX10_piece_27 rfl ?_
        refine g_iload F dX10_piece_28 rfl ?_
        refine g_ishr F dX10_piece_30 ?_
        refine g_iconst F 1 dX10_piece_31 rfl ?_
        refine g_iand F dX10_piece_32 ?_
        refine g_ifne F 39 dX10_piece_33 (by decide) (fun hc_2 => ?_) (fun hc_2 => ?_)
        · replace hf := gi_f hc_2 hf
          exact hj_1 hf
        · replace hf := gi_t hc_2 hf
          refine g_goto F 61 dX10_piece_36 (by decide) ?_
          refine g_iinc (lv' := [none, some (.int x1), some (.int x2), some (.int x3), some (.int x4), some (.int x5), some (.int (x6 + 1))]) F (x6 + 1) dX10_piece_61 rfl rfl rfl rfl ?_
          refine g_goto F 9 dX10_piece_64 (by decide) ?_
          exact ih x4 x5 (x6 + 1) hf
set_option maxHeartbeats 4000000 in
set_option maxRecDepth 100000 in
theorem ctX10_piece (l : Launch) (E : gE) (aL : Nat → Nat) (x1 : Int32) (x2 : Int32) (x3 : Int32) (r : Int32) (hf : fX10_piece x1 x2 x3 = some r) : gMet l yX10_piece wsX10_piece rmX10_piece vwCl E [.ref (aL 0), .int x1, .int x2, .int x3] [] (fun v w => v = some (.int r) ∧ w = []) 0 0 := by
  refine g_entry [some (.ref (aL 0)), some (.int x1), some (.int x2), some (.int x3), none, none, none] (by decide) rfl (Nat.le_of_ble_eq_true rfl) rfl ?_
  intro p e s m below meth c A F hnm
  unfold fX10_piece at hf
  refine g_iconst F 0 dX10_piece_0 rfl ?_
  refine g_istore (lv' := [some (.ref (aL 0)), some (.int x1), some (.int x2), some (.int x3), some (.int 0), none, none]) F dX10_piece_1 (Nat.le_of_ble_eq_true rfl) rfl rfl ?_
  refine g_iconst F 0 dX10_piece_3 rfl ?_
  refine g_istore (lv' := [some (.ref (aL 0)), some (.int x1), some (.int x2), some (.int x3), some (.int 0), some (.int 0), none]) F dX10_piece_4 (Nat.le_of_ble_eq_true rfl) rfl rfl ?_
  refine g_iconst F 1 dX10_piece_6 rfl ?_
  refine g_istore (lv' := [some (.ref (aL 0)), some (.int x1), some (.int x2), some (.int x3), some (.int 0), some (.int 0), some (.int 1)]) F dX10_piece_7 (Nat.le_of_ble_eq_true rfl) rfl rfl ?_
  refine g_mask [false, true, true, true, true, true, true] rfl ?_
  refine ktX10_piece_L9 F aL x1 x2 x3 r (fun hf => ?_) FU 0 0 1 hf
  refine g_iconst F 0 dX10_piece_67 rfl ?_
  cases hf
  exact g_iret F rfl ⟨rfl, rfl⟩ dX10_piece_68
set_option maxHeartbeats 4000000 in
set_option maxRecDepth 100000 in
theorem ktX10_isFresh_L12 {p : Program} {l : Launch} {e : Env} {s : State} {m : MethodId} {args : Array Value} {below : List Frame} {meth : Method} {c : Code} {E : gE} {A : Nat → Prop} (F : gFx p s m args meth c RX10 wsX10_isFresh cX10_isFresh 6 (some .boolean) vwCl E A) (aL acoins aaccounts acode apaid aowner auses aidle auser aword acut : Nat → Nat) (x1 : Int32) (x2 : Int32) (x3 : Int32) (x4 : Int32) (L_price : Int32) (L_letter : Int32) (L_deposit : Int32) (L_keep : Int32) (L_refund : Int32) (L_users : Int32) (L_pieces : Int32) (L_words : Int32) (L_time : Int32) (L_chest : Int32) (L_fund : Int32) (code : (Nat → Int32)) (r : Int32) {k : Option (Int32)} (hk : k = some r → Gj p l e rmX10_isFresh s m args below meth c 0 0 (MQ below (gQ vwCl E A (fun v w => v = some (.int r) ∧ w = [sLB E aL acoins aaccounts acode apaid aowner auses aidle auser aword acut L_price L_letter L_deposit L_keep L_refund L_users L_pieces L_words L_time L_chest L_fund, sArrI E acode 25 code] ∧ narrow .boolean (.int r) = .int r)) args s 0 0 A) vwCl E A [sLB E aL acoins aaccounts acode apaid aowner auses aidle auser aword acut L_price L_letter L_deposit L_keep L_refund L_users L_pieces L_words L_time L_chest L_fund, sArrI E acode 25 code] [some (.ref (aL 0)), none, none, none, some (.int x4), none] [] 39) : ∀ (n : Nat) (x5 : Int32), fX10_isFresh_L12 x1 x2 x3 x4 k n x5 = some r → Gj p l e rmX10_isFresh s m args below meth c 0 0 (MQ below (gQ vwCl E A (fun v w => v = some (.int r) ∧ w = [sLB E aL acoins aaccounts acode apaid aowner auses aidle auser aword acut L_price L_letter L_deposit L_keep L_refund L_users L_pieces L_words L_time L_chest L_fund, sArrI E acode 25 code] ∧ narrow .boolean (.int r) = .int r)) args s 0 0 A) vwCl E A [sLB E aL acoins aaccounts acode apaid aowner auses aidle auser aword acut L_price L_letter L_deposit L_keep L_refund L_users L_pieces L_words L_time L_chest L_fund, sArrI E acode 25 code] [some (.ref (aL 0)), some (.int x1), some (.int x2), some (.int x3), some (.int x4), some (.int x5)] [] 12
  | 0, _, hf => by cases hf
  | n + 1, x5, hf => by
    have ih := ktX10_isFresh_L12 F aL acoins aaccounts acode apaid aowner auses aidle auser aword acut x1 x2 x3 x4 L_price L_letter L_deposit L_keep L_refund L_users L_pieces L_words L_time L_chest L_fund code r hk n
    rw [fX10_isFresh_L12] at hf
    refine g_iload F dX10_isFresh_12 rfl ?_
    refine g_iload_n F dX10_isFresh_14 rfl ?_
    refine g_icmp_ge F 39 dX10_isFresh_15 (by decide) (fun hc_2 => ?_) (fun hc_2 => ?_)
    · replace hf := gi_t hc_2 hf
      refine g_mask [true, false, false, false, true, false] rfl ?_
      exact hk hf
    · replace hf := gi_f hc_2 hf
      refine g_aload_n F dX10_isFresh_18 rfl ?_
      refine g_iload_n F dX10_isFresh_19 rfl ?_
      refine g_iload_n F dX10_isFresh_20 rfl ?_
      refine g_iload F dX10_isFresh_21 rfl ?_
      obtain ⟨r_1, hg_1, hf⟩ := gb1_el hf
      refine g_callV (C := RX10) (T := TX10) (N := 21) (Lr := [sLB E aL acoins aaccounts acode apaid aowner auses aidle auser aword acut L_price L_letter L_deposit L_keep L_refund L_users L_pieces L_words L_time L_chest L_fund, sArrI E acode 25 code]) (As := [.int x1, .int x2, .int x5]) (rest := []) F 0 0 3 (ctX10_piece l E aL x1 x2 x5 r_1 hg_1) gX10_isFresh_X10_piece rfl rfl rfl h0X10_piece ⟨Nat.le_of_ble_eq_true rfl, Nat.le_of_ble_eq_true rfl⟩ rfl rfl rfl [] [0, 1] rfl rfl rfl rfl rfl rfl (Nat.le_of_ble_eq_true rfl) dX10_isFresh_23 ⟨(Nat.le_of_ble_eq_true rfl), (Nat.le_of_ble_eq_true rfl)⟩ ?_
      rintro v w ⟨rfl, rfl⟩
      refine g_norm (Lw' := [sLB E aL acoins aaccounts acode apaid aowner auses aidle auser aword acut L_price L_letter L_deposit L_keep L_refund L_users L_pieces L_words L_time L_chest L_fund, sArrI E acode 25 code]) (st' := [.int r_1]) (pc' := 26) [0, 1] rfl rfl rfl rfl ?_
      refine g_iload F dX10_isFresh_26 rfl ?_
      refine g_icmp_ne F 33 dX10_isFresh_28 (by decide) (fun hc_1 => ?_) (fun hc_1 => ?_)
      · replace hf := gi_f hc_1 hf
        refine g_iinc (lv' := [some (.ref (aL 0)), some (.int x1), some (.int x2), some (.int x3), some (.int x4), some (.int (x5 + 1))]) F (x5 + 1) dX10_isFresh_33 rfl rfl rfl rfl ?_
        refine g_goto F 12 dX10_isFresh_36 (by decide) ?_
        exact ih (x5 + 1) hf
      · replace hf := gi_t hc_1 hf
        refine g_iconst F 0 dX10_isFresh_31 rfl ?_
        cases hf
        exact g_zret (ty := .boolean) F rfl rfl ⟨rfl, rfl, rfl⟩ dX10_isFresh_32
set_option maxHeartbeats 4000000 in
set_option maxRecDepth 100000 in
theorem ctX10_isFresh (l : Launch) (E : gE) (aL acoins aaccounts acode apaid aowner auses aidle auser aword acut : Nat → Nat) (x1 : Int32) (x2 : Int32) (x3 : Int32) (L_price : Int32) (L_letter : Int32) (L_deposit : Int32) (L_keep : Int32) (L_refund : Int32) (L_users : Int32) (L_pieces : Int32) (L_words : Int32) (L_time : Int32) (L_chest : Int32) (L_fund : Int32) (code : (Nat → Int32)) (r : Int32) (hf : fX10_isFresh x1 x2 x3 L_pieces code = some r) : gMet l yX10_isFresh wsX10_isFresh rmX10_isFresh vwCl E [.ref (aL 0), .int x1, .int x2, .int x3] [sLB E aL acoins aaccounts acode apaid aowner auses aidle auser aword acut L_price L_letter L_deposit L_keep L_refund L_users L_pieces L_words L_time L_chest L_fund, sArrI E acode 25 code] (fun v w => v = some (.int r) ∧ w = [sLB E aL acoins aaccounts acode apaid aowner auses aidle auser aword acut L_price L_letter L_deposit L_keep L_refund L_users L_pieces L_words L_time L_chest L_fund, sArrI E acode 25 code] ∧ narrow .boolean (.int r) = .int r) 0 0 := by
  refine g_entry [some (.ref (aL 0)), some (.int x1), some (.int x2), some (.int x3), none, none] (by decide) rfl (Nat.le_of_ble_eq_true rfl) rfl ?_
  intro p e s m below meth c A F hnm
  unfold fX10_isFresh at hf
  refine g_aload_n F dX10_isFresh_0 rfl ?_
  refine g_iload_n F dX10_isFresh_1 rfl ?_
  refine g_iload_n F dX10_isFresh_2 rfl ?_
  refine g_iload_n F dX10_isFresh_3 rfl ?_
  obtain ⟨r_1, hg_1, hf⟩ := gb1_el hf
  refine g_callV (C := RX10) (T := TX10) (N := 21) (Lr := [sLB E aL acoins aaccounts acode apaid aowner auses aidle auser aword acut L_price L_letter L_deposit L_keep L_refund L_users L_pieces L_words L_time L_chest L_fund, sArrI E acode 25 code]) (As := [.int x1, .int x2, .int x3]) (rest := []) F 0 0 3 (ctX10_piece l E aL x1 x2 x3 r_1 hg_1) gX10_isFresh_X10_piece rfl rfl rfl h0X10_piece ⟨Nat.le_of_ble_eq_true rfl, Nat.le_of_ble_eq_true rfl⟩ rfl rfl rfl [] [0, 1] rfl rfl rfl rfl rfl rfl (Nat.le_of_ble_eq_true rfl) dX10_isFresh_4 ⟨(Nat.le_of_ble_eq_true rfl), (Nat.le_of_ble_eq_true rfl)⟩ ?_
  rintro v w ⟨rfl, rfl⟩
  refine g_norm (Lw' := [sLB E aL acoins aaccounts acode apaid aowner auses aidle auser aword acut L_price L_letter L_deposit L_keep L_refund L_users L_pieces L_words L_time L_chest L_fund, sArrI E acode 25 code]) (st' := [.int r_1]) (pc' := 7) [0, 1] rfl rfl rfl rfl ?_
  refine g_istore (lv' := [some (.ref (aL 0)), some (.int x1), some (.int x2), some (.int x3), some (.int r_1), none]) F dX10_isFresh_7 (Nat.le_of_ble_eq_true rfl) rfl rfl ?_
  refine g_iconst F 0 dX10_isFresh_9 rfl ?_
  refine g_istore (lv' := [some (.ref (aL 0)), some (.int x1), some (.int x2), some (.int x3), some (.int r_1), some (.int 0)]) F dX10_isFresh_10 (Nat.le_of_ble_eq_true rfl) rfl rfl ?_
  refine ktX10_isFresh_L12 F aL acoins aaccounts acode apaid aowner auses aidle auser aword acut x1 x2 x3 r_1 L_price L_letter L_deposit L_keep L_refund L_users L_pieces L_words L_time L_chest L_fund code r (fun hf => ?_) FU 0 hf
  refine g_aload_n F dX10_isFresh_39 rfl ?_
  refine g_iload F dX10_isFresh_40 rfl ?_
  obtain ⟨r_2, hg_2, hf⟩ := gb1_el hf
  refine g_callV (C := RX10) (T := TX10) (N := 21) (Lr := []) (As := [.int r_1]) (rest := []) F 0 0 1 (ctX10_find l E aL acoins aaccounts acode apaid aowner auses aidle auser aword acut r_1 L_price L_letter L_deposit L_keep L_refund L_users L_pieces L_words L_time L_chest L_fund code r_2 hg_2) gX10_isFresh_X10_find rfl rfl rfl h0X10_find ⟨Nat.le_of_ble_eq_true rfl, Nat.le_of_ble_eq_true rfl⟩ rfl rfl rfl [0, 1] [] rfl rfl rfl rfl rfl rfl (Nat.le_of_ble_eq_true rfl) dX10_isFresh_42 ⟨(Nat.le_of_ble_eq_true rfl), (Nat.le_of_ble_eq_true rfl)⟩ ?_
  rintro v w ⟨rfl, rfl⟩
  refine g_norm (Lw' := [sLB E aL acoins aaccounts acode apaid aowner auses aidle auser aword acut L_price L_letter L_deposit L_keep L_refund L_users L_pieces L_words L_time L_chest L_fund, sArrI E acode 25 code]) (st' := [.int r_2]) (pc' := 45) [0, 1] rfl rfl rfl rfl ?_
  refine g_ifge F 52 dX10_isFresh_45 (by decide) (fun hc_1 => ?_) (fun hc_1 => ?_)
  · replace hf := gi_t hc_1 hf
    refine g_iconst F 0 dX10_isFresh_52 rfl ?_
    cases hf
    exact g_zret (ty := .boolean) F rfl rfl ⟨rfl, rfl, rfl⟩ dX10_isFresh_53
  · replace hf := gi_f hc_1 hf
    refine g_iconst F 1 dX10_isFresh_48 rfl ?_
    refine g_goto F 53 dX10_isFresh_49 (by decide) ?_
    cases hf
    exact g_zret (ty := .boolean) F rfl rfl ⟨rfl, rfl, rfl⟩ dX10_isFresh_53
set_option maxHeartbeats 4000000 in
set_option maxRecDepth 100000 in
theorem ktX10_fresh_L6 {p : Program} {l : Launch} {e : Env} {s : State} {m : MethodId} {args : Array Value} {below : List Frame} {meth : Method} {c : Code} {E : gE} {A : Nat → Prop} (F : gFx p s m args meth c RX10 wsX10_fresh cX10_fresh 6 (some .int) vwCl E A) (aL acoins aaccounts acode apaid aowner auses aidle auser aword acut : Nat → Nat) (x1 : Int32) (x2 : Int32) (x3 : Int32) (L_price : Int32) (L_letter : Int32) (L_pieces : Int32) (code : (Nat → Int32)) (L_deposit : Int32) (L_keep : Int32) (L_refund : Int32) (L_users : Int32) (L_words : Int32) (L_time : Int32) (L_chest : Int32) (L_fund : Int32) (r : Int32) {k : Int32 → Option (Int32)} (hk : ∀ (x4 : Int32), k x4 = some r → Gj p l e rmX10_fresh s m args below meth c 0 0 (MQ below (gQ vwCl E A (fun v w => v = some (.int r) ∧ w = [sLB E aL acoins aaccounts acode apaid aowner auses aidle auser aword acut L_price L_letter L_deposit L_keep L_refund L_users L_pieces L_words L_time L_chest L_fund, sArrI E acode 25 code])) args s 0 0 A) vwCl E A [sLB E aL acoins aaccounts acode apaid aowner auses aidle auser aword acut L_price L_letter L_deposit L_keep L_refund L_users L_pieces L_words L_time L_chest L_fund, sArrI E acode 25 code] [none, none, none, none, some (.int x4), none] [] 57) : ∀ (n : Nat) (x4 : Int32) (x5 : Int32), fX10_fresh_L6 x1 x2 x3 L_price L_letter L_pieces code k n x4 x5 = some r → Gj p l e rmX10_fresh s m args below meth c 0 0 (MQ below (gQ vwCl E A (fun v w => v = some (.int r) ∧ w = [sLB E aL acoins aaccounts acode apaid aowner auses aidle auser aword acut L_price L_letter L_deposit L_keep L_refund L_users L_pieces L_words L_time L_chest L_fund, sArrI E acode 25 code])) args s 0 0 A) vwCl E A [sLB E aL acoins aaccounts acode apaid aowner auses aidle auser aword acut L_price L_letter L_deposit L_keep L_refund L_users L_pieces L_words L_time L_chest L_fund, sArrI E acode 25 code] [some (.ref (aL 0)), some (.int x1), some (.int x2), some (.int x3), some (.int x4), some (.int x5)] [] 6
  | 0, _, _, hf => by cases hf
  | n + 1, x4, x5, hf => by
    have ih := ktX10_fresh_L6 F aL acoins aaccounts acode apaid aowner auses aidle auser aword acut x1 x2 x3 L_price L_letter L_pieces code L_deposit L_keep L_refund L_users L_words L_time L_chest L_fund r hk n
    rw [fX10_fresh_L6] at hf
    refine g_iload F dX10_fresh_6 rfl ?_
    refine g_iload_n F dX10_fresh_8 rfl ?_
    obtain ⟨r_1, hg_1, hf⟩ := gb1_el hf
    refine g_callS (Lr := [sLB E aL acoins aaccounts acode apaid aowner auses aidle auser aword acut L_price L_letter L_deposit L_keep L_refund L_users L_pieces L_words L_time L_chest L_fund, sArrI E acode 25 code]) (As := [.int x2]) (rest := [.int x5]) F 1 (ctJ6_bitCount_0f7a4 l E x2 r_1 hg_1) (va_cwS 1 F.2.2.2.2.2.1 gX10_fresh_J6_bitCount_0f7a4 rfl rfl rfl h0J6_bitCount_0f7a4 ⟨Nat.le_of_ble_eq_true rfl, Nat.le_of_ble_eq_true rfl⟩) [] [0, 1] rfl rfl rfl rfl rfl rfl (Nat.le_of_ble_eq_true rfl) dX10_fresh_9 ⟨(Nat.le_of_ble_eq_true rfl), (Nat.le_of_ble_eq_true rfl)⟩ ?_
    rintro v w ⟨rfl, rfl⟩
    refine g_norm (Lw' := [sLB E aL acoins aaccounts acode apaid aowner auses aidle auser aword acut L_price L_letter L_deposit L_keep L_refund L_users L_pieces L_words L_time L_chest L_fund, sArrI E acode 25 code]) (st' := [.int r_1, .int x5]) (pc' := 12) [0, 1] rfl rfl rfl rfl ?_
    refine g_icmp_gt F 57 dX10_fresh_12 (by decide) (fun hc_3 => ?_) (fun hc_3 => ?_)
    · replace hf := gi_t hc_3 hf
      refine g_mask [false, false, false, false, true, false] rfl ?_
      exact hk x4 hf
    · replace hf := gi_f hc_3 hf
      refine g_aload_n F dX10_fresh_15 rfl ?_
      refine g_iload_n F dX10_fresh_16 rfl ?_
      refine g_iload_n F dX10_fresh_17 rfl ?_
      refine g_iload F dX10_fresh_18 rfl ?_
      obtain ⟨r_2, hg_2, hf⟩ := gb1_el hf
      refine g_callV (C := RX10) (T := TX10) (N := 21) (Lr := []) (As := [.int x1, .int x2, .int x5]) (rest := []) F 0 0 3 (ctX10_isFresh l E aL acoins aaccounts acode apaid aowner auses aidle auser aword acut x1 x2 x5 L_price L_letter L_deposit L_keep L_refund L_users L_pieces L_words L_time L_chest L_fund code r_2 hg_2) gX10_fresh_X10_isFresh rfl rfl rfl h0X10_isFresh ⟨Nat.le_of_ble_eq_true rfl, Nat.le_of_ble_eq_true rfl⟩ rfl rfl rfl [0, 1] [] rfl rfl rfl rfl rfl rfl (Nat.le_of_ble_eq_true rfl) dX10_fresh_20 ⟨(Nat.le_of_ble_eq_true rfl), (Nat.le_of_ble_eq_true rfl)⟩ ?_
      rintro v w ⟨rfl, rfl, hz_1⟩
      refine g_norm (Lw' := [sLB E aL acoins aaccounts acode apaid aowner auses aidle auser aword acut L_price L_letter L_deposit L_keep L_refund L_users L_pieces L_words L_time L_chest L_fund, sArrI E acode 25 code]) (st' := [.int r_2]) (pc' := 23) [0, 1] rfl rfl rfl rfl ?_
      refine g_ifeq F 51 dX10_fresh_23 (by decide) (fun hc_2 => ?_) (fun hc_2 => ?_)
      · replace hf := gi_t hc_2 hf
        refine g_iinc (lv' := [some (.ref (aL 0)), some (.int x1), some (.int x2), some (.int x3), some (.int x4), some (.int (x5 + 1))]) F (x5 + 1) dX10_fresh_51 rfl rfl rfl rfl ?_
        refine g_goto F 6 dX10_fresh_54 (by decide) ?_
        exact ih x4 (x5 + 1) hf
      · replace hf := gi_f hc_2 hf
        refine g_iload F dX10_fresh_26 rfl ?_
        refine g_iload_n F dX10_fresh_28 rfl ?_
        refine g_ifeq F 47 dX10_fresh_29 (by decide) (fun hc_1 => ?_) (fun hc_1 => ?_)
        · replace hf := gi_t hc_1 hf
          refine g_iconst F 1 dX10_fresh_47 rfl ?_
          refine g_iadd F dX10_fresh_48 ?_
          refine g_istore (lv' := [some (.ref (aL 0)), some (.int x1), some (.int x2), some (.int x3), some (.int (x4 + 1)), some (.int x5)]) F dX10_fresh_49 (Nat.le_of_ble_eq_true rfl) rfl rfl ?_
          refine g_iinc (lv' := [some (.ref (aL 0)), some (.int x1), some (.int x2), some (.int x3), some (.int (x4 + 1)), some (.int (x5 + 1))]) F (x5 + 1) dX10_fresh_51 rfl rfl rfl rfl ?_
          refine g_goto F 6 dX10_fresh_54 (by decide) ?_
          exact ih (x4 + 1) (x5 + 1) hf
        · replace hf := gi_f hc_1 hf
          refine g_aload_n F dX10_fresh_32 rfl ?_
          refine g_aload_n F dX10_fresh_33 rfl ?_
          refine g_iload_n F dX10_fresh_34 rfl ?_
          refine g_iload_n F dX10_fresh_35 rfl ?_
          refine g_iload F dX10_fresh_36 rfl ?_
          obtain ⟨r_3, hg_3, hf⟩ := gb1_el hf
          refine g_callV (C := RX10) (T := TX10) (N := 21) (Lr := [sLB E aL acoins aaccounts acode apaid aowner auses aidle auser aword acut L_price L_letter L_deposit L_keep L_refund L_users L_pieces L_words L_time L_chest L_fund, sArrI E acode 25 code]) (As := [.int x1, .int x2, .int x5]) (rest := [.ref (aL 0), .int x4]) F 0 0 3 (ctX10_piece l E aL x1 x2 x5 r_3 hg_3) gX10_fresh_X10_piece rfl rfl rfl h0X10_piece ⟨Nat.le_of_ble_eq_true rfl, Nat.le_of_ble_eq_true rfl⟩ rfl rfl rfl [] [0, 1] rfl rfl rfl rfl rfl rfl (Nat.le_of_ble_eq_true rfl) dX10_fresh_38 ⟨(Nat.le_of_ble_eq_true rfl), (Nat.le_of_ble_eq_true rfl)⟩ ?_
          rintro v w ⟨rfl, rfl⟩
          refine g_norm (Lw' := [sLB E aL acoins aaccounts acode apaid aowner auses aidle auser aword acut L_price L_letter L_deposit L_keep L_refund L_users L_pieces L_words L_time L_chest L_fund, sArrI E acode 25 code]) (st' := [.int r_3, .ref (aL 0), .int x4]) (pc' := 41) [0, 1] rfl rfl rfl rfl ?_
          obtain ⟨r_4, hg_4, hf⟩ := gb1_el hf
          refine g_callV (C := RX10) (T := TX10) (N := 21) (Lr := [sArrI E acode 25 code]) (As := [.int r_3]) (rest := [.int x4]) F 0 0 1 (ctX10_priceOf l E aL acoins aaccounts acode apaid aowner auses aidle auser aword acut r_3 L_price L_letter L_deposit L_keep L_refund L_users L_pieces L_words L_time L_chest L_fund r_4 hg_4) gX10_fresh_X10_priceOf rfl rfl rfl h0X10_priceOf ⟨Nat.le_of_ble_eq_true rfl, Nat.le_of_ble_eq_true rfl⟩ rfl rfl rfl [0] [1] rfl rfl rfl rfl rfl rfl (Nat.le_of_ble_eq_true rfl) dX10_fresh_41 ⟨(Nat.le_of_ble_eq_true rfl), (Nat.le_of_ble_eq_true rfl)⟩ ?_
          rintro v w ⟨rfl, rfl⟩
          refine g_norm (Lw' := [sLB E aL acoins aaccounts acode apaid aowner auses aidle auser aword acut L_price L_letter L_deposit L_keep L_refund L_users L_pieces L_words L_time L_chest L_fund, sArrI E acode 25 code]) (st' := [.int r_4, .int x4]) (pc' := 44) [0, 1] rfl rfl rfl rfl ?_
          refine g_goto F 48 dX10_fresh_44 (by decide) ?_
          refine g_iadd F dX10_fresh_48 ?_
          refine g_istore (lv' := [some (.ref (aL 0)), some (.int x1), some (.int x2), some (.int x3), some (.int (x4 + r_4)), some (.int x5)]) F dX10_fresh_49 (Nat.le_of_ble_eq_true rfl) rfl rfl ?_
          refine g_iinc (lv' := [some (.ref (aL 0)), some (.int x1), some (.int x2), some (.int x3), some (.int (x4 + r_4)), some (.int (x5 + 1))]) F (x5 + 1) dX10_fresh_51 rfl rfl rfl rfl ?_
          refine g_goto F 6 dX10_fresh_54 (by decide) ?_
          exact ih (x4 + r_4) (x5 + 1) hf
set_option maxHeartbeats 4000000 in
set_option maxRecDepth 100000 in
theorem ctX10_fresh (l : Launch) (E : gE) (aL acoins aaccounts acode apaid aowner auses aidle auser aword acut : Nat → Nat) (x1 : Int32) (x2 : Int32) (x3 : Int32) (L_price : Int32) (L_letter : Int32) (L_deposit : Int32) (L_keep : Int32) (L_refund : Int32) (L_users : Int32) (L_pieces : Int32) (L_words : Int32) (L_time : Int32) (L_chest : Int32) (L_fund : Int32) (code : (Nat → Int32)) (r : Int32) (hf : fX10_fresh x1 x2 x3 L_price L_letter L_pieces code = some r) : gMet l yX10_fresh wsX10_fresh rmX10_fresh vwCl E [.ref (aL 0), .int x1, .int x2, .int x3] [sLB E aL acoins aaccounts acode apaid aowner auses aidle auser aword acut L_price L_letter L_deposit L_keep L_refund L_users L_pieces L_words L_time L_chest L_fund, sArrI E acode 25 code] (fun v w => v = some (.int r) ∧ w = [sLB E aL acoins aaccounts acode apaid aowner auses aidle auser aword acut L_price L_letter L_deposit L_keep L_refund L_users L_pieces L_words L_time L_chest L_fund, sArrI E acode 25 code]) 0 0 := by
  refine g_entry [some (.ref (aL 0)), some (.int x1), some (.int x2), some (.int x3), none, none] (by decide) rfl (Nat.le_of_ble_eq_true rfl) rfl ?_
  intro p e s m below meth c A F hnm
  unfold fX10_fresh at hf
  refine g_iconst F 0 dX10_fresh_0 rfl ?_
  refine g_istore (lv' := [some (.ref (aL 0)), some (.int x1), some (.int x2), some (.int x3), some (.int 0), none]) F dX10_fresh_1 (Nat.le_of_ble_eq_true rfl) rfl rfl ?_
  refine g_iconst F 0 dX10_fresh_3 rfl ?_
  refine g_istore (lv' := [some (.ref (aL 0)), some (.int x1), some (.int x2), some (.int x3), some (.int 0), some (.int 0)]) F dX10_fresh_4 (Nat.le_of_ble_eq_true rfl) rfl rfl ?_
  refine ktX10_fresh_L6 F aL acoins aaccounts acode apaid aowner auses aidle auser aword acut x1 x2 x3 L_price L_letter L_pieces code L_deposit L_keep L_refund L_users L_words L_time L_chest L_fund r (fun x4_1 hf => ?_) FU 0 0 hf
  refine g_iload F dX10_fresh_57 rfl ?_
  cases hf
  exact g_iret F rfl ⟨rfl, rfl⟩ dX10_fresh_59
set_option maxHeartbeats 4000000 in
set_option maxRecDepth 100000 in
theorem ctX10_why (l : Launch) (E : gE) (aL acoins aaccounts acode apaid aowner auses aidle auser aword acut : Nat → Nat) (x1 : Int32) (x2 : Int32) (x3 : Int32) (L_price : Int32) (L_letter : Int32) (L_deposit : Int32) (L_keep : Int32) (L_refund : Int32) (L_users : Int32) (L_pieces : Int32) (L_words : Int32) (L_time : Int32) (L_chest : Int32) (L_fund : Int32) (coins : (Nat → Int32)) (code : (Nat → Int32)) (r : Int32) (hf : fX10_why x1 x2 x3 L_price L_letter L_deposit L_pieces L_words coins code = some r) : gMet l yX10_why wsX10_why rmX10_why vwCl E [.ref (aL 0), .int x1, .int x2, .int x3] [sLB E aL acoins aaccounts acode apaid aowner auses aidle auser aword acut L_price L_letter L_deposit L_keep L_refund L_users L_pieces L_words L_time L_chest L_fund, sArrI E acoins 4 coins, sArrI E acode 25 code] (fun v w => v = some (.int r) ∧ w = [sLB E aL acoins aaccounts acode apaid aowner auses aidle auser aword acut L_price L_letter L_deposit L_keep L_refund L_users L_pieces L_words L_time L_chest L_fund, sArrI E acoins 4 coins, sArrI E acode 25 code]) 0 0 := by
  refine g_entry [some (.ref (aL 0)), some (.int x1), some (.int x2), some (.int x3)] (by decide) rfl (Nat.le_of_ble_eq_true rfl) rfl ?_
  intro p e s m below meth c A F hnm
  unfold fX10_why at hf
  refine g_aload_n F dX10_why_0 rfl ?_
  refine g_get (C := RX10) (T := TX10) (N := 21) F 0 0 7 rfl rfl rfl iX10_why_X10 (by decide) (by decide +kernel) rfl dX10_why_1 ?_
  refine g_bipush F 16 dX10_why_4 rfl ?_
  refine g_icmp_ne F 11 dX10_why_6 (by decide) (fun hc_3 => ?_) (fun hc_3 => ?_)
  · replace hf := gi_f hc_3 hf
    refine g_aload_n F dX10_why_11 rfl ?_
    refine g_get (C := RX10) (T := TX10) (N := 21) F 0 0 6 rfl rfl rfl iX10_why_X10 (by decide) (by decide +kernel) rfl dX10_why_12 ?_
    refine g_aload_n F dX10_why_15 rfl ?_
    refine g_iload_n F dX10_why_16 rfl ?_
    refine g_iload_n F dX10_why_17 rfl ?_
    refine g_iconst F 0 dX10_why_18 rfl ?_
    obtain ⟨r_1, hg_1, hf⟩ := gb1_el hf
    refine g_callV (C := RX10) (T := TX10) (N := 21) (Lr := [sArrI E acoins 4 coins]) (As := [.int x2, .int x3, .int 0]) (rest := [.int L_pieces]) F 0 0 3 (ctX10_fresh l E aL acoins aaccounts acode apaid aowner auses aidle auser aword acut x2 x3 0 L_price L_letter L_deposit L_keep L_refund L_users L_pieces L_words L_time L_chest L_fund code r_1 hg_1) gX10_why_X10_fresh rfl rfl rfl h0X10_fresh ⟨Nat.le_of_ble_eq_true rfl, Nat.le_of_ble_eq_true rfl⟩ rfl rfl rfl [0, 2] [1] rfl rfl rfl rfl rfl rfl (Nat.le_of_ble_eq_true rfl) dX10_why_19 ⟨(Nat.le_of_ble_eq_true rfl), (Nat.le_of_ble_eq_true rfl)⟩ ?_
    rintro v w ⟨rfl, rfl⟩
    refine g_norm (Lw' := [sLB E aL acoins aaccounts acode apaid aowner auses aidle auser aword acut L_price L_letter L_deposit L_keep L_refund L_users L_pieces L_words L_time L_chest L_fund, sArrI E acoins 4 coins, sArrI E acode 25 code]) (st' := [.int r_1, .int L_pieces]) (pc' := 22) [0, 2, 1] rfl rfl rfl rfl ?_
    refine g_iadd F dX10_why_22 ?_
    refine g_bipush F 24 dX10_why_23 rfl ?_
    refine g_icmp_le F 30 dX10_why_25 (by decide) (fun hc_2 => ?_) (fun hc_2 => ?_)
    · replace hf := gi_t hc_2 hf
      refine g_aload_n F dX10_why_30 rfl ?_
      refine g_get (C := RX10) (T := TX10) (N := 21) F 0 0 11 rfl rfl rfl iX10_why_X10 (by decide) (by decide +kernel) rfl dX10_why_31 ?_
      refine g_iload_n F dX10_why_34 rfl ?_
      obtain ⟨hb_1, hf⟩ := gb_in hf
      refine g_iald F 1 0 (x1.toNatClampNeg) rfl rfl rfl hb_1 dX10_why_35 ?_
      refine g_aload_n F dX10_why_36 rfl ?_
      refine g_iload_n F dX10_why_37 rfl ?_
      refine g_iload_n F dX10_why_38 rfl ?_
      refine g_iconst F 1 dX10_why_39 rfl ?_
      obtain ⟨r_2, hg_2, hf⟩ := gb1_el hf
      refine g_callV (C := RX10) (T := TX10) (N := 21) (Lr := [sArrI E acoins 4 coins]) (As := [.int x2, .int x3, .int 1]) (rest := [.int (coins (x1.toNatClampNeg))]) F 0 0 3 (ctX10_fresh l E aL acoins aaccounts acode apaid aowner auses aidle auser aword acut x2 x3 1 L_price L_letter L_deposit L_keep L_refund L_users L_pieces L_words L_time L_chest L_fund code r_2 hg_2) gX10_why_X10_fresh rfl rfl rfl h0X10_fresh ⟨Nat.le_of_ble_eq_true rfl, Nat.le_of_ble_eq_true rfl⟩ rfl rfl rfl [0, 2] [1] rfl rfl rfl rfl rfl rfl (Nat.le_of_ble_eq_true rfl) dX10_why_40 ⟨(Nat.le_of_ble_eq_true rfl), (Nat.le_of_ble_eq_true rfl)⟩ ?_
      rintro v w ⟨rfl, rfl⟩
      refine g_norm (Lw' := [sLB E aL acoins aaccounts acode apaid aowner auses aidle auser aword acut L_price L_letter L_deposit L_keep L_refund L_users L_pieces L_words L_time L_chest L_fund, sArrI E acoins 4 coins, sArrI E acode 25 code]) (st' := [.int r_2, .int (coins (x1.toNatClampNeg))]) (pc' := 43) [0, 2, 1] rfl rfl rfl rfl ?_
      refine g_aload_n F dX10_why_43 rfl ?_
      refine g_get (C := RX10) (T := TX10) (N := 21) F 0 0 2 rfl rfl rfl iX10_why_X10 (by decide) (by decide +kernel) rfl dX10_why_44 ?_
      refine g_iload_n F dX10_why_47 rfl ?_
      obtain ⟨r_3, hg_3, hf⟩ := gb1_el hf
      refine g_callS (Lr := [sLB E aL acoins aaccounts acode apaid aowner auses aidle auser aword acut L_price L_letter L_deposit L_keep L_refund L_users L_pieces L_words L_time L_chest L_fund, sArrI E acoins 4 coins, sArrI E acode 25 code]) (As := [.int x3]) (rest := [.int L_deposit, .int r_2, .int (coins (x1.toNatClampNeg))]) F 1 (ctJ6_bitCount_0f7a4 l E x3 r_3 hg_3) (va_cwS 1 F.2.2.2.2.2.1 gX10_why_J6_bitCount_0f7a4 rfl rfl rfl h0J6_bitCount_0f7a4 ⟨Nat.le_of_ble_eq_true rfl, Nat.le_of_ble_eq_true rfl⟩) [] [0, 1, 2] rfl rfl rfl rfl rfl rfl (Nat.le_of_ble_eq_true rfl) dX10_why_48 ⟨(Nat.le_of_ble_eq_true rfl), (Nat.le_of_ble_eq_true rfl)⟩ ?_
      rintro v w ⟨rfl, rfl⟩
      refine g_norm (Lw' := [sLB E aL acoins aaccounts acode apaid aowner auses aidle auser aword acut L_price L_letter L_deposit L_keep L_refund L_users L_pieces L_words L_time L_chest L_fund, sArrI E acoins 4 coins, sArrI E acode 25 code]) (st' := [.int r_3, .int L_deposit, .int r_2, .int (coins (x1.toNatClampNeg))]) (pc' := 51) [0, 1, 2] rfl rfl rfl rfl ?_
      refine g_iconst F 1 dX10_why_51 rfl ?_
      refine g_iadd F dX10_why_52 ?_
      refine g_imul F dX10_why_53 ?_
      refine g_iadd F dX10_why_54 ?_
      refine g_icmp_ge F 62 dX10_why_55 (by decide) (fun hc_1 => ?_) (fun hc_1 => ?_)
      · replace hf := gi_t hc_1 hf
        refine g_iconst F 0 dX10_why_62 rfl ?_
        cases hf
        exact g_iret F rfl ⟨rfl, rfl⟩ dX10_why_63
      · replace hf := gi_f hc_1 hf
        refine g_iconst F 4 dX10_why_58 rfl ?_
        refine g_goto F 63 dX10_why_59 (by decide) ?_
        cases hf
        exact g_iret F rfl ⟨rfl, rfl⟩ dX10_why_63
    · replace hf := gi_f hc_2 hf
      refine g_iconst F 3 dX10_why_28 rfl ?_
      cases hf
      exact g_iret F rfl ⟨rfl, rfl⟩ dX10_why_29
  · replace hf := gi_t hc_3 hf
    refine g_iconst F 2 dX10_why_9 rfl ?_
    cases hf
    exact g_iret F rfl ⟨rfl, rfl⟩ dX10_why_10
set_option maxHeartbeats 4000000 in
set_option maxRecDepth 100000 in
theorem ctX10_comes (l : Launch) (E : gE) (aL acoins aaccounts acode apaid aowner auses aidle auser aword acut : Nat → Nat) (x1 : Int32) (x2 : Int32) (x3 : Int32) (L_price : Int32) (L_letter : Int32) (L_deposit : Int32) (L_keep : Int32) (L_refund : Int32) (L_users : Int32) (L_pieces : Int32) (L_words : Int32) (L_time : Int32) (L_chest : Int32) (L_fund : Int32) (code : (Nat → Int32)) (paid : (Nat → Int32)) (owner : (Nat → Int32)) (uses : (Nat → Int32)) (idle : (Nat → Int32)) (L_pieces' : Int32) (code' : (Nat → Int32)) (paid' : (Nat → Int32)) (owner' : (Nat → Int32)) (uses' : (Nat → Int32)) (idle' : (Nat → Int32)) (hf : fX10_comes x1 x2 x3 L_pieces L_time code paid owner uses idle = some (L_pieces', code', paid', owner', uses', idle')) : gMet l yX10_comes wsX10_comes rmX10_comes vwCl E [.ref (aL 0), .int x1, .int x2, .int x3] [sLB E aL acoins aaccounts acode apaid aowner auses aidle auser aword acut L_price L_letter L_deposit L_keep L_refund L_users L_pieces L_words L_time L_chest L_fund, sArrI E acode 25 code, sArrI E apaid 25 paid, sArrI E aowner 25 owner, sArrI E auses 25 uses, sArrI E aidle 25 idle] (fun v w => v = none ∧ w = [sLB E aL acoins aaccounts acode apaid aowner auses aidle auser aword acut L_price L_letter L_deposit L_keep L_refund L_users L_pieces' L_words L_time L_chest L_fund, sArrI E acode 25 code', sArrI E apaid 25 paid', sArrI E aowner 25 owner', sArrI E auses 25 uses', sArrI E aidle 25 idle']) 0 0 := by
  refine g_entry [some (.ref (aL 0)), some (.int x1), some (.int x2), some (.int x3)] (by decide) rfl (Nat.le_of_ble_eq_true rfl) rfl ?_
  intro p e s m below meth c A F hnm
  unfold fX10_comes at hf
  refine g_aload_n F dX10_comes_0 rfl ?_
  refine g_get (C := RX10) (T := TX10) (N := 21) F 0 0 13 rfl rfl rfl iX10_comes_X10 (by decide) (by decide +kernel) rfl dX10_comes_1 ?_
  refine g_aload_n F dX10_comes_4 rfl ?_
  refine g_get (C := RX10) (T := TX10) (N := 21) F 0 0 6 rfl rfl rfl iX10_comes_X10 (by decide) (by decide +kernel) rfl dX10_comes_5 ?_
  refine g_iload_n F dX10_comes_8 rfl ?_
  obtain ⟨hb_1, hf⟩ := gb_in hf
  obtain ⟨code_1, hcode_1, hf⟩ := Lt_el hf
  refine g_iast (Lw' := [sLB E aL acoins aaccounts acode apaid aowner auses aidle auser aword acut L_price L_letter L_deposit L_keep L_refund L_users L_pieces L_words L_time L_chest L_fund, sArrI E acode 25 code_1, sArrI E apaid 25 paid, sArrI E aowner 25 owner, sArrI E auses 25 uses, sArrI E aidle 25 idle]) F 1 0 (L_pieces.toNatClampNeg) rfl rfl rfl hb_1 dX10_comes_9 (by subst hcode_1; rfl) ?_
  refine g_aload_n F dX10_comes_10 rfl ?_
  refine g_get (C := RX10) (T := TX10) (N := 21) F 0 0 14 rfl rfl rfl iX10_comes_X10 (by decide) (by decide +kernel) rfl dX10_comes_11 ?_
  refine g_aload_n F dX10_comes_14 rfl ?_
  refine g_get (C := RX10) (T := TX10) (N := 21) F 0 0 6 rfl rfl rfl iX10_comes_X10 (by decide) (by decide +kernel) rfl dX10_comes_15 ?_
  refine g_iload_n F dX10_comes_18 rfl ?_
  obtain ⟨hb_2, hf⟩ := gb_in hf
  obtain ⟨paid_1, hpaid_1, hf⟩ := Lt_el hf
  refine g_iast (Lw' := [sLB E aL acoins aaccounts acode apaid aowner auses aidle auser aword acut L_price L_letter L_deposit L_keep L_refund L_users L_pieces L_words L_time L_chest L_fund, sArrI E acode 25 code_1, sArrI E apaid 25 paid_1, sArrI E aowner 25 owner, sArrI E auses 25 uses, sArrI E aidle 25 idle]) F 2 0 (L_pieces.toNatClampNeg) rfl rfl rfl hb_2 dX10_comes_19 (by subst hpaid_1; rfl) ?_
  refine g_aload_n F dX10_comes_20 rfl ?_
  refine g_get (C := RX10) (T := TX10) (N := 21) F 0 0 15 rfl rfl rfl iX10_comes_X10 (by decide) (by decide +kernel) rfl dX10_comes_21 ?_
  refine g_aload_n F dX10_comes_24 rfl ?_
  refine g_get (C := RX10) (T := TX10) (N := 21) F 0 0 6 rfl rfl rfl iX10_comes_X10 (by decide) (by decide +kernel) rfl dX10_comes_25 ?_
  refine g_iload_n F dX10_comes_28 rfl ?_
  obtain ⟨hb_3, hf⟩ := gb_in hf
  obtain ⟨owner_1, howner_1, hf⟩ := Lt_el hf
  refine g_iast (Lw' := [sLB E aL acoins aaccounts acode apaid aowner auses aidle auser aword acut L_price L_letter L_deposit L_keep L_refund L_users L_pieces L_words L_time L_chest L_fund, sArrI E acode 25 code_1, sArrI E apaid 25 paid_1, sArrI E aowner 25 owner_1, sArrI E auses 25 uses, sArrI E aidle 25 idle]) F 3 0 (L_pieces.toNatClampNeg) rfl rfl rfl hb_3 dX10_comes_29 (by subst howner_1; rfl) ?_
  refine g_aload_n F dX10_comes_30 rfl ?_
  refine g_get (C := RX10) (T := TX10) (N := 21) F 0 0 16 rfl rfl rfl iX10_comes_X10 (by decide) (by decide +kernel) rfl dX10_comes_31 ?_
  refine g_aload_n F dX10_comes_34 rfl ?_
  refine g_get (C := RX10) (T := TX10) (N := 21) F 0 0 6 rfl rfl rfl iX10_comes_X10 (by decide) (by decide +kernel) rfl dX10_comes_35 ?_
  refine g_iconst F 0 dX10_comes_38 rfl ?_
  obtain ⟨hb_4, hf⟩ := gb_in hf
  obtain ⟨uses_1, huses_1, hf⟩ := Lt_el hf
  refine g_iast (Lw' := [sLB E aL acoins aaccounts acode apaid aowner auses aidle auser aword acut L_price L_letter L_deposit L_keep L_refund L_users L_pieces L_words L_time L_chest L_fund, sArrI E acode 25 code_1, sArrI E apaid 25 paid_1, sArrI E aowner 25 owner_1, sArrI E auses 25 uses_1, sArrI E aidle 25 idle]) F 4 0 (L_pieces.toNatClampNeg) rfl rfl rfl hb_4 dX10_comes_39 (by subst huses_1; rfl) ?_
  refine g_aload_n F dX10_comes_40 rfl ?_
  refine g_get (C := RX10) (T := TX10) (N := 21) F 0 0 17 rfl rfl rfl iX10_comes_X10 (by decide) (by decide +kernel) rfl dX10_comes_41 ?_
  refine g_aload_n F dX10_comes_44 rfl ?_
  refine g_get (C := RX10) (T := TX10) (N := 21) F 0 0 6 rfl rfl rfl iX10_comes_X10 (by decide) (by decide +kernel) rfl dX10_comes_45 ?_
  refine g_aload_n F dX10_comes_48 rfl ?_
  refine g_get (C := RX10) (T := TX10) (N := 21) F 0 0 8 rfl rfl rfl iX10_comes_X10 (by decide) (by decide +kernel) rfl dX10_comes_49 ?_
  obtain ⟨hb_5, hf⟩ := gb_in hf
  obtain ⟨idle_1, hidle_1, hf⟩ := Lt_el hf
  refine g_iast (Lw' := [sLB E aL acoins aaccounts acode apaid aowner auses aidle auser aword acut L_price L_letter L_deposit L_keep L_refund L_users L_pieces L_words L_time L_chest L_fund, sArrI E acode 25 code_1, sArrI E apaid 25 paid_1, sArrI E aowner 25 owner_1, sArrI E auses 25 uses_1, sArrI E aidle 25 idle_1]) F 5 0 (L_pieces.toNatClampNeg) rfl rfl rfl hb_5 dX10_comes_52 (by subst hidle_1; rfl) ?_
  refine g_aload_n F dX10_comes_53 rfl ?_
  refine g_dup F dX10_comes_54 rfl ?_
  refine g_get (C := RX10) (T := TX10) (N := 21) F 0 0 6 rfl rfl rfl iX10_comes_X10 (by decide) (by decide +kernel) rfl dX10_comes_55 ?_
  refine g_iconst F 1 dX10_comes_58 rfl ?_
  refine g_iadd F dX10_comes_59 ?_
  refine g_put (C := RX10) (T := TX10) (N := 21) (tys := tyX10) (Lw' := [sLB E aL acoins aaccounts acode apaid aowner auses aidle auser aword acut L_price L_letter L_deposit L_keep L_refund L_users (L_pieces + 1) L_words L_time L_chest L_fund, sArrI E acode 25 code_1, sArrI E apaid 25 paid_1, sArrI E aowner 25 owner_1, sArrI E auses 25 uses_1, sArrI E aidle 25 idle_1]) F 0 0 6 rfl rfl rfl iX10_comes_X10 tyX10_ok nmX10 (by decide) (by decide +kernel) rfl rfl rfl rfl (Nat.le_of_ble_eq_true rfl) dX10_comes_60 rfl ?_
  cases hf
  exact g_vret F rfl ⟨rfl, rfl⟩ dX10_comes_63
set_option maxHeartbeats 4000000 in
set_option maxRecDepth 100000 in
theorem ctX10_buys (l : Launch) (E : gE) (aL acoins aaccounts acode apaid aowner auses aidle auser aword acut : Nat → Nat) (x1 : Int32) (x2 : Int32) (L_price : Int32) (L_letter : Int32) (L_deposit : Int32) (L_keep : Int32) (L_refund : Int32) (L_users : Int32) (L_pieces : Int32) (L_words : Int32) (L_time : Int32) (L_chest : Int32) (L_fund : Int32) (coins : (Nat → Int32)) (accounts : (Nat → Int32)) (code : (Nat → Int32)) (paid : (Nat → Int32)) (owner : (Nat → Int32)) (uses : (Nat → Int32)) (idle : (Nat → Int32)) (L_pieces' : Int32) (L_chest' : Int32) (coins' : (Nat → Int32)) (accounts' : (Nat → Int32)) (code' : (Nat → Int32)) (paid' : (Nat → Int32)) (owner' : (Nat → Int32)) (uses' : (Nat → Int32)) (idle' : (Nat → Int32)) (hf : fX10_buys x1 x2 L_price L_letter L_pieces L_time L_chest coins accounts code paid owner uses idle = some (L_pieces', L_chest', coins', accounts', code', paid', owner', uses', idle')) : gMet l yX10_buys wsX10_buys rmX10_buys vwCl E [.ref (aL 0), .int x1, .int x2] [sLB E aL acoins aaccounts acode apaid aowner auses aidle auser aword acut L_price L_letter L_deposit L_keep L_refund L_users L_pieces L_words L_time L_chest L_fund, sArrI E acoins 4 coins, sArrI E aaccounts 6 accounts, sArrI E acode 25 code, sArrI E apaid 25 paid, sArrI E aowner 25 owner, sArrI E auses 25 uses, sArrI E aidle 25 idle] (fun v w => v = none ∧ w = [sLB E aL acoins aaccounts acode apaid aowner auses aidle auser aword acut L_price L_letter L_deposit L_keep L_refund L_users L_pieces' L_words L_time L_chest' L_fund, sArrI E acoins 4 coins', sArrI E aaccounts 6 accounts', sArrI E acode 25 code', sArrI E apaid 25 paid', sArrI E aowner 25 owner', sArrI E auses 25 uses', sArrI E aidle 25 idle']) 0 0 := by
  refine g_entry [some (.ref (aL 0)), some (.int x1), some (.int x2), none] (by decide) rfl (Nat.le_of_ble_eq_true rfl) rfl ?_
  intro p e s m below meth c A F hnm
  unfold fX10_buys at hf
  refine g_aload_n F dX10_buys_0 rfl ?_
  refine g_iload_n F dX10_buys_1 rfl ?_
  obtain ⟨r_1, hg_1, hf⟩ := gb1_el hf
  refine g_callV (C := RX10) (T := TX10) (N := 21) (Lr := [sArrI E acoins 4 coins, sArrI E aaccounts 6 accounts, sArrI E acode 25 code, sArrI E apaid 25 paid, sArrI E aowner 25 owner, sArrI E auses 25 uses, sArrI E aidle 25 idle]) (As := [.int x1]) (rest := []) F 0 0 1 (ctX10_priceOf l E aL acoins aaccounts acode apaid aowner auses aidle auser aword acut x1 L_price L_letter L_deposit L_keep L_refund L_users L_pieces L_words L_time L_chest L_fund r_1 hg_1) gX10_buys_X10_priceOf rfl rfl rfl h0X10_priceOf ⟨Nat.le_of_ble_eq_true rfl, Nat.le_of_ble_eq_true rfl⟩ rfl rfl rfl [0] [1, 2, 3, 4, 5, 6, 7] rfl rfl rfl rfl rfl rfl (Nat.le_of_ble_eq_true rfl) dX10_buys_2 ⟨(Nat.le_of_ble_eq_true rfl), (Nat.le_of_ble_eq_true rfl)⟩ ?_
  rintro v w ⟨rfl, rfl⟩
  refine g_norm (Lw' := [sLB E aL acoins aaccounts acode apaid aowner auses aidle auser aword acut L_price L_letter L_deposit L_keep L_refund L_users L_pieces L_words L_time L_chest L_fund, sArrI E acoins 4 coins, sArrI E aaccounts 6 accounts, sArrI E acode 25 code, sArrI E apaid 25 paid, sArrI E aowner 25 owner, sArrI E auses 25 uses, sArrI E aidle 25 idle]) (st' := [.int r_1]) (pc' := 5) [0, 1, 2, 3, 4, 5, 6, 7] rfl rfl rfl rfl ?_
  refine g_istore_n (lv' := [some (.ref (aL 0)), some (.int x1), some (.int x2), some (.int r_1)]) F dX10_buys_5 (Nat.le_of_ble_eq_true rfl) rfl rfl ?_
  refine g_aload_n F dX10_buys_6 rfl ?_
  refine g_get (C := RX10) (T := TX10) (N := 21) F 0 0 11 rfl rfl rfl iX10_buys_X10 (by decide) (by decide +kernel) rfl dX10_buys_7 ?_
  refine g_iload_n F dX10_buys_10 rfl ?_
  refine g_dup2 F dX10_buys_11 rfl rfl ?_
  obtain ⟨hb_1, hf⟩ := gb_in hf
  refine g_iald F 1 0 (x2.toNatClampNeg) rfl rfl rfl hb_1 dX10_buys_12 ?_
  refine g_iload_n F dX10_buys_13 rfl ?_
  refine g_isub F dX10_buys_14 ?_
  obtain ⟨hb_2, hf⟩ := gb_in hf
  obtain ⟨coins_1, hcoins_1, hf⟩ := Lt_el hf
  refine g_iast (Lw' := [sLB E aL acoins aaccounts acode apaid aowner auses aidle auser aword acut L_price L_letter L_deposit L_keep L_refund L_users L_pieces L_words L_time L_chest L_fund, sArrI E acoins 4 coins_1, sArrI E aaccounts 6 accounts, sArrI E acode 25 code, sArrI E apaid 25 paid, sArrI E aowner 25 owner, sArrI E auses 25 uses, sArrI E aidle 25 idle]) F 1 0 (x2.toNatClampNeg) rfl rfl rfl hb_2 dX10_buys_15 (by subst hcoins_1; rfl) ?_
  refine g_aload_n F dX10_buys_16 rfl ?_
  refine g_dup F dX10_buys_17 rfl ?_
  refine g_get (C := RX10) (T := TX10) (N := 21) F 0 0 9 rfl rfl rfl iX10_buys_X10 (by decide) (by decide +kernel) rfl dX10_buys_18 ?_
  refine g_iload_n F dX10_buys_21 rfl ?_
  refine g_iadd F dX10_buys_22 ?_
  refine g_put (C := RX10) (T := TX10) (N := 21) (tys := tyX10) (Lw' := [sLB E aL acoins aaccounts acode apaid aowner auses aidle auser aword acut L_price L_letter L_deposit L_keep L_refund L_users L_pieces L_words L_time (L_chest + r_1) L_fund, sArrI E acoins 4 coins_1, sArrI E aaccounts 6 accounts, sArrI E acode 25 code, sArrI E apaid 25 paid, sArrI E aowner 25 owner, sArrI E auses 25 uses, sArrI E aidle 25 idle]) F 0 0 9 rfl rfl rfl iX10_buys_X10 tyX10_ok nmX10 (by decide) (by decide +kernel) rfl rfl rfl rfl (Nat.le_of_ble_eq_true rfl) dX10_buys_23 rfl ?_
  refine g_aload_n F dX10_buys_26 rfl ?_
  refine g_get (C := RX10) (T := TX10) (N := 21) F 0 0 12 rfl rfl rfl iX10_buys_X10 (by decide) (by decide +kernel) rfl dX10_buys_27 ?_
  refine g_iconst F 0 dX10_buys_30 rfl ?_
  refine g_dup2 F dX10_buys_31 rfl rfl ?_
  refine g_iald F 2 0 0 (by decide) rfl rfl (by decide) dX10_buys_32 ?_
  refine g_iload_n F dX10_buys_33 rfl ?_
  refine g_iadd F dX10_buys_34 ?_
  obtain ⟨accounts_1, haccounts_1, hf⟩ := Lt_el hf
  refine g_iast (Lw' := [sLB E aL acoins aaccounts acode apaid aowner auses aidle auser aword acut L_price L_letter L_deposit L_keep L_refund L_users L_pieces L_words L_time (L_chest + r_1) L_fund, sArrI E acoins 4 coins_1, sArrI E aaccounts 6 accounts_1, sArrI E acode 25 code, sArrI E apaid 25 paid, sArrI E aowner 25 owner, sArrI E auses 25 uses, sArrI E aidle 25 idle]) F 2 0 0 (by decide) rfl rfl (by decide) dX10_buys_35 (by subst haccounts_1; rfl) ?_
  refine g_aload_n F dX10_buys_36 rfl ?_
  refine g_get (C := RX10) (T := TX10) (N := 21) F 0 0 12 rfl rfl rfl iX10_buys_X10 (by decide) (by decide +kernel) rfl dX10_buys_37 ?_
  refine g_iconst F 4 dX10_buys_40 rfl ?_
  refine g_dup2 F dX10_buys_41 rfl rfl ?_
  refine g_iald F 2 0 4 (by decide) rfl rfl (by decide) dX10_buys_42 ?_
  refine g_iconst F 1 dX10_buys_43 rfl ?_
  refine g_iadd F dX10_buys_44 ?_
  obtain ⟨accounts_2, haccounts_2, hf⟩ := Lt_el hf
  refine g_iast (Lw' := [sLB E aL acoins aaccounts acode apaid aowner auses aidle auser aword acut L_price L_letter L_deposit L_keep L_refund L_users L_pieces L_words L_time (L_chest + r_1) L_fund, sArrI E acoins 4 coins_1, sArrI E aaccounts 6 accounts_2, sArrI E acode 25 code, sArrI E apaid 25 paid, sArrI E aowner 25 owner, sArrI E auses 25 uses, sArrI E aidle 25 idle]) F 2 0 4 (by decide) rfl rfl (by decide) dX10_buys_45 (by subst haccounts_2; rfl) ?_
  refine g_aload_n F dX10_buys_46 rfl ?_
  refine g_iload_n F dX10_buys_47 rfl ?_
  refine g_iload_n F dX10_buys_48 rfl ?_
  refine g_iload_n F dX10_buys_49 rfl ?_
  obtain ⟨L_pieces_1, code_1, paid_1, owner_1, uses_1, idle_1, hg_2, hf⟩ := gb6_el hf
  refine g_callV (C := RX10) (T := TX10) (N := 21) (Lr := [sArrI E acoins 4 coins_1, sArrI E aaccounts 6 accounts_2]) (As := [.int x1, .int r_1, .int x2]) (rest := []) F 0 0 3 (ctX10_comes l E aL acoins aaccounts acode apaid aowner auses aidle auser aword acut x1 r_1 x2 L_price L_letter L_deposit L_keep L_refund L_users L_pieces L_words L_time (L_chest + r_1) L_fund code paid owner uses idle L_pieces_1 code_1 paid_1 owner_1 uses_1 idle_1 hg_2) gX10_buys_X10_comes rfl rfl rfl h0X10_comes ⟨Nat.le_of_ble_eq_true rfl, Nat.le_of_ble_eq_true rfl⟩ rfl rfl rfl [0, 3, 4, 5, 6, 7] [1, 2] rfl rfl rfl rfl rfl rfl (Nat.le_of_ble_eq_true rfl) dX10_buys_50 ⟨(Nat.le_of_ble_eq_true rfl), (Nat.le_of_ble_eq_true rfl)⟩ ?_
  rintro v w ⟨rfl, rfl⟩
  refine g_norm (Lw' := [sLB E aL acoins aaccounts acode apaid aowner auses aidle auser aword acut L_price L_letter L_deposit L_keep L_refund L_users L_pieces_1 L_words L_time (L_chest + r_1) L_fund, sArrI E acoins 4 coins_1, sArrI E aaccounts 6 accounts_2, sArrI E acode 25 code_1, sArrI E apaid 25 paid_1, sArrI E aowner 25 owner_1, sArrI E auses 25 uses_1, sArrI E aidle 25 idle_1]) (st' := []) (pc' := 53) [0, 6, 7, 1, 2, 3, 4, 5] rfl rfl rfl rfl ?_
  cases hf
  exact g_vret F rfl ⟨rfl, rfl⟩ dX10_buys_53
set_option maxHeartbeats 4000000 in
set_option maxRecDepth 100000 in
theorem ktX10_uses_L3 {p : Program} {l : Launch} {e : Env} {s : State} {m : MethodId} {args : Array Value} {below : List Frame} {meth : Method} {c : Code} {E : gE} {A : Nat → Prop} (F : gFx p s m args meth c RX10 wsX10_uses cX10_uses 6 none vwCl E A) (aL acoins aaccounts acode apaid aowner auses aidle auser aword acut : Nat → Nat) (x1 : Int32) (x2 : Int32) (x3 : Int32) (L_pieces : Int32) (L_time : Int32) (code : (Nat → Int32)) (L_price : Int32) (L_letter : Int32) (L_deposit : Int32) (L_keep : Int32) (L_refund : Int32) (L_users : Int32) (L_words : Int32) (L_chest : Int32) (L_fund : Int32) (uses' : (Nat → Int32)) (idle' : (Nat → Int32)) {k : (Nat → Int32) → (Nat → Int32) → Option ((Nat → Int32) × (Nat → Int32))} (hk : ∀ (uses : (Nat → Int32)) (idle : (Nat → Int32)), k uses idle = some (uses', idle') → Gj p l e rmX10_uses s m args below meth c 0 0 (MQ below (gQ vwCl E A (fun v w => v = none ∧ w = [sLB E aL acoins aaccounts acode apaid aowner auses aidle auser aword acut L_price L_letter L_deposit L_keep L_refund L_users L_pieces L_words L_time L_chest L_fund, sArrI E acode 25 code, sArrI E auses 25 uses', sArrI E aidle 25 idle'])) args s 0 0 A) vwCl E A [sLB E aL acoins aaccounts acode apaid aowner auses aidle auser aword acut L_price L_letter L_deposit L_keep L_refund L_users L_pieces L_words L_time L_chest L_fund, sArrI E acode 25 code, sArrI E auses 25 uses, sArrI E aidle 25 idle] [none, none, none, none, none, none] [] 64) : ∀ (n : Nat) (x4 : Int32) (uses : (Nat → Int32)) (idle : (Nat → Int32)), fX10_uses_L3 x1 x2 x3 L_pieces L_time code k n x4 uses idle = some (uses', idle') → Gj p l e rmX10_uses s m args below meth c 0 0 (MQ below (gQ vwCl E A (fun v w => v = none ∧ w = [sLB E aL acoins aaccounts acode apaid aowner auses aidle auser aword acut L_price L_letter L_deposit L_keep L_refund L_users L_pieces L_words L_time L_chest L_fund, sArrI E acode 25 code, sArrI E auses 25 uses', sArrI E aidle 25 idle'])) args s 0 0 A) vwCl E A [sLB E aL acoins aaccounts acode apaid aowner auses aidle auser aword acut L_price L_letter L_deposit L_keep L_refund L_users L_pieces L_words L_time L_chest L_fund, sArrI E acode 25 code, sArrI E auses 25 uses, sArrI E aidle 25 idle] [some (.ref (aL 0)), some (.int x1), some (.int x2), some (.int x3), some (.int x4), none] [] 3
  | 0, _, _, _, hf => by cases hf
  | n + 1, x4, uses, idle, hf => by
    have ih := ktX10_uses_L3 F aL acoins aaccounts acode apaid aowner auses aidle auser aword acut x1 x2 x3 L_pieces L_time code L_price L_letter L_deposit L_keep L_refund L_users L_words L_chest L_fund uses' idle' hk n
    rw [fX10_uses_L3] at hf
    refine g_iload F dX10_uses_3 rfl ?_
    refine g_iload_n F dX10_uses_5 rfl ?_
    obtain ⟨r_1, hg_1, hf⟩ := gb1_el hf
    refine g_callS (Lr := [sLB E aL acoins aaccounts acode apaid aowner auses aidle auser aword acut L_price L_letter L_deposit L_keep L_refund L_users L_pieces L_words L_time L_chest L_fund, sArrI E acode 25 code, sArrI E auses 25 uses, sArrI E aidle 25 idle]) (As := [.int x2]) (rest := [.int x4]) F 1 (ctJ6_bitCount_0f7a4 l E x2 r_1 hg_1) (va_cwS 1 F.2.2.2.2.2.1 gX10_uses_J6_bitCount_0f7a4 rfl rfl rfl h0J6_bitCount_0f7a4 ⟨Nat.le_of_ble_eq_true rfl, Nat.le_of_ble_eq_true rfl⟩) [] [0, 1, 2, 3] rfl rfl rfl rfl rfl rfl (Nat.le_of_ble_eq_true rfl) dX10_uses_6 ⟨(Nat.le_of_ble_eq_true rfl), (Nat.le_of_ble_eq_true rfl)⟩ ?_
    rintro v w ⟨rfl, rfl⟩
    refine g_norm (Lw' := [sLB E aL acoins aaccounts acode apaid aowner auses aidle auser aword acut L_price L_letter L_deposit L_keep L_refund L_users L_pieces L_words L_time L_chest L_fund, sArrI E acode 25 code, sArrI E auses 25 uses, sArrI E aidle 25 idle]) (st' := [.int r_1, .int x4]) (pc' := 9) [0, 1, 2, 3] rfl rfl rfl rfl ?_
    refine g_icmp_gt F 64 dX10_uses_9 (by decide) (fun hc_2 => ?_) (fun hc_2 => ?_)
    · replace hf := gi_t hc_2 hf
      refine g_mask [false, false, false, false, false, true] rfl ?_
      exact hk uses idle hf
    · replace hf := gi_f hc_2 hf
      refine g_aload_n F dX10_uses_12 rfl ?_
      refine g_aload_n F dX10_uses_13 rfl ?_
      refine g_iload_n F dX10_uses_14 rfl ?_
      refine g_iload_n F dX10_uses_15 rfl ?_
      refine g_iload F dX10_uses_16 rfl ?_
      obtain ⟨r_2, hg_2, hf⟩ := gb1_el hf
      refine g_callV (C := RX10) (T := TX10) (N := 21) (Lr := [sLB E aL acoins aaccounts acode apaid aowner auses aidle auser aword acut L_price L_letter L_deposit L_keep L_refund L_users L_pieces L_words L_time L_chest L_fund, sArrI E acode 25 code, sArrI E auses 25 uses, sArrI E aidle 25 idle]) (As := [.int x1, .int x2, .int x4]) (rest := [.ref (aL 0)]) F 0 0 3 (ctX10_piece l E aL x1 x2 x4 r_2 hg_2) gX10_uses_X10_piece rfl rfl rfl h0X10_piece ⟨Nat.le_of_ble_eq_true rfl, Nat.le_of_ble_eq_true rfl⟩ rfl rfl rfl [] [0, 1, 2, 3] rfl rfl rfl rfl rfl rfl (Nat.le_of_ble_eq_true rfl) dX10_uses_18 ⟨(Nat.le_of_ble_eq_true rfl), (Nat.le_of_ble_eq_true rfl)⟩ ?_
      rintro v w ⟨rfl, rfl⟩
      refine g_norm (Lw' := [sLB E aL acoins aaccounts acode apaid aowner auses aidle auser aword acut L_price L_letter L_deposit L_keep L_refund L_users L_pieces L_words L_time L_chest L_fund, sArrI E acode 25 code, sArrI E auses 25 uses, sArrI E aidle 25 idle]) (st' := [.int r_2, .ref (aL 0)]) (pc' := 21) [0, 1, 2, 3] rfl rfl rfl rfl ?_
      obtain ⟨r_3, hg_3, hf⟩ := gb1_el hf
      refine g_callV (C := RX10) (T := TX10) (N := 21) (Lr := [sArrI E auses 25 uses, sArrI E aidle 25 idle]) (As := [.int r_2]) (rest := []) F 0 0 1 (ctX10_find l E aL acoins aaccounts acode apaid aowner auses aidle auser aword acut r_2 L_price L_letter L_deposit L_keep L_refund L_users L_pieces L_words L_time L_chest L_fund code r_3 hg_3) gX10_uses_X10_find rfl rfl rfl h0X10_find ⟨Nat.le_of_ble_eq_true rfl, Nat.le_of_ble_eq_true rfl⟩ rfl rfl rfl [0, 1] [2, 3] rfl rfl rfl rfl rfl rfl (Nat.le_of_ble_eq_true rfl) dX10_uses_21 ⟨(Nat.le_of_ble_eq_true rfl), (Nat.le_of_ble_eq_true rfl)⟩ ?_
      rintro v w ⟨rfl, rfl⟩
      refine g_norm (Lw' := [sLB E aL acoins aaccounts acode apaid aowner auses aidle auser aword acut L_price L_letter L_deposit L_keep L_refund L_users L_pieces L_words L_time L_chest L_fund, sArrI E acode 25 code, sArrI E auses 25 uses, sArrI E aidle 25 idle]) (st' := [.int r_3]) (pc' := 24) [0, 1, 2, 3] rfl rfl rfl rfl ?_
      refine g_istore (lv' := [some (.ref (aL 0)), some (.int x1), some (.int x2), some (.int x3), some (.int x4), some (.int r_3)]) F dX10_uses_24 (Nat.le_of_ble_eq_true rfl) rfl rfl ?_
      refine g_aload_n F dX10_uses_26 rfl ?_
      refine g_get (C := RX10) (T := TX10) (N := 21) F 0 0 16 rfl rfl rfl iX10_uses_X10 (by decide) (by decide +kernel) rfl dX10_uses_27 ?_
      refine g_iload F dX10_uses_30 rfl ?_
      refine g_dup2 F dX10_uses_32 rfl rfl ?_
      obtain ⟨hb_1, hf⟩ := gb_in hf
      refine g_iald F 2 0 (r_3.toNatClampNeg) rfl rfl rfl hb_1 dX10_uses_33 ?_
      refine g_iload_n F dX10_uses_34 rfl ?_
      refine g_iadd F dX10_uses_35 ?_
      obtain ⟨hb_2, hf⟩ := gb_in hf
      obtain ⟨uses_1, huses_1, hf⟩ := Lt_el hf
      refine g_iast (Lw' := [sLB E aL acoins aaccounts acode apaid aowner auses aidle auser aword acut L_price L_letter L_deposit L_keep L_refund L_users L_pieces L_words L_time L_chest L_fund, sArrI E acode 25 code, sArrI E auses 25 uses_1, sArrI E aidle 25 idle]) F 2 0 (r_3.toNatClampNeg) rfl rfl rfl hb_2 dX10_uses_36 (by subst huses_1; rfl) ?_
      refine g_aload_n F dX10_uses_37 rfl ?_
      refine g_get (C := RX10) (T := TX10) (N := 21) F 0 0 16 rfl rfl rfl iX10_uses_X10 (by decide) (by decide +kernel) rfl dX10_uses_38 ?_
      refine g_iload F dX10_uses_41 rfl ?_
      obtain ⟨hb_3, hf⟩ := gb_in hf
      refine g_iald F 2 0 (r_3.toNatClampNeg) rfl rfl rfl hb_3 dX10_uses_43 ?_
      refine g_ifne F 58 dX10_uses_44 (by decide) (fun hc_1 => ?_) (fun hc_1 => ?_)
      · replace hf := gi_f hc_1 hf
        refine g_iinc (lv' := [some (.ref (aL 0)), some (.int x1), some (.int x2), some (.int x3), some (.int (x4 + 1)), some (.int r_3)]) F (x4 + 1) dX10_uses_58 rfl rfl rfl rfl ?_
        refine g_goto F 3 dX10_uses_61 (by decide) ?_
        refine g_mask [true, true, true, true, true, false] rfl ?_
        exact ih (x4 + 1) uses_1 idle hf
      · replace hf := gi_t hc_1 hf
        refine g_aload_n F dX10_uses_47 rfl ?_
        refine g_get (C := RX10) (T := TX10) (N := 21) F 0 0 17 rfl rfl rfl iX10_uses_X10 (by decide) (by decide +kernel) rfl dX10_uses_48 ?_
        refine g_iload F dX10_uses_51 rfl ?_
        refine g_aload_n F dX10_uses_53 rfl ?_
        refine g_get (C := RX10) (T := TX10) (N := 21) F 0 0 8 rfl rfl rfl iX10_uses_X10 (by decide) (by decide +kernel) rfl dX10_uses_54 ?_
        obtain ⟨hb_4, hf⟩ := gb_in hf
        obtain ⟨idle_1, hidle_1, hf⟩ := Lt_el hf
        refine g_iast (Lw' := [sLB E aL acoins aaccounts acode apaid aowner auses aidle auser aword acut L_price L_letter L_deposit L_keep L_refund L_users L_pieces L_words L_time L_chest L_fund, sArrI E acode 25 code, sArrI E auses 25 uses_1, sArrI E aidle 25 idle_1]) F 3 0 (r_3.toNatClampNeg) rfl rfl rfl hb_4 dX10_uses_57 (by subst hidle_1; rfl) ?_
        refine g_iinc (lv' := [some (.ref (aL 0)), some (.int x1), some (.int x2), some (.int x3), some (.int (x4 + 1)), some (.int r_3)]) F (x4 + 1) dX10_uses_58 rfl rfl rfl rfl ?_
        refine g_goto F 3 dX10_uses_61 (by decide) ?_
        refine g_mask [true, true, true, true, true, false] rfl ?_
        exact ih (x4 + 1) uses_1 idle_1 hf
set_option maxHeartbeats 4000000 in
set_option maxRecDepth 100000 in
theorem ctX10_uses (l : Launch) (E : gE) (aL acoins aaccounts acode apaid aowner auses aidle auser aword acut : Nat → Nat) (x1 : Int32) (x2 : Int32) (x3 : Int32) (L_price : Int32) (L_letter : Int32) (L_deposit : Int32) (L_keep : Int32) (L_refund : Int32) (L_users : Int32) (L_pieces : Int32) (L_words : Int32) (L_time : Int32) (L_chest : Int32) (L_fund : Int32) (code : (Nat → Int32)) (uses : (Nat → Int32)) (idle : (Nat → Int32)) (uses' : (Nat → Int32)) (idle' : (Nat → Int32)) (hf : fX10_uses x1 x2 x3 L_pieces L_time code uses idle = some (uses', idle')) : gMet l yX10_uses wsX10_uses rmX10_uses vwCl E [.ref (aL 0), .int x1, .int x2, .int x3] [sLB E aL acoins aaccounts acode apaid aowner auses aidle auser aword acut L_price L_letter L_deposit L_keep L_refund L_users L_pieces L_words L_time L_chest L_fund, sArrI E acode 25 code, sArrI E auses 25 uses, sArrI E aidle 25 idle] (fun v w => v = none ∧ w = [sLB E aL acoins aaccounts acode apaid aowner auses aidle auser aword acut L_price L_letter L_deposit L_keep L_refund L_users L_pieces L_words L_time L_chest L_fund, sArrI E acode 25 code, sArrI E auses 25 uses', sArrI E aidle 25 idle']) 0 0 := by
  refine g_entry [some (.ref (aL 0)), some (.int x1), some (.int x2), some (.int x3), none, none] (by decide) rfl (Nat.le_of_ble_eq_true rfl) rfl ?_
  intro p e s m below meth c A F hnm
  unfold fX10_uses at hf
  refine g_iconst F 0 dX10_uses_0 rfl ?_
  refine g_istore (lv' := [some (.ref (aL 0)), some (.int x1), some (.int x2), some (.int x3), some (.int 0), none]) F dX10_uses_1 (Nat.le_of_ble_eq_true rfl) rfl rfl ?_
  refine ktX10_uses_L3 F aL acoins aaccounts acode apaid aowner auses aidle auser aword acut x1 x2 x3 L_pieces L_time code L_price L_letter L_deposit L_keep L_refund L_users L_words L_chest L_fund uses' idle' (fun uses_1 idle_1 hf => ?_) FU 0 uses idle hf
  cases hf
  exact g_vret F rfl ⟨rfl, rfl⟩ dX10_uses_64
set_option maxHeartbeats 4000000 in
set_option maxRecDepth 100000 in
theorem ktX10_store_L11 {p : Program} {l : Launch} {e : Env} {s : State} {m : MethodId} {args : Array Value} {below : List Frame} {meth : Method} {c : Code} {E : gE} {A : Nat → Prop} (F : gFx p s m args meth c RX10 wsX10_store cX10_store 5 none vwCl E A) (aL acoins aaccounts acode apaid aowner auses aidle auser aword acut : Nat → Nat) (x1 : Int32) (x2 : Int32) (x3 : Int32) (L_price : Int32) (L_letter : Int32) (L_time : Int32) (L_deposit : Int32) (L_keep : Int32) (L_refund : Int32) (L_users : Int32) (L_words : Int32) (L_fund : Int32) (user : (Nat → Int32)) (word : (Nat → Int32)) (cut : (Nat → Int32)) (L_pieces' : Int32) (L_words' : Int32) (L_chest' : Int32) (L_fund' : Int32) (coins' : (Nat → Int32)) (accounts' : (Nat → Int32)) (code' : (Nat → Int32)) (paid' : (Nat → Int32)) (owner' : (Nat → Int32)) (uses' : (Nat → Int32)) (idle' : (Nat → Int32)) (user' : (Nat → Int32)) (word' : (Nat → Int32)) (cut' : (Nat → Int32)) {k : Int32 → Int32 → (Nat → Int32) → (Nat → Int32) → (Nat → Int32) → (Nat → Int32) → (Nat → Int32) → (Nat → Int32) → (Nat → Int32) → Option (Int32 × Int32 × Int32 × Int32 × (Nat → Int32) × (Nat → Int32) × (Nat → Int32) × (Nat → Int32) × (Nat → Int32) × (Nat → Int32) × (Nat → Int32) × (Nat → Int32) × (Nat → Int32) × (Nat → Int32))} (hk : ∀ (L_pieces : Int32) (L_chest : Int32) (coins : (Nat → Int32)) (accounts : (Nat → Int32)) (code : (Nat → Int32)) (paid : (Nat → Int32)) (owner : (Nat → Int32)) (uses : (Nat → Int32)) (idle : (Nat → Int32)), k L_pieces L_chest coins accounts code paid owner uses idle = some (L_pieces', L_words', L_chest', L_fund', coins', accounts', code', paid', owner', uses', idle', user', word', cut') → Gj p l e rmX10_store s m args below meth c 0 0 (MQ below (gQ vwCl E A (fun v w => v = none ∧ w = [sLB E aL acoins aaccounts acode apaid aowner auses aidle auser aword acut L_price L_letter L_deposit L_keep L_refund L_users L_pieces' L_words' L_time L_chest' L_fund', sArrI E acoins 4 coins', sArrI E aaccounts 6 accounts', sArrI E acode 25 code', sArrI E apaid 25 paid', sArrI E aowner 25 owner', sArrI E auses 25 uses', sArrI E aidle 25 idle', sArrI E auser 17 user', sArrI E aword 17 word', sArrI E acut 17 cut'])) args s 0 0 A) vwCl E A [sLB E aL acoins aaccounts acode apaid aowner auses aidle auser aword acut L_price L_letter L_deposit L_keep L_refund L_users L_pieces L_words L_time L_chest L_fund, sArrI E acoins 4 coins, sArrI E aaccounts 6 accounts, sArrI E acode 25 code, sArrI E apaid 25 paid, sArrI E aowner 25 owner, sArrI E auses 25 uses, sArrI E aidle 25 idle, sArrI E auser 17 user, sArrI E aword 17 word, sArrI E acut 17 cut] [some (.ref (aL 0)), some (.int x1), some (.int x2), some (.int x3), none] [] 54) : ∀ (n : Nat) (x4 : Int32) (L_pieces : Int32) (L_chest : Int32) (coins : (Nat → Int32)) (accounts : (Nat → Int32)) (code : (Nat → Int32)) (paid : (Nat → Int32)) (owner : (Nat → Int32)) (uses : (Nat → Int32)) (idle : (Nat → Int32)), fX10_store_L11 x1 x2 x3 L_price L_letter L_time k n x4 L_pieces L_chest coins accounts code paid owner uses idle = some (L_pieces', L_words', L_chest', L_fund', coins', accounts', code', paid', owner', uses', idle', user', word', cut') → Gj p l e rmX10_store s m args below meth c 0 0 (MQ below (gQ vwCl E A (fun v w => v = none ∧ w = [sLB E aL acoins aaccounts acode apaid aowner auses aidle auser aword acut L_price L_letter L_deposit L_keep L_refund L_users L_pieces' L_words' L_time L_chest' L_fund', sArrI E acoins 4 coins', sArrI E aaccounts 6 accounts', sArrI E acode 25 code', sArrI E apaid 25 paid', sArrI E aowner 25 owner', sArrI E auses 25 uses', sArrI E aidle 25 idle', sArrI E auser 17 user', sArrI E aword 17 word', sArrI E acut 17 cut'])) args s 0 0 A) vwCl E A [sLB E aL acoins aaccounts acode apaid aowner auses aidle auser aword acut L_price L_letter L_deposit L_keep L_refund L_users L_pieces L_words L_time L_chest L_fund, sArrI E acoins 4 coins, sArrI E aaccounts 6 accounts, sArrI E acode 25 code, sArrI E apaid 25 paid, sArrI E aowner 25 owner, sArrI E auses 25 uses, sArrI E aidle 25 idle, sArrI E auser 17 user, sArrI E aword 17 word, sArrI E acut 17 cut] [some (.ref (aL 0)), some (.int x1), some (.int x2), some (.int x3), some (.int x4)] [] 11
  | 0, _, _, _, _, _, _, _, _, _, _, hf => by cases hf
  | n + 1, x4, L_pieces, L_chest, coins, accounts, code, paid, owner, uses, idle, hf => by
    have ih := ktX10_store_L11 F aL acoins aaccounts acode apaid aowner auses aidle auser aword acut x1 x2 x3 L_price L_letter L_time L_deposit L_keep L_refund L_users L_words L_fund user word cut L_pieces' L_words' L_chest' L_fund' coins' accounts' code' paid' owner' uses' idle' user' word' cut' hk n
    rw [fX10_store_L11] at hf
    refine g_iload F dX10_store_11 rfl ?_
    refine g_iload_n F dX10_store_13 rfl ?_
    obtain ⟨r_1, hg_1, hf⟩ := gb1_el hf
    refine g_callS (Lr := [sLB E aL acoins aaccounts acode apaid aowner auses aidle auser aword acut L_price L_letter L_deposit L_keep L_refund L_users L_pieces L_words L_time L_chest L_fund, sArrI E acoins 4 coins, sArrI E aaccounts 6 accounts, sArrI E acode 25 code, sArrI E apaid 25 paid, sArrI E aowner 25 owner, sArrI E auses 25 uses, sArrI E aidle 25 idle, sArrI E auser 17 user, sArrI E aword 17 word, sArrI E acut 17 cut]) (As := [.int x3]) (rest := [.int x4]) F 1 (ctJ6_bitCount_0f7a4 l E x3 r_1 hg_1) (va_cwS 1 F.2.2.2.2.2.1 gX10_store_J6_bitCount_0f7a4 rfl rfl rfl h0J6_bitCount_0f7a4 ⟨Nat.le_of_ble_eq_true rfl, Nat.le_of_ble_eq_true rfl⟩) [] [0, 1, 2, 3, 4, 5, 6, 7, 8, 9, 10] rfl rfl rfl rfl rfl rfl (Nat.le_of_ble_eq_true rfl) dX10_store_14 ⟨(Nat.le_of_ble_eq_true rfl), (Nat.le_of_ble_eq_true rfl)⟩ ?_
    rintro v w ⟨rfl, rfl⟩
    refine g_norm (Lw' := [sLB E aL acoins aaccounts acode apaid aowner auses aidle auser aword acut L_price L_letter L_deposit L_keep L_refund L_users L_pieces L_words L_time L_chest L_fund, sArrI E acoins 4 coins, sArrI E aaccounts 6 accounts, sArrI E acode 25 code, sArrI E apaid 25 paid, sArrI E aowner 25 owner, sArrI E auses 25 uses, sArrI E aidle 25 idle, sArrI E auser 17 user, sArrI E aword 17 word, sArrI E acut 17 cut]) (st' := [.int r_1, .int x4]) (pc' := 17) [0, 1, 2, 3, 4, 5, 6, 7, 8, 9, 10] rfl rfl rfl rfl ?_
    refine g_icmp_gt F 54 dX10_store_17 (by decide) (fun hc_2 => ?_) (fun hc_2 => ?_)
    · replace hf := gi_t hc_2 hf
      refine g_mask [true, true, true, true, false] rfl ?_
      exact hk L_pieces L_chest coins accounts code paid owner uses idle hf
    · replace hf := gi_f hc_2 hf
      refine g_aload_n F dX10_store_20 rfl ?_
      refine g_aload_n F dX10_store_21 rfl ?_
      refine g_iload_n F dX10_store_22 rfl ?_
      refine g_iload_n F dX10_store_23 rfl ?_
      refine g_iload F dX10_store_24 rfl ?_
      obtain ⟨r_2, hg_2, hf⟩ := gb1_el hf
      refine g_callV (C := RX10) (T := TX10) (N := 21) (Lr := [sLB E aL acoins aaccounts acode apaid aowner auses aidle auser aword acut L_price L_letter L_deposit L_keep L_refund L_users L_pieces L_words L_time L_chest L_fund, sArrI E acoins 4 coins, sArrI E aaccounts 6 accounts, sArrI E acode 25 code, sArrI E apaid 25 paid, sArrI E aowner 25 owner, sArrI E auses 25 uses, sArrI E aidle 25 idle, sArrI E auser 17 user, sArrI E aword 17 word, sArrI E acut 17 cut]) (As := [.int x2, .int x3, .int x4]) (rest := [.ref (aL 0)]) F 0 0 3 (ctX10_piece l E aL x2 x3 x4 r_2 hg_2) gX10_store_X10_piece rfl rfl rfl h0X10_piece ⟨Nat.le_of_ble_eq_true rfl, Nat.le_of_ble_eq_true rfl⟩ rfl rfl rfl [] [0, 1, 2, 3, 4, 5, 6, 7, 8, 9, 10] rfl rfl rfl rfl rfl rfl (Nat.le_of_ble_eq_true rfl) dX10_store_26 ⟨(Nat.le_of_ble_eq_true rfl), (Nat.le_of_ble_eq_true rfl)⟩ ?_
      rintro v w ⟨rfl, rfl⟩
      refine g_norm (Lw' := [sLB E aL acoins aaccounts acode apaid aowner auses aidle auser aword acut L_price L_letter L_deposit L_keep L_refund L_users L_pieces L_words L_time L_chest L_fund, sArrI E acoins 4 coins, sArrI E aaccounts 6 accounts, sArrI E acode 25 code, sArrI E apaid 25 paid, sArrI E aowner 25 owner, sArrI E auses 25 uses, sArrI E aidle 25 idle, sArrI E auser 17 user, sArrI E aword 17 word, sArrI E acut 17 cut]) (st' := [.int r_2, .ref (aL 0)]) (pc' := 29) [0, 1, 2, 3, 4, 5, 6, 7, 8, 9, 10] rfl rfl rfl rfl ?_
      obtain ⟨r_3, hg_3, hf⟩ := gb1_el hf
      refine g_callV (C := RX10) (T := TX10) (N := 21) (Lr := [sArrI E acoins 4 coins, sArrI E aaccounts 6 accounts, sArrI E apaid 25 paid, sArrI E aowner 25 owner, sArrI E auses 25 uses, sArrI E aidle 25 idle, sArrI E auser 17 user, sArrI E aword 17 word, sArrI E acut 17 cut]) (As := [.int r_2]) (rest := []) F 0 0 1 (ctX10_find l E aL acoins aaccounts acode apaid aowner auses aidle auser aword acut r_2 L_price L_letter L_deposit L_keep L_refund L_users L_pieces L_words L_time L_chest L_fund code r_3 hg_3) gX10_store_X10_find rfl rfl rfl h0X10_find ⟨Nat.le_of_ble_eq_true rfl, Nat.le_of_ble_eq_true rfl⟩ rfl rfl rfl [0, 3] [1, 2, 4, 5, 6, 7, 8, 9, 10] rfl rfl rfl rfl rfl rfl (Nat.le_of_ble_eq_true rfl) dX10_store_29 ⟨(Nat.le_of_ble_eq_true rfl), (Nat.le_of_ble_eq_true rfl)⟩ ?_
      rintro v w ⟨rfl, rfl⟩
      refine g_norm (Lw' := [sLB E aL acoins aaccounts acode apaid aowner auses aidle auser aword acut L_price L_letter L_deposit L_keep L_refund L_users L_pieces L_words L_time L_chest L_fund, sArrI E acoins 4 coins, sArrI E aaccounts 6 accounts, sArrI E acode 25 code, sArrI E apaid 25 paid, sArrI E aowner 25 owner, sArrI E auses 25 uses, sArrI E aidle 25 idle, sArrI E auser 17 user, sArrI E aword 17 word, sArrI E acut 17 cut]) (st' := [.int r_3]) (pc' := 32) [0, 2, 3, 1, 4, 5, 6, 7, 8, 9, 10] rfl rfl rfl rfl ?_
      refine g_ifge F 48 dX10_store_32 (by decide) (fun hc_1 => ?_) (fun hc_1 => ?_)
      · replace hf := gi_t hc_1 hf
        refine g_iinc (lv' := [some (.ref (aL 0)), some (.int x1), some (.int x2), some (.int x3), some (.int (x4 + 1))]) F (x4 + 1) dX10_store_48 rfl rfl rfl rfl ?_
        refine g_goto F 11 dX10_store_51 (by decide) ?_
        exact ih (x4 + 1) L_pieces L_chest coins accounts code paid owner uses idle hf
      · replace hf := gi_f hc_1 hf
        refine g_aload_n F dX10_store_35 rfl ?_
        refine g_aload_n F dX10_store_36 rfl ?_
        refine g_iload_n F dX10_store_37 rfl ?_
        refine g_iload_n F dX10_store_38 rfl ?_
        refine g_iload F dX10_store_39 rfl ?_
        obtain ⟨r_4, hg_4, hf⟩ := gb1_el hf
        refine g_callV (C := RX10) (T := TX10) (N := 21) (Lr := [sLB E aL acoins aaccounts acode apaid aowner auses aidle auser aword acut L_price L_letter L_deposit L_keep L_refund L_users L_pieces L_words L_time L_chest L_fund, sArrI E acoins 4 coins, sArrI E aaccounts 6 accounts, sArrI E acode 25 code, sArrI E apaid 25 paid, sArrI E aowner 25 owner, sArrI E auses 25 uses, sArrI E aidle 25 idle, sArrI E auser 17 user, sArrI E aword 17 word, sArrI E acut 17 cut]) (As := [.int x2, .int x3, .int x4]) (rest := [.ref (aL 0)]) F 0 0 3 (ctX10_piece l E aL x2 x3 x4 r_4 hg_4) gX10_store_X10_piece rfl rfl rfl h0X10_piece ⟨Nat.le_of_ble_eq_true rfl, Nat.le_of_ble_eq_true rfl⟩ rfl rfl rfl [] [0, 1, 2, 3, 4, 5, 6, 7, 8, 9, 10] rfl rfl rfl rfl rfl rfl (Nat.le_of_ble_eq_true rfl) dX10_store_41 ⟨(Nat.le_of_ble_eq_true rfl), (Nat.le_of_ble_eq_true rfl)⟩ ?_
        rintro v w ⟨rfl, rfl⟩
        refine g_norm (Lw' := [sLB E aL acoins aaccounts acode apaid aowner auses aidle auser aword acut L_price L_letter L_deposit L_keep L_refund L_users L_pieces L_words L_time L_chest L_fund, sArrI E acoins 4 coins, sArrI E aaccounts 6 accounts, sArrI E acode 25 code, sArrI E apaid 25 paid, sArrI E aowner 25 owner, sArrI E auses 25 uses, sArrI E aidle 25 idle, sArrI E auser 17 user, sArrI E aword 17 word, sArrI E acut 17 cut]) (st' := [.int r_4, .ref (aL 0)]) (pc' := 44) [0, 1, 2, 3, 4, 5, 6, 7, 8, 9, 10] rfl rfl rfl rfl ?_
        refine g_iload_n F dX10_store_44 rfl ?_
        obtain ⟨L_pieces_1, L_chest_1, coins_1, accounts_1, code_1, paid_1, owner_1, uses_1, idle_1, hg_5, hf⟩ := gb9_el hf
        refine g_callV (C := RX10) (T := TX10) (N := 21) (Lr := [sArrI E auser 17 user, sArrI E aword 17 word, sArrI E acut 17 cut]) (As := [.int r_4, .int x1]) (rest := []) F 0 0 2 (ctX10_buys l E aL acoins aaccounts acode apaid aowner auses aidle auser aword acut r_4 x1 L_price L_letter L_deposit L_keep L_refund L_users L_pieces L_words L_time L_chest L_fund coins accounts code paid owner uses idle L_pieces_1 L_chest_1 coins_1 accounts_1 code_1 paid_1 owner_1 uses_1 idle_1 hg_5) gX10_store_X10_buys rfl rfl rfl h0X10_buys ⟨Nat.le_of_ble_eq_true rfl, Nat.le_of_ble_eq_true rfl⟩ rfl rfl rfl [0, 1, 2, 3, 4, 5, 6, 7] [8, 9, 10] rfl rfl rfl rfl rfl rfl (Nat.le_of_ble_eq_true rfl) dX10_store_45 ⟨(Nat.le_of_ble_eq_true rfl), (Nat.le_of_ble_eq_true rfl)⟩ ?_
        rintro v w ⟨rfl, rfl⟩
        refine g_norm (Lw' := [sLB E aL acoins aaccounts acode apaid aowner auses aidle auser aword acut L_price L_letter L_deposit L_keep L_refund L_users L_pieces_1 L_words L_time L_chest_1 L_fund, sArrI E acoins 4 coins_1, sArrI E aaccounts 6 accounts_1, sArrI E acode 25 code_1, sArrI E apaid 25 paid_1, sArrI E aowner 25 owner_1, sArrI E auses 25 uses_1, sArrI E aidle 25 idle_1, sArrI E auser 17 user, sArrI E aword 17 word, sArrI E acut 17 cut]) (st' := []) (pc' := 48) [0, 1, 2, 3, 4, 5, 6, 7, 8, 9, 10] rfl rfl rfl rfl ?_
        refine g_iinc (lv' := [some (.ref (aL 0)), some (.int x1), some (.int x2), some (.int x3), some (.int (x4 + 1))]) F (x4 + 1) dX10_store_48 rfl rfl rfl rfl ?_
        refine g_goto F 11 dX10_store_51 (by decide) ?_
        exact ih (x4 + 1) L_pieces_1 L_chest_1 coins_1 accounts_1 code_1 paid_1 owner_1 uses_1 idle_1 hf
set_option maxHeartbeats 4000000 in
set_option maxRecDepth 100000 in
theorem ctX10_store (l : Launch) (E : gE) (aL acoins aaccounts acode apaid aowner auses aidle auser aword acut : Nat → Nat) (x1 : Int32) (x2 : Int32) (L_price : Int32) (L_letter : Int32) (L_deposit : Int32) (L_keep : Int32) (L_refund : Int32) (L_users : Int32) (L_pieces : Int32) (L_words : Int32) (L_time : Int32) (L_chest : Int32) (L_fund : Int32) (coins : (Nat → Int32)) (accounts : (Nat → Int32)) (code : (Nat → Int32)) (paid : (Nat → Int32)) (owner : (Nat → Int32)) (uses : (Nat → Int32)) (idle : (Nat → Int32)) (user : (Nat → Int32)) (word : (Nat → Int32)) (cut : (Nat → Int32)) (L_pieces' : Int32) (L_words' : Int32) (L_chest' : Int32) (L_fund' : Int32) (coins' : (Nat → Int32)) (accounts' : (Nat → Int32)) (code' : (Nat → Int32)) (paid' : (Nat → Int32)) (owner' : (Nat → Int32)) (uses' : (Nat → Int32)) (idle' : (Nat → Int32)) (user' : (Nat → Int32)) (word' : (Nat → Int32)) (cut' : (Nat → Int32)) (hf : fX10_store x1 x2 L_price L_letter L_deposit L_pieces L_words L_time L_chest L_fund coins accounts code paid owner uses idle user word cut = some (L_pieces', L_words', L_chest', L_fund', coins', accounts', code', paid', owner', uses', idle', user', word', cut')) : gMet l yX10_store wsX10_store rmX10_store vwCl E [.ref (aL 0), .int x1, .int x2] [sLB E aL acoins aaccounts acode apaid aowner auses aidle auser aword acut L_price L_letter L_deposit L_keep L_refund L_users L_pieces L_words L_time L_chest L_fund, sArrI E acoins 4 coins, sArrI E aaccounts 6 accounts, sArrI E acode 25 code, sArrI E apaid 25 paid, sArrI E aowner 25 owner, sArrI E auses 25 uses, sArrI E aidle 25 idle, sArrI E auser 17 user, sArrI E aword 17 word, sArrI E acut 17 cut] (fun v w => v = none ∧ w = [sLB E aL acoins aaccounts acode apaid aowner auses aidle auser aword acut L_price L_letter L_deposit L_keep L_refund L_users L_pieces' L_words' L_time L_chest' L_fund', sArrI E acoins 4 coins', sArrI E aaccounts 6 accounts', sArrI E acode 25 code', sArrI E apaid 25 paid', sArrI E aowner 25 owner', sArrI E auses 25 uses', sArrI E aidle 25 idle', sArrI E auser 17 user', sArrI E aword 17 word', sArrI E acut 17 cut']) 0 0 := by
  refine g_entry [some (.ref (aL 0)), some (.int x1), some (.int x2), none, none] (by decide) rfl (Nat.le_of_ble_eq_true rfl) rfl ?_
  intro p e s m below meth c A F hnm
  unfold fX10_store at hf
  refine g_aload_n F dX10_store_0 rfl ?_
  refine g_iload_n F dX10_store_1 rfl ?_
  refine g_iconst F 1 dX10_store_2 rfl ?_
  refine g_iconst F 0 dX10_store_3 rfl ?_
  obtain ⟨r_1, hg_1, hf⟩ := gb1_el hf
  refine g_callV (C := RX10) (T := TX10) (N := 21) (Lr := [sArrI E acoins 4 coins, sArrI E aaccounts 6 accounts, sArrI E apaid 25 paid, sArrI E aowner 25 owner, sArrI E auses 25 uses, sArrI E aidle 25 idle, sArrI E auser 17 user, sArrI E aword 17 word, sArrI E acut 17 cut]) (As := [.int x2, .int 1, .int 0]) (rest := []) F 0 0 3 (ctX10_best l E aL acoins aaccounts acode apaid aowner auses aidle auser aword acut x2 1 0 L_price L_letter L_deposit L_keep L_refund L_users L_pieces L_words L_time L_chest L_fund code r_1 hg_1) gX10_store_X10_best rfl rfl rfl h0X10_best ⟨Nat.le_of_ble_eq_true rfl, Nat.le_of_ble_eq_true rfl⟩ rfl rfl rfl [0, 3] [1, 2, 4, 5, 6, 7, 8, 9, 10] rfl rfl rfl rfl rfl rfl (Nat.le_of_ble_eq_true rfl) dX10_store_4 ⟨(Nat.le_of_ble_eq_true rfl), (Nat.le_of_ble_eq_true rfl)⟩ ?_
  rintro v w ⟨rfl, rfl⟩
  refine g_norm (Lw' := [sLB E aL acoins aaccounts acode apaid aowner auses aidle auser aword acut L_price L_letter L_deposit L_keep L_refund L_users L_pieces L_words L_time L_chest L_fund, sArrI E acoins 4 coins, sArrI E aaccounts 6 accounts, sArrI E acode 25 code, sArrI E apaid 25 paid, sArrI E aowner 25 owner, sArrI E auses 25 uses, sArrI E aidle 25 idle, sArrI E auser 17 user, sArrI E aword 17 word, sArrI E acut 17 cut]) (st' := [.int r_1]) (pc' := 7) [0, 2, 3, 1, 4, 5, 6, 7, 8, 9, 10] rfl rfl rfl rfl ?_
  refine g_istore_n (lv' := [some (.ref (aL 0)), some (.int x1), some (.int x2), some (.int r_1), none]) F dX10_store_7 (Nat.le_of_ble_eq_true rfl) rfl rfl ?_
  refine g_iconst F 0 dX10_store_8 rfl ?_
  refine g_istore (lv' := [some (.ref (aL 0)), some (.int x1), some (.int x2), some (.int r_1), some (.int 0)]) F dX10_store_9 (Nat.le_of_ble_eq_true rfl) rfl rfl ?_
  refine ktX10_store_L11 F aL acoins aaccounts acode apaid aowner auses aidle auser aword acut x1 x2 r_1 L_price L_letter L_time L_deposit L_keep L_refund L_users L_words L_fund user word cut L_pieces' L_words' L_chest' L_fund' coins' accounts' code' paid' owner' uses' idle' user' word' cut' (fun L_pieces_1 L_chest_1 coins_1 accounts_1 code_1 paid_1 owner_1 uses_1 idle_1 hf => ?_) FU 0 L_pieces L_chest coins accounts code paid owner uses idle hf
  refine g_aload_n F dX10_store_54 rfl ?_
  refine g_iload_n F dX10_store_55 rfl ?_
  refine g_iload_n F dX10_store_56 rfl ?_
  refine g_iconst F 1 dX10_store_57 rfl ?_
  obtain ⟨uses_2, idle_2, hg_2, hf⟩ := gb2_el hf
  refine g_callV (C := RX10) (T := TX10) (N := 21) (Lr := [sArrI E acoins 4 coins_1, sArrI E aaccounts 6 accounts_1, sArrI E apaid 25 paid_1, sArrI E aowner 25 owner_1, sArrI E auser 17 user, sArrI E aword 17 word, sArrI E acut 17 cut]) (As := [.int x2, .int r_1, .int 1]) (rest := []) F 0 0 3 (ctX10_uses l E aL acoins aaccounts acode apaid aowner auses aidle auser aword acut x2 r_1 1 L_price L_letter L_deposit L_keep L_refund L_users L_pieces_1 L_words L_time L_chest_1 L_fund code_1 uses_1 idle_1 uses_2 idle_2 hg_2) gX10_store_X10_uses rfl rfl rfl h0X10_uses ⟨Nat.le_of_ble_eq_true rfl, Nat.le_of_ble_eq_true rfl⟩ rfl rfl rfl [0, 3, 6, 7] [1, 2, 4, 5, 8, 9, 10] rfl rfl rfl rfl rfl rfl (Nat.le_of_ble_eq_true rfl) dX10_store_58 ⟨(Nat.le_of_ble_eq_true rfl), (Nat.le_of_ble_eq_true rfl)⟩ ?_
  rintro v w ⟨rfl, rfl⟩
  refine g_norm (Lw' := [sLB E aL acoins aaccounts acode apaid aowner auses aidle auser aword acut L_price L_letter L_deposit L_keep L_refund L_users L_pieces_1 L_words L_time L_chest_1 L_fund, sArrI E acoins 4 coins_1, sArrI E aaccounts 6 accounts_1, sArrI E acode 25 code_1, sArrI E apaid 25 paid_1, sArrI E aowner 25 owner_1, sArrI E auses 25 uses_2, sArrI E aidle 25 idle_2, sArrI E auser 17 user, sArrI E aword 17 word, sArrI E acut 17 cut]) (st' := []) (pc' := 61) [0, 4, 5, 1, 6, 7, 2, 3, 8, 9, 10] rfl rfl rfl rfl ?_
  refine g_aload_n F dX10_store_61 rfl ?_
  refine g_get (C := RX10) (T := TX10) (N := 21) F 0 0 2 rfl rfl rfl iX10_store_X10 (by decide) (by decide +kernel) rfl dX10_store_62 ?_
  refine g_iload_n F dX10_store_65 rfl ?_
  obtain ⟨r_2, hg_3, hf⟩ := gb1_el hf
  refine g_callS (Lr := [sLB E aL acoins aaccounts acode apaid aowner auses aidle auser aword acut L_price L_letter L_deposit L_keep L_refund L_users L_pieces_1 L_words L_time L_chest_1 L_fund, sArrI E acoins 4 coins_1, sArrI E aaccounts 6 accounts_1, sArrI E acode 25 code_1, sArrI E apaid 25 paid_1, sArrI E aowner 25 owner_1, sArrI E auses 25 uses_2, sArrI E aidle 25 idle_2, sArrI E auser 17 user, sArrI E aword 17 word, sArrI E acut 17 cut]) (As := [.int r_1]) (rest := [.int L_deposit]) F 1 (ctJ6_bitCount_0f7a4 l E r_1 r_2 hg_3) (va_cwS 1 F.2.2.2.2.2.1 gX10_store_J6_bitCount_0f7a4 rfl rfl rfl h0J6_bitCount_0f7a4 ⟨Nat.le_of_ble_eq_true rfl, Nat.le_of_ble_eq_true rfl⟩) [] [0, 1, 2, 3, 4, 5, 6, 7, 8, 9, 10] rfl rfl rfl rfl rfl rfl (Nat.le_of_ble_eq_true rfl) dX10_store_66 ⟨(Nat.le_of_ble_eq_true rfl), (Nat.le_of_ble_eq_true rfl)⟩ ?_
  rintro v w ⟨rfl, rfl⟩
  refine g_norm (Lw' := [sLB E aL acoins aaccounts acode apaid aowner auses aidle auser aword acut L_price L_letter L_deposit L_keep L_refund L_users L_pieces_1 L_words L_time L_chest_1 L_fund, sArrI E acoins 4 coins_1, sArrI E aaccounts 6 accounts_1, sArrI E acode 25 code_1, sArrI E apaid 25 paid_1, sArrI E aowner 25 owner_1, sArrI E auses 25 uses_2, sArrI E aidle 25 idle_2, sArrI E auser 17 user, sArrI E aword 17 word, sArrI E acut 17 cut]) (st' := [.int r_2, .int L_deposit]) (pc' := 69) [0, 1, 2, 3, 4, 5, 6, 7, 8, 9, 10] rfl rfl rfl rfl ?_
  refine g_iconst F 1 dX10_store_69 rfl ?_
  refine g_iadd F dX10_store_70 ?_
  refine g_imul F dX10_store_71 ?_
  refine g_istore (lv' := [some (.ref (aL 0)), some (.int x1), some (.int x2), some (.int r_1), some (.int (L_deposit * (r_2 + 1)))]) F dX10_store_72 (Nat.le_of_ble_eq_true rfl) rfl rfl ?_
  refine g_aload_n F dX10_store_74 rfl ?_
  refine g_get (C := RX10) (T := TX10) (N := 21) F 0 0 11 rfl rfl rfl iX10_store_X10 (by decide) (by decide +kernel) rfl dX10_store_75 ?_
  refine g_iload_n F dX10_store_78 rfl ?_
  refine g_dup2 F dX10_store_79 rfl rfl ?_
  obtain ⟨hb_1, hf⟩ := gb_in hf
  refine g_iald F 1 0 (x1.toNatClampNeg) rfl rfl rfl hb_1 dX10_store_80 ?_
  refine g_iload F dX10_store_81 rfl ?_
  refine g_isub F dX10_store_83 ?_
  obtain ⟨hb_2, hf⟩ := gb_in hf
  obtain ⟨coins_2, hcoins_2, hf⟩ := Lt_el hf
  refine g_iast (Lw' := [sLB E aL acoins aaccounts acode apaid aowner auses aidle auser aword acut L_price L_letter L_deposit L_keep L_refund L_users L_pieces_1 L_words L_time L_chest_1 L_fund, sArrI E acoins 4 coins_2, sArrI E aaccounts 6 accounts_1, sArrI E acode 25 code_1, sArrI E apaid 25 paid_1, sArrI E aowner 25 owner_1, sArrI E auses 25 uses_2, sArrI E aidle 25 idle_2, sArrI E auser 17 user, sArrI E aword 17 word, sArrI E acut 17 cut]) F 1 0 (x1.toNatClampNeg) rfl rfl rfl hb_2 dX10_store_84 (by subst hcoins_2; rfl) ?_
  refine g_aload_n F dX10_store_85 rfl ?_
  refine g_dup F dX10_store_86 rfl ?_
  refine g_get (C := RX10) (T := TX10) (N := 21) F 0 0 10 rfl rfl rfl iX10_store_X10 (by decide) (by decide +kernel) rfl dX10_store_87 ?_
  refine g_iload F dX10_store_90 rfl ?_
  refine g_iadd F dX10_store_92 ?_
  obtain ⟨L_fund_1, hL_fund_1, hf⟩ := Lt_el hf
  refine g_put (C := RX10) (T := TX10) (N := 21) (tys := tyX10) (Lw' := [sLB E aL acoins aaccounts acode apaid aowner auses aidle auser aword acut L_price L_letter L_deposit L_keep L_refund L_users L_pieces_1 L_words L_time L_chest_1 L_fund_1, sArrI E acoins 4 coins_2, sArrI E aaccounts 6 accounts_1, sArrI E acode 25 code_1, sArrI E apaid 25 paid_1, sArrI E aowner 25 owner_1, sArrI E auses 25 uses_2, sArrI E aidle 25 idle_2, sArrI E auser 17 user, sArrI E aword 17 word, sArrI E acut 17 cut]) F 0 0 10 rfl rfl rfl iX10_store_X10 tyX10_ok nmX10 (by decide) (by decide +kernel) rfl rfl rfl rfl (Nat.le_of_ble_eq_true rfl) dX10_store_93 (by subst hL_fund_1; rfl) ?_
  refine g_aload_n F dX10_store_96 rfl ?_
  refine g_get (C := RX10) (T := TX10) (N := 21) F 0 0 12 rfl rfl rfl iX10_store_X10 (by decide) (by decide +kernel) rfl dX10_store_97 ?_
  refine g_iconst F 2 dX10_store_100 rfl ?_
  refine g_dup2 F dX10_store_101 rfl rfl ?_
  refine g_iald F 2 0 2 (by decide) rfl rfl (by decide) dX10_store_102 ?_
  refine g_iload F dX10_store_103 rfl ?_
  refine g_iadd F dX10_store_105 ?_
  obtain ⟨accounts_2, haccounts_2, hf⟩ := Lt_el hf
  refine g_iast (Lw' := [sLB E aL acoins aaccounts acode apaid aowner auses aidle auser aword acut L_price L_letter L_deposit L_keep L_refund L_users L_pieces_1 L_words L_time L_chest_1 L_fund_1, sArrI E acoins 4 coins_2, sArrI E aaccounts 6 accounts_2, sArrI E acode 25 code_1, sArrI E apaid 25 paid_1, sArrI E aowner 25 owner_1, sArrI E auses 25 uses_2, sArrI E aidle 25 idle_2, sArrI E auser 17 user, sArrI E aword 17 word, sArrI E acut 17 cut]) F 2 0 2 (by decide) rfl rfl (by decide) dX10_store_106 (by subst haccounts_2; rfl) ?_
  refine g_aload_n F dX10_store_107 rfl ?_
  refine g_get (C := RX10) (T := TX10) (N := 21) F 0 0 18 rfl rfl rfl iX10_store_X10 (by decide) (by decide +kernel) rfl dX10_store_108 ?_
  refine g_aload_n F dX10_store_111 rfl ?_
  refine g_get (C := RX10) (T := TX10) (N := 21) F 0 0 7 rfl rfl rfl iX10_store_X10 (by decide) (by decide +kernel) rfl dX10_store_112 ?_
  refine g_iload_n F dX10_store_115 rfl ?_
  obtain ⟨hb_3, hf⟩ := gb_in hf
  obtain ⟨user_1, huser_1, hf⟩ := Lt_el hf
  refine g_iast (Lw' := [sLB E aL acoins aaccounts acode apaid aowner auses aidle auser aword acut L_price L_letter L_deposit L_keep L_refund L_users L_pieces_1 L_words L_time L_chest_1 L_fund_1, sArrI E acoins 4 coins_2, sArrI E aaccounts 6 accounts_2, sArrI E acode 25 code_1, sArrI E apaid 25 paid_1, sArrI E aowner 25 owner_1, sArrI E auses 25 uses_2, sArrI E aidle 25 idle_2, sArrI E auser 17 user_1, sArrI E aword 17 word, sArrI E acut 17 cut]) F 8 0 (L_words.toNatClampNeg) rfl rfl rfl hb_3 dX10_store_116 (by subst huser_1; rfl) ?_
  refine g_aload_n F dX10_store_117 rfl ?_
  refine g_get (C := RX10) (T := TX10) (N := 21) F 0 0 19 rfl rfl rfl iX10_store_X10 (by decide) (by decide +kernel) rfl dX10_store_118 ?_
  refine g_aload_n F dX10_store_121 rfl ?_
  refine g_get (C := RX10) (T := TX10) (N := 21) F 0 0 7 rfl rfl rfl iX10_store_X10 (by decide) (by decide +kernel) rfl dX10_store_122 ?_
  refine g_iload_n F dX10_store_125 rfl ?_
  obtain ⟨hb_4, hf⟩ := gb_in hf
  obtain ⟨word_1, hword_1, hf⟩ := Lt_el hf
  refine g_iast (Lw' := [sLB E aL acoins aaccounts acode apaid aowner auses aidle auser aword acut L_price L_letter L_deposit L_keep L_refund L_users L_pieces_1 L_words L_time L_chest_1 L_fund_1, sArrI E acoins 4 coins_2, sArrI E aaccounts 6 accounts_2, sArrI E acode 25 code_1, sArrI E apaid 25 paid_1, sArrI E aowner 25 owner_1, sArrI E auses 25 uses_2, sArrI E aidle 25 idle_2, sArrI E auser 17 user_1, sArrI E aword 17 word_1, sArrI E acut 17 cut]) F 9 0 (L_words.toNatClampNeg) rfl rfl rfl hb_4 dX10_store_126 (by subst hword_1; rfl) ?_
  refine g_aload_n F dX10_store_127 rfl ?_
  refine g_get (C := RX10) (T := TX10) (N := 21) F 0 0 20 rfl rfl rfl iX10_store_X10 (by decide) (by decide +kernel) rfl dX10_store_128 ?_
  refine g_aload_n F dX10_store_131 rfl ?_
  refine g_get (C := RX10) (T := TX10) (N := 21) F 0 0 7 rfl rfl rfl iX10_store_X10 (by decide) (by decide +kernel) rfl dX10_store_132 ?_
  refine g_iload_n F dX10_store_135 rfl ?_
  obtain ⟨hb_5, hf⟩ := gb_in hf
  obtain ⟨cut_1, hcut_1, hf⟩ := Lt_el hf
  refine g_iast (Lw' := [sLB E aL acoins aaccounts acode apaid aowner auses aidle auser aword acut L_price L_letter L_deposit L_keep L_refund L_users L_pieces_1 L_words L_time L_chest_1 L_fund_1, sArrI E acoins 4 coins_2, sArrI E aaccounts 6 accounts_2, sArrI E acode 25 code_1, sArrI E apaid 25 paid_1, sArrI E aowner 25 owner_1, sArrI E auses 25 uses_2, sArrI E aidle 25 idle_2, sArrI E auser 17 user_1, sArrI E aword 17 word_1, sArrI E acut 17 cut_1]) F 10 0 (L_words.toNatClampNeg) rfl rfl rfl hb_5 dX10_store_136 (by subst hcut_1; rfl) ?_
  refine g_aload_n F dX10_store_137 rfl ?_
  refine g_dup F dX10_store_138 rfl ?_
  refine g_get (C := RX10) (T := TX10) (N := 21) F 0 0 7 rfl rfl rfl iX10_store_X10 (by decide) (by decide +kernel) rfl dX10_store_139 ?_
  refine g_iconst F 1 dX10_store_142 rfl ?_
  refine g_iadd F dX10_store_143 ?_
  refine g_put (C := RX10) (T := TX10) (N := 21) (tys := tyX10) (Lw' := [sLB E aL acoins aaccounts acode apaid aowner auses aidle auser aword acut L_price L_letter L_deposit L_keep L_refund L_users L_pieces_1 (L_words + 1) L_time L_chest_1 L_fund_1, sArrI E acoins 4 coins_2, sArrI E aaccounts 6 accounts_2, sArrI E acode 25 code_1, sArrI E apaid 25 paid_1, sArrI E aowner 25 owner_1, sArrI E auses 25 uses_2, sArrI E aidle 25 idle_2, sArrI E auser 17 user_1, sArrI E aword 17 word_1, sArrI E acut 17 cut_1]) F 0 0 7 rfl rfl rfl iX10_store_X10 tyX10_ok nmX10 (by decide) (by decide +kernel) rfl rfl rfl rfl (Nat.le_of_ble_eq_true rfl) dX10_store_144 rfl ?_
  cases hf
  exact g_vret F rfl ⟨rfl, rfl⟩ dX10_store_147
set_option maxHeartbeats 4000000 in
set_option maxRecDepth 100000 in
theorem ctX10_back (l : Launch) (E : gE) (aL acoins aaccounts acode apaid aowner auses aidle auser aword acut : Nat → Nat) (x1 : Int32) (x2 : Int32) (L_price : Int32) (L_letter : Int32) (L_deposit : Int32) (L_keep : Int32) (L_refund : Int32) (L_users : Int32) (L_pieces : Int32) (L_words : Int32) (L_time : Int32) (L_chest : Int32) (L_fund : Int32) (coins : (Nat → Int32)) (accounts : (Nat → Int32)) (L_fund' : Int32) (coins' : (Nat → Int32)) (accounts' : (Nat → Int32)) (hf : fX10_back x1 x2 L_fund coins accounts = some (L_fund', coins', accounts')) : gMet l yX10_back wsX10_back rmX10_back vwCl E [.ref (aL 0), .int x1, .int x2] [sLB E aL acoins aaccounts acode apaid aowner auses aidle auser aword acut L_price L_letter L_deposit L_keep L_refund L_users L_pieces L_words L_time L_chest L_fund, sArrI E acoins 4 coins, sArrI E aaccounts 6 accounts] (fun v w => v = none ∧ w = [sLB E aL acoins aaccounts acode apaid aowner auses aidle auser aword acut L_price L_letter L_deposit L_keep L_refund L_users L_pieces L_words L_time L_chest L_fund', sArrI E acoins 4 coins', sArrI E aaccounts 6 accounts']) 0 0 := by
  refine g_entry [some (.ref (aL 0)), some (.int x1), some (.int x2)] (by decide) rfl (Nat.le_of_ble_eq_true rfl) rfl ?_
  intro p e s m below meth c A F hnm
  unfold fX10_back at hf
  refine g_aload_n F dX10_back_0 rfl ?_
  refine g_get (C := RX10) (T := TX10) (N := 21) F 0 0 11 rfl rfl rfl iX10_back_X10 (by decide) (by decide +kernel) rfl dX10_back_1 ?_
  refine g_iload_n F dX10_back_4 rfl ?_
  refine g_dup2 F dX10_back_5 rfl rfl ?_
  obtain ⟨hb_1, hf⟩ := gb_in hf
  refine g_iald F 1 0 (x1.toNatClampNeg) rfl rfl rfl hb_1 dX10_back_6 ?_
  refine g_iload_n F dX10_back_7 rfl ?_
  refine g_iadd F dX10_back_8 ?_
  obtain ⟨hb_2, hf⟩ := gb_in hf
  obtain ⟨coins_1, hcoins_1, hf⟩ := Lt_el hf
  refine g_iast (Lw' := [sLB E aL acoins aaccounts acode apaid aowner auses aidle auser aword acut L_price L_letter L_deposit L_keep L_refund L_users L_pieces L_words L_time L_chest L_fund, sArrI E acoins 4 coins_1, sArrI E aaccounts 6 accounts]) F 1 0 (x1.toNatClampNeg) rfl rfl rfl hb_2 dX10_back_9 (by subst hcoins_1; rfl) ?_
  refine g_aload_n F dX10_back_10 rfl ?_
  refine g_dup F dX10_back_11 rfl ?_
  refine g_get (C := RX10) (T := TX10) (N := 21) F 0 0 10 rfl rfl rfl iX10_back_X10 (by decide) (by decide +kernel) rfl dX10_back_12 ?_
  refine g_iload_n F dX10_back_15 rfl ?_
  refine g_isub F dX10_back_16 ?_
  refine g_put (C := RX10) (T := TX10) (N := 21) (tys := tyX10) (Lw' := [sLB E aL acoins aaccounts acode apaid aowner auses aidle auser aword acut L_price L_letter L_deposit L_keep L_refund L_users L_pieces L_words L_time L_chest (L_fund - x2), sArrI E acoins 4 coins_1, sArrI E aaccounts 6 accounts]) F 0 0 10 rfl rfl rfl iX10_back_X10 tyX10_ok nmX10 (by decide) (by decide +kernel) rfl rfl rfl rfl (Nat.le_of_ble_eq_true rfl) dX10_back_17 rfl ?_
  refine g_aload_n F dX10_back_20 rfl ?_
  refine g_get (C := RX10) (T := TX10) (N := 21) F 0 0 12 rfl rfl rfl iX10_back_X10 (by decide) (by decide +kernel) rfl dX10_back_21 ?_
  refine g_iconst F 3 dX10_back_24 rfl ?_
  refine g_dup2 F dX10_back_25 rfl rfl ?_
  refine g_iald F 2 0 3 (by decide) rfl rfl (by decide) dX10_back_26 ?_
  refine g_iload_n F dX10_back_27 rfl ?_
  refine g_iadd F dX10_back_28 ?_
  obtain ⟨accounts_1, haccounts_1, hf⟩ := Lt_el hf
  refine g_iast (Lw' := [sLB E aL acoins aaccounts acode apaid aowner auses aidle auser aword acut L_price L_letter L_deposit L_keep L_refund L_users L_pieces L_words L_time L_chest (L_fund - x2), sArrI E acoins 4 coins_1, sArrI E aaccounts 6 accounts_1]) F 2 0 3 (by decide) rfl rfl (by decide) dX10_back_29 (by subst haccounts_1; rfl) ?_
  cases hf
  exact g_vret F rfl ⟨rfl, rfl⟩ dX10_back_30
set_option maxHeartbeats 4000000 in
set_option maxRecDepth 100000 in
theorem ctX10_recut (l : Launch) (E : gE) (aL acoins aaccounts acode apaid aowner auses aidle auser aword acut : Nat → Nat) (x1 : Int32) (L_price : Int32) (L_letter : Int32) (L_deposit : Int32) (L_keep : Int32) (L_refund : Int32) (L_users : Int32) (L_pieces : Int32) (L_words : Int32) (L_time : Int32) (L_chest : Int32) (L_fund : Int32) (coins : (Nat → Int32)) (accounts : (Nat → Int32)) (code : (Nat → Int32)) (uses : (Nat → Int32)) (idle : (Nat → Int32)) (user : (Nat → Int32)) (word : (Nat → Int32)) (cut : (Nat → Int32)) (r : Int32) (L_fund' : Int32) (coins' : (Nat → Int32)) (accounts' : (Nat → Int32)) (uses' : (Nat → Int32)) (idle' : (Nat → Int32)) (cut' : (Nat → Int32)) (hf : fX10_recut x1 L_price L_letter L_deposit L_pieces L_time L_fund coins accounts code uses idle user word cut = some (r, L_fund', coins', accounts', uses', idle', cut')) : gMet l yX10_recut wsX10_recut rmX10_recut vwCl E [.ref (aL 0), .int x1] [sLB E aL acoins aaccounts acode apaid aowner auses aidle auser aword acut L_price L_letter L_deposit L_keep L_refund L_users L_pieces L_words L_time L_chest L_fund, sArrI E acoins 4 coins, sArrI E aaccounts 6 accounts, sArrI E acode 25 code, sArrI E auses 25 uses, sArrI E aidle 25 idle, sArrI E auser 17 user, sArrI E aword 17 word, sArrI E acut 17 cut] (fun v w => v = some (.int r) ∧ w = [sLB E aL acoins aaccounts acode apaid aowner auses aidle auser aword acut L_price L_letter L_deposit L_keep L_refund L_users L_pieces L_words L_time L_chest L_fund', sArrI E acoins 4 coins', sArrI E aaccounts 6 accounts', sArrI E acode 25 code, sArrI E auses 25 uses', sArrI E aidle 25 idle', sArrI E auser 17 user, sArrI E aword 17 word, sArrI E acut 17 cut']) 0 0 := by
  refine g_entry [some (.ref (aL 0)), some (.int x1), none, none] (by decide) rfl (Nat.le_of_ble_eq_true rfl) rfl ?_
  intro p e s m below meth c A F hnm
  unfold fX10_recut at hf
  refine g_aload_n F dX10_recut_0 rfl ?_
  refine g_aload_n F dX10_recut_1 rfl ?_
  refine g_get (C := RX10) (T := TX10) (N := 21) F 0 0 19 rfl rfl rfl iX10_recut_X10 (by decide) (by decide +kernel) rfl dX10_recut_2 ?_
  refine g_iload_n F dX10_recut_5 rfl ?_
  obtain ⟨hb_1, hf⟩ := gb_in hf
  refine g_iald F 7 0 (x1.toNatClampNeg) rfl rfl rfl hb_1 dX10_recut_6 ?_
  refine g_iconst F 0 dX10_recut_7 rfl ?_
  refine g_iconst F 0 dX10_recut_8 rfl ?_
  obtain ⟨r_1, hg_1, hf⟩ := gb1_el hf
  refine g_callV (C := RX10) (T := TX10) (N := 21) (Lr := [sArrI E acoins 4 coins, sArrI E aaccounts 6 accounts, sArrI E auses 25 uses, sArrI E aidle 25 idle, sArrI E auser 17 user, sArrI E aword 17 word, sArrI E acut 17 cut]) (As := [.int (word (x1.toNatClampNeg)), .int 0, .int 0]) (rest := []) F 0 0 3 (ctX10_best l E aL acoins aaccounts acode apaid aowner auses aidle auser aword acut (word (x1.toNatClampNeg)) 0 0 L_price L_letter L_deposit L_keep L_refund L_users L_pieces L_words L_time L_chest L_fund code r_1 hg_1) gX10_recut_X10_best rfl rfl rfl h0X10_best ⟨Nat.le_of_ble_eq_true rfl, Nat.le_of_ble_eq_true rfl⟩ rfl rfl rfl [0, 3] [1, 2, 4, 5, 6, 7, 8] rfl rfl rfl rfl rfl rfl (Nat.le_of_ble_eq_true rfl) dX10_recut_9 ⟨(Nat.le_of_ble_eq_true rfl), (Nat.le_of_ble_eq_true rfl)⟩ ?_
  rintro v w ⟨rfl, rfl⟩
  refine g_norm (Lw' := [sLB E aL acoins aaccounts acode apaid aowner auses aidle auser aword acut L_price L_letter L_deposit L_keep L_refund L_users L_pieces L_words L_time L_chest L_fund, sArrI E acoins 4 coins, sArrI E aaccounts 6 accounts, sArrI E acode 25 code, sArrI E auses 25 uses, sArrI E aidle 25 idle, sArrI E auser 17 user, sArrI E aword 17 word, sArrI E acut 17 cut]) (st' := [.int r_1]) (pc' := 12) [0, 2, 3, 1, 4, 5, 6, 7, 8] rfl rfl rfl rfl ?_
  refine g_istore_n (lv' := [some (.ref (aL 0)), some (.int x1), some (.int r_1), none]) F dX10_recut_12 (Nat.le_of_ble_eq_true rfl) rfl rfl ?_
  refine g_aload_n F dX10_recut_13 rfl ?_
  refine g_aload_n F dX10_recut_14 rfl ?_
  refine g_get (C := RX10) (T := TX10) (N := 21) F 0 0 19 rfl rfl rfl iX10_recut_X10 (by decide) (by decide +kernel) rfl dX10_recut_15 ?_
  refine g_iload_n F dX10_recut_18 rfl ?_
  obtain ⟨hb_2, hf⟩ := gb_in hf
  refine g_iald F 7 0 (x1.toNatClampNeg) rfl rfl rfl hb_2 dX10_recut_19 ?_
  refine g_iload_n F dX10_recut_20 rfl ?_
  refine g_iconst F 1 dX10_recut_21 rfl ?_
  obtain ⟨uses_1, idle_1, hg_2, hf⟩ := gb2_el hf
  refine g_callV (C := RX10) (T := TX10) (N := 21) (Lr := [sArrI E acoins 4 coins, sArrI E aaccounts 6 accounts, sArrI E auser 17 user, sArrI E aword 17 word, sArrI E acut 17 cut]) (As := [.int (word (x1.toNatClampNeg)), .int r_1, .int 1]) (rest := []) F 0 0 3 (ctX10_uses l E aL acoins aaccounts acode apaid aowner auses aidle auser aword acut (word (x1.toNatClampNeg)) r_1 1 L_price L_letter L_deposit L_keep L_refund L_users L_pieces L_words L_time L_chest L_fund code uses idle uses_1 idle_1 hg_2) gX10_recut_X10_uses rfl rfl rfl h0X10_uses ⟨Nat.le_of_ble_eq_true rfl, Nat.le_of_ble_eq_true rfl⟩ rfl rfl rfl [0, 3, 4, 5] [1, 2, 6, 7, 8] rfl rfl rfl rfl rfl rfl (Nat.le_of_ble_eq_true rfl) dX10_recut_22 ⟨(Nat.le_of_ble_eq_true rfl), (Nat.le_of_ble_eq_true rfl)⟩ ?_
  rintro v w ⟨rfl, rfl⟩
  refine g_norm (Lw' := [sLB E aL acoins aaccounts acode apaid aowner auses aidle auser aword acut L_price L_letter L_deposit L_keep L_refund L_users L_pieces L_words L_time L_chest L_fund, sArrI E acoins 4 coins, sArrI E aaccounts 6 accounts, sArrI E acode 25 code, sArrI E auses 25 uses_1, sArrI E aidle 25 idle_1, sArrI E auser 17 user, sArrI E aword 17 word, sArrI E acut 17 cut]) (st' := []) (pc' := 25) [0, 4, 5, 1, 2, 3, 6, 7, 8] rfl rfl rfl rfl ?_
  refine g_aload_n F dX10_recut_25 rfl ?_
  refine g_aload_n F dX10_recut_26 rfl ?_
  refine g_get (C := RX10) (T := TX10) (N := 21) F 0 0 19 rfl rfl rfl iX10_recut_X10 (by decide) (by decide +kernel) rfl dX10_recut_27 ?_
  refine g_iload_n F dX10_recut_30 rfl ?_
  obtain ⟨hb_3, hf⟩ := gb_in hf
  refine g_iald F 7 0 (x1.toNatClampNeg) rfl rfl rfl hb_3 dX10_recut_31 ?_
  refine g_aload_n F dX10_recut_32 rfl ?_
  refine g_get (C := RX10) (T := TX10) (N := 21) F 0 0 20 rfl rfl rfl iX10_recut_X10 (by decide) (by decide +kernel) rfl dX10_recut_33 ?_
  refine g_iload_n F dX10_recut_36 rfl ?_
  obtain ⟨hb_4, hf⟩ := gb_in hf
  refine g_iald F 8 0 (x1.toNatClampNeg) rfl rfl rfl hb_4 dX10_recut_37 ?_
  refine g_iconst F (-1) dX10_recut_38 rfl ?_
  obtain ⟨uses_2, idle_2, hg_3, hf⟩ := gb2_el hf
  refine g_callV (C := RX10) (T := TX10) (N := 21) (Lr := [sArrI E acoins 4 coins, sArrI E aaccounts 6 accounts, sArrI E auser 17 user, sArrI E aword 17 word, sArrI E acut 17 cut]) (As := [.int (word (x1.toNatClampNeg)), .int (cut (x1.toNatClampNeg)), .int (-1)]) (rest := []) F 0 0 3 (ctX10_uses l E aL acoins aaccounts acode apaid aowner auses aidle auser aword acut (word (x1.toNatClampNeg)) (cut (x1.toNatClampNeg)) (-1) L_price L_letter L_deposit L_keep L_refund L_users L_pieces L_words L_time L_chest L_fund code uses_1 idle_1 uses_2 idle_2 hg_3) gX10_recut_X10_uses rfl rfl rfl h0X10_uses ⟨Nat.le_of_ble_eq_true rfl, Nat.le_of_ble_eq_true rfl⟩ rfl rfl rfl [0, 3, 4, 5] [1, 2, 6, 7, 8] rfl rfl rfl rfl rfl rfl (Nat.le_of_ble_eq_true rfl) dX10_recut_39 ⟨(Nat.le_of_ble_eq_true rfl), (Nat.le_of_ble_eq_true rfl)⟩ ?_
  rintro v w ⟨rfl, rfl⟩
  refine g_norm (Lw' := [sLB E aL acoins aaccounts acode apaid aowner auses aidle auser aword acut L_price L_letter L_deposit L_keep L_refund L_users L_pieces L_words L_time L_chest L_fund, sArrI E acoins 4 coins, sArrI E aaccounts 6 accounts, sArrI E acode 25 code, sArrI E auses 25 uses_2, sArrI E aidle 25 idle_2, sArrI E auser 17 user, sArrI E aword 17 word, sArrI E acut 17 cut]) (st' := []) (pc' := 42) [0, 4, 5, 1, 2, 3, 6, 7, 8] rfl rfl rfl rfl ?_
  refine g_aload_n F dX10_recut_42 rfl ?_
  refine g_get (C := RX10) (T := TX10) (N := 21) F 0 0 2 rfl rfl rfl iX10_recut_X10 (by decide) (by decide +kernel) rfl dX10_recut_43 ?_
  refine g_aload_n F dX10_recut_46 rfl ?_
  refine g_get (C := RX10) (T := TX10) (N := 21) F 0 0 20 rfl rfl rfl iX10_recut_X10 (by decide) (by decide +kernel) rfl dX10_recut_47 ?_
  refine g_iload_n F dX10_recut_50 rfl ?_
  obtain ⟨hb_5, hf⟩ := gb_in hf
  refine g_iald F 8 0 (x1.toNatClampNeg) rfl rfl rfl hb_5 dX10_recut_51 ?_
  obtain ⟨r_2, hg_4, hf⟩ := gb1_el hf
  refine g_callS (Lr := [sLB E aL acoins aaccounts acode apaid aowner auses aidle auser aword acut L_price L_letter L_deposit L_keep L_refund L_users L_pieces L_words L_time L_chest L_fund, sArrI E acoins 4 coins, sArrI E aaccounts 6 accounts, sArrI E acode 25 code, sArrI E auses 25 uses_2, sArrI E aidle 25 idle_2, sArrI E auser 17 user, sArrI E aword 17 word, sArrI E acut 17 cut]) (As := [.int (cut (x1.toNatClampNeg))]) (rest := [.int L_deposit]) F 1 (ctJ6_bitCount_0f7a4 l E (cut (x1.toNatClampNeg)) r_2 hg_4) (va_cwS 1 F.2.2.2.2.2.1 gX10_recut_J6_bitCount_0f7a4 rfl rfl rfl h0J6_bitCount_0f7a4 ⟨Nat.le_of_ble_eq_true rfl, Nat.le_of_ble_eq_true rfl⟩) [] [0, 1, 2, 3, 4, 5, 6, 7, 8] rfl rfl rfl rfl rfl rfl (Nat.le_of_ble_eq_true rfl) dX10_recut_52 ⟨(Nat.le_of_ble_eq_true rfl), (Nat.le_of_ble_eq_true rfl)⟩ ?_
  rintro v w ⟨rfl, rfl⟩
  refine g_norm (Lw' := [sLB E aL acoins aaccounts acode apaid aowner auses aidle auser aword acut L_price L_letter L_deposit L_keep L_refund L_users L_pieces L_words L_time L_chest L_fund, sArrI E acoins 4 coins, sArrI E aaccounts 6 accounts, sArrI E acode 25 code, sArrI E auses 25 uses_2, sArrI E aidle 25 idle_2, sArrI E auser 17 user, sArrI E aword 17 word, sArrI E acut 17 cut]) (st' := [.int r_2, .int L_deposit]) (pc' := 55) [0, 1, 2, 3, 4, 5, 6, 7, 8] rfl rfl rfl rfl ?_
  refine g_iload_n F dX10_recut_55 rfl ?_
  obtain ⟨r_3, hg_5, hf⟩ := gb1_el hf
  refine g_callS (Lr := [sLB E aL acoins aaccounts acode apaid aowner auses aidle auser aword acut L_price L_letter L_deposit L_keep L_refund L_users L_pieces L_words L_time L_chest L_fund, sArrI E acoins 4 coins, sArrI E aaccounts 6 accounts, sArrI E acode 25 code, sArrI E auses 25 uses_2, sArrI E aidle 25 idle_2, sArrI E auser 17 user, sArrI E aword 17 word, sArrI E acut 17 cut]) (As := [.int r_1]) (rest := [.int r_2, .int L_deposit]) F 1 (ctJ6_bitCount_0f7a4 l E r_1 r_3 hg_5) (va_cwS 1 F.2.2.2.2.2.1 gX10_recut_J6_bitCount_0f7a4 rfl rfl rfl h0J6_bitCount_0f7a4 ⟨Nat.le_of_ble_eq_true rfl, Nat.le_of_ble_eq_true rfl⟩) [] [0, 1, 2, 3, 4, 5, 6, 7, 8] rfl rfl rfl rfl rfl rfl (Nat.le_of_ble_eq_true rfl) dX10_recut_56 ⟨(Nat.le_of_ble_eq_true rfl), (Nat.le_of_ble_eq_true rfl)⟩ ?_
  rintro v w ⟨rfl, rfl⟩
  refine g_norm (Lw' := [sLB E aL acoins aaccounts acode apaid aowner auses aidle auser aword acut L_price L_letter L_deposit L_keep L_refund L_users L_pieces L_words L_time L_chest L_fund, sArrI E acoins 4 coins, sArrI E aaccounts 6 accounts, sArrI E acode 25 code, sArrI E auses 25 uses_2, sArrI E aidle 25 idle_2, sArrI E auser 17 user, sArrI E aword 17 word, sArrI E acut 17 cut]) (st' := [.int r_3, .int r_2, .int L_deposit]) (pc' := 59) [0, 1, 2, 3, 4, 5, 6, 7, 8] rfl rfl rfl rfl ?_
  refine g_isub F dX10_recut_59 ?_
  refine g_imul F dX10_recut_60 ?_
  refine g_istore_n (lv' := [some (.ref (aL 0)), some (.int x1), some (.int r_1), some (.int (L_deposit * (r_2 - r_3)))]) F dX10_recut_61 (Nat.le_of_ble_eq_true rfl) rfl rfl ?_
  refine g_aload_n F dX10_recut_62 rfl ?_
  refine g_get (C := RX10) (T := TX10) (N := 21) F 0 0 20 rfl rfl rfl iX10_recut_X10 (by decide) (by decide +kernel) rfl dX10_recut_63 ?_
  refine g_iload_n F dX10_recut_66 rfl ?_
  refine g_iload_n F dX10_recut_67 rfl ?_
  obtain ⟨hb_6, hf⟩ := gb_in hf
  obtain ⟨cut_1, hcut_1, hf⟩ := Lt_el hf
  refine g_iast (Lw' := [sLB E aL acoins aaccounts acode apaid aowner auses aidle auser aword acut L_price L_letter L_deposit L_keep L_refund L_users L_pieces L_words L_time L_chest L_fund, sArrI E acoins 4 coins, sArrI E aaccounts 6 accounts, sArrI E acode 25 code, sArrI E auses 25 uses_2, sArrI E aidle 25 idle_2, sArrI E auser 17 user, sArrI E aword 17 word, sArrI E acut 17 cut_1]) F 8 0 (x1.toNatClampNeg) rfl rfl rfl hb_6 dX10_recut_68 (by subst hcut_1; rfl) ?_
  refine g_aload_n F dX10_recut_69 rfl ?_
  refine g_aload_n F dX10_recut_70 rfl ?_
  refine g_get (C := RX10) (T := TX10) (N := 21) F 0 0 18 rfl rfl rfl iX10_recut_X10 (by decide) (by decide +kernel) rfl dX10_recut_71 ?_
  refine g_iload_n F dX10_recut_74 rfl ?_
  obtain ⟨hb_7, hf⟩ := gb_in hf
  refine g_iald F 6 0 (x1.toNatClampNeg) rfl rfl rfl hb_7 dX10_recut_75 ?_
  refine g_iload_n F dX10_recut_76 rfl ?_
  obtain ⟨L_fund_1, coins_1, accounts_1, hg_6, hf⟩ := gb3_el hf
  refine g_callV (C := RX10) (T := TX10) (N := 21) (Lr := [sArrI E acode 25 code, sArrI E auses 25 uses_2, sArrI E aidle 25 idle_2, sArrI E auser 17 user, sArrI E aword 17 word, sArrI E acut 17 cut_1]) (As := [.int (user (x1.toNatClampNeg)), .int (L_deposit * (r_2 - r_3))]) (rest := []) F 0 0 2 (ctX10_back l E aL acoins aaccounts acode apaid aowner auses aidle auser aword acut (user (x1.toNatClampNeg)) (L_deposit * (r_2 - r_3)) L_price L_letter L_deposit L_keep L_refund L_users L_pieces L_words L_time L_chest L_fund coins accounts L_fund_1 coins_1 accounts_1 hg_6) gX10_recut_X10_back rfl rfl rfl h0X10_back ⟨Nat.le_of_ble_eq_true rfl, Nat.le_of_ble_eq_true rfl⟩ rfl rfl rfl [0, 1, 2] [3, 4, 5, 6, 7, 8] rfl rfl rfl rfl rfl rfl (Nat.le_of_ble_eq_true rfl) dX10_recut_77 ⟨(Nat.le_of_ble_eq_true rfl), (Nat.le_of_ble_eq_true rfl)⟩ ?_
  rintro v w ⟨rfl, rfl⟩
  refine g_norm (Lw' := [sLB E aL acoins aaccounts acode apaid aowner auses aidle auser aword acut L_price L_letter L_deposit L_keep L_refund L_users L_pieces L_words L_time L_chest L_fund_1, sArrI E acoins 4 coins_1, sArrI E aaccounts 6 accounts_1, sArrI E acode 25 code, sArrI E auses 25 uses_2, sArrI E aidle 25 idle_2, sArrI E auser 17 user, sArrI E aword 17 word, sArrI E acut 17 cut_1]) (st' := []) (pc' := 80) [0, 1, 2, 3, 4, 5, 6, 7, 8] rfl rfl rfl rfl ?_
  refine g_iload_n F dX10_recut_80 rfl ?_
  cases hf
  exact g_iret F rfl ⟨rfl, rfl⟩ dX10_recut_81
set_option maxHeartbeats 4000000 in
set_option maxRecDepth 100000 in
theorem ktX10_remove_L57 {p : Program} {l : Launch} {e : Env} {s : State} {m : MethodId} {args : Array Value} {below : List Frame} {meth : Method} {c : Code} {E : gE} {A : Nat → Prop} (F : gFx p s m args meth c RX10 wsX10_remove cX10_remove 4 (some .int) vwCl E A) (aL acoins aaccounts acode apaid aowner auses aidle auser aword acut : Nat → Nat) (x2 : Int32) (L_words : Int32) (L_price : Int32) (L_letter : Int32) (L_deposit : Int32) (L_keep : Int32) (L_refund : Int32) (L_users : Int32) (L_pieces : Int32) (L_time : Int32) (L_chest : Int32) (L_fund : Int32) (coins : (Nat → Int32)) (accounts : (Nat → Int32)) (code : (Nat → Int32)) (uses : (Nat → Int32)) (idle : (Nat → Int32)) (r : Int32) (L_words' : Int32) (L_fund' : Int32) (coins' : (Nat → Int32)) (accounts' : (Nat → Int32)) (uses' : (Nat → Int32)) (idle' : (Nat → Int32)) (user' : (Nat → Int32)) (word' : (Nat → Int32)) (cut' : (Nat → Int32)) {k : (Nat → Int32) → (Nat → Int32) → (Nat → Int32) → Option (Int32 × Int32 × Int32 × (Nat → Int32) × (Nat → Int32) × (Nat → Int32) × (Nat → Int32) × (Nat → Int32) × (Nat → Int32) × (Nat → Int32))} (hk : ∀ (user : (Nat → Int32)) (word : (Nat → Int32)) (cut : (Nat → Int32)), k user word cut = some (r, L_words', L_fund', coins', accounts', uses', idle', user', word', cut') → Gj p l e rmX10_remove s m args below meth c 0 0 (MQ below (gQ vwCl E A (fun v w => v = some (.int r) ∧ w = [sLB E aL acoins aaccounts acode apaid aowner auses aidle auser aword acut L_price L_letter L_deposit L_keep L_refund L_users L_pieces L_words' L_time L_chest L_fund', sArrI E acoins 4 coins', sArrI E aaccounts 6 accounts', sArrI E acode 25 code, sArrI E auses 25 uses', sArrI E aidle 25 idle', sArrI E auser 17 user', sArrI E aword 17 word', sArrI E acut 17 cut'])) args s 0 0 A) vwCl E A [sLB E aL acoins aaccounts acode apaid aowner auses aidle auser aword acut L_price L_letter L_deposit L_keep L_refund L_users L_pieces L_words L_time L_chest L_fund, sArrI E acoins 4 coins, sArrI E aaccounts 6 accounts, sArrI E acode 25 code, sArrI E auses 25 uses, sArrI E aidle 25 idle, sArrI E auser 17 user, sArrI E aword 17 word, sArrI E acut 17 cut] [some (.ref (aL 0)), none, some (.int x2), none] [] 113) : ∀ (n : Nat) (x3 : Int32) (user : (Nat → Int32)) (word : (Nat → Int32)) (cut : (Nat → Int32)), fX10_remove_L57 x2 L_words k n x3 user word cut = some (r, L_words', L_fund', coins', accounts', uses', idle', user', word', cut') → Gj p l e rmX10_remove s m args below meth c 0 0 (MQ below (gQ vwCl E A (fun v w => v = some (.int r) ∧ w = [sLB E aL acoins aaccounts acode apaid aowner auses aidle auser aword acut L_price L_letter L_deposit L_keep L_refund L_users L_pieces L_words' L_time L_chest L_fund', sArrI E acoins 4 coins', sArrI E aaccounts 6 accounts', sArrI E acode 25 code, sArrI E auses 25 uses', sArrI E aidle 25 idle', sArrI E auser 17 user', sArrI E aword 17 word', sArrI E acut 17 cut'])) args s 0 0 A) vwCl E A [sLB E aL acoins aaccounts acode apaid aowner auses aidle auser aword acut L_price L_letter L_deposit L_keep L_refund L_users L_pieces L_words L_time L_chest L_fund, sArrI E acoins 4 coins, sArrI E aaccounts 6 accounts, sArrI E acode 25 code, sArrI E auses 25 uses, sArrI E aidle 25 idle, sArrI E auser 17 user, sArrI E aword 17 word, sArrI E acut 17 cut] [some (.ref (aL 0)), none, some (.int x2), some (.int x3)] [] 57
  | 0, _, _, _, _, hf => by cases hf
  | n + 1, x3, user, word, cut, hf => by
    have ih := ktX10_remove_L57 F aL acoins aaccounts acode apaid aowner auses aidle auser aword acut x2 L_words L_price L_letter L_deposit L_keep L_refund L_users L_pieces L_time L_chest L_fund coins accounts code uses idle r L_words' L_fund' coins' accounts' uses' idle' user' word' cut' hk n
    rw [fX10_remove_L57] at hf
    refine g_iload_n F dX10_remove_57 rfl ?_
    refine g_aload_n F dX10_remove_58 rfl ?_
    refine g_get (C := RX10) (T := TX10) (N := 21) F 0 0 7 rfl rfl rfl iX10_remove_X10 (by decide) (by decide +kernel) rfl dX10_remove_59 ?_
    refine g_icmp_ge F 113 dX10_remove_62 (by decide) (fun hc_1 => ?_) (fun hc_1 => ?_)
    · replace hf := gi_t hc_1 hf
      refine g_mask [true, true, true, false] rfl ?_
      exact hk user word cut hf
    · replace hf := gi_f hc_1 hf
      refine g_aload_n F dX10_remove_65 rfl ?_
      refine g_get (C := RX10) (T := TX10) (N := 21) F 0 0 18 rfl rfl rfl iX10_remove_X10 (by decide) (by decide +kernel) rfl dX10_remove_66 ?_
      refine g_iload_n F dX10_remove_69 rfl ?_
      refine g_aload_n F dX10_remove_70 rfl ?_
      refine g_get (C := RX10) (T := TX10) (N := 21) F 0 0 18 rfl rfl rfl iX10_remove_X10 (by decide) (by decide +kernel) rfl dX10_remove_71 ?_
      refine g_iload_n F dX10_remove_74 rfl ?_
      refine g_iconst F 1 dX10_remove_75 rfl ?_
      refine g_iadd F dX10_remove_76 ?_
      obtain ⟨hb_1, hf⟩ := gb_in hf
      refine g_iald F 6 0 ((x3 + 1).toNatClampNeg) rfl rfl rfl hb_1 dX10_remove_77 ?_
      obtain ⟨hb_2, hf⟩ := gb_in hf
      obtain ⟨user_1, huser_1, hf⟩ := Lt_el hf
      refine g_iast (Lw' := [sLB E aL acoins aaccounts acode apaid aowner auses aidle auser aword acut L_price L_letter L_deposit L_keep L_refund L_users L_pieces L_words L_time L_chest L_fund, sArrI E acoins 4 coins, sArrI E aaccounts 6 accounts, sArrI E acode 25 code, sArrI E auses 25 uses, sArrI E aidle 25 idle, sArrI E auser 17 user_1, sArrI E aword 17 word, sArrI E acut 17 cut]) F 6 0 (x3.toNatClampNeg) rfl rfl rfl hb_2 dX10_remove_78 (by subst huser_1; rfl) ?_
      refine g_aload_n F dX10_remove_79 rfl ?_
      refine g_get (C := RX10) (T := TX10) (N := 21) F 0 0 19 rfl rfl rfl iX10_remove_X10 (by decide) (by decide +kernel) rfl dX10_remove_80 ?_
      refine g_iload_n F dX10_remove_83 rfl ?_
      refine g_aload_n F dX10_remove_84 rfl ?_
      refine g_get (C := RX10) (T := TX10) (N := 21) F 0 0 19 rfl rfl rfl iX10_remove_X10 (by decide) (by decide +kernel) rfl dX10_remove_85 ?_
      refine g_iload_n F dX10_remove_88 rfl ?_
      refine g_iconst F 1 dX10_remove_89 rfl ?_
      refine g_iadd F dX10_remove_90 ?_
      obtain ⟨hb_3, hf⟩ := gb_in hf
      refine g_iald F 7 0 ((x3 + 1).toNatClampNeg) rfl rfl rfl hb_3 dX10_remove_91 ?_
      obtain ⟨hb_4, hf⟩ := gb_in hf
      obtain ⟨word_1, hword_1, hf⟩ := Lt_el hf
      refine g_iast (Lw' := [sLB E aL acoins aaccounts acode apaid aowner auses aidle auser aword acut L_price L_letter L_deposit L_keep L_refund L_users L_pieces L_words L_time L_chest L_fund, sArrI E acoins 4 coins, sArrI E aaccounts 6 accounts, sArrI E acode 25 code, sArrI E auses 25 uses, sArrI E aidle 25 idle, sArrI E auser 17 user_1, sArrI E aword 17 word_1, sArrI E acut 17 cut]) F 7 0 (x3.toNatClampNeg) rfl rfl rfl hb_4 dX10_remove_92 (by subst hword_1; rfl) ?_
      refine g_aload_n F dX10_remove_93 rfl ?_
      refine g_get (C := RX10) (T := TX10) (N := 21) F 0 0 20 rfl rfl rfl iX10_remove_X10 (by decide) (by decide +kernel) rfl dX10_remove_94 ?_
      refine g_iload_n F dX10_remove_97 rfl ?_
      refine g_aload_n F dX10_remove_98 rfl ?_
      refine g_get (C := RX10) (T := TX10) (N := 21) F 0 0 20 rfl rfl rfl iX10_remove_X10 (by decide) (by decide +kernel) rfl dX10_remove_99 ?_
      refine g_iload_n F dX10_remove_102 rfl ?_
      refine g_iconst F 1 dX10_remove_103 rfl ?_
      refine g_iadd F dX10_remove_104 ?_
      obtain ⟨hb_5, hf⟩ := gb_in hf
      refine g_iald F 8 0 ((x3 + 1).toNatClampNeg) rfl rfl rfl hb_5 dX10_remove_105 ?_
      obtain ⟨hb_6, hf⟩ := gb_in hf
      obtain ⟨cut_1, hcut_1, hf⟩ := Lt_el hf
      refine g_iast (Lw' := [sLB E aL acoins aaccounts acode apaid aowner auses aidle auser aword acut L_price L_letter L_deposit L_keep L_refund L_users L_pieces L_words L_time L_chest L_fund, sArrI E acoins 4 coins, sArrI E aaccounts 6 accounts, sArrI E acode 25 code, sArrI E auses 25 uses, sArrI E aidle 25 idle, sArrI E auser 17 user_1, sArrI E aword 17 word_1, sArrI E acut 17 cut_1]) F 8 0 (x3.toNatClampNeg) rfl rfl rfl hb_6 dX10_remove_106 (by subst hcut_1; rfl) ?_
      refine g_iinc (lv' := [some (.ref (aL 0)), none, some (.int x2), some (.int (x3 + 1))]) F (x3 + 1) dX10_remove_107 rfl rfl rfl rfl ?_
      refine g_goto F 57 dX10_remove_110 (by decide) ?_
      exact ih (x3 + 1) user_1 word_1 cut_1 hf
set_option maxHeartbeats 4000000 in
set_option maxRecDepth 100000 in
theorem ctX10_remove (l : Launch) (E : gE) (aL acoins aaccounts acode apaid aowner auses aidle auser aword acut : Nat → Nat) (x1 : Int32) (L_price : Int32) (L_letter : Int32) (L_deposit : Int32) (L_keep : Int32) (L_refund : Int32) (L_users : Int32) (L_pieces : Int32) (L_words : Int32) (L_time : Int32) (L_chest : Int32) (L_fund : Int32) (coins : (Nat → Int32)) (accounts : (Nat → Int32)) (code : (Nat → Int32)) (uses : (Nat → Int32)) (idle : (Nat → Int32)) (user : (Nat → Int32)) (word : (Nat → Int32)) (cut : (Nat → Int32)) (r : Int32) (L_words' : Int32) (L_fund' : Int32) (coins' : (Nat → Int32)) (accounts' : (Nat → Int32)) (uses' : (Nat → Int32)) (idle' : (Nat → Int32)) (user' : (Nat → Int32)) (word' : (Nat → Int32)) (cut' : (Nat → Int32)) (hf : fX10_remove x1 L_deposit L_pieces L_words L_time L_fund coins accounts code uses idle user word cut = some (r, L_words', L_fund', coins', accounts', uses', idle', user', word', cut')) : gMet l yX10_remove wsX10_remove rmX10_remove vwCl E [.ref (aL 0), .int x1] [sLB E aL acoins aaccounts acode apaid aowner auses aidle auser aword acut L_price L_letter L_deposit L_keep L_refund L_users L_pieces L_words L_time L_chest L_fund, sArrI E acoins 4 coins, sArrI E aaccounts 6 accounts, sArrI E acode 25 code, sArrI E auses 25 uses, sArrI E aidle 25 idle, sArrI E auser 17 user, sArrI E aword 17 word, sArrI E acut 17 cut] (fun v w => v = some (.int r) ∧ w = [sLB E aL acoins aaccounts acode apaid aowner auses aidle auser aword acut L_price L_letter L_deposit L_keep L_refund L_users L_pieces L_words' L_time L_chest L_fund', sArrI E acoins 4 coins', sArrI E aaccounts 6 accounts', sArrI E acode 25 code, sArrI E auses 25 uses', sArrI E aidle 25 idle', sArrI E auser 17 user', sArrI E aword 17 word', sArrI E acut 17 cut']) 0 0 := by
  refine g_entry [some (.ref (aL 0)), some (.int x1), none, none] (by decide) rfl (Nat.le_of_ble_eq_true rfl) rfl ?_
  intro p e s m below meth c A F hnm
  unfold fX10_remove at hf
  refine g_aload_n F dX10_remove_0 rfl ?_
  refine g_aload_n F dX10_remove_1 rfl ?_
  refine g_get (C := RX10) (T := TX10) (N := 21) F 0 0 19 rfl rfl rfl iX10_remove_X10 (by decide) (by decide +kernel) rfl dX10_remove_2 ?_
  refine g_iload_n F dX10_remove_5 rfl ?_
  obtain ⟨hb_1, hf⟩ := gb_in hf
  refine g_iald F 7 0 (x1.toNatClampNeg) rfl rfl rfl hb_1 dX10_remove_6 ?_
  refine g_aload_n F dX10_remove_7 rfl ?_
  refine g_get (C := RX10) (T := TX10) (N := 21) F 0 0 20 rfl rfl rfl iX10_remove_X10 (by decide) (by decide +kernel) rfl dX10_remove_8 ?_
  refine g_iload_n F dX10_remove_11 rfl ?_
  obtain ⟨hb_2, hf⟩ := gb_in hf
  refine g_iald F 8 0 (x1.toNatClampNeg) rfl rfl rfl hb_2 dX10_remove_12 ?_
  refine g_iconst F (-1) dX10_remove_13 rfl ?_
  obtain ⟨uses_1, idle_1, hg_1, hf⟩ := gb2_el hf
  refine g_callV (C := RX10) (T := TX10) (N := 21) (Lr := [sArrI E acoins 4 coins, sArrI E aaccounts 6 accounts, sArrI E auser 17 user, sArrI E aword 17 word, sArrI E acut 17 cut]) (As := [.int (word (x1.toNatClampNeg)), .int (cut (x1.toNatClampNeg)), .int (-1)]) (rest := []) F 0 0 3 (ctX10_uses l E aL acoins aaccounts acode apaid aowner auses aidle auser aword acut (word (x1.toNatClampNeg)) (cut (x1.toNatClampNeg)) (-1) L_price L_letter L_deposit L_keep L_refund L_users L_pieces L_words L_time L_chest L_fund code uses idle uses_1 idle_1 hg_1) gX10_remove_X10_uses rfl rfl rfl h0X10_uses ⟨Nat.le_of_ble_eq_true rfl, Nat.le_of_ble_eq_true rfl⟩ rfl rfl rfl [0, 3, 4, 5] [1, 2, 6, 7, 8] rfl rfl rfl rfl rfl rfl (Nat.le_of_ble_eq_true rfl) dX10_remove_14 ⟨(Nat.le_of_ble_eq_true rfl), (Nat.le_of_ble_eq_true rfl)⟩ ?_
  rintro v w ⟨rfl, rfl⟩
  refine g_norm (Lw' := [sLB E aL acoins aaccounts acode apaid aowner auses aidle auser aword acut L_price L_letter L_deposit L_keep L_refund L_users L_pieces L_words L_time L_chest L_fund, sArrI E acoins 4 coins, sArrI E aaccounts 6 accounts, sArrI E acode 25 code, sArrI E auses 25 uses_1, sArrI E aidle 25 idle_1, sArrI E auser 17 user, sArrI E aword 17 word, sArrI E acut 17 cut]) (st' := []) (pc' := 17) [0, 4, 5, 1, 2, 3, 6, 7, 8] rfl rfl rfl rfl ?_
  refine g_aload_n F dX10_remove_17 rfl ?_
  refine g_get (C := RX10) (T := TX10) (N := 21) F 0 0 18 rfl rfl rfl iX10_remove_X10 (by decide) (by decide +kernel) rfl dX10_remove_18 ?_
  refine g_iload_n F dX10_remove_21 rfl ?_
  obtain ⟨hb_3, hf⟩ := gb_in hf
  refine g_iald F 6 0 (x1.toNatClampNeg) rfl rfl rfl hb_3 dX10_remove_22 ?_
  refine g_istore_n (lv' := [some (.ref (aL 0)), some (.int x1), some (.int (user (x1.toNatClampNeg))), none]) F dX10_remove_23 (Nat.le_of_ble_eq_true rfl) rfl rfl ?_
  refine g_aload_n F dX10_remove_24 rfl ?_
  refine g_iload_n F dX10_remove_25 rfl ?_
  refine g_aload_n F dX10_remove_26 rfl ?_
  refine g_get (C := RX10) (T := TX10) (N := 21) F 0 0 2 rfl rfl rfl iX10_remove_X10 (by decide) (by decide +kernel) rfl dX10_remove_27 ?_
  refine g_aload_n F dX10_remove_30 rfl ?_
  refine g_get (C := RX10) (T := TX10) (N := 21) F 0 0 20 rfl rfl rfl iX10_remove_X10 (by decide) (by decide +kernel) rfl dX10_remove_31 ?_
  refine g_iload_n F dX10_remove_34 rfl ?_
  obtain ⟨hb_4, hf⟩ := gb_in hf
  refine g_iald F 8 0 (x1.toNatClampNeg) rfl rfl rfl hb_4 dX10_remove_35 ?_
  obtain ⟨r_1, hg_2, hf⟩ := gb1_el hf
  refine g_callS (Lr := [sLB E aL acoins aaccounts acode apaid aowner auses aidle auser aword acut L_price L_letter L_deposit L_keep L_refund L_users L_pieces L_words L_time L_chest L_fund, sArrI E acoins 4 coins, sArrI E aaccounts 6 accounts, sArrI E acode 25 code, sArrI E auses 25 uses_1, sArrI E aidle 25 idle_1, sArrI E auser 17 user, sArrI E aword 17 word, sArrI E acut 17 cut]) (As := [.int (cut (x1.toNatClampNeg))]) (rest := [.int L_deposit, .int (user (x1.toNatClampNeg)), .ref (aL 0)]) F 1 (ctJ6_bitCount_0f7a4 l E (cut (x1.toNatClampNeg)) r_1 hg_2) (va_cwS 1 F.2.2.2.2.2.1 gX10_remove_J6_bitCount_0f7a4 rfl rfl rfl h0J6_bitCount_0f7a4 ⟨Nat.le_of_ble_eq_true rfl, Nat.le_of_ble_eq_true rfl⟩) [] [0, 1, 2, 3, 4, 5, 6, 7, 8] rfl rfl rfl rfl rfl rfl (Nat.le_of_ble_eq_true rfl) dX10_remove_36 ⟨(Nat.le_of_ble_eq_true rfl), (Nat.le_of_ble_eq_true rfl)⟩ ?_
  rintro v w ⟨rfl, rfl⟩
  refine g_norm (Lw' := [sLB E aL acoins aaccounts acode apaid aowner auses aidle auser aword acut L_price L_letter L_deposit L_keep L_refund L_users L_pieces L_words L_time L_chest L_fund, sArrI E acoins 4 coins, sArrI E aaccounts 6 accounts, sArrI E acode 25 code, sArrI E auses 25 uses_1, sArrI E aidle 25 idle_1, sArrI E auser 17 user, sArrI E aword 17 word, sArrI E acut 17 cut]) (st' := [.int r_1, .int L_deposit, .int (user (x1.toNatClampNeg)), .ref (aL 0)]) (pc' := 39) [0, 1, 2, 3, 4, 5, 6, 7, 8] rfl rfl rfl rfl ?_
  refine g_iconst F 1 dX10_remove_39 rfl ?_
  refine g_iadd F dX10_remove_40 ?_
  refine g_imul F dX10_remove_41 ?_
  obtain ⟨L_fund_1, coins_1, accounts_1, hg_3, hf⟩ := gb3_el hf
  refine g_callV (C := RX10) (T := TX10) (N := 21) (Lr := [sArrI E acode 25 code, sArrI E auses 25 uses_1, sArrI E aidle 25 idle_1, sArrI E auser 17 user, sArrI E aword 17 word, sArrI E acut 17 cut]) (As := [.int (user (x1.toNatClampNeg)), .int (L_deposit * (r_1 + 1))]) (rest := []) F 0 0 2 (ctX10_back l E aL acoins aaccounts acode apaid aowner auses aidle auser aword acut (user (x1.toNatClampNeg)) (L_deposit * (r_1 + 1)) L_price L_letter L_deposit L_keep L_refund L_users L_pieces L_words L_time L_chest L_fund coins accounts L_fund_1 coins_1 accounts_1 hg_3) gX10_remove_X10_back rfl rfl rfl h0X10_back ⟨Nat.le_of_ble_eq_true rfl, Nat.le_of_ble_eq_true rfl⟩ rfl rfl rfl [0, 1, 2] [3, 4, 5, 6, 7, 8] rfl rfl rfl rfl rfl rfl (Nat.le_of_ble_eq_true rfl) dX10_remove_42 ⟨(Nat.le_of_ble_eq_true rfl), (Nat.le_of_ble_eq_true rfl)⟩ ?_
  rintro v w ⟨rfl, rfl⟩
  refine g_norm (Lw' := [sLB E aL acoins aaccounts acode apaid aowner auses aidle auser aword acut L_price L_letter L_deposit L_keep L_refund L_users L_pieces L_words L_time L_chest L_fund_1, sArrI E acoins 4 coins_1, sArrI E aaccounts 6 accounts_1, sArrI E acode 25 code, sArrI E auses 25 uses_1, sArrI E aidle 25 idle_1, sArrI E auser 17 user, sArrI E aword 17 word, sArrI E acut 17 cut]) (st' := []) (pc' := 45) [0, 1, 2, 3, 4, 5, 6, 7, 8] rfl rfl rfl rfl ?_
  refine g_aload_n F dX10_remove_45 rfl ?_
  refine g_dup F dX10_remove_46 rfl ?_
  refine g_get (C := RX10) (T := TX10) (N := 21) F 0 0 7 rfl rfl rfl iX10_remove_X10 (by decide) (by decide +kernel) rfl dX10_remove_47 ?_
  refine g_iconst F 1 dX10_remove_50 rfl ?_
  refine g_isub F dX10_remove_51 ?_
  refine g_put (C := RX10) (T := TX10) (N := 21) (tys := tyX10) (Lw' := [sLB E aL acoins aaccounts acode apaid aowner auses aidle auser aword acut L_price L_letter L_deposit L_keep L_refund L_users L_pieces (L_words - 1) L_time L_chest L_fund_1, sArrI E acoins 4 coins_1, sArrI E aaccounts 6 accounts_1, sArrI E acode 25 code, sArrI E auses 25 uses_1, sArrI E aidle 25 idle_1, sArrI E auser 17 user, sArrI E aword 17 word, sArrI E acut 17 cut]) F 0 0 7 rfl rfl rfl iX10_remove_X10 tyX10_ok nmX10 (by decide) (by decide +kernel) rfl rfl rfl rfl (Nat.le_of_ble_eq_true rfl) dX10_remove_52 rfl ?_
  refine g_iload_n F dX10_remove_55 rfl ?_
  refine g_istore_n (lv' := [some (.ref (aL 0)), some (.int x1), some (.int (user (x1.toNatClampNeg))), some (.int x1)]) F dX10_remove_56 (Nat.le_of_ble_eq_true rfl) rfl rfl ?_
  refine g_mask [true, false, true, true] rfl ?_
  refine ktX10_remove_L57 F aL acoins aaccounts acode apaid aowner auses aidle auser aword acut (user (x1.toNatClampNeg)) (L_words - 1) L_price L_letter L_deposit L_keep L_refund L_users L_pieces L_time L_chest L_fund_1 coins_1 accounts_1 code uses_1 idle_1 r L_words' L_fund' coins' accounts' uses' idle' user' word' cut' (fun user_1 word_1 cut_1 hf => ?_) FU x1 user word cut hf
  refine g_aload_n F dX10_remove_113 rfl ?_
  refine g_get (C := RX10) (T := TX10) (N := 21) F 0 0 11 rfl rfl rfl iX10_remove_X10 (by decide) (by decide +kernel) rfl dX10_remove_114 ?_
  refine g_iload_n F dX10_remove_117 rfl ?_
  obtain ⟨hb_5, hf⟩ := gb_in hf
  refine g_iald F 1 0 ((user (x1.toNatClampNeg)).toNatClampNeg) rfl rfl rfl hb_5 dX10_remove_118 ?_
  cases hf
  exact g_iret F rfl ⟨rfl, rfl⟩ dX10_remove_119
set_option maxHeartbeats 4000000 in
set_option maxRecDepth 100000 in
theorem ktX10_tick_L16 {p : Program} {l : Launch} {e : Env} {s : State} {m : MethodId} {args : Array Value} {below : List Frame} {meth : Method} {c : Code} {E : gE} {A : Nat → Prop} (F : gFx p s m args meth c RX10 wsX10_tick cX10_tick 5 (some .int) vwCl E A) (aL acoins aaccounts acode apaid aowner auses aidle auser aword acut : Nat → Nat) (L_keep : Int32) (L_refund : Int32) (L_pieces : Int32) (L_time : Int32) (L_price : Int32) (L_letter : Int32) (L_deposit : Int32) (L_users : Int32) (L_words : Int32) (L_fund : Int32) (r : Int32) (L_pieces' : Int32) (L_time' : Int32) (L_chest' : Int32) (coins' : (Nat → Int32)) (accounts' : (Nat → Int32)) (code' : (Nat → Int32)) (paid' : (Nat → Int32)) (owner' : (Nat → Int32)) (uses' : (Nat → Int32)) (idle' : (Nat → Int32)) {k : Int32 → Int32 → Int32 → (Nat → Int32) → (Nat → Int32) → (Nat → Int32) → (Nat → Int32) → (Nat → Int32) → (Nat → Int32) → (Nat → Int32) → Option (Int32 × Int32 × Int32 × Int32 × (Nat → Int32) × (Nat → Int32) × (Nat → Int32) × (Nat → Int32) × (Nat → Int32) × (Nat → Int32) × (Nat → Int32))} (hk : ∀ (x1 : Int32) (x2 : Int32) (L_chest : Int32) (coins : (Nat → Int32)) (accounts : (Nat → Int32)) (code : (Nat → Int32)) (paid : (Nat → Int32)) (owner : (Nat → Int32)) (uses : (Nat → Int32)) (idle : (Nat → Int32)), k x1 x2 L_chest coins accounts code paid owner uses idle = some (r, L_pieces', L_time', L_chest', coins', accounts', code', paid', owner', uses', idle') → Gj p l e rmX10_tick s m args below meth c 0 0 (MQ below (gQ vwCl E A (fun v w => v = some (.int r) ∧ w = [sLB E aL acoins aaccounts acode apaid aowner auses aidle auser aword acut L_price L_letter L_deposit L_keep L_refund L_users L_pieces' L_words L_time' L_chest' L_fund, sArrI E acoins 4 coins', sArrI E aaccounts 6 accounts', sArrI E acode 25 code', sArrI E apaid 25 paid', sArrI E aowner 25 owner', sArrI E auses 25 uses', sArrI E aidle 25 idle'])) args s 0 0 A) vwCl E A [sLB E aL acoins aaccounts acode apaid aowner auses aidle auser aword acut L_price L_letter L_deposit L_keep L_refund L_users L_pieces L_words L_time L_chest L_fund, sArrI E acoins 4 coins, sArrI E aaccounts 6 accounts, sArrI E acode 25 code, sArrI E apaid 25 paid, sArrI E aowner 25 owner, sArrI E auses 25 uses, sArrI E aidle 25 idle] [some (.ref (aL 0)), some (.int x1), some (.int x2), none, none] [] 199) : ∀ (n : Nat) (x1 : Int32) (x2 : Int32) (x3 : Int32) (L_chest : Int32) (coins : (Nat → Int32)) (accounts : (Nat → Int32)) (code : (Nat → Int32)) (paid : (Nat → Int32)) (owner : (Nat → Int32)) (uses : (Nat → Int32)) (idle : (Nat → Int32)), fX10_tick_L16 L_keep L_refund L_pieces L_time k n x1 x2 x3 L_chest coins accounts code paid owner uses idle = some (r, L_pieces', L_time', L_chest', coins', accounts', code', paid', owner', uses', idle') → Gj p l e rmX10_tick s m args below meth c 0 0 (MQ below (gQ vwCl E A (fun v w => v = some (.int r) ∧ w = [sLB E aL acoins aaccounts acode apaid aowner auses aidle auser aword acut L_price L_letter L_deposit L_keep L_refund L_users L_pieces' L_words L_time' L_chest' L_fund, sArrI E acoins 4 coins', sArrI E aaccounts 6 accounts', sArrI E acode 25 code', sArrI E apaid 25 paid', sArrI E aowner 25 owner', sArrI E auses 25 uses', sArrI E aidle 25 idle'])) args s 0 0 A) vwCl E A [sLB E aL acoins aaccounts acode apaid aowner auses aidle auser aword acut L_price L_letter L_deposit L_keep L_refund L_users L_pieces L_words L_time L_chest L_fund, sArrI E acoins 4 coins, sArrI E aaccounts 6 accounts, sArrI E acode 25 code, sArrI E apaid 25 paid, sArrI E aowner 25 owner, sArrI E auses 25 uses, sArrI E aidle 25 idle] [some (.ref (aL 0)), some (.int x1), some (.int x2), some (.int x3), none] [] 16
  | 0, _, _, _, _, _, _, _, _, _, _, _, hf => by cases hf
  | n + 1, x1, x2, x3, L_chest, coins, accounts, code, paid, owner, uses, idle, hf => by
    have ih := ktX10_tick_L16 F aL acoins aaccounts acode apaid aowner auses aidle auser aword acut L_keep L_refund L_pieces L_time L_price L_letter L_deposit L_users L_words L_fund r L_pieces' L_time' L_chest' coins' accounts' code' paid' owner' uses' idle' hk n
    rw [fX10_tick_L16] at hf
    refine g_iload_n F dX10_tick_16 rfl ?_
    refine g_aload_n F dX10_tick_17 rfl ?_
    refine g_get (C := RX10) (T := TX10) (N := 21) F 0 0 6 rfl rfl rfl iX10_tick_X10 (by decide) (by decide +kernel) rfl dX10_tick_18 ?_
    refine g_icmp_ge F 199 dX10_tick_21 (by decide) (fun hc_4 => ?_) (fun hc_4 => ?_)
    · replace hf := gi_t hc_4 hf
      refine g_mask [true, true, true, false, true] rfl ?_
      exact hk x1 x2 L_chest coins accounts code paid owner uses idle hf
    · replace hf := gi_f hc_4 hf
      refine g_aload_n F dX10_tick_24 rfl ?_
      refine g_get (C := RX10) (T := TX10) (N := 21) F 0 0 15 rfl rfl rfl iX10_tick_X10 (by decide) (by decide +kernel) rfl dX10_tick_25 ?_
      refine g_iload_n F dX10_tick_28 rfl ?_
      obtain ⟨hb_1, hf⟩ := gb_in hf
      refine g_iald F 5 0 (x3.toNatClampNeg) rfl rfl rfl hb_1 dX10_tick_29 ?_
      obtain ⟨j_1, hj_1, hf⟩ := Lt_el hf
      have hj_1 : j_1 = some (r, L_pieces', L_time', L_chest', coins', accounts', code', paid', owner', uses', idle') → Gj p l e rmX10_tick s m args below meth c 0 0 (MQ below (gQ vwCl E A (fun v w => v = some (.int r) ∧ w = [sLB E aL acoins aaccounts acode apaid aowner auses aidle auser aword acut L_price L_letter L_deposit L_keep L_refund L_users L_pieces' L_words L_time' L_chest' L_fund, sArrI E acoins 4 coins', sArrI E aaccounts 6 accounts', sArrI E acode 25 code', sArrI E apaid 25 paid', sArrI E aowner 25 owner', sArrI E auses 25 uses', sArrI E aidle 25 idle'])) args s 0 0 A) vwCl E A [sLB E aL acoins aaccounts acode apaid aowner auses aidle auser aword acut L_price L_letter L_deposit L_keep L_refund L_users L_pieces L_words L_time L_chest L_fund, sArrI E acoins 4 coins, sArrI E aaccounts 6 accounts, sArrI E acode 25 code, sArrI E apaid 25 paid, sArrI E aowner 25 owner, sArrI E auses 25 uses, sArrI E aidle 25 idle] [some (.ref (aL 0)), some (.int x1), some (.int x2), some (.int x3), none] [] 130 := by
        intro hf
        rw [hj_1] at hf
        refine g_aload_n F dX10_tick_130 rfl ?_
        refine g_get (C := RX10) (T := TX10) (N := 21) F 0 0 13 rfl rfl rfl iX10_tick_X10 (by decide) (by decide +kernel) rfl dX10_tick_131 ?_
        refine g_iload_n F dX10_tick_134 rfl ?_
        refine g_aload_n F dX10_tick_135 rfl ?_
        refine g_get (C := RX10) (T := TX10) (N := 21) F 0 0 13 rfl rfl rfl iX10_tick_X10 (by decide) (by decide +kernel) rfl dX10_tick_136 ?_
        refine g_iload_n F dX10_tick_139 rfl ?_
        obtain ⟨hb_2, hf⟩ := gb_in hf
        refine g_iald F 3 0 (x3.toNatClampNeg) rfl rfl rfl hb_2 dX10_tick_140 ?_
        obtain ⟨hb_3, hf⟩ := gb_in hf
        obtain ⟨code_1, hcode_1, hf⟩ := Lt_el hf
        refine g_iast (Lw' := [sLB E aL acoins aaccounts acode apaid aowner auses aidle auser aword acut L_price L_letter L_deposit L_keep L_refund L_users L_pieces L_words L_time L_chest L_fund, sArrI E acoins 4 coins, sArrI E aaccounts 6 accounts, sArrI E acode 25 code_1, sArrI E apaid 25 paid, sArrI E aowner 25 owner, sArrI E auses 25 uses, sArrI E aidle 25 idle]) F 3 0 (x1.toNatClampNeg) rfl rfl rfl hb_3 dX10_tick_141 (by subst hcode_1; rfl) ?_
        refine g_aload_n F dX10_tick_142 rfl ?_
        refine g_get (C := RX10) (T := TX10) (N := 21) F 0 0 14 rfl rfl rfl iX10_tick_X10 (by decide) (by decide +kernel) rfl dX10_tick_143 ?_
        refine g_iload_n F dX10_tick_146 rfl ?_
        refine g_aload_n F dX10_tick_147 rfl ?_
        refine g_get (C := RX10) (T := TX10) (N := 21) F 0 0 14 rfl rfl rfl iX10_tick_X10 (by decide) (by decide +kernel) rfl dX10_tick_148 ?_
        refine g_iload_n F dX10_tick_151 rfl ?_
        obtain ⟨hb_4, hf⟩ := gb_in hf
        refine g_iald F 4 0 (x3.toNatClampNeg) rfl rfl rfl hb_4 dX10_tick_152 ?_
        obtain ⟨hb_5, hf⟩ := gb_in hf
        obtain ⟨paid_1, hpaid_1, hf⟩ := Lt_el hf
        refine g_iast (Lw' := [sLB E aL acoins aaccounts acode apaid aowner auses aidle auser aword acut L_price L_letter L_deposit L_keep L_refund L_users L_pieces L_words L_time L_chest L_fund, sArrI E acoins 4 coins, sArrI E aaccounts 6 accounts, sArrI E acode 25 code_1, sArrI E apaid 25 paid_1, sArrI E aowner 25 owner, sArrI E auses 25 uses, sArrI E aidle 25 idle]) F 4 0 (x1.toNatClampNeg) rfl rfl rfl hb_5 dX10_tick_153 (by subst hpaid_1; rfl) ?_
        refine g_aload_n F dX10_tick_154 rfl ?_
        refine g_get (C := RX10) (T := TX10) (N := 21) F 0 0 15 rfl rfl rfl iX10_tick_X10 (by decide) (by decide +kernel) rfl dX10_tick_155 ?_
        refine g_iload_n F dX10_tick_158 rfl ?_
        refine g_aload_n F dX10_tick_159 rfl ?_
        refine g_get (C := RX10) (T := TX10) (N := 21) F 0 0 15 rfl rfl rfl iX10_tick_X10 (by decide) (by decide +kernel) rfl dX10_tick_160 ?_
        refine g_iload_n F dX10_tick_163 rfl ?_
        obtain ⟨hb_6, hf⟩ := gb_in hf
        refine g_iald F 5 0 (x3.toNatClampNeg) rfl rfl rfl hb_6 dX10_tick_164 ?_
        obtain ⟨hb_7, hf⟩ := gb_in hf
        obtain ⟨owner_1, howner_1, hf⟩ := Lt_el hf
        refine g_iast (Lw' := [sLB E aL acoins aaccounts acode apaid aowner auses aidle auser aword acut L_price L_letter L_deposit L_keep L_refund L_users L_pieces L_words L_time L_chest L_fund, sArrI E acoins 4 coins, sArrI E aaccounts 6 accounts, sArrI E acode 25 code_1, sArrI E apaid 25 paid_1, sArrI E aowner 25 owner_1, sArrI E auses 25 uses, sArrI E aidle 25 idle]) F 5 0 (x1.toNatClampNeg) rfl rfl rfl hb_7 dX10_tick_165 (by subst howner_1; rfl) ?_
        refine g_aload_n F dX10_tick_166 rfl ?_
        refine g_get (C := RX10) (T := TX10) (N := 21) F 0 0 16 rfl rfl rfl iX10_tick_X10 (by decide) (by decide +kernel) rfl dX10_tick_167 ?_
        refine g_iload_n F dX10_tick_170 rfl ?_
        refine g_aload_n F dX10_tick_171 rfl ?_
        refine g_get (C := RX10) (T := TX10) (N := 21) F 0 0 16 rfl rfl rfl iX10_tick_X10 (by decide) (by decide +kernel) rfl dX10_tick_172 ?_
        refine g_iload_n F dX10_tick_175 rfl ?_
        obtain ⟨hb_8, hf⟩ := gb_in hf
        refine g_iald F 6 0 (x3.toNatClampNeg) rfl rfl rfl hb_8 dX10_tick_176 ?_
        obtain ⟨hb_9, hf⟩ := gb_in hf
        obtain ⟨uses_1, huses_1, hf⟩ := Lt_el hf
        refine g_iast (Lw' := [sLB E aL acoins aaccounts acode apaid aowner auses aidle auser aword acut L_price L_letter L_deposit L_keep L_refund L_users L_pieces L_words L_time L_chest L_fund, sArrI E acoins 4 coins, sArrI E aaccounts 6 accounts, sArrI E acode 25 code_1, sArrI E apaid 25 paid_1, sArrI E aowner 25 owner_1, sArrI E auses 25 uses_1, sArrI E aidle 25 idle]) F 6 0 (x1.toNatClampNeg) rfl rfl rfl hb_9 dX10_tick_177 (by subst huses_1; rfl) ?_
        refine g_aload_n F dX10_tick_178 rfl ?_
        refine g_get (C := RX10) (T := TX10) (N := 21) F 0 0 17 rfl rfl rfl iX10_tick_X10 (by decide) (by decide +kernel) rfl dX10_tick_179 ?_
        refine g_iload_n F dX10_tick_182 rfl ?_
        refine g_iinc (lv' := [some (.ref (aL 0)), some (.int (x1 + 1)), some (.int x2), some (.int x3), none]) F (x1 + 1) dX10_tick_183 rfl rfl rfl rfl ?_
        refine g_aload_n F dX10_tick_186 rfl ?_
        refine g_get (C := RX10) (T := TX10) (N := 21) F 0 0 17 rfl rfl rfl iX10_tick_X10 (by decide) (by decide +kernel) rfl dX10_tick_187 ?_
        refine g_iload_n F dX10_tick_190 rfl ?_
        obtain ⟨hb_10, hf⟩ := gb_in hf
        refine g_iald F 7 0 (x3.toNatClampNeg) rfl rfl rfl hb_10 dX10_tick_191 ?_
        obtain ⟨hb_11, hf⟩ := gb_in hf
        obtain ⟨idle_1, hidle_1, hf⟩ := Lt_el hf
        refine g_iast (Lw' := [sLB E aL acoins aaccounts acode apaid aowner auses aidle auser aword acut L_price L_letter L_deposit L_keep L_refund L_users L_pieces L_words L_time L_chest L_fund, sArrI E acoins 4 coins, sArrI E aaccounts 6 accounts, sArrI E acode 25 code_1, sArrI E apaid 25 paid_1, sArrI E aowner 25 owner_1, sArrI E auses 25 uses_1, sArrI E aidle 25 idle_1]) F 7 0 (x1.toNatClampNeg) rfl rfl rfl hb_11 dX10_tick_192 (by subst hidle_1; rfl) ?_
        refine g_iinc (lv' := [some (.ref (aL 0)), some (.int (x1 + 1)), some (.int x2), some (.int (x3 + 1)), none]) F (x3 + 1) dX10_tick_193 rfl rfl rfl rfl ?_
        refine g_goto F 16 dX10_tick_196 (by decide) ?_
        exact ih (x1 + 1) x2 (x3 + 1) L_chest coins accounts code_1 paid_1 owner_1 uses_1 idle_1 hf
      refine g_iflt F 130 dX10_tick_30 (by decide) (fun hc_3 => ?_) (fun hc_3 => ?_)
      · replace hf := gi_t hc_3 hf
        exact hj_1 hf
      · replace hf := gi_f hc_3 hf
        refine g_aload_n F dX10_tick_33 rfl ?_
        refine g_get (C := RX10) (T := TX10) (N := 21) F 0 0 16 rfl rfl rfl iX10_tick_X10 (by decide) (by decide +kernel) rfl dX10_tick_34 ?_
        refine g_iload_n F dX10_tick_37 rfl ?_
        obtain ⟨hb_12, hf⟩ := gb_in hf
        refine g_iald F 6 0 (x3.toNatClampNeg) rfl rfl rfl hb_12 dX10_tick_38 ?_
        refine g_ifne F 130 dX10_tick_39 (by decide) (fun hc_2 => ?_) (fun hc_2 => ?_)
        · replace hf := gi_f hc_2 hf
          exact hj_1 hf
        · replace hf := gi_t hc_2 hf
          refine g_aload_n F dX10_tick_42 rfl ?_
          refine g_get (C := RX10) (T := TX10) (N := 21) F 0 0 8 rfl rfl rfl iX10_tick_X10 (by decide) (by decide +kernel) rfl dX10_tick_43 ?_
          refine g_aload_n F dX10_tick_46 rfl ?_
          refine g_get (C := RX10) (T := TX10) (N := 21) F 0 0 17 rfl rfl rfl iX10_tick_X10 (by decide) (by decide +kernel) rfl dX10_tick_47 ?_
          refine g_iload_n F dX10_tick_50 rfl ?_
          obtain ⟨hb_13, hf⟩ := gb_in hf
          refine g_iald F 7 0 (x3.toNatClampNeg) rfl rfl rfl hb_13 dX10_tick_51 ?_
          refine g_isub F dX10_tick_52 ?_
          refine g_aload_n F dX10_tick_53 rfl ?_
          refine g_get (C := RX10) (T := TX10) (N := 21) F 0 0 3 rfl rfl rfl iX10_tick_X10 (by decide) (by decide +kernel) rfl dX10_tick_54 ?_
          refine g_icmp_le F 130 dX10_tick_57 (by decide) (fun hc_1 => ?_) (fun hc_1 => ?_)
          · replace hf := gi_t hc_1 hf
            exact hj_1 hf
          · replace hf := gi_f hc_1 hf
            refine g_aload_n F dX10_tick_60 rfl ?_
            refine g_get (C := RX10) (T := TX10) (N := 21) F 0 0 14 rfl rfl rfl iX10_tick_X10 (by decide) (by decide +kernel) rfl dX10_tick_61 ?_
            refine g_iload_n F dX10_tick_64 rfl ?_
            obtain ⟨hb_14, hf⟩ := gb_in hf
            refine g_iald F 4 0 (x3.toNatClampNeg) rfl rfl rfl hb_14 dX10_tick_65 ?_
            refine g_aload_n F dX10_tick_66 rfl ?_
            refine g_get (C := RX10) (T := TX10) (N := 21) F 0 0 4 rfl rfl rfl iX10_tick_X10 (by decide) (by decide +kernel) rfl dX10_tick_67 ?_
            refine g_imul F dX10_tick_70 ?_
            refine g_bipush F 100 dX10_tick_71 rfl ?_
            refine g_idiv F dX10_tick_73 (by decide) ?_
            refine g_istore (lv' := [some (.ref (aL 0)), some (.int x1), some (.int x2), some (.int x3), some (.int (((paid (x3.toNatClampNeg)) * L_refund) / 100))]) F dX10_tick_74 (Nat.le_of_ble_eq_true rfl) rfl rfl ?_
            refine g_aload_n F dX10_tick_76 rfl ?_
            refine g_dup F dX10_tick_77 rfl ?_
            refine g_get (C := RX10) (T := TX10) (N := 21) F 0 0 9 rfl rfl rfl iX10_tick_X10 (by decide) (by decide +kernel) rfl dX10_tick_78 ?_
            refine g_iload F dX10_tick_81 rfl ?_
            refine g_isub F dX10_tick_83 ?_
            obtain ⟨L_chest_1, hL_chest_1, hf⟩ := Lt_el hf
            refine g_put (C := RX10) (T := TX10) (N := 21) (tys := tyX10) (Lw' := [sLB E aL acoins aaccounts acode apaid aowner auses aidle auser aword acut L_price L_letter L_deposit L_keep L_refund L_users L_pieces L_words L_time L_chest_1 L_fund, sArrI E acoins 4 coins, sArrI E aaccounts 6 accounts, sArrI E acode 25 code, sArrI E apaid 25 paid, sArrI E aowner 25 owner, sArrI E auses 25 uses, sArrI E aidle 25 idle]) F 0 0 9 rfl rfl rfl iX10_tick_X10 tyX10_ok nmX10 (by decide) (by decide +kernel) rfl rfl rfl rfl (Nat.le_of_ble_eq_true rfl) dX10_tick_84 (by subst hL_chest_1; rfl) ?_
            refine g_aload_n F dX10_tick_87 rfl ?_
            refine g_get (C := RX10) (T := TX10) (N := 21) F 0 0 11 rfl rfl rfl iX10_tick_X10 (by decide) (by decide +kernel) rfl dX10_tick_88 ?_
            refine g_aload_n F dX10_tick_91 rfl ?_
            refine g_get (C := RX10) (T := TX10) (N := 21) F 0 0 15 rfl rfl rfl iX10_tick_X10 (by decide) (by decide +kernel) rfl dX10_tick_92 ?_
            refine g_iload_n F dX10_tick_95 rfl ?_
            obtain ⟨hb_15, hf⟩ := gb_in hf
            refine g_iald F 5 0 (x3.toNatClampNeg) rfl rfl rfl hb_15 dX10_tick_96 ?_
            refine g_dup2 F dX10_tick_97 rfl rfl ?_
            obtain ⟨hb_16, hf⟩ := gb_in hf
            refine g_iald F 1 0 ((owner (x3.toNatClampNeg)).toNatClampNeg) rfl rfl rfl hb_16 dX10_tick_98 ?_
            refine g_iload F dX10_tick_99 rfl ?_
            refine g_iadd F dX10_tick_101 ?_
            obtain ⟨hb_17, hf⟩ := gb_in hf
            obtain ⟨coins_1, hcoins_1, hf⟩ := Lt_el hf
            refine g_iast (Lw' := [sLB E aL acoins aaccounts acode apaid aowner auses aidle auser aword acut L_price L_letter L_deposit L_keep L_refund L_users L_pieces L_words L_time L_chest_1 L_fund, sArrI E acoins 4 coins_1, sArrI E aaccounts 6 accounts, sArrI E acode 25 code, sArrI E apaid 25 paid, sArrI E aowner 25 owner, sArrI E auses 25 uses, sArrI E aidle 25 idle]) F 1 0 ((owner (x3.toNatClampNeg)).toNatClampNeg) rfl rfl rfl hb_17 dX10_tick_102 (by subst hcoins_1; rfl) ?_
            refine g_aload_n F dX10_tick_103 rfl ?_
            refine g_get (C := RX10) (T := TX10) (N := 21) F 0 0 12 rfl rfl rfl iX10_tick_X10 (by decide) (by decide +kernel) rfl dX10_tick_104 ?_
            refine g_iconst F 1 dX10_tick_107 rfl ?_
            refine g_dup2 F dX10_tick_108 rfl rfl ?_
            refine g_iald F 2 0 1 (by decide) rfl rfl (by decide) dX10_tick_109 ?_
            refine g_iload F dX10_tick_110 rfl ?_
            refine g_iadd F dX10_tick_112 ?_
            obtain ⟨accounts_1, haccounts_1, hf⟩ := Lt_el hf
            refine g_iast (Lw' := [sLB E aL acoins aaccounts acode apaid aowner auses aidle auser aword acut L_price L_letter L_deposit L_keep L_refund L_users L_pieces L_words L_time L_chest_1 L_fund, sArrI E acoins 4 coins_1, sArrI E aaccounts 6 accounts_1, sArrI E acode 25 code, sArrI E apaid 25 paid, sArrI E aowner 25 owner, sArrI E auses 25 uses, sArrI E aidle 25 idle]) F 2 0 1 (by decide) rfl rfl (by decide) dX10_tick_113 (by subst haccounts_1; rfl) ?_
            refine g_aload_n F dX10_tick_114 rfl ?_
            refine g_get (C := RX10) (T := TX10) (N := 21) F 0 0 12 rfl rfl rfl iX10_tick_X10 (by decide) (by decide +kernel) rfl dX10_tick_115 ?_
            refine g_iconst F 5 dX10_tick_118 rfl ?_
            refine g_dup2 F dX10_tick_119 rfl rfl ?_
            refine g_iald F 2 0 5 (by decide) rfl rfl (by decide) dX10_tick_120 ?_
            refine g_iconst F 1 dX10_tick_121 rfl ?_
            refine g_iadd F dX10_tick_122 ?_
            obtain ⟨accounts_2, haccounts_2, hf⟩ := Lt_el hf
            refine g_iast (Lw' := [sLB E aL acoins aaccounts acode apaid aowner auses aidle auser aword acut L_price L_letter L_deposit L_keep L_refund L_users L_pieces L_words L_time L_chest_1 L_fund, sArrI E acoins 4 coins_1, sArrI E aaccounts 6 accounts_2, sArrI E acode 25 code, sArrI E apaid 25 paid, sArrI E aowner 25 owner, sArrI E auses 25 uses, sArrI E aidle 25 idle]) F 2 0 5 (by decide) rfl rfl (by decide) dX10_tick_123 (by subst haccounts_2; rfl) ?_
            refine g_iinc (lv' := [some (.ref (aL 0)), some (.int x1), some (.int (x2 + 1)), some (.int x3), some (.int (((paid (x3.toNatClampNeg)) * L_refund) / 100))]) F (x2 + 1) dX10_tick_124 rfl rfl rfl rfl ?_
            refine g_goto F 193 dX10_tick_127 (by decide) ?_
            refine g_iinc (lv' := [some (.ref (aL 0)), some (.int x1), some (.int (x2 + 1)), some (.int (x3 + 1)), some (.int (((paid (x3.toNatClampNeg)) * L_refund) / 100))]) F (x3 + 1) dX10_tick_193 rfl rfl rfl rfl ?_
            refine g_goto F 16 dX10_tick_196 (by decide) ?_
            refine g_mask [true, true, true, true, false] rfl ?_
            exact ih x1 (x2 + 1) (x3 + 1) L_chest_1 coins_1 accounts_2 code paid owner uses idle hf
set_option maxHeartbeats 4000000 in
set_option maxRecDepth 100000 in
theorem ctX10_tick (l : Launch) (E : gE) (aL acoins aaccounts acode apaid aowner auses aidle auser aword acut : Nat → Nat) (L_price : Int32) (L_letter : Int32) (L_deposit : Int32) (L_keep : Int32) (L_refund : Int32) (L_users : Int32) (L_pieces : Int32) (L_words : Int32) (L_time : Int32) (L_chest : Int32) (L_fund : Int32) (coins : (Nat → Int32)) (accounts : (Nat → Int32)) (code : (Nat → Int32)) (paid : (Nat → Int32)) (owner : (Nat → Int32)) (uses : (Nat → Int32)) (idle : (Nat → Int32)) (r : Int32) (L_pieces' : Int32) (L_time' : Int32) (L_chest' : Int32) (coins' : (Nat → Int32)) (accounts' : (Nat → Int32)) (code' : (Nat → Int32)) (paid' : (Nat → Int32)) (owner' : (Nat → Int32)) (uses' : (Nat → Int32)) (idle' : (Nat → Int32)) (hf : fX10_tick L_keep L_refund L_pieces L_time L_chest coins accounts code paid owner uses idle = some (r, L_pieces', L_time', L_chest', coins', accounts', code', paid', owner', uses', idle')) : gMet l yX10_tick wsX10_tick rmX10_tick vwCl E [.ref (aL 0)] [sLB E aL acoins aaccounts acode apaid aowner auses aidle auser aword acut L_price L_letter L_deposit L_keep L_refund L_users L_pieces L_words L_time L_chest L_fund, sArrI E acoins 4 coins, sArrI E aaccounts 6 accounts, sArrI E acode 25 code, sArrI E apaid 25 paid, sArrI E aowner 25 owner, sArrI E auses 25 uses, sArrI E aidle 25 idle] (fun v w => v = some (.int r) ∧ w = [sLB E aL acoins aaccounts acode apaid aowner auses aidle auser aword acut L_price L_letter L_deposit L_keep L_refund L_users L_pieces' L_words L_time' L_chest' L_fund, sArrI E acoins 4 coins', sArrI E aaccounts 6 accounts', sArrI E acode 25 code', sArrI E apaid 25 paid', sArrI E aowner 25 owner', sArrI E auses 25 uses', sArrI E aidle 25 idle']) 0 0 := by
  refine g_entry [some (.ref (aL 0)), none, none, none, none] (by decide) rfl (Nat.le_of_ble_eq_true rfl) rfl ?_
  intro p e s m below meth c A F hnm
  unfold fX10_tick at hf
  refine g_aload_n F dX10_tick_0 rfl ?_
  refine g_dup F dX10_tick_1 rfl ?_
  refine g_get (C := RX10) (T := TX10) (N := 21) F 0 0 8 rfl rfl rfl iX10_tick_X10 (by decide) (by decide +kernel) rfl dX10_tick_2 ?_
  refine g_iconst F 1 dX10_tick_5 rfl ?_
  refine g_iadd F dX10_tick_6 ?_
  refine g_put (C := RX10) (T := TX10) (N := 21) (tys := tyX10) (Lw' := [sLB E aL acoins aaccounts acode apaid aowner auses aidle auser aword acut L_price L_letter L_deposit L_keep L_refund L_users L_pieces L_words (L_time + 1) L_chest L_fund, sArrI E acoins 4 coins, sArrI E aaccounts 6 accounts, sArrI E acode 25 code, sArrI E apaid 25 paid, sArrI E aowner 25 owner, sArrI E auses 25 uses, sArrI E aidle 25 idle]) F 0 0 8 rfl rfl rfl iX10_tick_X10 tyX10_ok nmX10 (by decide) (by decide +kernel) rfl rfl rfl rfl (Nat.le_of_ble_eq_true rfl) dX10_tick_7 rfl ?_
  refine g_iconst F 0 dX10_tick_10 rfl ?_
  refine g_istore_n (lv' := [some (.ref (aL 0)), some (.int 0), none, none, none]) F dX10_tick_11 (Nat.le_of_ble_eq_true rfl) rfl rfl ?_
  refine g_iconst F 0 dX10_tick_12 rfl ?_
  refine g_istore_n (lv' := [some (.ref (aL 0)), some (.int 0), some (.int 0), none, none]) F dX10_tick_13 (Nat.le_of_ble_eq_true rfl) rfl rfl ?_
  refine g_iconst F 0 dX10_tick_14 rfl ?_
  refine g_istore_n (lv' := [some (.ref (aL 0)), some (.int 0), some (.int 0), some (.int 0), none]) F dX10_tick_15 (Nat.le_of_ble_eq_true rfl) rfl rfl ?_
  refine ktX10_tick_L16 F aL acoins aaccounts acode apaid aowner auses aidle auser aword acut L_keep L_refund L_pieces (L_time + 1) L_price L_letter L_deposit L_users L_words L_fund r L_pieces' L_time' L_chest' coins' accounts' code' paid' owner' uses' idle' (fun x1_1 x2_1 L_chest_1 coins_1 accounts_1 code_1 paid_1 owner_1 uses_1 idle_1 hf => ?_) FU 0 0 0 L_chest coins accounts code paid owner uses idle hf
  refine g_aload_n F dX10_tick_199 rfl ?_
  refine g_iload_n F dX10_tick_200 rfl ?_
  refine g_put (C := RX10) (T := TX10) (N := 21) (tys := tyX10) (Lw' := [sLB E aL acoins aaccounts acode apaid aowner auses aidle auser aword acut L_price L_letter L_deposit L_keep L_refund L_users x1_1 L_words (L_time + 1) L_chest_1 L_fund, sArrI E acoins 4 coins_1, sArrI E aaccounts 6 accounts_1, sArrI E acode 25 code_1, sArrI E apaid 25 paid_1, sArrI E aowner 25 owner_1, sArrI E auses 25 uses_1, sArrI E aidle 25 idle_1]) F 0 0 6 rfl rfl rfl iX10_tick_X10 tyX10_ok nmX10 (by decide) (by decide +kernel) rfl rfl rfl rfl (Nat.le_of_ble_eq_true rfl) dX10_tick_201 rfl ?_
  refine g_iload_n F dX10_tick_204 rfl ?_
  cases hf
  exact g_iret F rfl ⟨rfl, rfl⟩ dX10_tick_205
