abbrev rmX10_cuts : Room := { frames := 3, cells := 0, slots := 0, locals := 72 }
theorem iX10_cuts_X10 : ∀ w ∈ u_ws RX10 TX10 27, w ∈ wsX10_cuts := by decide +kernel
theorem h0X10_cuts : yX10_cuts.cls = RX10 ∧ yX10_cuts.cls ≠ "java/lang/invoke/MethodHandle" ∧ yX10_cuts.cls ≠ "java/lang/invoke/VarHandle" ∧ (parseMethodDescriptor yX10_cuts.desc).map (fun d => d.parameters.length) = some 2 := by decide +kernel
abbrev rmX10_cutsCheapest : Room := { frames := 4, cells := 0, slots := 0, locals := 96 }
theorem h0X10_cutsCheapest : yX10_cutsCheapest.cls = RX10 ∧ yX10_cutsCheapest.cls ≠ "java/lang/invoke/MethodHandle" ∧ yX10_cutsCheapest.cls ≠ "java/lang/invoke/VarHandle" ∧ (parseMethodDescriptor yX10_cutsCheapest.desc).map (fun d => d.parameters.length) = some 0 := by decide +kernel
abbrev rmX10_laysFresh : Room := { frames := 2, cells := 0, slots := 0, locals := 44 }
theorem iX10_laysFresh_X10 : ∀ w ∈ u_ws RX10 TX10 27, w ∈ wsX10_laysFresh := by decide +kernel
theorem h0X10_laysFresh : yX10_laysFresh.cls = RX10 ∧ yX10_laysFresh.cls ≠ "java/lang/invoke/MethodHandle" ∧ yX10_laysFresh.cls ≠ "java/lang/invoke/VarHandle" ∧ (parseMethodDescriptor yX10_laysFresh.desc).map (fun d => d.parameters.length) = some 0 := by decide +kernel
abbrev rmX10_freshPrice : Room := { frames := 2, cells := 0, slots := 0, locals := 43 }
theorem iX10_freshPrice_X10 : ∀ w ∈ u_ws RX10 TX10 27, w ∈ wsX10_freshPrice := by decide +kernel
theorem h0X10_freshPrice : yX10_freshPrice.cls = RX10 ∧ yX10_freshPrice.cls ≠ "java/lang/invoke/MethodHandle" ∧ yX10_freshPrice.cls ≠ "java/lang/invoke/VarHandle" ∧ (parseMethodDescriptor yX10_freshPrice.desc).map (fun d => d.parameters.length) = some 0 := by decide +kernel
abbrev rmX10_why : Room := { frames := 3, cells := 0, slots := 0, locals := 68 }
theorem iX10_why_X10 : ∀ w ∈ u_ws RX10 TX10 27, w ∈ wsX10_why := by decide +kernel
theorem h0X10_why : yX10_why.cls = RX10 ∧ yX10_why.cls ≠ "java/lang/invoke/MethodHandle" ∧ yX10_why.cls ≠ "java/lang/invoke/VarHandle" ∧ (parseMethodDescriptor yX10_why.desc).map (fun d => d.parameters.length) = some 1 := by decide +kernel
abbrev rmX10_pays : Room := { frames := 0, cells := 0, slots := 0, locals := 0 }
theorem iX10_pays_X10 : ∀ w ∈ u_ws RX10 TX10 27, w ∈ wsX10_pays := by decide +kernel
theorem h0X10_pays : yX10_pays.cls = RX10 ∧ yX10_pays.cls ≠ "java/lang/invoke/MethodHandle" ∧ yX10_pays.cls ≠ "java/lang/invoke/VarHandle" ∧ (parseMethodDescriptor yX10_pays.desc).map (fun d => d.parameters.length) = some 4 := by decide +kernel
abbrev rmX10_buys : Room := { frames := 2, cells := 0, slots := 0, locals := 43 }
theorem iX10_buys_X10 : ∀ w ∈ u_ws RX10 TX10 27, w ∈ wsX10_buys := by decide +kernel
theorem h0X10_buys : yX10_buys.cls = RX10 ∧ yX10_buys.cls ≠ "java/lang/invoke/MethodHandle" ∧ yX10_buys.cls ≠ "java/lang/invoke/VarHandle" ∧ (parseMethodDescriptor yX10_buys.desc).map (fun d => d.parameters.length) = some 2 := by decide +kernel
abbrev rmX10_laysParts : Room := { frames := 2, cells := 0, slots := 0, locals := 44 }
theorem iX10_laysParts_X10 : ∀ w ∈ u_ws RX10 TX10 27, w ∈ wsX10_laysParts := by decide +kernel
theorem h0X10_laysParts : yX10_laysParts.cls = RX10 ∧ yX10_laysParts.cls ≠ "java/lang/invoke/MethodHandle" ∧ yX10_laysParts.cls ≠ "java/lang/invoke/VarHandle" ∧ (parseMethodDescriptor yX10_laysParts.desc).map (fun d => d.parameters.length) = some 1 := by decide +kernel
abbrev rmX10_uses : Room := { frames := 1, cells := 0, slots := 0, locals := 22 }
theorem iX10_uses_X10 : ∀ w ∈ u_ws RX10 TX10 27, w ∈ wsX10_uses := by decide +kernel
theorem h0X10_uses : yX10_uses.cls = RX10 ∧ yX10_uses.cls ≠ "java/lang/invoke/MethodHandle" ∧ yX10_uses.cls ≠ "java/lang/invoke/VarHandle" ∧ (parseMethodDescriptor yX10_uses.desc).map (fun d => d.parameters.length) = some 2 := by decide +kernel
abbrev rmX10_stores : Room := { frames := 3, cells := 0, slots := 0, locals := 68 }
theorem iX10_stores_X10 : ∀ w ∈ u_ws RX10 TX10 27, w ∈ wsX10_stores := by decide +kernel
theorem h0X10_stores : yX10_stores.cls = RX10 ∧ yX10_stores.cls ≠ "java/lang/invoke/MethodHandle" ∧ yX10_stores.cls ≠ "java/lang/invoke/VarHandle" ∧ (parseMethodDescriptor yX10_stores.desc).map (fun d => d.parameters.length) = some 1 := by decide +kernel
abbrev rmX10_wordLine : Room := { frames := 5, cells := 0, slots := 0, locals := 116 }
theorem iX10_wordLine_X10 : ∀ w ∈ u_ws RX10 TX10 27, w ∈ wsX10_wordLine := by decide +kernel
theorem h0X10_wordLine : yX10_wordLine.cls = RX10 ∧ yX10_wordLine.cls ≠ "java/lang/invoke/MethodHandle" ∧ yX10_wordLine.cls ≠ "java/lang/invoke/VarHandle" ∧ (parseMethodDescriptor yX10_wordLine.desc).map (fun d => d.parameters.length) = some 0 := by decide +kernel
abbrev rmX10_statement : Room := { frames := 6, cells := 0, slots := 0, locals := 138 }
theorem h0X10_statement : yX10_statement.cls = RX10 ∧ yX10_statement.cls ≠ "java/lang/invoke/MethodHandle" ∧ yX10_statement.cls ≠ "java/lang/invoke/VarHandle" ∧ (parseMethodDescriptor yX10_statement.desc).map (fun d => d.parameters.length) = some 0 := by decide +kernel
abbrev rmX10_head : Room := { frames := 6, cells := 0, slots := 0, locals := 138 }
theorem h0X10_head : yX10_head.cls = RX10 ∧ yX10_head.cls ≠ "java/lang/invoke/MethodHandle" ∧ yX10_head.cls ≠ "java/lang/invoke/VarHandle" ∧ (parseMethodDescriptor yX10_head.desc).map (fun d => d.parameters.length) = some 0 := by decide +kernel
abbrev rmX10_parse : Room := { frames := 7, cells := 0, slots := 0, locals := 158 }
theorem iX10_parse_X10 : ∀ w ∈ u_ws RX10 TX10 27, w ∈ wsX10_parse := by decide +kernel
theorem h0X10_parse : yX10_parse.cls = RX10 ∧ yX10_parse.cls ≠ "java/lang/invoke/MethodHandle" ∧ yX10_parse.cls ≠ "java/lang/invoke/VarHandle" ∧ (parseMethodDescriptor yX10_parse.desc).map (fun d => d.parameters.length) = some 1 := by decide +kernel
def fX10_cuts_L58 (x1 : Int32) (x2 : Int32) (x3 : Int32) (M_many : Int32) (now : (Nat → Int32)) (spelled : (Nat → Int32)) (k : (Nat → Int32) → (Nat → Int32) → (Nat → Int32) → Option ((Nat → Int32) × (Nat → Int32) × (Nat → Int32))) : Nat → Int32 → (Nat → Int32) → (Nat → Int32) → (Nat → Int32) → Option ((Nat → Int32) × (Nat → Int32) × (Nat → Int32))
  | 0, _, _, _, _ => none
  | n + 1, x4, cost, fewestFrom, first => if x4 ≤ 0 then (k cost fewestFrom first) else (if M_many < (x3 + x4) then (fX10_cuts_L58 x1 x2 x3 M_many now spelled k n (x4 + (-1)) cost fewestFrom first) else (gb3 (fX10_triesFirst x3 x4 x1 x2 now spelled cost fewestFrom first) fun (cost_1 : (Nat → Int32)) (fewestFrom_1 : (Nat → Int32)) (first_1 : (Nat → Int32)) => fX10_cuts_L58 x1 x2 x3 M_many now spelled k n (x4 + (-1)) cost_1 fewestFrom_1 first_1))
def fX10_cuts_L27 (x1 : Int32) (x2 : Int32) (M_many : Int32) (now : (Nat → Int32)) (spelled : (Nat → Int32)) (k : (Nat → Int32) → (Nat → Int32) → (Nat → Int32) → Option ((Nat → Int32) × (Nat → Int32) × (Nat → Int32))) : Nat → Int32 → (Nat → Int32) → (Nat → Int32) → (Nat → Int32) → Option ((Nat → Int32) × (Nat → Int32) × (Nat → Int32))
  | 0, _, _, _, _ => none
  | n + 1, x3, cost, fewestFrom, first => if x3 < 0 then (k cost fewestFrom first) else (if x3 < 0 ∨ 13 ≤ x3.toNatClampNeg then none else Lt (upd cost (x3.toNatClampNeg) 1000000) fun (cost_1 : (Nat → Int32)) => if x3 < 0 ∨ 13 ≤ x3.toNatClampNeg then none else Lt (upd fewestFrom (x3.toNatClampNeg) 1000000) fun (fewestFrom_1 : (Nat → Int32)) => if x3 < 0 ∨ 13 ≤ x3.toNatClampNeg then none else Lt (upd first (x3.toNatClampNeg) 0) fun (first_1 : (Nat → Int32)) => fX10_cuts_L58 x1 x2 x3 M_many now spelled (fun (cost_2 : (Nat → Int32)) (fewestFrom_2 : (Nat → Int32)) (first_2 : (Nat → Int32)) => (fX10_cuts_L27 x1 x2 M_many now spelled k n (x3 + (-1)) cost_2 fewestFrom_2 first_2)) FU 6 cost_1 fewestFrom_1 first_1)
def fX10_cuts (x1 : Int32) (x2 : Int32) (M_many : Int32) (now : (Nat → Int32)) (spelled : (Nat → Int32)) (cost : (Nat → Int32)) (fewestFrom : (Nat → Int32)) (first : (Nat → Int32)) : Option ((Nat → Int32) × (Nat → Int32) × (Nat → Int32)) := if M_many < 0 ∨ 13 ≤ M_many.toNatClampNeg then none else Lt (upd cost (M_many.toNatClampNeg) 0) fun (cost_1 : (Nat → Int32)) => if M_many < 0 ∨ 13 ≤ M_many.toNatClampNeg then none else Lt (upd fewestFrom (M_many.toNatClampNeg) 0) fun (fewestFrom_1 : (Nat → Int32)) => fX10_cuts_L27 x1 x2 M_many now spelled (fun (cost_2 : (Nat → Int32)) (fewestFrom_2 : (Nat → Int32)) (first_1 : (Nat → Int32)) => (some (cost_2, fewestFrom_2, first_1))) FU (M_many - 1) cost_1 fewestFrom_1 first
def fX10_cutsCheapest (M_many : Int32) (now : (Nat → Int32)) (spelled : (Nat → Int32)) (cost : (Nat → Int32)) (fewestFrom : (Nat → Int32)) (first : (Nat → Int32)) : Option ((Nat → Int32) × (Nat → Int32) × (Nat → Int32)) := gb3 (fX10_cuts 1 0 M_many now spelled cost fewestFrom first) fun (cost_1 : (Nat → Int32)) (fewestFrom_1 : (Nat → Int32)) (first_1 : (Nat → Int32)) => some (cost_1, fewestFrom_1, first_1)
def fX10_laysFresh_L45 (x1 : Int32) (x2 : Int32) (M_freshMany : Int32) (fresh : (Nat → Int32)) (k : Int32 → Option (Int32 × (Nat → Int32))) : Nat → Int32 → Int32 → Option (Int32 × (Nat → Int32))
  | 0, _, _ => none
  | n + 1, x3, x4 => if M_freshMany ≤ x4 then (k x3) else (if x3 = 0 then (fX10_laysFresh_L45 x1 x2 M_freshMany fresh k n 0 (x4 + 1)) else (if x4 < 0 ∨ 12 ≤ x4.toNatClampNeg then none else if (fresh (x4.toNatClampNeg)) = x2 then (fX10_laysFresh_L45 x1 x2 M_freshMany fresh k n 0 (x4 + 1)) else (fX10_laysFresh_L45 x1 x2 M_freshMany fresh k n 1 (x4 + 1))))
def fX10_laysFresh_L7 (M_many : Int32) (now : (Nat → Int32)) (spelled : (Nat → Int32)) (first : (Nat → Int32)) (k : Int32 → (Nat → Int32) → Option (Int32 × (Nat → Int32))) : Nat → Int32 → Int32 → (Nat → Int32) → Option (Int32 × (Nat → Int32))
  | 0, _, _, _ => none
  | n + 1, x1, M_freshMany, fresh => if M_many ≤ x1 then (k M_freshMany fresh) else (if x1 < 0 ∨ 13 ≤ x1.toNatClampNeg then none else gb1 (fX10_code x1 (first (x1.toNatClampNeg)) spelled) fun (r_1 : Int32) => gb1 (fX10_pieceOf r_1 now) fun (r_2 : Int32) => Lt (fun (t0_1 : Int32) => (fX10_laysFresh_L45 x1 r_1 M_freshMany fresh (fun (x3_1 : Int32) => (Lt (fun (M_freshMany_1 : Int32) (fresh_1 : (Nat → Int32)) => (if x1 < 0 ∨ 13 ≤ x1.toNatClampNeg then none else fX10_laysFresh_L7 M_many now spelled first k n (x1 + (first (x1.toNatClampNeg))) M_freshMany_1 fresh_1)) fun (j_2 : Int32 → (Nat → Int32) → Option (Int32 × (Nat → Int32))) => if x3_1 = 0 then (j_2 M_freshMany fresh) else (if M_freshMany < 0 ∨ 12 ≤ M_freshMany.toNatClampNeg then none else Lt (upd fresh (M_freshMany.toNatClampNeg) r_1) fun (fresh_2 : (Nat → Int32)) => j_2 (M_freshMany + 1) fresh_2))) FU t0_1 0)) fun (j_1 : Int32 → Option (Int32 × (Nat → Int32))) => if r_2 = (-1) then (j_1 1) else (j_1 0))
def fX10_laysFresh (M_many : Int32) (M_freshMany : Int32) (now : (Nat → Int32)) (spelled : (Nat → Int32)) (first : (Nat → Int32)) (fresh : (Nat → Int32)) : Option (Int32 × (Nat → Int32)) := fX10_laysFresh_L7 M_many now spelled first (fun (M_freshMany_1 : Int32) (fresh_1 : (Nat → Int32)) => (some (M_freshMany_1, fresh_1))) FU 0 0 fresh
def fX10_freshPrice_L4 (M_freshMany : Int32) (now : (Nat → Int32)) (fresh : (Nat → Int32)) (k : Int32 → Option (Int32)) : Nat → Int32 → Int32 → Option (Int32)
  | 0, _, _ => none
  | n + 1, x1, x2 => if M_freshMany ≤ x2 then (k x1) else (if x2 < 0 ∨ 12 ≤ x2.toNatClampNeg then none else gb1 (fX10_priceOf (fresh (x2.toNatClampNeg)) now) fun (r_1 : Int32) => fX10_freshPrice_L4 M_freshMany now fresh k n (x1 + r_1) (x2 + 1))
def fX10_freshPrice (M_freshMany : Int32) (now : (Nat → Int32)) (fresh : (Nat → Int32)) : Option (Int32) := fX10_freshPrice_L4 M_freshMany now fresh (fun (x1_1 : Int32) => (some x1_1)) FU 0 0
def fX10_why (x1 : Int32) (M_many : Int32) (M_freshMany : Int32) (now : (Nat → Int32)) (spelled : (Nat → Int32)) (fewestFrom : (Nat → Int32)) (first : (Nat → Int32)) (fresh : (Nat → Int32)) : Option (Int32 × Int32 × (Nat → Int32)) := gb2 (fX10_laysFresh M_many M_freshMany now spelled first fresh) fun (M_freshMany_1 : Int32) (fresh_1 : (Nat → Int32)) => if (now 10) = 16 then (some (2, M_freshMany_1, fresh_1)) else (if ((now 9) + M_freshMany_1) ≤ 24 then (if (17 + x1) < 0 ∨ 365 ≤ (17 + x1).toNatClampNeg then none else gb1 (fX10_freshPrice M_freshMany_1 now fresh_1) fun (r_1 : Int32) => if (r_1 + ((now 2) * (fewestFrom 0))) ≤ (now ((17 + x1).toNatClampNeg)) then (some (0, M_freshMany_1, fresh_1)) else (some (4, M_freshMany_1, fresh_1))) else (some (3, M_freshMany_1, fresh_1)))
def fX10_pays (x1 : Int32) (x2 : Int32) (x3 : Int32) (x4 : Int32) (now : (Nat → Int32)) : Option ((Nat → Int32)) := if (17 + x1) < 0 ∨ 365 ≤ (17 + x1).toNatClampNeg then none else if (17 + x1) < 0 ∨ 365 ≤ (17 + x1).toNatClampNeg then none else Lt (upd now ((17 + x1).toNatClampNeg) ((now ((17 + x1).toNatClampNeg)) - x2)) fun (now_1 : (Nat → Int32)) => if x3 < 0 ∨ 365 ≤ x3.toNatClampNeg then none else if x3 < 0 ∨ 365 ≤ x3.toNatClampNeg then none else Lt (upd now_1 (x3.toNatClampNeg) ((now_1 (x3.toNatClampNeg)) + x2)) fun (now_2 : (Nat → Int32)) => if (11 + x4) < 0 ∨ 365 ≤ (11 + x4).toNatClampNeg then none else if (11 + x4) < 0 ∨ 365 ≤ (11 + x4).toNatClampNeg then none else Lt (upd now_2 ((11 + x4).toNatClampNeg) ((now_2 ((11 + x4).toNatClampNeg)) + x2)) fun (now_3 : (Nat → Int32)) => some now_3
def fX10_buys (x1 : Int32) (x2 : Int32) (now : (Nat → Int32)) : Option (Int32 × (Nat → Int32)) := gb1 (fX10_priceOf x1 now) fun (r_1 : Int32) => gb1 (fX10_pays x2 r_1 7 0 now) fun (now_1 : (Nat → Int32)) => Lt (upd now_1 15 ((now_1 15) + 1)) fun (now_2 : (Nat → Int32)) => gb2 (fX10_comes x1 r_1 x2 now_2) fun (r_2 : Int32) (now_3 : (Nat → Int32)) => some (r_2, now_3)
def fX10_laysParts_L4 (x1 : Int32) (M_many : Int32) (spelled : (Nat → Int32)) (first : (Nat → Int32)) (k : Int32 → (Nat → Int32) → Option (Int32 × (Nat → Int32))) : Nat → Int32 → Int32 → (Nat → Int32) → Option (Int32 × (Nat → Int32))
  | 0, _, _, _ => none
  | n + 1, x2, x3, now => if M_many ≤ x3 then (k x2 now) else (if x3 < 0 ∨ 13 ≤ x3.toNatClampNeg then none else gb1 (fX10_code x3 (first (x3.toNatClampNeg)) spelled) fun (r_1 : Int32) => gb1 (fX10_pieceOf r_1 now) fun (r_2 : Int32) => if ((x1 + 2) + x2) < 0 ∨ 365 ≤ ((x1 + 2) + x2).toNatClampNeg then none else Lt (upd now (((x1 + 2) + x2).toNatClampNeg) r_2) fun (now_1 : (Nat → Int32)) => if x3 < 0 ∨ 13 ≤ x3.toNatClampNeg then none else fX10_laysParts_L4 x1 M_many spelled first k n (x2 + 1) (x3 + (first (x3.toNatClampNeg))) now_1)
def fX10_laysParts (x1 : Int32) (M_many : Int32) (now : (Nat → Int32)) (spelled : (Nat → Int32)) (first : (Nat → Int32)) : Option (Int32 × (Nat → Int32)) := fX10_laysParts_L4 x1 M_many spelled first (fun (x2_1 : Int32) (now_1 : (Nat → Int32)) => (if (x1 + 1) < 0 ∨ 365 ≤ (x1 + 1).toNatClampNeg then none else Lt (upd now_1 ((x1 + 1).toNatClampNeg) x2_1) fun (now_2 : (Nat → Int32)) => some (x2_1, now_2))) FU 0 0 now
def fX10_uses (x1 : Int32) (x2 : Int32) (now : (Nat → Int32)) : Option ((Nat → Int32)) := if ((21 + (5 * x1)) + 3) < 0 ∨ 365 ≤ ((21 + (5 * x1)) + 3).toNatClampNeg then none else if ((21 + (5 * x1)) + 3) < 0 ∨ 365 ≤ ((21 + (5 * x1)) + 3).toNatClampNeg then none else Lt (upd now (((21 + (5 * x1)) + 3).toNatClampNeg) ((now (((21 + (5 * x1)) + 3).toNatClampNeg)) + x2)) fun (now_1 : (Nat → Int32)) => gb1 (fX10_ofPiece x1 3 now_1) fun (r_1 : Int32) => if r_1 = 0 then (if ((21 + (5 * x1)) + 4) < 0 ∨ 365 ≤ ((21 + (5 * x1)) + 4).toNatClampNeg then none else Lt (upd now_1 (((21 + (5 * x1)) + 4).toNatClampNeg) (now_1 6)) fun (now_2 : (Nat → Int32)) => some now_2) else (some now_1)
def fX10_stores_L6 (x1 : Int32) (M_freshMany : Int32) (fresh : (Nat → Int32)) (k : (Nat → Int32) → Option (Int32 × Int32 × (Nat → Int32) × (Nat → Int32))) : Nat → Int32 → (Nat → Int32) → Option (Int32 × Int32 × (Nat → Int32) × (Nat → Int32))
  | 0, _, _ => none
  | n + 1, x2, now => if M_freshMany ≤ x2 then (k now) else (if x2 < 0 ∨ 12 ≤ x2.toNatClampNeg then none else gb2 (fX10_buys (fresh (x2.toNatClampNeg)) x1 now) fun (r_1 : Int32) (now_1 : (Nat → Int32)) => fX10_stores_L6 x1 M_freshMany fresh k n (x2 + 1) now_1)
def fX10_stores_L68 (x1 : Int32) (x2 : Int32) (x3 : Int32) (x4 : Int32) (k : (Nat → Int32) → Option (Int32 × Int32 × (Nat → Int32) × (Nat → Int32))) : Nat → Int32 → (Nat → Int32) → Option (Int32 × Int32 × (Nat → Int32) × (Nat → Int32))
  | 0, _, _ => none
  | n + 1, x5, now => if x4 ≤ x5 then (k now) else (if ((x3 + 2) + x5) < 0 ∨ 365 ≤ ((x3 + 2) + x5).toNatClampNeg then none else gb1 (fX10_uses (now (((x3 + 2) + x5).toNatClampNeg)) 1 now) fun (now_1 : (Nat → Int32)) => fX10_stores_L68 x1 x2 x3 x4 k n (x5 + 1) now_1)
def fX10_stores (x1 : Int32) (M_many : Int32) (M_freshMany : Int32) (now : (Nat → Int32)) (spelled : (Nat → Int32)) (first : (Nat → Int32)) (fresh : (Nat → Int32)) : Option (Int32 × Int32 × (Nat → Int32) × (Nat → Int32)) := gb2 (fX10_laysFresh M_many M_freshMany now spelled first fresh) fun (M_freshMany_1 : Int32) (fresh_1 : (Nat → Int32)) => fX10_stores_L6 x1 M_freshMany_1 fresh_1 (fun (now_1 : (Nat → Int32)) => (if ((141 + (14 * (now_1 10))) + 0) < 0 ∨ 365 ≤ ((141 + (14 * (now_1 10))) + 0).toNatClampNeg then none else Lt (upd now_1 (((141 + (14 * (now_1 10))) + 0).toNatClampNeg) x1) fun (now_2 : (Nat → Int32)) => gb2 (fX10_laysParts (141 + (14 * (now_1 10))) M_many now_2 spelled first) fun (r_1 : Int32) (now_3 : (Nat → Int32)) => fX10_stores_L68 x1 (now_1 10) (141 + (14 * (now_1 10))) r_1 (fun (now_4 : (Nat → Int32)) => (gb1 (fX10_pays x1 ((now_4 2) * r_1) 8 2 now_4) fun (now_5 : (Nat → Int32)) => Lt (upd now_5 10 ((now_5 10) + 1)) fun (now_6 : (Nat → Int32)) => some (now_1 10, M_freshMany_1, now_6, fresh_1))) FU 0 now_3)) FU 0 now
def fX10_wordLine (M_textSize : Int32) (M_start : Int32) (M_next : Int32) (M_token : Int32) (M_value : Int32) (M_error : Int32) (M_errorAt : Int32) (M_many : Int32) (M_freshMany : Int32) (now : (Nat → Int32)) (names : (Nat → Int64)) (text : (Nat → Int32)) (spelled : (Nat → Int32)) (cost : (Nat → Int32)) (fewestFrom : (Nat → Int32)) (first : (Nat → Int32)) (fresh : (Nat → Int32)) : Option (Int32 × Int32 × Int32 × Int32 × Int32 × Int32 × Int32 × Int32 × Int32 × (Nat → Int32) × (Nat → Int32) × (Nat → Int32) × (Nat → Int32) × (Nat → Int32) × (Nat → Int32)) := Lt (fun (t0_1 : Int32) => (gb7 (fX10_starts 5 t0_1 M_textSize M_start M_next M_token M_value M_error M_errorAt text) fun (r_1 : Int32) (M_start_1 : Int32) (M_next_1 : Int32) (M_token_1 : Int32) (M_value_1 : Int32) (M_error_1 : Int32) (M_errorAt_1 : Int32) => if r_1 = 0 then (some (0, M_start_1, M_next_1, M_token_1, M_value_1, M_error_1, M_errorAt_1, M_many, M_freshMany, now, spelled, cost, fewestFrom, first, fresh)) else (gb5 (fX10_spells M_start_1 M_next_1 M_token_1 M_error_1 M_errorAt_1 M_many text spelled) fun (r_2 : Int32) (M_error_2 : Int32) (M_errorAt_2 : Int32) (M_many_1 : Int32) (spelled_1 : (Nat → Int32)) => if r_2 = 0 then (some (0, M_start_1, M_next_1, M_token_1, M_value_1, M_error_2, M_errorAt_2, M_many_1, M_freshMany, now, spelled_1, cost, fewestFrom, first, fresh)) else (gb1 (fX10_userNamed M_many_1 now names spelled_1) fun (r_3 : Int32) => Lt (fun (t0_2 : Int32) => (gb7 (fX10_starts 4 t0_2 M_textSize M_start_1 M_next_1 M_token_1 M_value_1 M_error_2 M_errorAt_2 text) fun (r_4 : Int32) (M_start_2 : Int32) (M_next_2 : Int32) (M_token_2 : Int32) (M_value_2 : Int32) (M_error_3 : Int32) (M_errorAt_3 : Int32) => if r_4 = 0 then (some (0, M_start_2, M_next_2, M_token_2, M_value_2, M_error_3, M_errorAt_3, M_many_1, M_freshMany, now, spelled_1, cost, fewestFrom, first, fresh)) else (gb5 (fX10_spells M_start_2 M_next_2 M_token_2 M_error_3 M_errorAt_3 M_many_1 text spelled_1) fun (r_5 : Int32) (M_error_4 : Int32) (M_errorAt_4 : Int32) (M_many_2 : Int32) (spelled_2 : (Nat → Int32)) => if r_5 = 0 then (some (0, M_start_2, M_next_2, M_token_2, M_value_2, M_error_4, M_errorAt_4, M_many_2, M_freshMany, now, spelled_2, cost, fewestFrom, first, fresh)) else (gb3 (fX10_cutsCheapest M_many_2 now spelled_2 cost fewestFrom first) fun (cost_1 : (Nat → Int32)) (fewestFrom_1 : (Nat → Int32)) (first_1 : (Nat → Int32)) => gb3 (fX10_why r_3 M_many_2 M_freshMany now spelled_2 fewestFrom_1 first_1 fresh) fun (r_6 : Int32) (M_freshMany_1 : Int32) (fresh_1 : (Nat → Int32)) => Lt (fun (t0_3 : Int32) => (gb7 (fX10_starts 6 t0_3 M_textSize M_start_2 M_next_2 M_token_2 M_value_2 M_error_4 M_errorAt_4 text) fun (r_7 : Int32) (M_start_3 : Int32) (M_next_3 : Int32) (M_token_3 : Int32) (M_value_3 : Int32) (M_error_5 : Int32) (M_errorAt_5 : Int32) => if r_7 = 0 then (some (0, M_start_3, M_next_3, M_token_3, M_value_3, M_error_5, M_errorAt_5, M_many_2, M_freshMany_1, now, spelled_2, cost_1, fewestFrom_1, first_1, fresh_1)) else (gb4 (fX10_stores r_3 M_many_2 M_freshMany_1 now spelled_2 first_1 fresh_1) fun (r_8 : Int32) (M_freshMany_2 : Int32) (now_1 : (Nat → Int32)) (fresh_2 : (Nat → Int32)) => some (1, M_start_3, M_next_3, M_token_3, M_value_3, M_error_5, M_errorAt_5, M_many_2, M_freshMany_2, now_1, spelled_2, cost_1, fewestFrom_1, first_1, fresh_2)))) fun (j_3 : Int32 → Option (Int32 × Int32 × Int32 × Int32 × Int32 × Int32 × Int32 × Int32 × Int32 × (Nat → Int32) × (Nat → Int32) × (Nat → Int32) × (Nat → Int32) × (Nat → Int32) × (Nat → Int32))) => if r_6 = 0 then (j_3 1) else (j_3 0))))) fun (j_2 : Int32 → Option (Int32 × Int32 × Int32 × Int32 × Int32 × Int32 × Int32 × Int32 × Int32 × (Nat → Int32) × (Nat → Int32) × (Nat → Int32) × (Nat → Int32) × (Nat → Int32) × (Nat → Int32))) => if r_3 = (-1) then (j_2 0) else (j_2 1))))) fun (j_1 : Int32 → Option (Int32 × Int32 × Int32 × Int32 × Int32 × Int32 × Int32 × Int32 × Int32 × (Nat → Int32) × (Nat → Int32) × (Nat → Int32) × (Nat → Int32) × (Nat → Int32) × (Nat → Int32))) => if 16 ≤ (now 10) then (j_1 0) else (j_1 1)
def fX10_statement (M_textSize : Int32) (M_start : Int32) (M_next : Int32) (M_token : Int32) (M_value : Int32) (M_error : Int32) (M_errorAt : Int32) (M_number : Int32) (M_many : Int32) (M_freshMany : Int32) (now : (Nat → Int32)) (names : (Nat → Int64)) (text : (Nat → Int32)) (spelled : (Nat → Int32)) (cost : (Nat → Int32)) (fewestFrom : (Nat → Int32)) (first : (Nat → Int32)) (fresh : (Nat → Int32)) : Option (Int32 × Int32 × Int32 × Int32 × Int32 × Int32 × Int32 × Int32 × Int32 × Int32 × (Nat → Int32) × (Nat → Int64) × (Nat → Int32) × (Nat → Int32) × (Nat → Int32) × (Nat → Int32) × (Nat → Int32)) := gb1 (fX10_isWord 1 M_start M_next M_token text) fun (r_1 : Int32) => if r_1 = 0 then (gb1 (fX10_isWord 2 M_start M_next M_token text) fun (r_2 : Int32) => if r_2 = 0 then (gb1 (fX10_isWord 3 M_start M_next M_token text) fun (r_3 : Int32) => if r_3 = 0 then (gb3 (fX10_fails 1 M_start M_error M_errorAt) fun (r_4 : Int32) (M_error_1 : Int32) (M_errorAt_1 : Int32) => some (r_4, M_start, M_next, M_token, M_value, M_error_1, M_errorAt_1, M_number, M_many, M_freshMany, now, names, spelled, cost, fewestFrom, first, fresh)) else (gb15 (fX10_wordLine M_textSize M_start M_next M_token M_value M_error M_errorAt M_many M_freshMany now names text spelled cost fewestFrom first fresh) fun (r_5 : Int32) (M_start_1 : Int32) (M_next_1 : Int32) (M_token_1 : Int32) (M_value_1 : Int32) (M_error_2 : Int32) (M_errorAt_2 : Int32) (M_many_1 : Int32) (M_freshMany_1 : Int32) (now_1 : (Nat → Int32)) (spelled_1 : (Nat → Int32)) (cost_1 : (Nat → Int32)) (fewestFrom_1 : (Nat → Int32)) (first_1 : (Nat → Int32)) (fresh_1 : (Nat → Int32)) => some (r_5, M_start_1, M_next_1, M_token_1, M_value_1, M_error_2, M_errorAt_2, M_number, M_many_1, M_freshMany_1, now_1, names, spelled_1, cost_1, fewestFrom_1, first_1, fresh_1))) else (gb10 (fX10_pieceLine M_textSize M_start M_next M_token M_value M_error M_errorAt M_many now text spelled) fun (r_6 : Int32) (M_start_2 : Int32) (M_next_2 : Int32) (M_token_2 : Int32) (M_value_2 : Int32) (M_error_3 : Int32) (M_errorAt_3 : Int32) (M_many_2 : Int32) (now_2 : (Nat → Int32)) (spelled_2 : (Nat → Int32)) => some (r_6, M_start_2, M_next_2, M_token_2, M_value_2, M_error_3, M_errorAt_3, M_number, M_many_2, M_freshMany, now_2, names, spelled_2, cost, fewestFrom, first, fresh))) else (gb12 (fX10_userLine M_textSize M_start M_next M_token M_value M_error M_errorAt M_number M_many now names text spelled) fun (r_7 : Int32) (M_start_3 : Int32) (M_next_3 : Int32) (M_token_3 : Int32) (M_value_3 : Int32) (M_error_4 : Int32) (M_errorAt_4 : Int32) (M_number_1 : Int32) (M_many_3 : Int32) (now_3 : (Nat → Int32)) (names_1 : (Nat → Int64)) (spelled_3 : (Nat → Int32)) => some (r_7, M_start_3, M_next_3, M_token_3, M_value_3, M_error_4, M_errorAt_4, M_number_1, M_many_3, M_freshMany, now_3, names_1, spelled_3, cost, fewestFrom, first, fresh))
def fX10_head (M_textSize : Int32) (M_start : Int32) (M_next : Int32) (M_token : Int32) (M_value : Int32) (M_error : Int32) (M_errorAt : Int32) (M_number : Int32) (now : (Nat → Int32)) (text : (Nat → Int32)) : Option (Int32 × Int32 × Int32 × Int32 × Int32 × Int32 × Int32 × Int32 × (Nat → Int32)) := gb1 (fX10_isWord 0 M_start M_next M_token text) fun (r_1 : Int32) => gb7 (fX10_starts 1 r_1 M_textSize M_start M_next M_token M_value M_error M_errorAt text) fun (r_2 : Int32) (M_start_1 : Int32) (M_next_1 : Int32) (M_token_1 : Int32) (M_value_1 : Int32) (M_error_1 : Int32) (M_errorAt_1 : Int32) => if r_2 = 0 then (some (0, M_start_1, M_next_1, M_token_1, M_value_1, M_error_1, M_errorAt_1, M_number, now)) else (gb9 (fX10_lays 0 0 99 M_textSize M_start_1 M_next_1 M_token_1 M_value_1 M_error_1 M_errorAt_1 M_number now text) fun (r_3 : Int32) (M_start_2 : Int32) (M_next_2 : Int32) (M_token_2 : Int32) (M_value_2 : Int32) (M_error_2 : Int32) (M_errorAt_2 : Int32) (M_number_1 : Int32) (now_1 : (Nat → Int32)) => if r_3 = 0 then (some (0, M_start_2, M_next_2, M_token_2, M_value_2, M_error_2, M_errorAt_2, M_number_1, now_1)) else (gb9 (fX10_lays 1 0 9 M_textSize M_start_2 M_next_2 M_token_2 M_value_2 M_error_2 M_errorAt_2 M_number_1 now_1 text) fun (r_4 : Int32) (M_start_3 : Int32) (M_next_3 : Int32) (M_token_3 : Int32) (M_value_3 : Int32) (M_error_3 : Int32) (M_errorAt_3 : Int32) (M_number_2 : Int32) (now_2 : (Nat → Int32)) => if r_4 = 0 then (some (0, M_start_3, M_next_3, M_token_3, M_value_3, M_error_3, M_errorAt_3, M_number_2, now_2)) else (gb9 (fX10_lays 2 1 9 M_textSize M_start_3 M_next_3 M_token_3 M_value_3 M_error_3 M_errorAt_3 M_number_2 now_2 text) fun (r_5 : Int32) (M_start_4 : Int32) (M_next_4 : Int32) (M_token_4 : Int32) (M_value_4 : Int32) (M_error_4 : Int32) (M_errorAt_4 : Int32) (M_number_3 : Int32) (now_3 : (Nat → Int32)) => if r_5 = 0 then (some (0, M_start_4, M_next_4, M_token_4, M_value_4, M_error_4, M_errorAt_4, M_number_3, now_3)) else (gb9 (fX10_lays 3 0 20 M_textSize M_start_4 M_next_4 M_token_4 M_value_4 M_error_4 M_errorAt_4 M_number_3 now_3 text) fun (r_6 : Int32) (M_start_5 : Int32) (M_next_5 : Int32) (M_token_5 : Int32) (M_value_5 : Int32) (M_error_5 : Int32) (M_errorAt_5 : Int32) (M_number_4 : Int32) (now_4 : (Nat → Int32)) => if r_6 = 0 then (some (0, M_start_5, M_next_5, M_token_5, M_value_5, M_error_5, M_errorAt_5, M_number_4, now_4)) else (gb9 (fX10_lays 4 0 100 M_textSize M_start_5 M_next_5 M_token_5 M_value_5 M_error_5 M_errorAt_5 M_number_4 now_4 text) fun (r_7 : Int32) (M_start_6 : Int32) (M_next_6 : Int32) (M_token_6 : Int32) (M_value_6 : Int32) (M_error_6 : Int32) (M_errorAt_6 : Int32) (M_number_5 : Int32) (now_5 : (Nat → Int32)) => if r_7 = 0 then (some (0, M_start_6, M_next_6, M_token_6, M_value_6, M_error_6, M_errorAt_6, M_number_5, now_5)) else (gb7 (fX10_closes M_textSize M_start_6 M_next_6 M_token_6 M_value_6 M_error_6 M_errorAt_6 text) fun (r_8 : Int32) (M_start_7 : Int32) (M_next_7 : Int32) (M_token_7 : Int32) (M_value_7 : Int32) (M_error_7 : Int32) (M_errorAt_7 : Int32) => if r_8 = 0 then (some (0, M_start_7, M_next_7, M_token_7, M_value_7, M_error_7, M_errorAt_7, M_number_5, now_5)) else (some (1, M_start_7, M_next_7, M_token_7, M_value_7, M_error_7, M_errorAt_7, M_number_5, now_5))))))))
def fX10_parse_L70 (names : (Nat → Int64)) (k : (Nat → Int64) → Option (Int32 × Int32 × Int32 × Int32 × Int32 × Int32 × Int32 × Int32 × Int32 × Int32 × Int32 × Int32 × Int32 × Int32 × (Nat → Int32) × (Nat → Int32) × (Nat → Int64) × (Nat → Int64) × (Nat → Int32) × (Nat → Int32) × (Nat → Int32) × (Nat → Int32) × (Nat → Int32) × (Nat → Int32))) : Nat → Int32 → (Nat → Int64) → Option (Int32 × Int32 × Int32 × Int32 × Int32 × Int32 × Int32 × Int32 × Int32 × Int32 × Int32 × Int32 × Int32 × Int32 × (Nat → Int32) × (Nat → Int32) × (Nat → Int64) × (Nat → Int64) × (Nat → Int32) × (Nat → Int32) × (Nat → Int32) × (Nat → Int32) × (Nat → Int32) × (Nat → Int32))
  | 0, _, _ => none
  | n + 1, x2, namesAside => if 4 ≤ x2 then (k namesAside) else (if x2 < 0 ∨ 4 ≤ x2.toNatClampNeg then none else if x2 < 0 ∨ 4 ≤ x2.toNatClampNeg then none else Lt (vp_updL namesAside (x2.toNatClampNeg) (names (x2.toNatClampNeg))) fun (namesAside_1 : (Nat → Int64)) => fX10_parse_L70 names k n (x2 + 1) namesAside_1)
def fX10_parse_L95 (k : (Nat → Int32) → Option (Int32 × Int32 × Int32 × Int32 × Int32 × Int32 × Int32 × Int32 × Int32 × Int32 × Int32 × Int32 × Int32 × Int32 × (Nat → Int32) × (Nat → Int32) × (Nat → Int64) × (Nat → Int64) × (Nat → Int32) × (Nat → Int32) × (Nat → Int32) × (Nat → Int32) × (Nat → Int32) × (Nat → Int32))) : Nat → Int32 → (Nat → Int32) → Option (Int32 × Int32 × Int32 × Int32 × Int32 × Int32 × Int32 × Int32 × Int32 × Int32 × Int32 × Int32 × Int32 × Int32 × (Nat → Int32) × (Nat → Int32) × (Nat → Int64) × (Nat → Int64) × (Nat → Int32) × (Nat → Int32) × (Nat → Int32) × (Nat → Int32) × (Nat → Int32) × (Nat → Int32))
  | 0, _, _ => none
  | n + 1, x2, now => if 365 ≤ x2 then (k now) else (if x2 < 0 ∨ 365 ≤ x2.toNatClampNeg then none else Lt (upd now (x2.toNatClampNeg) 0) fun (now_1 : (Nat → Int32)) => fX10_parse_L95 k n (x2 + 1) now_1)
def fX10_parse_L124 (M_textSize : Int32) (text : (Nat → Int32)) (k : Int32 → Int32 → Int32 → Int32 → Int32 → Int32 → Int32 → Int32 → Int32 → Int32 → (Nat → Int32) → (Nat → Int64) → (Nat → Int32) → (Nat → Int32) → (Nat → Int32) → (Nat → Int32) → (Nat → Int32) → Option (Int32 × Int32 × Int32 × Int32 × Int32 × Int32 × Int32 × Int32 × Int32 × Int32 × Int32 × Int32 × Int32 × Int32 × (Nat → Int32) × (Nat → Int32) × (Nat → Int64) × (Nat → Int64) × (Nat → Int32) × (Nat → Int32) × (Nat → Int32) × (Nat → Int32) × (Nat → Int32) × (Nat → Int32))) : Nat → Int32 → Int32 → Int32 → Int32 → Int32 → Int32 → Int32 → Int32 → Int32 → Int32 → (Nat → Int32) → (Nat → Int64) → (Nat → Int32) → (Nat → Int32) → (Nat → Int32) → (Nat → Int32) → (Nat → Int32) → Option (Int32 × Int32 × Int32 × Int32 × Int32 × Int32 × Int32 × Int32 × Int32 × Int32 × Int32 × Int32 × Int32 × Int32 × (Nat → Int32) × (Nat → Int32) × (Nat → Int64) × (Nat → Int64) × (Nat → Int32) × (Nat → Int32) × (Nat → Int32) × (Nat → Int32) × (Nat → Int32) × (Nat → Int32))
  | 0, _, _, _, _, _, _, _, _, _, _, _, _, _, _, _, _, _ => none
  | n + 1, x2, M_start, M_next, M_token, M_value, M_error, M_errorAt, M_number, M_many, M_freshMany, now, names, spelled, cost, fewestFrom, first, fresh => if x2 = 0 then (k x2 M_start M_next M_token M_value M_error M_errorAt M_number M_many M_freshMany now names spelled cost fewestFrom first fresh) else (if M_token = 0 then (k x2 M_start M_next M_token M_value M_error M_errorAt M_number M_many M_freshMany now names spelled cost fewestFrom first fresh) else (gb17 (fX10_statement M_textSize M_start M_next M_token M_value M_error M_errorAt M_number M_many M_freshMany now names text spelled cost fewestFrom first fresh) fun (r_1 : Int32) (M_start_1 : Int32) (M_next_1 : Int32) (M_token_1 : Int32) (M_value_1 : Int32) (M_error_1 : Int32) (M_errorAt_1 : Int32) (M_number_1 : Int32) (M_many_1 : Int32) (M_freshMany_1 : Int32) (now_1 : (Nat → Int32)) (names_1 : (Nat → Int64)) (spelled_1 : (Nat → Int32)) (cost_1 : (Nat → Int32)) (fewestFrom_1 : (Nat → Int32)) (first_1 : (Nat → Int32)) (fresh_1 : (Nat → Int32)) => if r_1 = 0 then (fX10_parse_L124 M_textSize text k n 0 M_start_1 M_next_1 M_token_1 M_value_1 M_error_1 M_errorAt_1 M_number_1 M_many_1 M_freshMany_1 now_1 names_1 spelled_1 cost_1 fewestFrom_1 first_1 fresh_1) else (gb7 (fX10_closes M_textSize M_start_1 M_next_1 M_token_1 M_value_1 M_error_1 M_errorAt_1 text) fun (r_2 : Int32) (M_start_2 : Int32) (M_next_2 : Int32) (M_token_2 : Int32) (M_value_2 : Int32) (M_error_2 : Int32) (M_errorAt_2 : Int32) => if r_2 = 0 then (fX10_parse_L124 M_textSize text k n 0 M_start_2 M_next_2 M_token_2 M_value_2 M_error_2 M_errorAt_2 M_number_1 M_many_1 M_freshMany_1 now_1 names_1 spelled_1 cost_1 fewestFrom_1 first_1 fresh_1) else (fX10_parse_L124 M_textSize text k n 1 M_start_2 M_next_2 M_token_2 M_value_2 M_error_2 M_errorAt_2 M_number_1 M_many_1 M_freshMany_1 now_1 names_1 spelled_1 cost_1 fewestFrom_1 first_1 fresh_1))))
def fX10_parse_L175 (namesAside : (Nat → Int64)) (k : (Nat → Int64) → Option (Int32 × Int32 × Int32 × Int32 × Int32 × Int32 × Int32 × Int32 × Int32 × Int32 × Int32 × Int32 × Int32 × Int32 × (Nat → Int32) × (Nat → Int32) × (Nat → Int64) × (Nat → Int64) × (Nat → Int32) × (Nat → Int32) × (Nat → Int32) × (Nat → Int32) × (Nat → Int32) × (Nat → Int32))) : Nat → Int32 → (Nat → Int64) → Option (Int32 × Int32 × Int32 × Int32 × Int32 × Int32 × Int32 × Int32 × Int32 × Int32 × Int32 × Int32 × Int32 × Int32 × (Nat → Int32) × (Nat → Int32) × (Nat → Int64) × (Nat → Int64) × (Nat → Int32) × (Nat → Int32) × (Nat → Int32) × (Nat → Int32) × (Nat → Int32) × (Nat → Int32))
  | 0, _, _ => none
  | n + 1, x3, names => if 4 ≤ x3 then (k names) else (if x3 < 0 ∨ 4 ≤ x3.toNatClampNeg then none else if x3 < 0 ∨ 4 ≤ x3.toNatClampNeg then none else Lt (vp_updL names (x3.toNatClampNeg) (namesAside (x3.toNatClampNeg))) fun (names_1 : (Nat → Int64)) => fX10_parse_L175 namesAside k n (x3 + 1) names_1)
def fX10_parse (x1 : Int32) (M_thrown : Int32) (M_length : Int32) (M_textSize : Int32) (M_start : Int32) (M_next : Int32) (M_token : Int32) (M_value : Int32) (M_error : Int32) (M_errorAt : Int32) (M_number : Int32) (M_many : Int32) (M_freshMany : Int32) (M_undos : Int32) (now : (Nat → Int32)) (aside : (Nat → Int32)) (names : (Nat → Int64)) (namesAside : (Nat → Int64)) (text : (Nat → Int32)) (spelled : (Nat → Int32)) (cost : (Nat → Int32)) (fewestFrom : (Nat → Int32)) (first : (Nat → Int32)) (fresh : (Nat → Int32)) (isSaved : (Nat → Int32)) : Option (Int32 × Int32 × Int32 × Int32 × Int32 × Int32 × Int32 × Int32 × Int32 × Int32 × Int32 × Int32 × Int32 × Int32 × (Nat → Int32) × (Nat → Int32) × (Nat → Int64) × (Nat → Int64) × (Nat → Int32) × (Nat → Int32) × (Nat → Int32) × (Nat → Int32) × (Nat → Int32) × (Nat → Int32)) := gb1 (fX10_within x1 0 M_length) fun (r_1 : Int32) => Lt (fun (t0_1 : Int32) => (gb2 (fX10_throwsIf t0_1 1 0) fun (r_2 : Int32) (M_thrown_1 : Int32) => if r_2 = 0 then (gb1 (fX10_puts 365 365 now aside) fun (aside_1 : (Nat → Int32)) => fX10_parse_L70 names (fun (namesAside_1 : (Nat → Int64)) => (fX10_parse_L95 (fun (now_1 : (Nat → Int32)) => (gb4 (fX10_advance x1 M_start 0 M_token M_value text) fun (M_start_1 : Int32) (M_next_1 : Int32) (M_token_1 : Int32) (M_value_1 : Int32) => gb9 (fX10_head x1 M_start_1 M_next_1 M_token_1 M_value_1 0 (-1) M_number now_1 text) fun (r_3 : Int32) (M_start_2 : Int32) (M_next_2 : Int32) (M_token_2 : Int32) (M_value_2 : Int32) (M_error_1 : Int32) (M_errorAt_1 : Int32) (M_number_1 : Int32) (now_2 : (Nat → Int32)) => fX10_parse_L124 x1 text (fun (x2_1 : Int32) (M_start_3 : Int32) (M_next_3 : Int32) (M_token_3 : Int32) (M_value_3 : Int32) (M_error_2 : Int32) (M_errorAt_2 : Int32) (M_number_2 : Int32) (M_many_1 : Int32) (M_freshMany_1 : Int32) (now_3 : (Nat → Int32)) (names_1 : (Nat → Int64)) (spelled_1 : (Nat → Int32)) (cost_1 : (Nat → Int32)) (fewestFrom_1 : (Nat → Int32)) (first_1 : (Nat → Int32)) (fresh_1 : (Nat → Int32)) => (if x2_1 = 0 then (gb1 (fX10_puts 365 365 aside_1 now_3) fun (now_4 : (Nat → Int32)) => fX10_parse_L175 namesAside_1 (fun (names_2 : (Nat → Int64)) => (some (M_error_2, M_thrown_1, 0, x1, M_start_3, M_next_3, M_token_3, M_value_3, M_error_2, M_errorAt_2, M_number_2, M_many_1, M_freshMany_1, M_undos, now_4, aside_1, names_2, namesAside_1, spelled_1, cost_1, fewestFrom_1, first_1, fresh_1, isSaved))) FU 0 names_1) else (Lt (upd isSaved 0 (vp_nar .boolean 0)) fun (isSaved_1 : (Nat → Int32)) => Lt (upd isSaved_1 1 (vp_nar .boolean 0)) fun (isSaved_2 : (Nat → Int32)) => some (0, M_thrown_1, 0, x1, M_start_3, M_next_3, M_token_3, M_value_3, M_error_2, M_errorAt_2, M_number_2, M_many_1, M_freshMany_1, 0, now_3, aside_1, names_1, namesAside_1, spelled_1, cost_1, fewestFrom_1, first_1, fresh_1, isSaved_2)))) FU r_3 M_start_2 M_next_2 M_token_2 M_value_2 M_error_1 M_errorAt_1 M_number_1 M_many M_freshMany now_2 names spelled cost fewestFrom first fresh)) FU 0 now)) FU 0 namesAside) else (some (0, M_thrown_1, M_length, M_textSize, M_start, M_next, M_token, M_value, M_error, M_errorAt, M_number, M_many, M_freshMany, M_undos, now, aside, names, namesAside, spelled, cost, fewestFrom, first, fresh, isSaved)))) fun (j_1 : Int32 → Option (Int32 × Int32 × Int32 × Int32 × Int32 × Int32 × Int32 × Int32 × Int32 × Int32 × Int32 × Int32 × Int32 × Int32 × (Nat → Int32) × (Nat → Int32) × (Nat → Int64) × (Nat → Int64) × (Nat → Int32) × (Nat → Int32) × (Nat → Int32) × (Nat → Int32) × (Nat → Int32) × (Nat → Int32))) => if r_1 = 0 then (j_1 1) else (j_1 0)
set_option maxHeartbeats 4000000 in
set_option maxRecDepth 100000 in
theorem ktX10_cuts_L58 {p : Program} {l : Launch} {e : Env} {s : State} {m : MethodId} {args : Array Value} {below : List Frame} {meth : Method} {c : Code} {E : gE} {A : Nat → Prop} (F : gFx p s m args meth c RX10 wsX10_cuts cX10_cuts 5 none vwCl E A) (aM anow aaside anames anamesAside atext aspelled acost afewestFrom afirst afresh aways aundo aslots aisSaved : Nat → Nat) (x1 : Int32) (x2 : Int32) (x3 : Int32) (M_many : Int32) (now : (Nat → Int32)) (spelled : (Nat → Int32)) (M_thrown : Int32) (M_length : Int32) (M_textSize : Int32) (M_start : Int32) (M_next : Int32) (M_token : Int32) (M_value : Int32) (M_error : Int32) (M_errorAt : Int32) (M_number : Int32) (M_freshMany : Int32) (M_undos : Int32) (cost' : (Nat → Int32)) (fewestFrom' : (Nat → Int32)) (first' : (Nat → Int32)) {k : (Nat → Int32) → (Nat → Int32) → (Nat → Int32) → Option ((Nat → Int32) × (Nat → Int32) × (Nat → Int32))} (hk : ∀ (cost : (Nat → Int32)) (fewestFrom : (Nat → Int32)) (first : (Nat → Int32)), k cost fewestFrom first = some (cost', fewestFrom', first') → Gj p l e rmX10_cuts s m args below meth c 0 0 (MQ below (gQ vwCl E A (fun v w => v = none ∧ w = [sModel E aM anow aaside anames anamesAside atext aspelled acost afewestFrom afirst afresh aways aundo aslots aisSaved M_thrown M_length M_textSize M_start M_next M_token M_value M_error M_errorAt M_number M_many M_freshMany M_undos, sArrI E anow 365 now, sArrI E aspelled 12 spelled, sArrI E acost 13 cost', sArrI E afewestFrom 13 fewestFrom', sArrI E afirst 13 first'])) args s 0 0 A) vwCl E A [sModel E aM anow aaside anames anamesAside atext aspelled acost afewestFrom afirst afresh aways aundo aslots aisSaved M_thrown M_length M_textSize M_start M_next M_token M_value M_error M_errorAt M_number M_many M_freshMany M_undos, sArrI E anow 365 now, sArrI E aspelled 12 spelled, sArrI E acost 13 cost, sArrI E afewestFrom 13 fewestFrom, sArrI E afirst 13 first] [some (.ref (aM 0)), some (.int x1), some (.int x2), some (.int x3), none] [] 89) : ∀ (n : Nat) (x4 : Int32) (cost : (Nat → Int32)) (fewestFrom : (Nat → Int32)) (first : (Nat → Int32)), fX10_cuts_L58 x1 x2 x3 M_many now spelled k n x4 cost fewestFrom first = some (cost', fewestFrom', first') → Gj p l e rmX10_cuts s m args below meth c 0 0 (MQ below (gQ vwCl E A (fun v w => v = none ∧ w = [sModel E aM anow aaside anames anamesAside atext aspelled acost afewestFrom afirst afresh aways aundo aslots aisSaved M_thrown M_length M_textSize M_start M_next M_token M_value M_error M_errorAt M_number M_many M_freshMany M_undos, sArrI E anow 365 now, sArrI E aspelled 12 spelled, sArrI E acost 13 cost', sArrI E afewestFrom 13 fewestFrom', sArrI E afirst 13 first'])) args s 0 0 A) vwCl E A [sModel E aM anow aaside anames anamesAside atext aspelled acost afewestFrom afirst afresh aways aundo aslots aisSaved M_thrown M_length M_textSize M_start M_next M_token M_value M_error M_errorAt M_number M_many M_freshMany M_undos, sArrI E anow 365 now, sArrI E aspelled 12 spelled, sArrI E acost 13 cost, sArrI E afewestFrom 13 fewestFrom, sArrI E afirst 13 first] [some (.ref (aM 0)), some (.int x1), some (.int x2), some (.int x3), some (.int x4)] [] 58
  | 0, _, _, _, _, hf => by cases hf
  | n + 1, x4, cost, fewestFrom, first, hf => by
    have ih := ktX10_cuts_L58 F aM anow aaside anames anamesAside atext aspelled acost afewestFrom afirst afresh aways aundo aslots aisSaved x1 x2 x3 M_many now spelled M_thrown M_length M_textSize M_start M_next M_token M_value M_error M_errorAt M_number M_freshMany M_undos cost' fewestFrom' first' hk n
    rw [fX10_cuts_L58] at hf
    refine g_iload F dX10_cuts_58 rfl ?_
    refine g_ifle F 89 dX10_cuts_60 (by decide) (fun hc_2 => ?_) (fun hc_2 => ?_)
    · replace hf := gi_t hc_2 hf
      refine g_mask [true, true, true, true, false] rfl ?_
      exact hk cost fewestFrom first hf
    · replace hf := gi_f hc_2 hf
      refine g_iload_n F dX10_cuts_63 rfl ?_
      refine g_iload F dX10_cuts_64 rfl ?_
      refine g_iadd F dX10_cuts_66 ?_
      refine g_aload_n F dX10_cuts_67 rfl ?_
      refine g_get (C := RX10) (T := TX10) (N := 27) F 0 0 16 rfl rfl rfl iX10_cuts_X10 (by decide) (by decide +kernel) rfl dX10_cuts_68 ?_
      refine g_icmp_gt F 83 dX10_cuts_71 (by decide) (fun hc_1 => ?_) (fun hc_1 => ?_)
      · replace hf := gi_t hc_1 hf
        refine g_iinc (lv' := [some (.ref (aM 0)), some (.int x1), some (.int x2), some (.int x3), some (.int (x4 + (-1)))]) F (x4 + (-1)) dX10_cuts_83 rfl rfl rfl rfl ?_
        refine g_goto F 58 dX10_cuts_86 (by decide) ?_
        exact ih (x4 + (-1)) cost fewestFrom first hf
      · replace hf := gi_f hc_1 hf
        refine g_aload_n F dX10_cuts_74 rfl ?_
        refine g_iload_n F dX10_cuts_75 rfl ?_
        refine g_iload F dX10_cuts_76 rfl ?_
        refine g_iload_n F dX10_cuts_78 rfl ?_
        refine g_iload_n F dX10_cuts_79 rfl ?_
        obtain ⟨cost_1, fewestFrom_1, first_1, hg_1, hf⟩ := gb3_el hf
        refine g_callV (C := RX10) (T := TX10) (N := 27) (Lr := []) (As := [.int x3, .int x4, .int x1, .int x2]) (rest := []) F 0 0 4 (ctX10_triesFirst l E aM anow aaside anames anamesAside atext aspelled acost afewestFrom afirst afresh aways aundo aslots aisSaved x3 x4 x1 x2 M_thrown M_length M_textSize M_start M_next M_token M_value M_error M_errorAt M_number M_many M_freshMany M_undos now spelled cost fewestFrom first cost_1 fewestFrom_1 first_1 hg_1) gX10_cuts_X10_triesFirst rfl rfl rfl h0X10_triesFirst ⟨Nat.le_of_ble_eq_true rfl, Nat.le_of_ble_eq_true rfl⟩ rfl rfl rfl [0, 1, 2, 3, 4, 5] [] rfl rfl rfl rfl rfl rfl (Nat.le_of_ble_eq_true rfl) dX10_cuts_80 ⟨Nat.le_of_ble_eq_true rfl, Nat.le_of_ble_eq_true rfl⟩ ?_
        rintro v w ⟨rfl, rfl⟩
        refine g_norm (Lw' := [sModel E aM anow aaside anames anamesAside atext aspelled acost afewestFrom afirst afresh aways aundo aslots aisSaved M_thrown M_length M_textSize M_start M_next M_token M_value M_error M_errorAt M_number M_many M_freshMany M_undos, sArrI E anow 365 now, sArrI E aspelled 12 spelled, sArrI E acost 13 cost_1, sArrI E afewestFrom 13 fewestFrom_1, sArrI E afirst 13 first_1]) (st' := []) (pc' := 83) [0, 1, 2, 3, 4, 5] rfl rfl rfl rfl ?_
        refine g_iinc (lv' := [some (.ref (aM 0)), some (.int x1), some (.int x2), some (.int x3), some (.int (x4 + (-1)))]) F (x4 + (-1)) dX10_cuts_83 rfl rfl rfl rfl ?_
        refine g_goto F 58 dX10_cuts_86 (by decide) ?_
        exact ih (x4 + (-1)) cost_1 fewestFrom_1 first_1 hf
set_option maxHeartbeats 4000000 in
set_option maxRecDepth 100000 in
theorem ktX10_cuts_L27 {p : Program} {l : Launch} {e : Env} {s : State} {m : MethodId} {args : Array Value} {below : List Frame} {meth : Method} {c : Code} {E : gE} {A : Nat → Prop} (F : gFx p s m args meth c RX10 wsX10_cuts cX10_cuts 5 none vwCl E A) (aM anow aaside anames anamesAside atext aspelled acost afewestFrom afirst afresh aways aundo aslots aisSaved : Nat → Nat) (x1 : Int32) (x2 : Int32) (M_many : Int32) (now : (Nat → Int32)) (spelled : (Nat → Int32)) (M_thrown : Int32) (M_length : Int32) (M_textSize : Int32) (M_start : Int32) (M_next : Int32) (M_token : Int32) (M_value : Int32) (M_error : Int32) (M_errorAt : Int32) (M_number : Int32) (M_freshMany : Int32) (M_undos : Int32) (cost' : (Nat → Int32)) (fewestFrom' : (Nat → Int32)) (first' : (Nat → Int32)) {k : (Nat → Int32) → (Nat → Int32) → (Nat → Int32) → Option ((Nat → Int32) × (Nat → Int32) × (Nat → Int32))} (hk : ∀ (cost : (Nat → Int32)) (fewestFrom : (Nat → Int32)) (first : (Nat → Int32)), k cost fewestFrom first = some (cost', fewestFrom', first') → Gj p l e rmX10_cuts s m args below meth c 0 0 (MQ below (gQ vwCl E A (fun v w => v = none ∧ w = [sModel E aM anow aaside anames anamesAside atext aspelled acost afewestFrom afirst afresh aways aundo aslots aisSaved M_thrown M_length M_textSize M_start M_next M_token M_value M_error M_errorAt M_number M_many M_freshMany M_undos, sArrI E anow 365 now, sArrI E aspelled 12 spelled, sArrI E acost 13 cost', sArrI E afewestFrom 13 fewestFrom', sArrI E afirst 13 first'])) args s 0 0 A) vwCl E A [sModel E aM anow aaside anames anamesAside atext aspelled acost afewestFrom afirst afresh aways aundo aslots aisSaved M_thrown M_length M_textSize M_start M_next M_token M_value M_error M_errorAt M_number M_many M_freshMany M_undos, sArrI E anow 365 now, sArrI E aspelled 12 spelled, sArrI E acost 13 cost, sArrI E afewestFrom 13 fewestFrom, sArrI E afirst 13 first] [none, none, none, none, none] [] 95) : ∀ (n : Nat) (x3 : Int32) (cost : (Nat → Int32)) (fewestFrom : (Nat → Int32)) (first : (Nat → Int32)), fX10_cuts_L27 x1 x2 M_many now spelled k n x3 cost fewestFrom first = some (cost', fewestFrom', first') → Gj p l e rmX10_cuts s m args below meth c 0 0 (MQ below (gQ vwCl E A (fun v w => v = none ∧ w = [sModel E aM anow aaside anames anamesAside atext aspelled acost afewestFrom afirst afresh aways aundo aslots aisSaved M_thrown M_length M_textSize M_start M_next M_token M_value M_error M_errorAt M_number M_many M_freshMany M_undos, sArrI E anow 365 now, sArrI E aspelled 12 spelled, sArrI E acost 13 cost', sArrI E afewestFrom 13 fewestFrom', sArrI E afirst 13 first'])) args s 0 0 A) vwCl E A [sModel E aM anow aaside anames anamesAside atext aspelled acost afewestFrom afirst afresh aways aundo aslots aisSaved M_thrown M_length M_textSize M_start M_next M_token M_value M_error M_errorAt M_number M_many M_freshMany M_undos, sArrI E anow 365 now, sArrI E aspelled 12 spelled, sArrI E acost 13 cost, sArrI E afewestFrom 13 fewestFrom, sArrI E afirst 13 first] [some (.ref (aM 0)), some (.int x1), some (.int x2), some (.int x3), none] [] 27
  | 0, _, _, _, _, hf => by cases hf
  | n + 1, x3, cost, fewestFrom, first, hf => by
    have ih := ktX10_cuts_L27 F aM anow aaside anames anamesAside atext aspelled acost afewestFrom afirst afresh aways aundo aslots aisSaved x1 x2 M_many now spelled M_thrown M_length M_textSize M_start M_next M_token M_value M_error M_errorAt M_number M_freshMany M_undos cost' fewestFrom' first' hk n
    rw [fX10_cuts_L27] at hf
    refine g_iload_n F dX10_cuts_27 rfl ?_
    refine g_iflt F 95 dX10_cuts_28 (by decide) (fun hc_1 => ?_) (fun hc_1 => ?_)
    · replace hf := gi_t hc_1 hf
      refine g_mask [false, false, false, false, true] rfl ?_
      exact hk cost fewestFrom first hf
    · replace hf := gi_f hc_1 hf
      refine g_aload_n F dX10_cuts_31 rfl ?_
      refine g_get (C := RX10) (T := TX10) (N := 27) F 0 0 17 rfl rfl rfl iX10_cuts_X10 (by decide) (by decide +kernel) rfl dX10_cuts_32 ?_
      refine g_iload_n F dX10_cuts_35 rfl ?_
      refine g_ldc F 1000000 (by decide +kernel) dX10_cuts_36 ?_
      obtain ⟨hb_1, hf⟩ := gb_in hf
      obtain ⟨cost_1, hcost_1, hf⟩ := Lt_el hf
      refine g_iast (Lw' := [sModel E aM anow aaside anames anamesAside atext aspelled acost afewestFrom afirst afresh aways aundo aslots aisSaved M_thrown M_length M_textSize M_start M_next M_token M_value M_error M_errorAt M_number M_many M_freshMany M_undos, sArrI E anow 365 now, sArrI E aspelled 12 spelled, sArrI E acost 13 cost_1, sArrI E afewestFrom 13 fewestFrom, sArrI E afirst 13 first]) F 3 0 (x3.toNatClampNeg) rfl rfl rfl hb_1 dX10_cuts_38 (by subst hcost_1; rfl) ?_
      refine g_aload_n F dX10_cuts_39 rfl ?_
      refine g_get (C := RX10) (T := TX10) (N := 27) F 0 0 18 rfl rfl rfl iX10_cuts_X10 (by decide) (by decide +kernel) rfl dX10_cuts_40 ?_
      refine g_iload_n F dX10_cuts_43 rfl ?_
      refine g_ldc F 1000000 (by decide +kernel) dX10_cuts_44 ?_
      obtain ⟨hb_2, hf⟩ := gb_in hf
      obtain ⟨fewestFrom_1, hfewestFrom_1, hf⟩ := Lt_el hf
      refine g_iast (Lw' := [sModel E aM anow aaside anames anamesAside atext aspelled acost afewestFrom afirst afresh aways aundo aslots aisSaved M_thrown M_length M_textSize M_start M_next M_token M_value M_error M_errorAt M_number M_many M_freshMany M_undos, sArrI E anow 365 now, sArrI E aspelled 12 spelled, sArrI E acost 13 cost_1, sArrI E afewestFrom 13 fewestFrom_1, sArrI E afirst 13 first]) F 4 0 (x3.toNatClampNeg) rfl rfl rfl hb_2 dX10_cuts_46 (by subst hfewestFrom_1; rfl) ?_
      refine g_aload_n F dX10_cuts_47 rfl ?_
      refine g_get (C := RX10) (T := TX10) (N := 27) F 0 0 19 rfl rfl rfl iX10_cuts_X10 (by decide) (by decide +kernel) rfl dX10_cuts_48 ?_
      refine g_iload_n F dX10_cuts_51 rfl ?_
      refine g_iconst F 0 dX10_cuts_52 rfl ?_
      obtain ⟨hb_3, hf⟩ := gb_in hf
      obtain ⟨first_1, hfirst_1, hf⟩ := Lt_el hf
      refine g_iast (Lw' := [sModel E aM anow aaside anames anamesAside atext aspelled acost afewestFrom afirst afresh aways aundo aslots aisSaved M_thrown M_length M_textSize M_start M_next M_token M_value M_error M_errorAt M_number M_many M_freshMany M_undos, sArrI E anow 365 now, sArrI E aspelled 12 spelled, sArrI E acost 13 cost_1, sArrI E afewestFrom 13 fewestFrom_1, sArrI E afirst 13 first_1]) F 5 0 (x3.toNatClampNeg) rfl rfl rfl hb_3 dX10_cuts_53 (by subst hfirst_1; rfl) ?_
      refine g_bipush F 6 dX10_cuts_54 rfl ?_
      refine g_istore (lv' := [some (.ref (aM 0)), some (.int x1), some (.int x2), some (.int x3), some (.int 6)]) F dX10_cuts_56 (Nat.le_of_ble_eq_true rfl) rfl rfl ?_
      refine ktX10_cuts_L58 F aM anow aaside anames anamesAside atext aspelled acost afewestFrom afirst afresh aways aundo aslots aisSaved x1 x2 x3 M_many now spelled M_thrown M_length M_textSize M_start M_next M_token M_value M_error M_errorAt M_number M_freshMany M_undos cost' fewestFrom' first' (fun cost_2 fewestFrom_2 first_2 hf => ?_) FU 6 cost_1 fewestFrom_1 first_1 hf
      refine g_iinc (lv' := [some (.ref (aM 0)), some (.int x1), some (.int x2), some (.int (x3 + (-1))), none]) F (x3 + (-1)) dX10_cuts_89 rfl rfl rfl rfl ?_
      refine g_goto F 27 dX10_cuts_92 (by decide) ?_
      exact ih (x3 + (-1)) cost_2 fewestFrom_2 first_2 hf
set_option maxHeartbeats 4000000 in
set_option maxRecDepth 100000 in
theorem ctX10_cuts (l : Launch) (E : gE) (aM anow aaside anames anamesAside atext aspelled acost afewestFrom afirst afresh aways aundo aslots aisSaved : Nat → Nat) (x1 : Int32) (x2 : Int32) (M_thrown : Int32) (M_length : Int32) (M_textSize : Int32) (M_start : Int32) (M_next : Int32) (M_token : Int32) (M_value : Int32) (M_error : Int32) (M_errorAt : Int32) (M_number : Int32) (M_many : Int32) (M_freshMany : Int32) (M_undos : Int32) (now : (Nat → Int32)) (spelled : (Nat → Int32)) (cost : (Nat → Int32)) (fewestFrom : (Nat → Int32)) (first : (Nat → Int32)) (cost' : (Nat → Int32)) (fewestFrom' : (Nat → Int32)) (first' : (Nat → Int32)) (hf : fX10_cuts x1 x2 M_many now spelled cost fewestFrom first = some (cost', fewestFrom', first')) : gMet l yX10_cuts wsX10_cuts rmX10_cuts vwCl E [.ref (aM 0), .int x1, .int x2] [sModel E aM anow aaside anames anamesAside atext aspelled acost afewestFrom afirst afresh aways aundo aslots aisSaved M_thrown M_length M_textSize M_start M_next M_token M_value M_error M_errorAt M_number M_many M_freshMany M_undos, sArrI E anow 365 now, sArrI E aspelled 12 spelled, sArrI E acost 13 cost, sArrI E afewestFrom 13 fewestFrom, sArrI E afirst 13 first] (fun v w => v = none ∧ w = [sModel E aM anow aaside anames anamesAside atext aspelled acost afewestFrom afirst afresh aways aundo aslots aisSaved M_thrown M_length M_textSize M_start M_next M_token M_value M_error M_errorAt M_number M_many M_freshMany M_undos, sArrI E anow 365 now, sArrI E aspelled 12 spelled, sArrI E acost 13 cost', sArrI E afewestFrom 13 fewestFrom', sArrI E afirst 13 first']) 0 0 := by
  refine g_entry [some (.ref (aM 0)), some (.int x1), some (.int x2), none, none] (by decide) rfl (Nat.le_of_ble_eq_true rfl) rfl ?_
  intro p e s m below meth c A F hnm
  unfold fX10_cuts at hf
  refine g_aload_n F dX10_cuts_0 rfl ?_
  refine g_get (C := RX10) (T := TX10) (N := 27) F 0 0 17 rfl rfl rfl iX10_cuts_X10 (by decide) (by decide +kernel) rfl dX10_cuts_1 ?_
  refine g_aload_n F dX10_cuts_4 rfl ?_
  refine g_get (C := RX10) (T := TX10) (N := 27) F 0 0 16 rfl rfl rfl iX10_cuts_X10 (by decide) (by decide +kernel) rfl dX10_cuts_5 ?_
  refine g_iconst F 0 dX10_cuts_8 rfl ?_
  obtain ⟨hb_1, hf⟩ := gb_in hf
  obtain ⟨cost_1, hcost_1, hf⟩ := Lt_el hf
  refine g_iast (Lw' := [sModel E aM anow aaside anames anamesAside atext aspelled acost afewestFrom afirst afresh aways aundo aslots aisSaved M_thrown M_length M_textSize M_start M_next M_token M_value M_error M_errorAt M_number M_many M_freshMany M_undos, sArrI E anow 365 now, sArrI E aspelled 12 spelled, sArrI E acost 13 cost_1, sArrI E afewestFrom 13 fewestFrom, sArrI E afirst 13 first]) F 3 0 (M_many.toNatClampNeg) rfl rfl rfl hb_1 dX10_cuts_9 (by subst hcost_1; rfl) ?_
  refine g_aload_n F dX10_cuts_10 rfl ?_
  refine g_get (C := RX10) (T := TX10) (N := 27) F 0 0 18 rfl rfl rfl iX10_cuts_X10 (by decide) (by decide +kernel) rfl dX10_cuts_11 ?_
  refine g_aload_n F dX10_cuts_14 rfl ?_
  refine g_get (C := RX10) (T := TX10) (N := 27) F 0 0 16 rfl rfl rfl iX10_cuts_X10 (by decide) (by decide +kernel) rfl dX10_cuts_15 ?_
  refine g_iconst F 0 dX10_cuts_18 rfl ?_
  obtain ⟨hb_2, hf⟩ := gb_in hf
  obtain ⟨fewestFrom_1, hfewestFrom_1, hf⟩ := Lt_el hf
  refine g_iast (Lw' := [sModel E aM anow aaside anames anamesAside atext aspelled acost afewestFrom afirst afresh aways aundo aslots aisSaved M_thrown M_length M_textSize M_start M_next M_token M_value M_error M_errorAt M_number M_many M_freshMany M_undos, sArrI E anow 365 now, sArrI E aspelled 12 spelled, sArrI E acost 13 cost_1, sArrI E afewestFrom 13 fewestFrom_1, sArrI E afirst 13 first]) F 4 0 (M_many.toNatClampNeg) rfl rfl rfl hb_2 dX10_cuts_19 (by subst hfewestFrom_1; rfl) ?_
  refine g_aload_n F dX10_cuts_20 rfl ?_
  refine g_get (C := RX10) (T := TX10) (N := 27) F 0 0 16 rfl rfl rfl iX10_cuts_X10 (by decide) (by decide +kernel) rfl dX10_cuts_21 ?_
  refine g_iconst F 1 dX10_cuts_24 rfl ?_
  refine g_isub F dX10_cuts_25 ?_
  refine g_istore_n (lv' := [some (.ref (aM 0)), some (.int x1), some (.int x2), some (.int (M_many - 1)), none]) F dX10_cuts_26 (Nat.le_of_ble_eq_true rfl) rfl rfl ?_
  refine ktX10_cuts_L27 F aM anow aaside anames anamesAside atext aspelled acost afewestFrom afirst afresh aways aundo aslots aisSaved x1 x2 M_many now spelled M_thrown M_length M_textSize M_start M_next M_token M_value M_error M_errorAt M_number M_freshMany M_undos cost' fewestFrom' first' (fun cost_2 fewestFrom_2 first_1 hf => ?_) FU (M_many - 1) cost_1 fewestFrom_1 first hf
  cases hf
  exact g_vret F rfl ⟨rfl, rfl⟩ dX10_cuts_95
set_option maxHeartbeats 4000000 in
set_option maxRecDepth 100000 in
theorem ctX10_cutsCheapest (l : Launch) (E : gE) (aM anow aaside anames anamesAside atext aspelled acost afewestFrom afirst afresh aways aundo aslots aisSaved : Nat → Nat) (M_thrown : Int32) (M_length : Int32) (M_textSize : Int32) (M_start : Int32) (M_next : Int32) (M_token : Int32) (M_value : Int32) (M_error : Int32) (M_errorAt : Int32) (M_number : Int32) (M_many : Int32) (M_freshMany : Int32) (M_undos : Int32) (now : (Nat → Int32)) (spelled : (Nat → Int32)) (cost : (Nat → Int32)) (fewestFrom : (Nat → Int32)) (first : (Nat → Int32)) (cost' : (Nat → Int32)) (fewestFrom' : (Nat → Int32)) (first' : (Nat → Int32)) (hf : fX10_cutsCheapest M_many now spelled cost fewestFrom first = some (cost', fewestFrom', first')) : gMet l yX10_cutsCheapest wsX10_cutsCheapest rmX10_cutsCheapest vwCl E [.ref (aM 0)] [sModel E aM anow aaside anames anamesAside atext aspelled acost afewestFrom afirst afresh aways aundo aslots aisSaved M_thrown M_length M_textSize M_start M_next M_token M_value M_error M_errorAt M_number M_many M_freshMany M_undos, sArrI E anow 365 now, sArrI E aspelled 12 spelled, sArrI E acost 13 cost, sArrI E afewestFrom 13 fewestFrom, sArrI E afirst 13 first] (fun v w => v = none ∧ w = [sModel E aM anow aaside anames anamesAside atext aspelled acost afewestFrom afirst afresh aways aundo aslots aisSaved M_thrown M_length M_textSize M_start M_next M_token M_value M_error M_errorAt M_number M_many M_freshMany M_undos, sArrI E anow 365 now, sArrI E aspelled 12 spelled, sArrI E acost 13 cost', sArrI E afewestFrom 13 fewestFrom', sArrI E afirst 13 first']) 0 0 := by
  refine g_entry [some (.ref (aM 0))] (by decide) rfl (Nat.le_of_ble_eq_true rfl) rfl ?_
  intro p e s m below meth c A F hnm
  unfold fX10_cutsCheapest at hf
  refine g_aload_n F dX10_cutsCheapest_0 rfl ?_
  refine g_iconst F 1 dX10_cutsCheapest_1 rfl ?_
  refine g_iconst F 0 dX10_cutsCheapest_2 rfl ?_
  obtain ⟨cost_1, fewestFrom_1, first_1, hg_1, hf⟩ := gb3_el hf
  refine g_callV (C := RX10) (T := TX10) (N := 27) (Lr := []) (As := [.int 1, .int 0]) (rest := []) F 0 0 2 (ctX10_cuts l E aM anow aaside anames anamesAside atext aspelled acost afewestFrom afirst afresh aways aundo aslots aisSaved 1 0 M_thrown M_length M_textSize M_start M_next M_token M_value M_error M_errorAt M_number M_many M_freshMany M_undos now spelled cost fewestFrom first cost_1 fewestFrom_1 first_1 hg_1) gX10_cutsCheapest_X10_cuts rfl rfl rfl h0X10_cuts ⟨Nat.le_of_ble_eq_true rfl, Nat.le_of_ble_eq_true rfl⟩ rfl rfl rfl [0, 1, 2, 3, 4, 5] [] rfl rfl rfl rfl rfl rfl (Nat.le_of_ble_eq_true rfl) dX10_cutsCheapest_3 ⟨Nat.le_of_ble_eq_true rfl, Nat.le_of_ble_eq_true rfl⟩ ?_
  rintro v w ⟨rfl, rfl⟩
  refine g_norm (Lw' := [sModel E aM anow aaside anames anamesAside atext aspelled acost afewestFrom afirst afresh aways aundo aslots aisSaved M_thrown M_length M_textSize M_start M_next M_token M_value M_error M_errorAt M_number M_many M_freshMany M_undos, sArrI E anow 365 now, sArrI E aspelled 12 spelled, sArrI E acost 13 cost_1, sArrI E afewestFrom 13 fewestFrom_1, sArrI E afirst 13 first_1]) (st' := []) (pc' := 6) [0, 1, 2, 3, 4, 5] rfl rfl rfl rfl ?_
  cases hf
  exact g_vret F rfl ⟨rfl, rfl⟩ dX10_cutsCheapest_6
set_option maxHeartbeats 4000000 in
set_option maxRecDepth 100000 in
theorem ktX10_laysFresh_L45 {p : Program} {l : Launch} {e : Env} {s : State} {m : MethodId} {args : Array Value} {below : List Frame} {meth : Method} {c : Code} {E : gE} {A : Nat → Prop} (F : gFx p s m args meth c RX10 wsX10_laysFresh cX10_laysFresh 5 none vwCl E A) (aM anow aaside anames anamesAside atext aspelled acost afewestFrom afirst afresh aways aundo aslots aisSaved : Nat → Nat) (x1 : Int32) (x2 : Int32) (M_freshMany : Int32) (fresh : (Nat → Int32)) (M_thrown : Int32) (M_length : Int32) (M_textSize : Int32) (M_start : Int32) (M_next : Int32) (M_token : Int32) (M_value : Int32) (M_error : Int32) (M_errorAt : Int32) (M_number : Int32) (M_many : Int32) (M_undos : Int32) (now : (Nat → Int32)) (spelled : (Nat → Int32)) (first : (Nat → Int32)) (M_freshMany' : Int32) (fresh' : (Nat → Int32)) {k : Int32 → Option (Int32 × (Nat → Int32))} (hk : ∀ (x3 : Int32), k x3 = some (M_freshMany', fresh') → Gj p l e rmX10_laysFresh s m args below meth c 0 0 (MQ below (gQ vwCl E A (fun v w => v = none ∧ w = [sModel E aM anow aaside anames anamesAside atext aspelled acost afewestFrom afirst afresh aways aundo aslots aisSaved M_thrown M_length M_textSize M_start M_next M_token M_value M_error M_errorAt M_number M_many M_freshMany' M_undos, sArrI E anow 365 now, sArrI E aspelled 12 spelled, sArrI E afirst 13 first, sArrI E afresh 12 fresh'])) args s 0 0 A) vwCl E A [sModel E aM anow aaside anames anamesAside atext aspelled acost afewestFrom afirst afresh aways aundo aslots aisSaved M_thrown M_length M_textSize M_start M_next M_token M_value M_error M_errorAt M_number M_many M_freshMany M_undos, sArrI E anow 365 now, sArrI E aspelled 12 spelled, sArrI E afirst 13 first, sArrI E afresh 12 fresh] [some (.ref (aM 0)), some (.int x1), some (.int x2), some (.int x3), none] [] 81) : ∀ (n : Nat) (x3 : Int32) (x4 : Int32), fX10_laysFresh_L45 x1 x2 M_freshMany fresh k n x3 x4 = some (M_freshMany', fresh') → Gj p l e rmX10_laysFresh s m args below meth c 0 0 (MQ below (gQ vwCl E A (fun v w => v = none ∧ w = [sModel E aM anow aaside anames anamesAside atext aspelled acost afewestFrom afirst afresh aways aundo aslots aisSaved M_thrown M_length M_textSize M_start M_next M_token M_value M_error M_errorAt M_number M_many M_freshMany' M_undos, sArrI E anow 365 now, sArrI E aspelled 12 spelled, sArrI E afirst 13 first, sArrI E afresh 12 fresh'])) args s 0 0 A) vwCl E A [sModel E aM anow aaside anames anamesAside atext aspelled acost afewestFrom afirst afresh aways aundo aslots aisSaved M_thrown M_length M_textSize M_start M_next M_token M_value M_error M_errorAt M_number M_many M_freshMany M_undos, sArrI E anow 365 now, sArrI E aspelled 12 spelled, sArrI E afirst 13 first, sArrI E afresh 12 fresh] [some (.ref (aM 0)), some (.int x1), some (.int x2), some (.int x3), some (.int x4)] [] 45
  | 0, _, _, hf => by cases hf
  | n + 1, x3, x4, hf => by
    have ih := ktX10_laysFresh_L45 F aM anow aaside anames anamesAside atext aspelled acost afewestFrom afirst afresh aways aundo aslots aisSaved x1 x2 M_freshMany fresh M_thrown M_length M_textSize M_start M_next M_token M_value M_error M_errorAt M_number M_many M_undos now spelled first M_freshMany' fresh' hk n
    rw [fX10_laysFresh_L45] at hf
    refine g_iload F dX10_laysFresh_45 rfl ?_
    refine g_aload_n F dX10_laysFresh_47 rfl ?_
    refine g_get (C := RX10) (T := TX10) (N := 27) F 0 0 21 rfl rfl rfl iX10_laysFresh_X10 (by decide) (by decide +kernel) rfl dX10_laysFresh_48 ?_
    refine g_icmp_ge F 81 dX10_laysFresh_51 (by decide) (fun hc_3 => ?_) (fun hc_3 => ?_)
    · replace hf := gi_t hc_3 hf
      refine g_mask [true, true, true, true, false] rfl ?_
      exact hk x3 hf
    · replace hf := gi_f hc_3 hf
      refine g_iload_n F dX10_laysFresh_54 rfl ?_
      refine g_ifeq F 73 dX10_laysFresh_55 (by decide) (fun hc_2 => ?_) (fun hc_2 => ?_)
      · replace hf := gi_t hc_2 hf
        refine g_iconst F 0 dX10_laysFresh_73 rfl ?_
        refine g_istore_n (lv' := [some (.ref (aM 0)), some (.int x1), some (.int x2), some (.int 0), some (.int x4)]) F dX10_laysFresh_74 (Nat.le_of_ble_eq_true rfl) rfl rfl ?_
        refine g_iinc (lv' := [some (.ref (aM 0)), some (.int x1), some (.int x2), some (.int 0), some (.int (x4 + 1))]) F (x4 + 1) dX10_laysFresh_75 rfl rfl rfl rfl ?_
        refine g_goto F 45 dX10_laysFresh_78 (by decide) ?_
        exact ih 0 (x4 + 1) hf
      · replace hf := gi_f hc_2 hf
        refine g_aload_n F dX10_laysFresh_58 rfl ?_
        refine g_get (C := RX10) (T := TX10) (N := 27) F 0 0 20 rfl rfl rfl iX10_laysFresh_X10 (by decide) (by decide +kernel) rfl dX10_laysFresh_59 ?_
        refine g_iload F dX10_laysFresh_62 rfl ?_
        obtain ⟨hb_1, hf⟩ := gb_in hf
        refine g_iald F 4 0 (x4.toNatClampNeg) rfl rfl rfl hb_1 dX10_laysFresh_64 ?_
        refine g_iload_n F dX10_laysFresh_65 rfl ?_
        refine g_icmp_eq F 73 dX10_laysFresh_66 (by decide) (fun hc_1 => ?_) (fun hc_1 => ?_)
        · replace hf := gi_t hc_1 hf
          refine g_iconst F 0 dX10_laysFresh_73 rfl ?_
          refine g_istore_n (lv' := [some (.ref (aM 0)), some (.int x1), some (.int x2), some (.int 0), some (.int x4)]) F dX10_laysFresh_74 (Nat.le_of_ble_eq_true rfl) rfl rfl ?_
          refine g_iinc (lv' := [some (.ref (aM 0)), some (.int x1), some (.int x2), some (.int 0), some (.int (x4 + 1))]) F (x4 + 1) dX10_laysFresh_75 rfl rfl rfl rfl ?_
          refine g_goto F 45 dX10_laysFresh_78 (by decide) ?_
          exact ih 0 (x4 + 1) hf
        · replace hf := gi_f hc_1 hf
          refine g_iconst F 1 dX10_laysFresh_69 rfl ?_
          refine g_goto F 74 dX10_laysFresh_70 (by decide) ?_
          refine g_istore_n (lv' := [some (.ref (aM 0)), some (.int x1), some (.int x2), some (.int 1), some (.int x4)]) F dX10_laysFresh_74 (Nat.le_of_ble_eq_true rfl) rfl rfl ?_
          refine g_iinc (lv' := [some (.ref (aM 0)), some (.int x1), some (.int x2), some (.int 1), some (.int (x4 + 1))]) F (x4 + 1) dX10_laysFresh_75 rfl rfl rfl rfl ?_
          refine g_goto F 45 dX10_laysFresh_78 (by decide) ?_
          exact ih 1 (x4 + 1) hf
set_option maxHeartbeats 4000000 in
set_option maxRecDepth 100000 in
theorem ktX10_laysFresh_L7 {p : Program} {l : Launch} {e : Env} {s : State} {m : MethodId} {args : Array Value} {below : List Frame} {meth : Method} {c : Code} {E : gE} {A : Nat → Prop} (F : gFx p s m args meth c RX10 wsX10_laysFresh cX10_laysFresh 5 none vwCl E A) (aM anow aaside anames anamesAside atext aspelled acost afewestFrom afirst afresh aways aundo aslots aisSaved : Nat → Nat) (M_many : Int32) (now : (Nat → Int32)) (spelled : (Nat → Int32)) (first : (Nat → Int32)) (M_thrown : Int32) (M_length : Int32) (M_textSize : Int32) (M_start : Int32) (M_next : Int32) (M_token : Int32) (M_value : Int32) (M_error : Int32) (M_errorAt : Int32) (M_number : Int32) (M_undos : Int32) (M_freshMany' : Int32) (fresh' : (Nat → Int32)) {k : Int32 → (Nat → Int32) → Option (Int32 × (Nat → Int32))} (hk : ∀ (M_freshMany : Int32) (fresh : (Nat → Int32)), k M_freshMany fresh = some (M_freshMany', fresh') → Gj p l e rmX10_laysFresh s m args below meth c 0 0 (MQ below (gQ vwCl E A (fun v w => v = none ∧ w = [sModel E aM anow aaside anames anamesAside atext aspelled acost afewestFrom afirst afresh aways aundo aslots aisSaved M_thrown M_length M_textSize M_start M_next M_token M_value M_error M_errorAt M_number M_many M_freshMany' M_undos, sArrI E anow 365 now, sArrI E aspelled 12 spelled, sArrI E afirst 13 first, sArrI E afresh 12 fresh'])) args s 0 0 A) vwCl E A [sModel E aM anow aaside anames anamesAside atext aspelled acost afewestFrom afirst afresh aways aundo aslots aisSaved M_thrown M_length M_textSize M_start M_next M_token M_value M_error M_errorAt M_number M_many M_freshMany M_undos, sArrI E anow 365 now, sArrI E aspelled 12 spelled, sArrI E afirst 13 first, sArrI E afresh 12 fresh] [none, none, none, none, none] [] 117) : ∀ (n : Nat) (x1 : Int32) (M_freshMany : Int32) (fresh : (Nat → Int32)), fX10_laysFresh_L7 M_many now spelled first k n x1 M_freshMany fresh = some (M_freshMany', fresh') → Gj p l e rmX10_laysFresh s m args below meth c 0 0 (MQ below (gQ vwCl E A (fun v w => v = none ∧ w = [sModel E aM anow aaside anames anamesAside atext aspelled acost afewestFrom afirst afresh aways aundo aslots aisSaved M_thrown M_length M_textSize M_start M_next M_token M_value M_error M_errorAt M_number M_many M_freshMany' M_undos, sArrI E anow 365 now, sArrI E aspelled 12 spelled, sArrI E afirst 13 first, sArrI E afresh 12 fresh'])) args s 0 0 A) vwCl E A [sModel E aM anow aaside anames anamesAside atext aspelled acost afewestFrom afirst afresh aways aundo aslots aisSaved M_thrown M_length M_textSize M_start M_next M_token M_value M_error M_errorAt M_number M_many M_freshMany M_undos, sArrI E anow 365 now, sArrI E aspelled 12 spelled, sArrI E afirst 13 first, sArrI E afresh 12 fresh] [some (.ref (aM 0)), some (.int x1), none, none, none] [] 7
  | 0, _, _, _, hf => by cases hf
  | n + 1, x1, M_freshMany, fresh, hf => by
    have ih := ktX10_laysFresh_L7 F aM anow aaside anames anamesAside atext aspelled acost afewestFrom afirst afresh aways aundo aslots aisSaved M_many now spelled first M_thrown M_length M_textSize M_start M_next M_token M_value M_error M_errorAt M_number M_undos M_freshMany' fresh' hk n
    rw [fX10_laysFresh_L7] at hf
    refine g_iload_n F dX10_laysFresh_7 rfl ?_
    refine g_aload_n F dX10_laysFresh_8 rfl ?_
    refine g_get (C := RX10) (T := TX10) (N := 27) F 0 0 16 rfl rfl rfl iX10_laysFresh_X10 (by decide) (by decide +kernel) rfl dX10_laysFresh_9 ?_
    refine g_icmp_ge F 117 dX10_laysFresh_12 (by decide) (fun hc_3 => ?_) (fun hc_3 => ?_)
    · replace hf := gi_t hc_3 hf
      refine g_mask [false, false, true, true, true] rfl ?_
      exact hk M_freshMany fresh hf
    · replace hf := gi_f hc_3 hf
      refine g_aload_n F dX10_laysFresh_15 rfl ?_
      refine g_iload_n F dX10_laysFresh_16 rfl ?_
      refine g_aload_n F dX10_laysFresh_17 rfl ?_
      refine g_get (C := RX10) (T := TX10) (N := 27) F 0 0 19 rfl rfl rfl iX10_laysFresh_X10 (by decide) (by decide +kernel) rfl dX10_laysFresh_18 ?_
      refine g_iload_n F dX10_laysFresh_21 rfl ?_
      obtain ⟨hb_1, hf⟩ := gb_in hf
      refine g_iald F 3 0 (x1.toNatClampNeg) rfl rfl rfl hb_1 dX10_laysFresh_22 ?_
      obtain ⟨r_1, hg_1, hf⟩ := gb1_el hf
      refine g_callV (C := RX10) (T := TX10) (N := 27) (Lr := [sArrI E anow 365 now, sArrI E afirst 13 first, sArrI E afresh 12 fresh]) (As := [.int x1, .int (first (x1.toNatClampNeg))]) (rest := []) F 0 0 2 (ctX10_code l E aM anow aaside anames anamesAside atext aspelled acost afewestFrom afirst afresh aways aundo aslots aisSaved x1 (first (x1.toNatClampNeg)) M_thrown M_length M_textSize M_start M_next M_token M_value M_error M_errorAt M_number M_many M_freshMany M_undos spelled r_1 hg_1) gX10_laysFresh_X10_code rfl rfl rfl h0X10_code ⟨Nat.le_of_ble_eq_true rfl, Nat.le_of_ble_eq_true rfl⟩ rfl rfl rfl [0, 2] [1, 3, 4] rfl rfl rfl rfl rfl rfl (Nat.le_of_ble_eq_true rfl) dX10_laysFresh_23 ⟨Nat.le_of_ble_eq_true rfl, Nat.le_of_ble_eq_true rfl⟩ ?_
      rintro v w ⟨rfl, rfl⟩
      refine g_norm (Lw' := [sModel E aM anow aaside anames anamesAside atext aspelled acost afewestFrom afirst afresh aways aundo aslots aisSaved M_thrown M_length M_textSize M_start M_next M_token M_value M_error M_errorAt M_number M_many M_freshMany M_undos, sArrI E anow 365 now, sArrI E aspelled 12 spelled, sArrI E afirst 13 first, sArrI E afresh 12 fresh]) (st' := [.int r_1]) (pc' := 26) [0, 2, 1, 3, 4] rfl rfl rfl rfl ?_
      refine g_istore_n (lv' := [some (.ref (aM 0)), some (.int x1), some (.int r_1), none, none]) F dX10_laysFresh_26 (Nat.le_of_ble_eq_true rfl) rfl rfl ?_
      refine g_aload_n F dX10_laysFresh_27 rfl ?_
      refine g_iload_n F dX10_laysFresh_28 rfl ?_
      obtain ⟨r_2, hg_2, hf⟩ := gb1_el hf
      refine g_callV (C := RX10) (T := TX10) (N := 27) (Lr := [sArrI E aspelled 12 spelled, sArrI E afirst 13 first, sArrI E afresh 12 fresh]) (As := [.int r_1]) (rest := []) F 0 0 1 (ctX10_pieceOf l E aM anow aaside anames anamesAside atext aspelled acost afewestFrom afirst afresh aways aundo aslots aisSaved r_1 M_thrown M_length M_textSize M_start M_next M_token M_value M_error M_errorAt M_number M_many M_freshMany M_undos now r_2 hg_2) gX10_laysFresh_X10_pieceOf rfl rfl rfl h0X10_pieceOf ⟨Nat.le_of_ble_eq_true rfl, Nat.le_of_ble_eq_true rfl⟩ rfl rfl rfl [0, 1] [2, 3, 4] rfl rfl rfl rfl rfl rfl (Nat.le_of_ble_eq_true rfl) dX10_laysFresh_29 ⟨Nat.le_of_ble_eq_true rfl, Nat.le_of_ble_eq_true rfl⟩ ?_
      rintro v w ⟨rfl, rfl⟩
      refine g_norm (Lw' := [sModel E aM anow aaside anames anamesAside atext aspelled acost afewestFrom afirst afresh aways aundo aslots aisSaved M_thrown M_length M_textSize M_start M_next M_token M_value M_error M_errorAt M_number M_many M_freshMany M_undos, sArrI E anow 365 now, sArrI E aspelled 12 spelled, sArrI E afirst 13 first, sArrI E afresh 12 fresh]) (st' := [.int r_2]) (pc' := 32) [0, 1, 2, 3, 4] rfl rfl rfl rfl ?_
      refine g_iconst F (-1) dX10_laysFresh_32 rfl ?_
      obtain ⟨j_1, hj_1, hf⟩ := Lt_el hf
      have hj_1 : ∀ (t0_1 : Int32), j_1 t0_1 = some (M_freshMany', fresh') → Gj p l e rmX10_laysFresh s m args below meth c 0 0 (MQ below (gQ vwCl E A (fun v w => v = none ∧ w = [sModel E aM anow aaside anames anamesAside atext aspelled acost afewestFrom afirst afresh aways aundo aslots aisSaved M_thrown M_length M_textSize M_start M_next M_token M_value M_error M_errorAt M_number M_many M_freshMany' M_undos, sArrI E anow 365 now, sArrI E aspelled 12 spelled, sArrI E afirst 13 first, sArrI E afresh 12 fresh'])) args s 0 0 A) vwCl E A [sModel E aM anow aaside anames anamesAside atext aspelled acost afewestFrom afirst afresh aways aundo aslots aisSaved M_thrown M_length M_textSize M_start M_next M_token M_value M_error M_errorAt M_number M_many M_freshMany M_undos, sArrI E anow 365 now, sArrI E aspelled 12 spelled, sArrI E afirst 13 first, sArrI E afresh 12 fresh] [some (.ref (aM 0)), some (.int x1), some (.int r_1), none, none] [.int t0_1] 41 := by
        intro t0_1 hf
        rw [hj_1] at hf
        refine g_istore_n (lv' := [some (.ref (aM 0)), some (.int x1), some (.int r_1), some (.int t0_1), none]) F dX10_laysFresh_41 (Nat.le_of_ble_eq_true rfl) rfl rfl ?_
        refine g_iconst F 0 dX10_laysFresh_42 rfl ?_
        refine g_istore (lv' := [some (.ref (aM 0)), some (.int x1), some (.int r_1), some (.int t0_1), some (.int 0)]) F dX10_laysFresh_43 (Nat.le_of_ble_eq_true rfl) rfl rfl ?_
        refine ktX10_laysFresh_L45 F aM anow aaside anames anamesAside atext aspelled acost afewestFrom afirst afresh aways aundo aslots aisSaved x1 r_1 M_freshMany fresh M_thrown M_length M_textSize M_start M_next M_token M_value M_error M_errorAt M_number M_many M_undos now spelled first M_freshMany' fresh' (fun x3_1 hf => ?_) FU t0_1 0 hf
        refine g_iload_n F dX10_laysFresh_81 rfl ?_
        obtain ⟨j_2, hj_2, hf⟩ := Lt_el hf
        have hj_2 : ∀ (M_freshMany_1 : Int32) (fresh_1 : (Nat → Int32)), j_2 M_freshMany_1 fresh_1 = some (M_freshMany', fresh') → Gj p l e rmX10_laysFresh s m args below meth c 0 0 (MQ below (gQ vwCl E A (fun v w => v = none ∧ w = [sModel E aM anow aaside anames anamesAside atext aspelled acost afewestFrom afirst afresh aways aundo aslots aisSaved M_thrown M_length M_textSize M_start M_next M_token M_value M_error M_errorAt M_number M_many M_freshMany' M_undos, sArrI E anow 365 now, sArrI E aspelled 12 spelled, sArrI E afirst 13 first, sArrI E afresh 12 fresh'])) args s 0 0 A) vwCl E A [sModel E aM anow aaside anames anamesAside atext aspelled acost afewestFrom afirst afresh aways aundo aslots aisSaved M_thrown M_length M_textSize M_start M_next M_token M_value M_error M_errorAt M_number M_many M_freshMany_1 M_undos, sArrI E anow 365 now, sArrI E aspelled 12 spelled, sArrI E afirst 13 first, sArrI E afresh 12 fresh_1] [some (.ref (aM 0)), some (.int x1), none, none, none] [] 105 := by
          intro M_freshMany_1 fresh_1 hf
          rw [hj_2] at hf
          refine g_iload_n F dX10_laysFresh_105 rfl ?_
          refine g_aload_n F dX10_laysFresh_106 rfl ?_
          refine g_get (C := RX10) (T := TX10) (N := 27) F 0 0 19 rfl rfl rfl iX10_laysFresh_X10 (by decide) (by decide +kernel) rfl dX10_laysFresh_107 ?_
          refine g_iload_n F dX10_laysFresh_110 rfl ?_
          obtain ⟨hb_2, hf⟩ := gb_in hf
          refine g_iald F 3 0 (x1.toNatClampNeg) rfl rfl rfl hb_2 dX10_laysFresh_111 ?_
          refine g_iadd F dX10_laysFresh_112 ?_
          refine g_istore_n (lv' := [some (.ref (aM 0)), some (.int (x1 + (first (x1.toNatClampNeg)))), none, none, none]) F dX10_laysFresh_113 (Nat.le_of_ble_eq_true rfl) rfl rfl ?_
          refine g_goto F 7 dX10_laysFresh_114 (by decide) ?_
          exact ih (x1 + (first (x1.toNatClampNeg))) M_freshMany_1 fresh_1 hf
        refine g_ifeq F 105 dX10_laysFresh_82 (by decide) (fun hc_1 => ?_) (fun hc_1 => ?_)
        · replace hf := gi_t hc_1 hf
          refine g_mask [true, true, false, false, true] rfl ?_
          exact hj_2 M_freshMany fresh hf
        · replace hf := gi_f hc_1 hf
          refine g_aload_n F dX10_laysFresh_85 rfl ?_
          refine g_get (C := RX10) (T := TX10) (N := 27) F 0 0 20 rfl rfl rfl iX10_laysFresh_X10 (by decide) (by decide +kernel) rfl dX10_laysFresh_86 ?_
          refine g_aload_n F dX10_laysFresh_89 rfl ?_
          refine g_get (C := RX10) (T := TX10) (N := 27) F 0 0 21 rfl rfl rfl iX10_laysFresh_X10 (by decide) (by decide +kernel) rfl dX10_laysFresh_90 ?_
          refine g_iload_n F dX10_laysFresh_93 rfl ?_
          obtain ⟨hb_3, hf⟩ := gb_in hf
          obtain ⟨fresh_2, hfresh_2, hf⟩ := Lt_el hf
          refine g_iast (Lw' := [sModel E aM anow aaside anames anamesAside atext aspelled acost afewestFrom afirst afresh aways aundo aslots aisSaved M_thrown M_length M_textSize M_start M_next M_token M_value M_error M_errorAt M_number M_many M_freshMany M_undos, sArrI E anow 365 now, sArrI E aspelled 12 spelled, sArrI E afirst 13 first, sArrI E afresh 12 fresh_2]) F 4 0 (M_freshMany.toNatClampNeg) rfl rfl rfl hb_3 dX10_laysFresh_94 (by subst hfresh_2; rfl) ?_
          refine g_aload_n F dX10_laysFresh_95 rfl ?_
          refine g_dup F dX10_laysFresh_96 rfl ?_
          refine g_get (C := RX10) (T := TX10) (N := 27) F 0 0 21 rfl rfl rfl iX10_laysFresh_X10 (by decide) (by decide +kernel) rfl dX10_laysFresh_97 ?_
          refine g_iconst F 1 dX10_laysFresh_100 rfl ?_
          refine g_iadd F dX10_laysFresh_101 ?_
          refine g_put (C := RX10) (T := TX10) (N := 27) (tys := tyX10) (Lw' := [sModel E aM anow aaside anames anamesAside atext aspelled acost afewestFrom afirst afresh aways aundo aslots aisSaved M_thrown M_length M_textSize M_start M_next M_token M_value M_error M_errorAt M_number M_many (M_freshMany + 1) M_undos, sArrI E anow 365 now, sArrI E aspelled 12 spelled, sArrI E afirst 13 first, sArrI E afresh 12 fresh_2]) F 0 0 21 rfl rfl rfl iX10_laysFresh_X10 tyX10_ok nmX10 (by decide) (by decide +kernel) rfl rfl rfl rfl (Nat.le_of_ble_eq_true rfl) dX10_laysFresh_102 rfl ?_
          refine g_mask [true, true, false, false, true] rfl ?_
          exact hj_2 (M_freshMany + 1) fresh_2 hf
      refine g_icmp_ne F 40 dX10_laysFresh_33 (by decide) (fun hc_2 => ?_) (fun hc_2 => ?_)
      · replace hf := gi_f hc_2 hf
        refine g_iconst F 0 dX10_laysFresh_40 rfl ?_
        exact hj_1 0 hf
      · replace hf := gi_t hc_2 hf
        refine g_iconst F 1 dX10_laysFresh_36 rfl ?_
        refine g_goto F 41 dX10_laysFresh_37 (by decide) ?_
        exact hj_1 1 hf
set_option maxHeartbeats 4000000 in
set_option maxRecDepth 100000 in
theorem ctX10_laysFresh (l : Launch) (E : gE) (aM anow aaside anames anamesAside atext aspelled acost afewestFrom afirst afresh aways aundo aslots aisSaved : Nat → Nat) (M_thrown : Int32) (M_length : Int32) (M_textSize : Int32) (M_start : Int32) (M_next : Int32) (M_token : Int32) (M_value : Int32) (M_error : Int32) (M_errorAt : Int32) (M_number : Int32) (M_many : Int32) (M_freshMany : Int32) (M_undos : Int32) (now : (Nat → Int32)) (spelled : (Nat → Int32)) (first : (Nat → Int32)) (fresh : (Nat → Int32)) (M_freshMany' : Int32) (fresh' : (Nat → Int32)) (hf : fX10_laysFresh M_many M_freshMany now spelled first fresh = some (M_freshMany', fresh')) : gMet l yX10_laysFresh wsX10_laysFresh rmX10_laysFresh vwCl E [.ref (aM 0)] [sModel E aM anow aaside anames anamesAside atext aspelled acost afewestFrom afirst afresh aways aundo aslots aisSaved M_thrown M_length M_textSize M_start M_next M_token M_value M_error M_errorAt M_number M_many M_freshMany M_undos, sArrI E anow 365 now, sArrI E aspelled 12 spelled, sArrI E afirst 13 first, sArrI E afresh 12 fresh] (fun v w => v = none ∧ w = [sModel E aM anow aaside anames anamesAside atext aspelled acost afewestFrom afirst afresh aways aundo aslots aisSaved M_thrown M_length M_textSize M_start M_next M_token M_value M_error M_errorAt M_number M_many M_freshMany' M_undos, sArrI E anow 365 now, sArrI E aspelled 12 spelled, sArrI E afirst 13 first, sArrI E afresh 12 fresh']) 0 0 := by
  refine g_entry [some (.ref (aM 0)), none, none, none, none] (by decide) rfl (Nat.le_of_ble_eq_true rfl) rfl ?_
  intro p e s m below meth c A F hnm
  unfold fX10_laysFresh at hf
  refine g_aload_n F dX10_laysFresh_0 rfl ?_
  refine g_iconst F 0 dX10_laysFresh_1 rfl ?_
  refine g_put (C := RX10) (T := TX10) (N := 27) (tys := tyX10) (Lw' := [sModel E aM anow aaside anames anamesAside atext aspelled acost afewestFrom afirst afresh aways aundo aslots aisSaved M_thrown M_length M_textSize M_start M_next M_token M_value M_error M_errorAt M_number M_many 0 M_undos, sArrI E anow 365 now, sArrI E aspelled 12 spelled, sArrI E afirst 13 first, sArrI E afresh 12 fresh]) F 0 0 21 rfl rfl rfl iX10_laysFresh_X10 tyX10_ok nmX10 (by decide) (by decide +kernel) rfl rfl rfl rfl (Nat.le_of_ble_eq_true rfl) dX10_laysFresh_2 rfl ?_
  refine g_iconst F 0 dX10_laysFresh_5 rfl ?_
  refine g_istore_n (lv' := [some (.ref (aM 0)), some (.int 0), none, none, none]) F dX10_laysFresh_6 (Nat.le_of_ble_eq_true rfl) rfl rfl ?_
  refine ktX10_laysFresh_L7 F aM anow aaside anames anamesAside atext aspelled acost afewestFrom afirst afresh aways aundo aslots aisSaved M_many now spelled first M_thrown M_length M_textSize M_start M_next M_token M_value M_error M_errorAt M_number M_undos M_freshMany' fresh' (fun M_freshMany_1 fresh_1 hf => ?_) FU 0 0 fresh hf
  cases hf
  exact g_vret F rfl ⟨rfl, rfl⟩ dX10_laysFresh_117
set_option maxHeartbeats 4000000 in
set_option maxRecDepth 100000 in
theorem ktX10_freshPrice_L4 {p : Program} {l : Launch} {e : Env} {s : State} {m : MethodId} {args : Array Value} {below : List Frame} {meth : Method} {c : Code} {E : gE} {A : Nat → Prop} (F : gFx p s m args meth c RX10 wsX10_freshPrice cX10_freshPrice 3 (some .int) vwCl E A) (aM anow aaside anames anamesAside atext aspelled acost afewestFrom afirst afresh aways aundo aslots aisSaved : Nat → Nat) (M_freshMany : Int32) (now : (Nat → Int32)) (fresh : (Nat → Int32)) (M_thrown : Int32) (M_length : Int32) (M_textSize : Int32) (M_start : Int32) (M_next : Int32) (M_token : Int32) (M_value : Int32) (M_error : Int32) (M_errorAt : Int32) (M_number : Int32) (M_many : Int32) (M_undos : Int32) (r : Int32) {k : Int32 → Option (Int32)} (hk : ∀ (x1 : Int32), k x1 = some r → Gj p l e rmX10_freshPrice s m args below meth c 0 0 (MQ below (gQ vwCl E A (fun v w => v = some (.int r) ∧ w = [sModel E aM anow aaside anames anamesAside atext aspelled acost afewestFrom afirst afresh aways aundo aslots aisSaved M_thrown M_length M_textSize M_start M_next M_token M_value M_error M_errorAt M_number M_many M_freshMany M_undos, sArrI E anow 365 now, sArrI E afresh 12 fresh])) args s 0 0 A) vwCl E A [sModel E aM anow aaside anames anamesAside atext aspelled acost afewestFrom afirst afresh aways aundo aslots aisSaved M_thrown M_length M_textSize M_start M_next M_token M_value M_error M_errorAt M_number M_many M_freshMany M_undos, sArrI E anow 365 now, sArrI E afresh 12 fresh] [none, some (.int x1), none] [] 31) : ∀ (n : Nat) (x1 : Int32) (x2 : Int32), fX10_freshPrice_L4 M_freshMany now fresh k n x1 x2 = some r → Gj p l e rmX10_freshPrice s m args below meth c 0 0 (MQ below (gQ vwCl E A (fun v w => v = some (.int r) ∧ w = [sModel E aM anow aaside anames anamesAside atext aspelled acost afewestFrom afirst afresh aways aundo aslots aisSaved M_thrown M_length M_textSize M_start M_next M_token M_value M_error M_errorAt M_number M_many M_freshMany M_undos, sArrI E anow 365 now, sArrI E afresh 12 fresh])) args s 0 0 A) vwCl E A [sModel E aM anow aaside anames anamesAside atext aspelled acost afewestFrom afirst afresh aways aundo aslots aisSaved M_thrown M_length M_textSize M_start M_next M_token M_value M_error M_errorAt M_number M_many M_freshMany M_undos, sArrI E anow 365 now, sArrI E afresh 12 fresh] [some (.ref (aM 0)), some (.int x1), some (.int x2)] [] 4
  | 0, _, _, hf => by cases hf
  | n + 1, x1, x2, hf => by
    have ih := ktX10_freshPrice_L4 F aM anow aaside anames anamesAside atext aspelled acost afewestFrom afirst afresh aways aundo aslots aisSaved M_freshMany now fresh M_thrown M_length M_textSize M_start M_next M_token M_value M_error M_errorAt M_number M_many M_undos r hk n
    rw [fX10_freshPrice_L4] at hf
    refine g_iload_n F dX10_freshPrice_4 rfl ?_
    refine g_aload_n F dX10_freshPrice_5 rfl ?_
    refine g_get (C := RX10) (T := TX10) (N := 27) F 0 0 21 rfl rfl rfl iX10_freshPrice_X10 (by decide) (by decide +kernel) rfl dX10_freshPrice_6 ?_
    refine g_icmp_ge F 31 dX10_freshPrice_9 (by decide) (fun hc_1 => ?_) (fun hc_1 => ?_)
    · replace hf := gi_t hc_1 hf
      refine g_mask [false, true, false] rfl ?_
      exact hk x1 hf
    · replace hf := gi_f hc_1 hf
      refine g_iload_n F dX10_freshPrice_12 rfl ?_
      refine g_aload_n F dX10_freshPrice_13 rfl ?_
      refine g_aload_n F dX10_freshPrice_14 rfl ?_
      refine g_get (C := RX10) (T := TX10) (N := 27) F 0 0 20 rfl rfl rfl iX10_freshPrice_X10 (by decide) (by decide +kernel) rfl dX10_freshPrice_15 ?_
      refine g_iload_n F dX10_freshPrice_18 rfl ?_
      obtain ⟨hb_1, hf⟩ := gb_in hf
      refine g_iald F 2 0 (x2.toNatClampNeg) rfl rfl rfl hb_1 dX10_freshPrice_19 ?_
      obtain ⟨r_1, hg_1, hf⟩ := gb1_el hf
      refine g_callV (C := RX10) (T := TX10) (N := 27) (Lr := [sArrI E afresh 12 fresh]) (As := [.int (fresh (x2.toNatClampNeg))]) (rest := [.int x1]) F 0 0 1 (ctX10_priceOf l E aM anow aaside anames anamesAside atext aspelled acost afewestFrom afirst afresh aways aundo aslots aisSaved (fresh (x2.toNatClampNeg)) M_thrown M_length M_textSize M_start M_next M_token M_value M_error M_errorAt M_number M_many M_freshMany M_undos now r_1 hg_1) gX10_freshPrice_X10_priceOf rfl rfl rfl h0X10_priceOf ⟨Nat.le_of_ble_eq_true rfl, Nat.le_of_ble_eq_true rfl⟩ rfl rfl rfl [0, 1] [2] rfl rfl rfl rfl rfl rfl (Nat.le_of_ble_eq_true rfl) dX10_freshPrice_20 ⟨Nat.le_of_ble_eq_true rfl, Nat.le_of_ble_eq_true rfl⟩ ?_
      rintro v w ⟨rfl, rfl⟩
      refine g_norm (Lw' := [sModel E aM anow aaside anames anamesAside atext aspelled acost afewestFrom afirst afresh aways aundo aslots aisSaved M_thrown M_length M_textSize M_start M_next M_token M_value M_error M_errorAt M_number M_many M_freshMany M_undos, sArrI E anow 365 now, sArrI E afresh 12 fresh]) (st' := [.int r_1, .int x1]) (pc' := 23) [0, 1, 2] rfl rfl rfl rfl ?_
      refine g_iadd F dX10_freshPrice_23 ?_
      refine g_istore_n (lv' := [some (.ref (aM 0)), some (.int (x1 + r_1)), some (.int x2)]) F dX10_freshPrice_24 (Nat.le_of_ble_eq_true rfl) rfl rfl ?_
      refine g_iinc (lv' := [some (.ref (aM 0)), some (.int (x1 + r_1)), some (.int (x2 + 1))]) F (x2 + 1) dX10_freshPrice_25 rfl rfl rfl rfl ?_
      refine g_goto F 4 dX10_freshPrice_28 (by decide) ?_
      exact ih (x1 + r_1) (x2 + 1) hf
set_option maxHeartbeats 4000000 in
set_option maxRecDepth 100000 in
theorem ctX10_freshPrice (l : Launch) (E : gE) (aM anow aaside anames anamesAside atext aspelled acost afewestFrom afirst afresh aways aundo aslots aisSaved : Nat → Nat) (M_thrown : Int32) (M_length : Int32) (M_textSize : Int32) (M_start : Int32) (M_next : Int32) (M_token : Int32) (M_value : Int32) (M_error : Int32) (M_errorAt : Int32) (M_number : Int32) (M_many : Int32) (M_freshMany : Int32) (M_undos : Int32) (now : (Nat → Int32)) (fresh : (Nat → Int32)) (r : Int32) (hf : fX10_freshPrice M_freshMany now fresh = some r) : gMet l yX10_freshPrice wsX10_freshPrice rmX10_freshPrice vwCl E [.ref (aM 0)] [sModel E aM anow aaside anames anamesAside atext aspelled acost afewestFrom afirst afresh aways aundo aslots aisSaved M_thrown M_length M_textSize M_start M_next M_token M_value M_error M_errorAt M_number M_many M_freshMany M_undos, sArrI E anow 365 now, sArrI E afresh 12 fresh] (fun v w => v = some (.int r) ∧ w = [sModel E aM anow aaside anames anamesAside atext aspelled acost afewestFrom afirst afresh aways aundo aslots aisSaved M_thrown M_length M_textSize M_start M_next M_token M_value M_error M_errorAt M_number M_many M_freshMany M_undos, sArrI E anow 365 now, sArrI E afresh 12 fresh]) 0 0 := by
  refine g_entry [some (.ref (aM 0)), none, none] (by decide) rfl (Nat.le_of_ble_eq_true rfl) rfl ?_
  intro p e s m below meth c A F hnm
  unfold fX10_freshPrice at hf
  refine g_iconst F 0 dX10_freshPrice_0 rfl ?_
  refine g_istore_n (lv' := [some (.ref (aM 0)), some (.int 0), none]) F dX10_freshPrice_1 (Nat.le_of_ble_eq_true rfl) rfl rfl ?_
  refine g_iconst F 0 dX10_freshPrice_2 rfl ?_
  refine g_istore_n (lv' := [some (.ref (aM 0)), some (.int 0), some (.int 0)]) F dX10_freshPrice_3 (Nat.le_of_ble_eq_true rfl) rfl rfl ?_
  refine ktX10_freshPrice_L4 F aM anow aaside anames anamesAside atext aspelled acost afewestFrom afirst afresh aways aundo aslots aisSaved M_freshMany now fresh M_thrown M_length M_textSize M_start M_next M_token M_value M_error M_errorAt M_number M_many M_undos r (fun x1_1 hf => ?_) FU 0 0 hf
  refine g_iload_n F dX10_freshPrice_31 rfl ?_
  cases hf
  exact g_iret F rfl ⟨rfl, rfl⟩ dX10_freshPrice_32
set_option maxHeartbeats 4000000 in
set_option maxRecDepth 100000 in
theorem ctX10_why (l : Launch) (E : gE) (aM anow aaside anames anamesAside atext aspelled acost afewestFrom afirst afresh aways aundo aslots aisSaved : Nat → Nat) (x1 : Int32) (M_thrown : Int32) (M_length : Int32) (M_textSize : Int32) (M_start : Int32) (M_next : Int32) (M_token : Int32) (M_value : Int32) (M_error : Int32) (M_errorAt : Int32) (M_number : Int32) (M_many : Int32) (M_freshMany : Int32) (M_undos : Int32) (now : (Nat → Int32)) (spelled : (Nat → Int32)) (fewestFrom : (Nat → Int32)) (first : (Nat → Int32)) (fresh : (Nat → Int32)) (r : Int32) (M_freshMany' : Int32) (fresh' : (Nat → Int32)) (hf : fX10_why x1 M_many M_freshMany now spelled fewestFrom first fresh = some (r, M_freshMany', fresh')) : gMet l yX10_why wsX10_why rmX10_why vwCl E [.ref (aM 0), .int x1] [sModel E aM anow aaside anames anamesAside atext aspelled acost afewestFrom afirst afresh aways aundo aslots aisSaved M_thrown M_length M_textSize M_start M_next M_token M_value M_error M_errorAt M_number M_many M_freshMany M_undos, sArrI E anow 365 now, sArrI E aspelled 12 spelled, sArrI E afewestFrom 13 fewestFrom, sArrI E afirst 13 first, sArrI E afresh 12 fresh] (fun v w => v = some (.int r) ∧ w = [sModel E aM anow aaside anames anamesAside atext aspelled acost afewestFrom afirst afresh aways aundo aslots aisSaved M_thrown M_length M_textSize M_start M_next M_token M_value M_error M_errorAt M_number M_many M_freshMany' M_undos, sArrI E anow 365 now, sArrI E aspelled 12 spelled, sArrI E afewestFrom 13 fewestFrom, sArrI E afirst 13 first, sArrI E afresh 12 fresh']) 0 0 := by
  refine g_entry [some (.ref (aM 0)), some (.int x1)] (by decide) rfl (Nat.le_of_ble_eq_true rfl) rfl ?_
  intro p e s m below meth c A F hnm
  unfold fX10_why at hf
  refine g_aload_n F dX10_why_0 rfl ?_
  obtain ⟨M_freshMany_1, fresh_1, hg_1, hf⟩ := gb2_el hf
  refine g_callV (C := RX10) (T := TX10) (N := 27) (Lr := [sArrI E afewestFrom 13 fewestFrom]) (As := []) (rest := []) F 0 0 0 (ctX10_laysFresh l E aM anow aaside anames anamesAside atext aspelled acost afewestFrom afirst afresh aways aundo aslots aisSaved M_thrown M_length M_textSize M_start M_next M_token M_value M_error M_errorAt M_number M_many M_freshMany M_undos now spelled first fresh M_freshMany_1 fresh_1 hg_1) gX10_why_X10_laysFresh rfl rfl rfl h0X10_laysFresh ⟨Nat.le_of_ble_eq_true rfl, Nat.le_of_ble_eq_true rfl⟩ rfl rfl rfl [0, 1, 2, 4, 5] [3] rfl rfl rfl rfl rfl rfl (Nat.le_of_ble_eq_true rfl) dX10_why_1 ⟨Nat.le_of_ble_eq_true rfl, Nat.le_of_ble_eq_true rfl⟩ ?_
  rintro v w ⟨rfl, rfl⟩
  refine g_norm (Lw' := [sModel E aM anow aaside anames anamesAside atext aspelled acost afewestFrom afirst afresh aways aundo aslots aisSaved M_thrown M_length M_textSize M_start M_next M_token M_value M_error M_errorAt M_number M_many M_freshMany_1 M_undos, sArrI E anow 365 now, sArrI E aspelled 12 spelled, sArrI E afewestFrom 13 fewestFrom, sArrI E afirst 13 first, sArrI E afresh 12 fresh_1]) (st' := []) (pc' := 4) [0, 1, 2, 5, 3, 4] rfl rfl rfl rfl ?_
  refine g_aload_n F dX10_why_4 rfl ?_
  refine g_get (C := RX10) (T := TX10) (N := 27) F 0 0 1 rfl rfl rfl iX10_why_X10 (by decide) (by decide +kernel) rfl dX10_why_5 ?_
  refine g_bipush F 10 dX10_why_8 rfl ?_
  refine g_iald F 1 0 10 (by decide) rfl rfl (by decide) dX10_why_10 ?_
  refine g_bipush F 16 dX10_why_11 rfl ?_
  refine g_icmp_ne F 18 dX10_why_13 (by decide) (fun hc_3 => ?_) (fun hc_3 => ?_)
  · replace hf := gi_f hc_3 hf
    refine g_aload_n F dX10_why_18 rfl ?_
    refine g_get (C := RX10) (T := TX10) (N := 27) F 0 0 1 rfl rfl rfl iX10_why_X10 (by decide) (by decide +kernel) rfl dX10_why_19 ?_
    refine g_bipush F 9 dX10_why_22 rfl ?_
    refine g_iald F 1 0 9 (by decide) rfl rfl (by decide) dX10_why_24 ?_
    refine g_aload_n F dX10_why_25 rfl ?_
    refine g_get (C := RX10) (T := TX10) (N := 27) F 0 0 21 rfl rfl rfl iX10_why_X10 (by decide) (by decide +kernel) rfl dX10_why_26 ?_
    refine g_iadd F dX10_why_29 ?_
    refine g_bipush F 24 dX10_why_30 rfl ?_
    refine g_icmp_le F 37 dX10_why_32 (by decide) (fun hc_2 => ?_) (fun hc_2 => ?_)
    · replace hf := gi_t hc_2 hf
      refine g_aload_n F dX10_why_37 rfl ?_
      refine g_get (C := RX10) (T := TX10) (N := 27) F 0 0 1 rfl rfl rfl iX10_why_X10 (by decide) (by decide +kernel) rfl dX10_why_38 ?_
      refine g_bipush F 17 dX10_why_41 rfl ?_
      refine g_iload_n F dX10_why_43 rfl ?_
      refine g_iadd F dX10_why_44 ?_
      obtain ⟨hb_1, hf⟩ := gb_in hf
      refine g_iald F 1 0 ((17 + x1).toNatClampNeg) rfl rfl rfl hb_1 dX10_why_45 ?_
      refine g_aload_n F dX10_why_46 rfl ?_
      obtain ⟨r_1, hg_2, hf⟩ := gb1_el hf
      refine g_callV (C := RX10) (T := TX10) (N := 27) (Lr := [sArrI E aspelled 12 spelled, sArrI E afewestFrom 13 fewestFrom, sArrI E afirst 13 first]) (As := []) (rest := [.int (now ((17 + x1).toNatClampNeg))]) F 0 0 0 (ctX10_freshPrice l E aM anow aaside anames anamesAside atext aspelled acost afewestFrom afirst afresh aways aundo aslots aisSaved M_thrown M_length M_textSize M_start M_next M_token M_value M_error M_errorAt M_number M_many M_freshMany_1 M_undos now fresh_1 r_1 hg_2) gX10_why_X10_freshPrice rfl rfl rfl h0X10_freshPrice ⟨Nat.le_of_ble_eq_true rfl, Nat.le_of_ble_eq_true rfl⟩ rfl rfl rfl [0, 1, 5] [2, 3, 4] rfl rfl rfl rfl rfl rfl (Nat.le_of_ble_eq_true rfl) dX10_why_47 ⟨Nat.le_of_ble_eq_true rfl, Nat.le_of_ble_eq_true rfl⟩ ?_
      rintro v w ⟨rfl, rfl⟩
      refine g_norm (Lw' := [sModel E aM anow aaside anames anamesAside atext aspelled acost afewestFrom afirst afresh aways aundo aslots aisSaved M_thrown M_length M_textSize M_start M_next M_token M_value M_error M_errorAt M_number M_many M_freshMany_1 M_undos, sArrI E anow 365 now, sArrI E aspelled 12 spelled, sArrI E afewestFrom 13 fewestFrom, sArrI E afirst 13 first, sArrI E afresh 12 fresh_1]) (st' := [.int r_1, .int (now ((17 + x1).toNatClampNeg))]) (pc' := 50) [0, 1, 3, 4, 5, 2] rfl rfl rfl rfl ?_
      refine g_aload_n F dX10_why_50 rfl ?_
      refine g_get (C := RX10) (T := TX10) (N := 27) F 0 0 1 rfl rfl rfl iX10_why_X10 (by decide) (by decide +kernel) rfl dX10_why_51 ?_
      refine g_iconst F 2 dX10_why_54 rfl ?_
      refine g_iald F 1 0 2 (by decide) rfl rfl (by decide) dX10_why_55 ?_
      refine g_aload_n F dX10_why_56 rfl ?_
      refine g_get (C := RX10) (T := TX10) (N := 27) F 0 0 18 rfl rfl rfl iX10_why_X10 (by decide) (by decide +kernel) rfl dX10_why_57 ?_
      refine g_iconst F 0 dX10_why_60 rfl ?_
      refine g_iald F 3 0 0 (by decide) rfl rfl (by decide) dX10_why_61 ?_
      refine g_imul F dX10_why_62 ?_
      refine g_iadd F dX10_why_63 ?_
      refine g_icmp_ge F 71 dX10_why_64 (by decide) (fun hc_1 => ?_) (fun hc_1 => ?_)
      · replace hf := gi_t hc_1 hf
        refine g_iconst F 0 dX10_why_71 rfl ?_
        cases hf
        exact g_iret F rfl ⟨rfl, rfl⟩ dX10_why_72
      · replace hf := gi_f hc_1 hf
        refine g_iconst F 4 dX10_why_67 rfl ?_
        refine g_goto F 72 dX10_why_68 (by decide) ?_
        cases hf
        exact g_iret F rfl ⟨rfl, rfl⟩ dX10_why_72
    · replace hf := gi_f hc_2 hf
      refine g_iconst F 3 dX10_why_35 rfl ?_
      cases hf
      exact g_iret F rfl ⟨rfl, rfl⟩ dX10_why_36
  · replace hf := gi_t hc_3 hf
    refine g_iconst F 2 dX10_why_16 rfl ?_
    cases hf
    exact g_iret F rfl ⟨rfl, rfl⟩ dX10_why_17
set_option maxHeartbeats 4000000 in
set_option maxRecDepth 100000 in
theorem ctX10_pays (l : Launch) (E : gE) (aM anow aaside anames anamesAside atext aspelled acost afewestFrom afirst afresh aways aundo aslots aisSaved : Nat → Nat) (x1 : Int32) (x2 : Int32) (x3 : Int32) (x4 : Int32) (M_thrown : Int32) (M_length : Int32) (M_textSize : Int32) (M_start : Int32) (M_next : Int32) (M_token : Int32) (M_value : Int32) (M_error : Int32) (M_errorAt : Int32) (M_number : Int32) (M_many : Int32) (M_freshMany : Int32) (M_undos : Int32) (now : (Nat → Int32)) (now' : (Nat → Int32)) (hf : fX10_pays x1 x2 x3 x4 now = some now') : gMet l yX10_pays wsX10_pays rmX10_pays vwCl E [.ref (aM 0), .int x1, .int x2, .int x3, .int x4] [sModel E aM anow aaside anames anamesAside atext aspelled acost afewestFrom afirst afresh aways aundo aslots aisSaved M_thrown M_length M_textSize M_start M_next M_token M_value M_error M_errorAt M_number M_many M_freshMany M_undos, sArrI E anow 365 now] (fun v w => v = none ∧ w = [sModel E aM anow aaside anames anamesAside atext aspelled acost afewestFrom afirst afresh aways aundo aslots aisSaved M_thrown M_length M_textSize M_start M_next M_token M_value M_error M_errorAt M_number M_many M_freshMany M_undos, sArrI E anow 365 now']) 0 0 := by
  refine g_entry [some (.ref (aM 0)), some (.int x1), some (.int x2), some (.int x3), some (.int x4)] (by decide) rfl (Nat.le_of_ble_eq_true rfl) rfl ?_
  intro p e s m below meth c A F hnm
  unfold fX10_pays at hf
  refine g_aload_n F dX10_pays_0 rfl ?_
  refine g_get (C := RX10) (T := TX10) (N := 27) F 0 0 1 rfl rfl rfl iX10_pays_X10 (by decide) (by decide +kernel) rfl dX10_pays_1 ?_
  refine g_bipush F 17 dX10_pays_4 rfl ?_
  refine g_iload_n F dX10_pays_6 rfl ?_
  refine g_iadd F dX10_pays_7 ?_
  refine g_dup2 F dX10_pays_8 rfl rfl ?_
  obtain ⟨hb_1, hf⟩ := gb_in hf
  refine g_iald F 1 0 ((17 + x1).toNatClampNeg) rfl rfl rfl hb_1 dX10_pays_9 ?_
  refine g_iload_n F dX10_pays_10 rfl ?_
  refine g_isub F dX10_pays_11 ?_
  obtain ⟨hb_2, hf⟩ := gb_in hf
  obtain ⟨now_1, hnow_1, hf⟩ := Lt_el hf
  refine g_iast (Lw' := [sModel E aM anow aaside anames anamesAside atext aspelled acost afewestFrom afirst afresh aways aundo aslots aisSaved M_thrown M_length M_textSize M_start M_next M_token M_value M_error M_errorAt M_number M_many M_freshMany M_undos, sArrI E anow 365 now_1]) F 1 0 ((17 + x1).toNatClampNeg) rfl rfl rfl hb_2 dX10_pays_12 (by subst hnow_1; rfl) ?_
  refine g_aload_n F dX10_pays_13 rfl ?_
  refine g_get (C := RX10) (T := TX10) (N := 27) F 0 0 1 rfl rfl rfl iX10_pays_X10 (by decide) (by decide +kernel) rfl dX10_pays_14 ?_
  refine g_iload_n F dX10_pays_17 rfl ?_
  refine g_dup2 F dX10_pays_18 rfl rfl ?_
  obtain ⟨hb_3, hf⟩ := gb_in hf
  refine g_iald F 1 0 (x3.toNatClampNeg) rfl rfl rfl hb_3 dX10_pays_19 ?_
  refine g_iload_n F dX10_pays_20 rfl ?_
  refine g_iadd F dX10_pays_21 ?_
  obtain ⟨hb_4, hf⟩ := gb_in hf
  obtain ⟨now_2, hnow_2, hf⟩ := Lt_el hf
  refine g_iast (Lw' := [sModel E aM anow aaside anames anamesAside atext aspelled acost afewestFrom afirst afresh aways aundo aslots aisSaved M_thrown M_length M_textSize M_start M_next M_token M_value M_error M_errorAt M_number M_many M_freshMany M_undos, sArrI E anow 365 now_2]) F 1 0 (x3.toNatClampNeg) rfl rfl rfl hb_4 dX10_pays_22 (by subst hnow_2; rfl) ?_
  refine g_aload_n F dX10_pays_23 rfl ?_
  refine g_get (C := RX10) (T := TX10) (N := 27) F 0 0 1 rfl rfl rfl iX10_pays_X10 (by decide) (by decide +kernel) rfl dX10_pays_24 ?_
  refine g_bipush F 11 dX10_pays_27 rfl ?_
  refine g_iload F dX10_pays_29 rfl ?_
  refine g_iadd F dX10_pays_31 ?_
  refine g_dup2 F dX10_pays_32 rfl rfl ?_
  obtain ⟨hb_5, hf⟩ := gb_in hf
  refine g_iald F 1 0 ((11 + x4).toNatClampNeg) rfl rfl rfl hb_5 dX10_pays_33 ?_
  refine g_iload_n F dX10_pays_34 rfl ?_
  refine g_iadd F dX10_pays_35 ?_
  obtain ⟨hb_6, hf⟩ := gb_in hf
  obtain ⟨now_3, hnow_3, hf⟩ := Lt_el hf
  refine g_iast (Lw' := [sModel E aM anow aaside anames anamesAside atext aspelled acost afewestFrom afirst afresh aways aundo aslots aisSaved M_thrown M_length M_textSize M_start M_next M_token M_value M_error M_errorAt M_number M_many M_freshMany M_undos, sArrI E anow 365 now_3]) F 1 0 ((11 + x4).toNatClampNeg) rfl rfl rfl hb_6 dX10_pays_36 (by subst hnow_3; rfl) ?_
  cases hf
  exact g_vret F rfl ⟨rfl, rfl⟩ dX10_pays_37
set_option maxHeartbeats 4000000 in
set_option maxRecDepth 100000 in
theorem ctX10_buys (l : Launch) (E : gE) (aM anow aaside anames anamesAside atext aspelled acost afewestFrom afirst afresh aways aundo aslots aisSaved : Nat → Nat) (x1 : Int32) (x2 : Int32) (M_thrown : Int32) (M_length : Int32) (M_textSize : Int32) (M_start : Int32) (M_next : Int32) (M_token : Int32) (M_value : Int32) (M_error : Int32) (M_errorAt : Int32) (M_number : Int32) (M_many : Int32) (M_freshMany : Int32) (M_undos : Int32) (now : (Nat → Int32)) (r : Int32) (now' : (Nat → Int32)) (hf : fX10_buys x1 x2 now = some (r, now')) : gMet l yX10_buys wsX10_buys rmX10_buys vwCl E [.ref (aM 0), .int x1, .int x2] [sModel E aM anow aaside anames anamesAside atext aspelled acost afewestFrom afirst afresh aways aundo aslots aisSaved M_thrown M_length M_textSize M_start M_next M_token M_value M_error M_errorAt M_number M_many M_freshMany M_undos, sArrI E anow 365 now] (fun v w => v = some (.int r) ∧ w = [sModel E aM anow aaside anames anamesAside atext aspelled acost afewestFrom afirst afresh aways aundo aslots aisSaved M_thrown M_length M_textSize M_start M_next M_token M_value M_error M_errorAt M_number M_many M_freshMany M_undos, sArrI E anow 365 now']) 0 0 := by
  refine g_entry [some (.ref (aM 0)), some (.int x1), some (.int x2), none] (by decide) rfl (Nat.le_of_ble_eq_true rfl) rfl ?_
  intro p e s m below meth c A F hnm
  unfold fX10_buys at hf
  refine g_aload_n F dX10_buys_0 rfl ?_
  refine g_iload_n F dX10_buys_1 rfl ?_
  obtain ⟨r_1, hg_1, hf⟩ := gb1_el hf
  refine g_callV (C := RX10) (T := TX10) (N := 27) (Lr := []) (As := [.int x1]) (rest := []) F 0 0 1 (ctX10_priceOf l E aM anow aaside anames anamesAside atext aspelled acost afewestFrom afirst afresh aways aundo aslots aisSaved x1 M_thrown M_length M_textSize M_start M_next M_token M_value M_error M_errorAt M_number M_many M_freshMany M_undos now r_1 hg_1) gX10_buys_X10_priceOf rfl rfl rfl h0X10_priceOf ⟨Nat.le_of_ble_eq_true rfl, Nat.le_of_ble_eq_true rfl⟩ rfl rfl rfl [0, 1] [] rfl rfl rfl rfl rfl rfl (Nat.le_of_ble_eq_true rfl) dX10_buys_2 ⟨Nat.le_of_ble_eq_true rfl, Nat.le_of_ble_eq_true rfl⟩ ?_
  rintro v w ⟨rfl, rfl⟩
  refine g_norm (Lw' := [sModel E aM anow aaside anames anamesAside atext aspelled acost afewestFrom afirst afresh aways aundo aslots aisSaved M_thrown M_length M_textSize M_start M_next M_token M_value M_error M_errorAt M_number M_many M_freshMany M_undos, sArrI E anow 365 now]) (st' := [.int r_1]) (pc' := 5) [0, 1] rfl rfl rfl rfl ?_
  refine g_istore_n (lv' := [some (.ref (aM 0)), some (.int x1), some (.int x2), some (.int r_1)]) F dX10_buys_5 (Nat.le_of_ble_eq_true rfl) rfl rfl ?_
  refine g_aload_n F dX10_buys_6 rfl ?_
  refine g_iload_n F dX10_buys_7 rfl ?_
  refine g_iload_n F dX10_buys_8 rfl ?_
  refine g_bipush F 7 dX10_buys_9 rfl ?_
  refine g_iconst F 0 dX10_buys_11 rfl ?_
  obtain ⟨now_1, hg_2, hf⟩ := gb1_el hf
  refine g_callV (C := RX10) (T := TX10) (N := 27) (Lr := []) (As := [.int x2, .int r_1, .int 7, .int 0]) (rest := []) F 0 0 4 (ctX10_pays l E aM anow aaside anames anamesAside atext aspelled acost afewestFrom afirst afresh aways aundo aslots aisSaved x2 r_1 7 0 M_thrown M_length M_textSize M_start M_next M_token M_value M_error M_errorAt M_number M_many M_freshMany M_undos now now_1 hg_2) gX10_buys_X10_pays rfl rfl rfl h0X10_pays ⟨Nat.le_of_ble_eq_true rfl, Nat.le_of_ble_eq_true rfl⟩ rfl rfl rfl [0, 1] [] rfl rfl rfl rfl rfl rfl (Nat.le_of_ble_eq_true rfl) dX10_buys_12 ⟨Nat.le_of_ble_eq_true rfl, Nat.le_of_ble_eq_true rfl⟩ ?_
  rintro v w ⟨rfl, rfl⟩
  refine g_norm (Lw' := [sModel E aM anow aaside anames anamesAside atext aspelled acost afewestFrom afirst afresh aways aundo aslots aisSaved M_thrown M_length M_textSize M_start M_next M_token M_value M_error M_errorAt M_number M_many M_freshMany M_undos, sArrI E anow 365 now_1]) (st' := []) (pc' := 15) [0, 1] rfl rfl rfl rfl ?_
  refine g_aload_n F dX10_buys_15 rfl ?_
  refine g_get (C := RX10) (T := TX10) (N := 27) F 0 0 1 rfl rfl rfl iX10_buys_X10 (by decide) (by decide +kernel) rfl dX10_buys_16 ?_
  refine g_bipush F 15 dX10_buys_19 rfl ?_
  refine g_dup2 F dX10_buys_21 rfl rfl ?_
  refine g_iald F 1 0 15 (by decide) rfl rfl (by decide) dX10_buys_22 ?_
  refine g_iconst F 1 dX10_buys_23 rfl ?_
  refine g_iadd F dX10_buys_24 ?_
  obtain ⟨now_2, hnow_2, hf⟩ := Lt_el hf
  refine g_iast (Lw' := [sModel E aM anow aaside anames anamesAside atext aspelled acost afewestFrom afirst afresh aways aundo aslots aisSaved M_thrown M_length M_textSize M_start M_next M_token M_value M_error M_errorAt M_number M_many M_freshMany M_undos, sArrI E anow 365 now_2]) F 1 0 15 (by decide) rfl rfl (by decide) dX10_buys_25 (by subst hnow_2; rfl) ?_
  refine g_aload_n F dX10_buys_26 rfl ?_
  refine g_iload_n F dX10_buys_27 rfl ?_
  refine g_iload_n F dX10_buys_28 rfl ?_
  refine g_iload_n F dX10_buys_29 rfl ?_
  obtain ⟨r_2, now_3, hg_3, hf⟩ := gb2_el hf
  refine g_callV (C := RX10) (T := TX10) (N := 27) (Lr := []) (As := [.int x1, .int r_1, .int x2]) (rest := []) F 0 0 3 (ctX10_comes l E aM anow aaside anames anamesAside atext aspelled acost afewestFrom afirst afresh aways aundo aslots aisSaved x1 r_1 x2 M_thrown M_length M_textSize M_start M_next M_token M_value M_error M_errorAt M_number M_many M_freshMany M_undos now_2 r_2 now_3 hg_3) gX10_buys_X10_comes rfl rfl rfl h0X10_comes ⟨Nat.le_of_ble_eq_true rfl, Nat.le_of_ble_eq_true rfl⟩ rfl rfl rfl [0, 1] [] rfl rfl rfl rfl rfl rfl (Nat.le_of_ble_eq_true rfl) dX10_buys_30 ⟨Nat.le_of_ble_eq_true rfl, Nat.le_of_ble_eq_true rfl⟩ ?_
  rintro v w ⟨rfl, rfl⟩
  refine g_norm (Lw' := [sModel E aM anow aaside anames anamesAside atext aspelled acost afewestFrom afirst afresh aways aundo aslots aisSaved M_thrown M_length M_textSize M_start M_next M_token M_value M_error M_errorAt M_number M_many M_freshMany M_undos, sArrI E anow 365 now_3]) (st' := [.int r_2]) (pc' := 33) [0, 1] rfl rfl rfl rfl ?_
  cases hf
  exact g_iret F rfl ⟨rfl, rfl⟩ dX10_buys_33
set_option maxHeartbeats 4000000 in
set_option maxRecDepth 100000 in
theorem ktX10_laysParts_L4 {p : Program} {l : Launch} {e : Env} {s : State} {m : MethodId} {args : Array Value} {below : List Frame} {meth : Method} {c : Code} {E : gE} {A : Nat → Prop} (F : gFx p s m args meth c RX10 wsX10_laysParts cX10_laysParts 4 (some .int) vwCl E A) (aM anow aaside anames anamesAside atext aspelled acost afewestFrom afirst afresh aways aundo aslots aisSaved : Nat → Nat) (x1 : Int32) (M_many : Int32) (spelled : (Nat → Int32)) (first : (Nat → Int32)) (M_thrown : Int32) (M_length : Int32) (M_textSize : Int32) (M_start : Int32) (M_next : Int32) (M_token : Int32) (M_value : Int32) (M_error : Int32) (M_errorAt : Int32) (M_number : Int32) (M_freshMany : Int32) (M_undos : Int32) (r : Int32) (now' : (Nat → Int32)) {k : Int32 → (Nat → Int32) → Option (Int32 × (Nat → Int32))} (hk : ∀ (x2 : Int32) (now : (Nat → Int32)), k x2 now = some (r, now') → Gj p l e rmX10_laysParts s m args below meth c 0 0 (MQ below (gQ vwCl E A (fun v w => v = some (.int r) ∧ w = [sModel E aM anow aaside anames anamesAside atext aspelled acost afewestFrom afirst afresh aways aundo aslots aisSaved M_thrown M_length M_textSize M_start M_next M_token M_value M_error M_errorAt M_number M_many M_freshMany M_undos, sArrI E anow 365 now', sArrI E aspelled 12 spelled, sArrI E afirst 13 first])) args s 0 0 A) vwCl E A [sModel E aM anow aaside anames anamesAside atext aspelled acost afewestFrom afirst afresh aways aundo aslots aisSaved M_thrown M_length M_textSize M_start M_next M_token M_value M_error M_errorAt M_number M_many M_freshMany M_undos, sArrI E anow 365 now, sArrI E aspelled 12 spelled, sArrI E afirst 13 first] [some (.ref (aM 0)), some (.int x1), some (.int x2), none] [] 52) : ∀ (n : Nat) (x2 : Int32) (x3 : Int32) (now : (Nat → Int32)), fX10_laysParts_L4 x1 M_many spelled first k n x2 x3 now = some (r, now') → Gj p l e rmX10_laysParts s m args below meth c 0 0 (MQ below (gQ vwCl E A (fun v w => v = some (.int r) ∧ w = [sModel E aM anow aaside anames anamesAside atext aspelled acost afewestFrom afirst afresh aways aundo aslots aisSaved M_thrown M_length M_textSize M_start M_next M_token M_value M_error M_errorAt M_number M_many M_freshMany M_undos, sArrI E anow 365 now', sArrI E aspelled 12 spelled, sArrI E afirst 13 first])) args s 0 0 A) vwCl E A [sModel E aM anow aaside anames anamesAside atext aspelled acost afewestFrom afirst afresh aways aundo aslots aisSaved M_thrown M_length M_textSize M_start M_next M_token M_value M_error M_errorAt M_number M_many M_freshMany M_undos, sArrI E anow 365 now, sArrI E aspelled 12 spelled, sArrI E afirst 13 first] [some (.ref (aM 0)), some (.int x1), some (.int x2), some (.int x3)] [] 4
  | 0, _, _, _, hf => by cases hf
  | n + 1, x2, x3, now, hf => by
    have ih := ktX10_laysParts_L4 F aM anow aaside anames anamesAside atext aspelled acost afewestFrom afirst afresh aways aundo aslots aisSaved x1 M_many spelled first M_thrown M_length M_textSize M_start M_next M_token M_value M_error M_errorAt M_number M_freshMany M_undos r now' hk n
    rw [fX10_laysParts_L4] at hf
    refine g_iload_n F dX10_laysParts_4 rfl ?_
    refine g_aload_n F dX10_laysParts_5 rfl ?_
    refine g_get (C := RX10) (T := TX10) (N := 27) F 0 0 16 rfl rfl rfl iX10_laysParts_X10 (by decide) (by decide +kernel) rfl dX10_laysParts_6 ?_
    refine g_icmp_ge F 52 dX10_laysParts_9 (by decide) (fun hc_1 => ?_) (fun hc_1 => ?_)
    · replace hf := gi_t hc_1 hf
      refine g_mask [true, true, true, false] rfl ?_
      exact hk x2 now hf
    · replace hf := gi_f hc_1 hf
      refine g_aload_n F dX10_laysParts_12 rfl ?_
      refine g_get (C := RX10) (T := TX10) (N := 27) F 0 0 1 rfl rfl rfl iX10_laysParts_X10 (by decide) (by decide +kernel) rfl dX10_laysParts_13 ?_
      refine g_iload_n F dX10_laysParts_16 rfl ?_
      refine g_iconst F 2 dX10_laysParts_17 rfl ?_
      refine g_iadd F dX10_laysParts_18 ?_
      refine g_iload_n F dX10_laysParts_19 rfl ?_
      refine g_iadd F dX10_laysParts_20 ?_
      refine g_aload_n F dX10_laysParts_21 rfl ?_
      refine g_aload_n F dX10_laysParts_22 rfl ?_
      refine g_iload_n F dX10_laysParts_23 rfl ?_
      refine g_aload_n F dX10_laysParts_24 rfl ?_
      refine g_get (C := RX10) (T := TX10) (N := 27) F 0 0 19 rfl rfl rfl iX10_laysParts_X10 (by decide) (by decide +kernel) rfl dX10_laysParts_25 ?_
      refine g_iload_n F dX10_laysParts_28 rfl ?_
      obtain ⟨hb_1, hf⟩ := gb_in hf
      refine g_iald F 3 0 (x3.toNatClampNeg) rfl rfl rfl hb_1 dX10_laysParts_29 ?_
      obtain ⟨r_1, hg_1, hf⟩ := gb1_el hf
      refine g_callV (C := RX10) (T := TX10) (N := 27) (Lr := [sArrI E anow 365 now, sArrI E afirst 13 first]) (As := [.int x3, .int (first (x3.toNatClampNeg))]) (rest := [.ref (aM 0), .int ((x1 + 2) + x2), .ref (anow 0)]) F 0 0 2 (ctX10_code l E aM anow aaside anames anamesAside atext aspelled acost afewestFrom afirst afresh aways aundo aslots aisSaved x3 (first (x3.toNatClampNeg)) M_thrown M_length M_textSize M_start M_next M_token M_value M_error M_errorAt M_number M_many M_freshMany M_undos spelled r_1 hg_1) gX10_laysParts_X10_code rfl rfl rfl h0X10_code ⟨Nat.le_of_ble_eq_true rfl, Nat.le_of_ble_eq_true rfl⟩ rfl rfl rfl [0, 2] [1, 3] rfl rfl rfl rfl rfl rfl (Nat.le_of_ble_eq_true rfl) dX10_laysParts_30 ⟨Nat.le_of_ble_eq_true rfl, Nat.le_of_ble_eq_true rfl⟩ ?_
      rintro v w ⟨rfl, rfl⟩
      refine g_norm (Lw' := [sModel E aM anow aaside anames anamesAside atext aspelled acost afewestFrom afirst afresh aways aundo aslots aisSaved M_thrown M_length M_textSize M_start M_next M_token M_value M_error M_errorAt M_number M_many M_freshMany M_undos, sArrI E anow 365 now, sArrI E aspelled 12 spelled, sArrI E afirst 13 first]) (st' := [.int r_1, .ref (aM 0), .int ((x1 + 2) + x2), .ref (anow 0)]) (pc' := 33) [0, 2, 1, 3] rfl rfl rfl rfl ?_
      obtain ⟨r_2, hg_2, hf⟩ := gb1_el hf
      refine g_callV (C := RX10) (T := TX10) (N := 27) (Lr := [sArrI E aspelled 12 spelled, sArrI E afirst 13 first]) (As := [.int r_1]) (rest := [.int ((x1 + 2) + x2), .ref (anow 0)]) F 0 0 1 (ctX10_pieceOf l E aM anow aaside anames anamesAside atext aspelled acost afewestFrom afirst afresh aways aundo aslots aisSaved r_1 M_thrown M_length M_textSize M_start M_next M_token M_value M_error M_errorAt M_number M_many M_freshMany M_undos now r_2 hg_2) gX10_laysParts_X10_pieceOf rfl rfl rfl h0X10_pieceOf ⟨Nat.le_of_ble_eq_true rfl, Nat.le_of_ble_eq_true rfl⟩ rfl rfl rfl [0, 1] [2, 3] rfl rfl rfl rfl rfl rfl (Nat.le_of_ble_eq_true rfl) dX10_laysParts_33 ⟨Nat.le_of_ble_eq_true rfl, Nat.le_of_ble_eq_true rfl⟩ ?_
      rintro v w ⟨rfl, rfl⟩
      refine g_norm (Lw' := [sModel E aM anow aaside anames anamesAside atext aspelled acost afewestFrom afirst afresh aways aundo aslots aisSaved M_thrown M_length M_textSize M_start M_next M_token M_value M_error M_errorAt M_number M_many M_freshMany M_undos, sArrI E anow 365 now, sArrI E aspelled 12 spelled, sArrI E afirst 13 first]) (st' := [.int r_2, .int ((x1 + 2) + x2), .ref (anow 0)]) (pc' := 36) [0, 1, 2, 3] rfl rfl rfl rfl ?_
      obtain ⟨hb_2, hf⟩ := gb_in hf
      obtain ⟨now_1, hnow_1, hf⟩ := Lt_el hf
      refine g_iast (Lw' := [sModel E aM anow aaside anames anamesAside atext aspelled acost afewestFrom afirst afresh aways aundo aslots aisSaved M_thrown M_length M_textSize M_start M_next M_token M_value M_error M_errorAt M_number M_many M_freshMany M_undos, sArrI E anow 365 now_1, sArrI E aspelled 12 spelled, sArrI E afirst 13 first]) F 1 0 (((x1 + 2) + x2).toNatClampNeg) rfl rfl rfl hb_2 dX10_laysParts_36 (by subst hnow_1; rfl) ?_
      refine g_iinc (lv' := [some (.ref (aM 0)), some (.int x1), some (.int (x2 + 1)), some (.int x3)]) F (x2 + 1) dX10_laysParts_37 rfl rfl rfl rfl ?_
      refine g_iload_n F dX10_laysParts_40 rfl ?_
      refine g_aload_n F dX10_laysParts_41 rfl ?_
      refine g_get (C := RX10) (T := TX10) (N := 27) F 0 0 19 rfl rfl rfl iX10_laysParts_X10 (by decide) (by decide +kernel) rfl dX10_laysParts_42 ?_
      refine g_iload_n F dX10_laysParts_45 rfl ?_
      obtain ⟨hb_3, hf⟩ := gb_in hf
      refine g_iald F 3 0 (x3.toNatClampNeg) rfl rfl rfl hb_3 dX10_laysParts_46 ?_
      refine g_iadd F dX10_laysParts_47 ?_
      refine g_istore_n (lv' := [some (.ref (aM 0)), some (.int x1), some (.int (x2 + 1)), some (.int (x3 + (first (x3.toNatClampNeg))))]) F dX10_laysParts_48 (Nat.le_of_ble_eq_true rfl) rfl rfl ?_
      refine g_goto F 4 dX10_laysParts_49 (by decide) ?_
      exact ih (x2 + 1) (x3 + (first (x3.toNatClampNeg))) now_1 hf
set_option maxHeartbeats 4000000 in
set_option maxRecDepth 100000 in
theorem ctX10_laysParts (l : Launch) (E : gE) (aM anow aaside anames anamesAside atext aspelled acost afewestFrom afirst afresh aways aundo aslots aisSaved : Nat → Nat) (x1 : Int32) (M_thrown : Int32) (M_length : Int32) (M_textSize : Int32) (M_start : Int32) (M_next : Int32) (M_token : Int32) (M_value : Int32) (M_error : Int32) (M_errorAt : Int32) (M_number : Int32) (M_many : Int32) (M_freshMany : Int32) (M_undos : Int32) (now : (Nat → Int32)) (spelled : (Nat → Int32)) (first : (Nat → Int32)) (r : Int32) (now' : (Nat → Int32)) (hf : fX10_laysParts x1 M_many now spelled first = some (r, now')) : gMet l yX10_laysParts wsX10_laysParts rmX10_laysParts vwCl E [.ref (aM 0), .int x1] [sModel E aM anow aaside anames anamesAside atext aspelled acost afewestFrom afirst afresh aways aundo aslots aisSaved M_thrown M_length M_textSize M_start M_next M_token M_value M_error M_errorAt M_number M_many M_freshMany M_undos, sArrI E anow 365 now, sArrI E aspelled 12 spelled, sArrI E afirst 13 first] (fun v w => v = some (.int r) ∧ w = [sModel E aM anow aaside anames anamesAside atext aspelled acost afewestFrom afirst afresh aways aundo aslots aisSaved M_thrown M_length M_textSize M_start M_next M_token M_value M_error M_errorAt M_number M_many M_freshMany M_undos, sArrI E anow 365 now', sArrI E aspelled 12 spelled, sArrI E afirst 13 first]) 0 0 := by
  refine g_entry [some (.ref (aM 0)), some (.int x1), none, none] (by decide) rfl (Nat.le_of_ble_eq_true rfl) rfl ?_
  intro p e s m below meth c A F hnm
  unfold fX10_laysParts at hf
  refine g_iconst F 0 dX10_laysParts_0 rfl ?_
  refine g_istore_n (lv' := [some (.ref (aM 0)), some (.int x1), some (.int 0), none]) F dX10_laysParts_1 (Nat.le_of_ble_eq_true rfl) rfl rfl ?_
  refine g_iconst F 0 dX10_laysParts_2 rfl ?_
  refine g_istore_n (lv' := [some (.ref (aM 0)), some (.int x1), some (.int 0), some (.int 0)]) F dX10_laysParts_3 (Nat.le_of_ble_eq_true rfl) rfl rfl ?_
  refine ktX10_laysParts_L4 F aM anow aaside anames anamesAside atext aspelled acost afewestFrom afirst afresh aways aundo aslots aisSaved x1 M_many spelled first M_thrown M_length M_textSize M_start M_next M_token M_value M_error M_errorAt M_number M_freshMany M_undos r now' (fun x2_1 now_1 hf => ?_) FU 0 0 now hf
  refine g_aload_n F dX10_laysParts_52 rfl ?_
  refine g_get (C := RX10) (T := TX10) (N := 27) F 0 0 1 rfl rfl rfl iX10_laysParts_X10 (by decide) (by decide +kernel) rfl dX10_laysParts_53 ?_
  refine g_iload_n F dX10_laysParts_56 rfl ?_
  refine g_iconst F 1 dX10_laysParts_57 rfl ?_
  refine g_iadd F dX10_laysParts_58 ?_
  refine g_iload_n F dX10_laysParts_59 rfl ?_
  obtain ⟨hb_1, hf⟩ := gb_in hf
  obtain ⟨now_2, hnow_2, hf⟩ := Lt_el hf
  refine g_iast (Lw' := [sModel E aM anow aaside anames anamesAside atext aspelled acost afewestFrom afirst afresh aways aundo aslots aisSaved M_thrown M_length M_textSize M_start M_next M_token M_value M_error M_errorAt M_number M_many M_freshMany M_undos, sArrI E anow 365 now_2, sArrI E aspelled 12 spelled, sArrI E afirst 13 first]) F 1 0 ((x1 + 1).toNatClampNeg) rfl rfl rfl hb_1 dX10_laysParts_60 (by subst hnow_2; rfl) ?_
  refine g_iload_n F dX10_laysParts_61 rfl ?_
  cases hf
  exact g_iret F rfl ⟨rfl, rfl⟩ dX10_laysParts_62
set_option maxHeartbeats 4000000 in
set_option maxRecDepth 100000 in
theorem ctX10_uses (l : Launch) (E : gE) (aM anow aaside anames anamesAside atext aspelled acost afewestFrom afirst afresh aways aundo aslots aisSaved : Nat → Nat) (x1 : Int32) (x2 : Int32) (M_thrown : Int32) (M_length : Int32) (M_textSize : Int32) (M_start : Int32) (M_next : Int32) (M_token : Int32) (M_value : Int32) (M_error : Int32) (M_errorAt : Int32) (M_number : Int32) (M_many : Int32) (M_freshMany : Int32) (M_undos : Int32) (now : (Nat → Int32)) (now' : (Nat → Int32)) (hf : fX10_uses x1 x2 now = some now') : gMet l yX10_uses wsX10_uses rmX10_uses vwCl E [.ref (aM 0), .int x1, .int x2] [sModel E aM anow aaside anames anamesAside atext aspelled acost afewestFrom afirst afresh aways aundo aslots aisSaved M_thrown M_length M_textSize M_start M_next M_token M_value M_error M_errorAt M_number M_many M_freshMany M_undos, sArrI E anow 365 now] (fun v w => v = none ∧ w = [sModel E aM anow aaside anames anamesAside atext aspelled acost afewestFrom afirst afresh aways aundo aslots aisSaved M_thrown M_length M_textSize M_start M_next M_token M_value M_error M_errorAt M_number M_many M_freshMany M_undos, sArrI E anow 365 now']) 0 0 := by
  refine g_entry [some (.ref (aM 0)), some (.int x1), some (.int x2)] (by decide) rfl (Nat.le_of_ble_eq_true rfl) rfl ?_
  intro p e s m below meth c A F hnm
  unfold fX10_uses at hf
  refine g_aload_n F dX10_uses_0 rfl ?_
  refine g_get (C := RX10) (T := TX10) (N := 27) F 0 0 1 rfl rfl rfl iX10_uses_X10 (by decide) (by decide +kernel) rfl dX10_uses_1 ?_
  refine g_bipush F 21 dX10_uses_4 rfl ?_
  refine g_iconst F 5 dX10_uses_6 rfl ?_
  refine g_iload_n F dX10_uses_7 rfl ?_
  refine g_imul F dX10_uses_8 ?_
  refine g_iadd F dX10_uses_9 ?_
  refine g_iconst F 3 dX10_uses_10 rfl ?_
  refine g_iadd F dX10_uses_11 ?_
  refine g_dup2 F dX10_uses_12 rfl rfl ?_
  obtain ⟨hb_1, hf⟩ := gb_in hf
  refine g_iald F 1 0 (((21 + (5 * x1)) + 3).toNatClampNeg) rfl rfl rfl hb_1 dX10_uses_13 ?_
  refine g_iload_n F dX10_uses_14 rfl ?_
  refine g_iadd F dX10_uses_15 ?_
  obtain ⟨hb_2, hf⟩ := gb_in hf
  obtain ⟨now_1, hnow_1, hf⟩ := Lt_el hf
  refine g_iast (Lw' := [sModel E aM anow aaside anames anamesAside atext aspelled acost afewestFrom afirst afresh aways aundo aslots aisSaved M_thrown M_length M_textSize M_start M_next M_token M_value M_error M_errorAt M_number M_many M_freshMany M_undos, sArrI E anow 365 now_1]) F 1 0 (((21 + (5 * x1)) + 3).toNatClampNeg) rfl rfl rfl hb_2 dX10_uses_16 (by subst hnow_1; rfl) ?_
  refine g_aload_n F dX10_uses_17 rfl ?_
  refine g_iload_n F dX10_uses_18 rfl ?_
  refine g_iconst F 3 dX10_uses_19 rfl ?_
  obtain ⟨r_1, hg_1, hf⟩ := gb1_el hf
  refine g_callV (C := RX10) (T := TX10) (N := 27) (Lr := []) (As := [.int x1, .int 3]) (rest := []) F 0 0 2 (ctX10_ofPiece l E aM anow aaside anames anamesAside atext aspelled acost afewestFrom afirst afresh aways aundo aslots aisSaved x1 3 M_thrown M_length M_textSize M_start M_next M_token M_value M_error M_errorAt M_number M_many M_freshMany M_undos now_1 r_1 hg_1) gX10_uses_X10_ofPiece rfl rfl rfl h0X10_ofPiece ⟨Nat.le_of_ble_eq_true rfl, Nat.le_of_ble_eq_true rfl⟩ rfl rfl rfl [0, 1] [] rfl rfl rfl rfl rfl rfl (Nat.le_of_ble_eq_true rfl) dX10_uses_20 ⟨Nat.le_of_ble_eq_true rfl, Nat.le_of_ble_eq_true rfl⟩ ?_
  rintro v w ⟨rfl, rfl⟩
  refine g_norm (Lw' := [sModel E aM anow aaside anames anamesAside atext aspelled acost afewestFrom afirst afresh aways aundo aslots aisSaved M_thrown M_length M_textSize M_start M_next M_token M_value M_error M_errorAt M_number M_many M_freshMany M_undos, sArrI E anow 365 now_1]) (st' := [.int r_1]) (pc' := 23) [0, 1] rfl rfl rfl rfl ?_
  refine g_ifne F 46 dX10_uses_23 (by decide) (fun hc_1 => ?_) (fun hc_1 => ?_)
  · replace hf := gi_f hc_1 hf
    cases hf
    exact g_vret F rfl ⟨rfl, rfl⟩ dX10_uses_46
  · replace hf := gi_t hc_1 hf
    refine g_aload_n F dX10_uses_26 rfl ?_
    refine g_get (C := RX10) (T := TX10) (N := 27) F 0 0 1 rfl rfl rfl iX10_uses_X10 (by decide) (by decide +kernel) rfl dX10_uses_27 ?_
    refine g_bipush F 21 dX10_uses_30 rfl ?_
    refine g_iconst F 5 dX10_uses_32 rfl ?_
    refine g_iload_n F dX10_uses_33 rfl ?_
    refine g_imul F dX10_uses_34 ?_
    refine g_iadd F dX10_uses_35 ?_
    refine g_iconst F 4 dX10_uses_36 rfl ?_
    refine g_iadd F dX10_uses_37 ?_
    refine g_aload_n F dX10_uses_38 rfl ?_
    refine g_get (C := RX10) (T := TX10) (N := 27) F 0 0 1 rfl rfl rfl iX10_uses_X10 (by decide) (by decide +kernel) rfl dX10_uses_39 ?_
    refine g_bipush F 6 dX10_uses_42 rfl ?_
    refine g_iald F 1 0 6 (by decide) rfl rfl (by decide) dX10_uses_44 ?_
    obtain ⟨hb_3, hf⟩ := gb_in hf
    obtain ⟨now_2, hnow_2, hf⟩ := Lt_el hf
    refine g_iast (Lw' := [sModel E aM anow aaside anames anamesAside atext aspelled acost afewestFrom afirst afresh aways aundo aslots aisSaved M_thrown M_length M_textSize M_start M_next M_token M_value M_error M_errorAt M_number M_many M_freshMany M_undos, sArrI E anow 365 now_2]) F 1 0 (((21 + (5 * x1)) + 4).toNatClampNeg) rfl rfl rfl hb_3 dX10_uses_45 (by subst hnow_2; rfl) ?_
    cases hf
    exact g_vret F rfl ⟨rfl, rfl⟩ dX10_uses_46
set_option maxHeartbeats 4000000 in
set_option maxRecDepth 100000 in
theorem ktX10_stores_L6 {p : Program} {l : Launch} {e : Env} {s : State} {m : MethodId} {args : Array Value} {below : List Frame} {meth : Method} {c : Code} {E : gE} {A : Nat → Prop} (F : gFx p s m args meth c RX10 wsX10_stores cX10_stores 6 (some .int) vwCl E A) (aM anow aaside anames anamesAside atext aspelled acost afewestFrom afirst afresh aways aundo aslots aisSaved : Nat → Nat) (x1 : Int32) (M_freshMany : Int32) (fresh : (Nat → Int32)) (M_thrown : Int32) (M_length : Int32) (M_textSize : Int32) (M_start : Int32) (M_next : Int32) (M_token : Int32) (M_value : Int32) (M_error : Int32) (M_errorAt : Int32) (M_number : Int32) (M_many : Int32) (M_undos : Int32) (spelled : (Nat → Int32)) (first : (Nat → Int32)) (r : Int32) (M_freshMany' : Int32) (now' : (Nat → Int32)) (fresh' : (Nat → Int32)) {k : (Nat → Int32) → Option (Int32 × Int32 × (Nat → Int32) × (Nat → Int32))} (hk : ∀ (now : (Nat → Int32)), k now = some (r, M_freshMany', now', fresh') → Gj p l e rmX10_stores s m args below meth c 0 0 (MQ below (gQ vwCl E A (fun v w => v = some (.int r) ∧ w = [sModel E aM anow aaside anames anamesAside atext aspelled acost afewestFrom afirst afresh aways aundo aslots aisSaved M_thrown M_length M_textSize M_start M_next M_token M_value M_error M_errorAt M_number M_many M_freshMany' M_undos, sArrI E anow 365 now', sArrI E aspelled 12 spelled, sArrI E afirst 13 first, sArrI E afresh 12 fresh'])) args s 0 0 A) vwCl E A [sModel E aM anow aaside anames anamesAside atext aspelled acost afewestFrom afirst afresh aways aundo aslots aisSaved M_thrown M_length M_textSize M_start M_next M_token M_value M_error M_errorAt M_number M_many M_freshMany M_undos, sArrI E anow 365 now, sArrI E aspelled 12 spelled, sArrI E afirst 13 first, sArrI E afresh 12 fresh] [some (.ref (aM 0)), some (.int x1), none, none, none, none] [] 32) : ∀ (n : Nat) (x2 : Int32) (now : (Nat → Int32)), fX10_stores_L6 x1 M_freshMany fresh k n x2 now = some (r, M_freshMany', now', fresh') → Gj p l e rmX10_stores s m args below meth c 0 0 (MQ below (gQ vwCl E A (fun v w => v = some (.int r) ∧ w = [sModel E aM anow aaside anames anamesAside atext aspelled acost afewestFrom afirst afresh aways aundo aslots aisSaved M_thrown M_length M_textSize M_start M_next M_token M_value M_error M_errorAt M_number M_many M_freshMany' M_undos, sArrI E anow 365 now', sArrI E aspelled 12 spelled, sArrI E afirst 13 first, sArrI E afresh 12 fresh'])) args s 0 0 A) vwCl E A [sModel E aM anow aaside anames anamesAside atext aspelled acost afewestFrom afirst afresh aways aundo aslots aisSaved M_thrown M_length M_textSize M_start M_next M_token M_value M_error M_errorAt M_number M_many M_freshMany M_undos, sArrI E anow 365 now, sArrI E aspelled 12 spelled, sArrI E afirst 13 first, sArrI E afresh 12 fresh] [some (.ref (aM 0)), some (.int x1), some (.int x2), none, none, none] [] 6
  | 0, _, _, hf => by cases hf
  | n + 1, x2, now, hf => by
    have ih := ktX10_stores_L6 F aM anow aaside anames anamesAside atext aspelled acost afewestFrom afirst afresh aways aundo aslots aisSaved x1 M_freshMany fresh M_thrown M_length M_textSize M_start M_next M_token M_value M_error M_errorAt M_number M_many M_undos spelled first r M_freshMany' now' fresh' hk n
    rw [fX10_stores_L6] at hf
    refine g_iload_n F dX10_stores_6 rfl ?_
    refine g_aload_n F dX10_stores_7 rfl ?_
    refine g_get (C := RX10) (T := TX10) (N := 27) F 0 0 21 rfl rfl rfl iX10_stores_X10 (by decide) (by decide +kernel) rfl dX10_stores_8 ?_
    refine g_icmp_ge F 32 dX10_stores_11 (by decide) (fun hc_1 => ?_) (fun hc_1 => ?_)
    · replace hf := gi_t hc_1 hf
      refine g_mask [true, true, false, true, true, true] rfl ?_
      exact hk now hf
    · replace hf := gi_f hc_1 hf
      refine g_aload_n F dX10_stores_14 rfl ?_
      refine g_aload_n F dX10_stores_15 rfl ?_
      refine g_get (C := RX10) (T := TX10) (N := 27) F 0 0 20 rfl rfl rfl iX10_stores_X10 (by decide) (by decide +kernel) rfl dX10_stores_16 ?_
      refine g_iload_n F dX10_stores_19 rfl ?_
      obtain ⟨hb_1, hf⟩ := gb_in hf
      refine g_iald F 4 0 (x2.toNatClampNeg) rfl rfl rfl hb_1 dX10_stores_20 ?_
      refine g_iload_n F dX10_stores_21 rfl ?_
      obtain ⟨r_1, now_1, hg_1, hf⟩ := gb2_el hf
      refine g_callV (C := RX10) (T := TX10) (N := 27) (Lr := [sArrI E aspelled 12 spelled, sArrI E afirst 13 first, sArrI E afresh 12 fresh]) (As := [.int (fresh (x2.toNatClampNeg)), .int x1]) (rest := []) F 0 0 2 (ctX10_buys l E aM anow aaside anames anamesAside atext aspelled acost afewestFrom afirst afresh aways aundo aslots aisSaved (fresh (x2.toNatClampNeg)) x1 M_thrown M_length M_textSize M_start M_next M_token M_value M_error M_errorAt M_number M_many M_freshMany M_undos now r_1 now_1 hg_1) gX10_stores_X10_buys rfl rfl rfl h0X10_buys ⟨Nat.le_of_ble_eq_true rfl, Nat.le_of_ble_eq_true rfl⟩ rfl rfl rfl [0, 1] [2, 3, 4] rfl rfl rfl rfl rfl rfl (Nat.le_of_ble_eq_true rfl) dX10_stores_22 ⟨Nat.le_of_ble_eq_true rfl, Nat.le_of_ble_eq_true rfl⟩ ?_
      rintro v w ⟨rfl, rfl⟩
      refine g_norm (Lw' := [sModel E aM anow aaside anames anamesAside atext aspelled acost afewestFrom afirst afresh aways aundo aslots aisSaved M_thrown M_length M_textSize M_start M_next M_token M_value M_error M_errorAt M_number M_many M_freshMany M_undos, sArrI E anow 365 now_1, sArrI E aspelled 12 spelled, sArrI E afirst 13 first, sArrI E afresh 12 fresh]) (st' := [.int r_1]) (pc' := 25) [0, 1, 2, 3, 4] rfl rfl rfl rfl ?_
      refine g_istore_n (lv' := [some (.ref (aM 0)), some (.int x1), some (.int x2), some (.int r_1), none, none]) F dX10_stores_25 (Nat.le_of_ble_eq_true rfl) rfl rfl ?_
      refine g_iinc (lv' := [some (.ref (aM 0)), some (.int x1), some (.int (x2 + 1)), some (.int r_1), none, none]) F (x2 + 1) dX10_stores_26 rfl rfl rfl rfl ?_
      refine g_goto F 6 dX10_stores_29 (by decide) ?_
      refine g_mask [true, true, true, false, true, true] rfl ?_
      exact ih (x2 + 1) now_1 hf
set_option maxHeartbeats 4000000 in
set_option maxRecDepth 100000 in
theorem ktX10_stores_L68 {p : Program} {l : Launch} {e : Env} {s : State} {m : MethodId} {args : Array Value} {below : List Frame} {meth : Method} {c : Code} {E : gE} {A : Nat → Prop} (F : gFx p s m args meth c RX10 wsX10_stores cX10_stores 6 (some .int) vwCl E A) (aM anow aaside anames anamesAside atext aspelled acost afewestFrom afirst afresh aways aundo aslots aisSaved : Nat → Nat) (x1 : Int32) (x2 : Int32) (x3 : Int32) (x4 : Int32) (M_thrown : Int32) (M_length : Int32) (M_textSize : Int32) (M_start : Int32) (M_next : Int32) (M_token : Int32) (M_value : Int32) (M_error : Int32) (M_errorAt : Int32) (M_number : Int32) (M_many : Int32) (M_freshMany : Int32) (M_undos : Int32) (spelled : (Nat → Int32)) (first : (Nat → Int32)) (fresh : (Nat → Int32)) (r : Int32) (M_freshMany' : Int32) (now' : (Nat → Int32)) (fresh' : (Nat → Int32)) {k : (Nat → Int32) → Option (Int32 × Int32 × (Nat → Int32) × (Nat → Int32))} (hk : ∀ (now : (Nat → Int32)), k now = some (r, M_freshMany', now', fresh') → Gj p l e rmX10_stores s m args below meth c 0 0 (MQ below (gQ vwCl E A (fun v w => v = some (.int r) ∧ w = [sModel E aM anow aaside anames anamesAside atext aspelled acost afewestFrom afirst afresh aways aundo aslots aisSaved M_thrown M_length M_textSize M_start M_next M_token M_value M_error M_errorAt M_number M_many M_freshMany' M_undos, sArrI E anow 365 now', sArrI E aspelled 12 spelled, sArrI E afirst 13 first, sArrI E afresh 12 fresh'])) args s 0 0 A) vwCl E A [sModel E aM anow aaside anames anamesAside atext aspelled acost afewestFrom afirst afresh aways aundo aslots aisSaved M_thrown M_length M_textSize M_start M_next M_token M_value M_error M_errorAt M_number M_many M_freshMany M_undos, sArrI E anow 365 now, sArrI E aspelled 12 spelled, sArrI E afirst 13 first, sArrI E afresh 12 fresh] [some (.ref (aM 0)), some (.int x1), some (.int x2), none, some (.int x4), none] [] 97) : ∀ (n : Nat) (x5 : Int32) (now : (Nat → Int32)), fX10_stores_L68 x1 x2 x3 x4 k n x5 now = some (r, M_freshMany', now', fresh') → Gj p l e rmX10_stores s m args below meth c 0 0 (MQ below (gQ vwCl E A (fun v w => v = some (.int r) ∧ w = [sModel E aM anow aaside anames anamesAside atext aspelled acost afewestFrom afirst afresh aways aundo aslots aisSaved M_thrown M_length M_textSize M_start M_next M_token M_value M_error M_errorAt M_number M_many M_freshMany' M_undos, sArrI E anow 365 now', sArrI E aspelled 12 spelled, sArrI E afirst 13 first, sArrI E afresh 12 fresh'])) args s 0 0 A) vwCl E A [sModel E aM anow aaside anames anamesAside atext aspelled acost afewestFrom afirst afresh aways aundo aslots aisSaved M_thrown M_length M_textSize M_start M_next M_token M_value M_error M_errorAt M_number M_many M_freshMany M_undos, sArrI E anow 365 now, sArrI E aspelled 12 spelled, sArrI E afirst 13 first, sArrI E afresh 12 fresh] [some (.ref (aM 0)), some (.int x1), some (.int x2), some (.int x3), some (.int x4), some (.int x5)] [] 68
  | 0, _, _, hf => by cases hf
  | n + 1, x5, now, hf => by
    have ih := ktX10_stores_L68 F aM anow aaside anames anamesAside atext aspelled acost afewestFrom afirst afresh aways aundo aslots aisSaved x1 x2 x3 x4 M_thrown M_length M_textSize M_start M_next M_token M_value M_error M_errorAt M_number M_many M_freshMany M_undos spelled first fresh r M_freshMany' now' fresh' hk n
    rw [fX10_stores_L68] at hf
    refine g_iload F dX10_stores_68 rfl ?_
    refine g_iload F dX10_stores_70 rfl ?_
    refine g_icmp_ge F 97 dX10_stores_72 (by decide) (fun hc_1 => ?_) (fun hc_1 => ?_)
    · replace hf := gi_t hc_1 hf
      refine g_mask [true, true, true, false, true, false] rfl ?_
      exact hk now hf
    · replace hf := gi_f hc_1 hf
      refine g_aload_n F dX10_stores_75 rfl ?_
      refine g_aload_n F dX10_stores_76 rfl ?_
      refine g_get (C := RX10) (T := TX10) (N := 27) F 0 0 1 rfl rfl rfl iX10_stores_X10 (by decide) (by decide +kernel) rfl dX10_stores_77 ?_
      refine g_iload_n F dX10_stores_80 rfl ?_
      refine g_iconst F 2 dX10_stores_81 rfl ?_
      refine g_iadd F dX10_stores_82 ?_
      refine g_iload F dX10_stores_83 rfl ?_
      refine g_iadd F dX10_stores_85 ?_
      obtain ⟨hb_1, hf⟩ := gb_in hf
      refine g_iald F 1 0 (((x3 + 2) + x5).toNatClampNeg) rfl rfl rfl hb_1 dX10_stores_86 ?_
      refine g_iconst F 1 dX10_stores_87 rfl ?_
      obtain ⟨now_1, hg_1, hf⟩ := gb1_el hf
      refine g_callV (C := RX10) (T := TX10) (N := 27) (Lr := [sArrI E aspelled 12 spelled, sArrI E afirst 13 first, sArrI E afresh 12 fresh]) (As := [.int (now (((x3 + 2) + x5).toNatClampNeg)), .int 1]) (rest := []) F 0 0 2 (ctX10_uses l E aM anow aaside anames anamesAside atext aspelled acost afewestFrom afirst afresh aways aundo aslots aisSaved (now (((x3 + 2) + x5).toNatClampNeg)) 1 M_thrown M_length M_textSize M_start M_next M_token M_value M_error M_errorAt M_number M_many M_freshMany M_undos now now_1 hg_1) gX10_stores_X10_uses rfl rfl rfl h0X10_uses ⟨Nat.le_of_ble_eq_true rfl, Nat.le_of_ble_eq_true rfl⟩ rfl rfl rfl [0, 1] [2, 3, 4] rfl rfl rfl rfl rfl rfl (Nat.le_of_ble_eq_true rfl) dX10_stores_88 ⟨Nat.le_of_ble_eq_true rfl, Nat.le_of_ble_eq_true rfl⟩ ?_
      rintro v w ⟨rfl, rfl⟩
      refine g_norm (Lw' := [sModel E aM anow aaside anames anamesAside atext aspelled acost afewestFrom afirst afresh aways aundo aslots aisSaved M_thrown M_length M_textSize M_start M_next M_token M_value M_error M_errorAt M_number M_many M_freshMany M_undos, sArrI E anow 365 now_1, sArrI E aspelled 12 spelled, sArrI E afirst 13 first, sArrI E afresh 12 fresh]) (st' := []) (pc' := 91) [0, 1, 2, 3, 4] rfl rfl rfl rfl ?_
      refine g_iinc (lv' := [some (.ref (aM 0)), some (.int x1), some (.int x2), some (.int x3), some (.int x4), some (.int (x5 + 1))]) F (x5 + 1) dX10_stores_91 rfl rfl rfl rfl ?_
      refine g_goto F 68 dX10_stores_94 (by decide) ?_
      exact ih (x5 + 1) now_1 hf
set_option maxHeartbeats 4000000 in
set_option maxRecDepth 100000 in
theorem ctX10_stores (l : Launch) (E : gE) (aM anow aaside anames anamesAside atext aspelled acost afewestFrom afirst afresh aways aundo aslots aisSaved : Nat → Nat) (x1 : Int32) (M_thrown : Int32) (M_length : Int32) (M_textSize : Int32) (M_start : Int32) (M_next : Int32) (M_token : Int32) (M_value : Int32) (M_error : Int32) (M_errorAt : Int32) (M_number : Int32) (M_many : Int32) (M_freshMany : Int32) (M_undos : Int32) (now : (Nat → Int32)) (spelled : (Nat → Int32)) (first : (Nat → Int32)) (fresh : (Nat → Int32)) (r : Int32) (M_freshMany' : Int32) (now' : (Nat → Int32)) (fresh' : (Nat → Int32)) (hf : fX10_stores x1 M_many M_freshMany now spelled first fresh = some (r, M_freshMany', now', fresh')) : gMet l yX10_stores wsX10_stores rmX10_stores vwCl E [.ref (aM 0), .int x1] [sModel E aM anow aaside anames anamesAside atext aspelled acost afewestFrom afirst afresh aways aundo aslots aisSaved M_thrown M_length M_textSize M_start M_next M_token M_value M_error M_errorAt M_number M_many M_freshMany M_undos, sArrI E anow 365 now, sArrI E aspelled 12 spelled, sArrI E afirst 13 first, sArrI E afresh 12 fresh] (fun v w => v = some (.int r) ∧ w = [sModel E aM anow aaside anames anamesAside atext aspelled acost afewestFrom afirst afresh aways aundo aslots aisSaved M_thrown M_length M_textSize M_start M_next M_token M_value M_error M_errorAt M_number M_many M_freshMany' M_undos, sArrI E anow 365 now', sArrI E aspelled 12 spelled, sArrI E afirst 13 first, sArrI E afresh 12 fresh']) 0 0 := by
  refine g_entry [some (.ref (aM 0)), some (.int x1), none, none, none, none] (by decide) rfl (Nat.le_of_ble_eq_true rfl) rfl ?_
  intro p e s m below meth c A F hnm
  unfold fX10_stores at hf
  refine g_aload_n F dX10_stores_0 rfl ?_
  obtain ⟨M_freshMany_1, fresh_1, hg_1, hf⟩ := gb2_el hf
  refine g_callV (C := RX10) (T := TX10) (N := 27) (Lr := []) (As := []) (rest := []) F 0 0 0 (ctX10_laysFresh l E aM anow aaside anames anamesAside atext aspelled acost afewestFrom afirst afresh aways aundo aslots aisSaved M_thrown M_length M_textSize M_start M_next M_token M_value M_error M_errorAt M_number M_many M_freshMany M_undos now spelled first fresh M_freshMany_1 fresh_1 hg_1) gX10_stores_X10_laysFresh rfl rfl rfl h0X10_laysFresh ⟨Nat.le_of_ble_eq_true rfl, Nat.le_of_ble_eq_true rfl⟩ rfl rfl rfl [0, 1, 2, 3, 4] [] rfl rfl rfl rfl rfl rfl (Nat.le_of_ble_eq_true rfl) dX10_stores_1 ⟨Nat.le_of_ble_eq_true rfl, Nat.le_of_ble_eq_true rfl⟩ ?_
  rintro v w ⟨rfl, rfl⟩
  refine g_norm (Lw' := [sModel E aM anow aaside anames anamesAside atext aspelled acost afewestFrom afirst afresh aways aundo aslots aisSaved M_thrown M_length M_textSize M_start M_next M_token M_value M_error M_errorAt M_number M_many M_freshMany_1 M_undos, sArrI E anow 365 now, sArrI E aspelled 12 spelled, sArrI E afirst 13 first, sArrI E afresh 12 fresh_1]) (st' := []) (pc' := 4) [0, 1, 2, 3, 4] rfl rfl rfl rfl ?_
  refine g_iconst F 0 dX10_stores_4 rfl ?_
  refine g_istore_n (lv' := [some (.ref (aM 0)), some (.int x1), some (.int 0), none, none, none]) F dX10_stores_5 (Nat.le_of_ble_eq_true rfl) rfl rfl ?_
  refine ktX10_stores_L6 F aM anow aaside anames anamesAside atext aspelled acost afewestFrom afirst afresh aways aundo aslots aisSaved x1 M_freshMany_1 fresh_1 M_thrown M_length M_textSize M_start M_next M_token M_value M_error M_errorAt M_number M_many M_undos spelled first r M_freshMany' now' fresh' (fun now_1 hf => ?_) FU 0 now hf
  refine g_aload_n F dX10_stores_32 rfl ?_
  refine g_get (C := RX10) (T := TX10) (N := 27) F 0 0 1 rfl rfl rfl iX10_stores_X10 (by decide) (by decide +kernel) rfl dX10_stores_33 ?_
  refine g_bipush F 10 dX10_stores_36 rfl ?_
  refine g_iald F 1 0 10 (by decide) rfl rfl (by decide) dX10_stores_38 ?_
  refine g_istore_n (lv' := [some (.ref (aM 0)), some (.int x1), some (.int (now_1 10)), none, none, none]) F dX10_stores_39 (Nat.le_of_ble_eq_true rfl) rfl rfl ?_
  refine g_sipush F 141 dX10_stores_40 rfl ?_
  refine g_bipush F 14 dX10_stores_43 rfl ?_
  refine g_iload_n F dX10_stores_45 rfl ?_
  refine g_imul F dX10_stores_46 ?_
  refine g_iadd F dX10_stores_47 ?_
  refine g_istore_n (lv' := [some (.ref (aM 0)), some (.int x1), some (.int (now_1 10)), some (.int (141 + (14 * (now_1 10)))), none, none]) F dX10_stores_48 (Nat.le_of_ble_eq_true rfl) rfl rfl ?_
  refine g_aload_n F dX10_stores_49 rfl ?_
  refine g_get (C := RX10) (T := TX10) (N := 27) F 0 0 1 rfl rfl rfl iX10_stores_X10 (by decide) (by decide +kernel) rfl dX10_stores_50 ?_
  refine g_iload_n F dX10_stores_53 rfl ?_
  refine g_iconst F 0 dX10_stores_54 rfl ?_
  refine g_iadd F dX10_stores_55 ?_
  refine g_iload_n F dX10_stores_56 rfl ?_
  obtain ⟨hb_1, hf⟩ := gb_in hf
  obtain ⟨now_2, hnow_2, hf⟩ := Lt_el hf
  refine g_iast (Lw' := [sModel E aM anow aaside anames anamesAside atext aspelled acost afewestFrom afirst afresh aways aundo aslots aisSaved M_thrown M_length M_textSize M_start M_next M_token M_value M_error M_errorAt M_number M_many M_freshMany_1 M_undos, sArrI E anow 365 now_2, sArrI E aspelled 12 spelled, sArrI E afirst 13 first, sArrI E afresh 12 fresh_1]) F 1 0 (((141 + (14 * (now_1 10))) + 0).toNatClampNeg) rfl rfl rfl hb_1 dX10_stores_57 (by subst hnow_2; rfl) ?_
  refine g_aload_n F dX10_stores_58 rfl ?_
  refine g_iload_n F dX10_stores_59 rfl ?_
  obtain ⟨r_1, now_3, hg_2, hf⟩ := gb2_el hf
  refine g_callV (C := RX10) (T := TX10) (N := 27) (Lr := [sArrI E afresh 12 fresh_1]) (As := [.int (141 + (14 * (now_1 10)))]) (rest := []) F 0 0 1 (ctX10_laysParts l E aM anow aaside anames anamesAside atext aspelled acost afewestFrom afirst afresh aways aundo aslots aisSaved (141 + (14 * (now_1 10))) M_thrown M_length M_textSize M_start M_next M_token M_value M_error M_errorAt M_number M_many M_freshMany_1 M_undos now_2 spelled first r_1 now_3 hg_2) gX10_stores_X10_laysParts rfl rfl rfl h0X10_laysParts ⟨Nat.le_of_ble_eq_true rfl, Nat.le_of_ble_eq_true rfl⟩ rfl rfl rfl [0, 1, 2, 3] [4] rfl rfl rfl rfl rfl rfl (Nat.le_of_ble_eq_true rfl) dX10_stores_60 ⟨Nat.le_of_ble_eq_true rfl, Nat.le_of_ble_eq_true rfl⟩ ?_
  rintro v w ⟨rfl, rfl⟩
  refine g_norm (Lw' := [sModel E aM anow aaside anames anamesAside atext aspelled acost afewestFrom afirst afresh aways aundo aslots aisSaved M_thrown M_length M_textSize M_start M_next M_token M_value M_error M_errorAt M_number M_many M_freshMany_1 M_undos, sArrI E anow 365 now_3, sArrI E aspelled 12 spelled, sArrI E afirst 13 first, sArrI E afresh 12 fresh_1]) (st' := [.int r_1]) (pc' := 63) [0, 1, 2, 3, 4] rfl rfl rfl rfl ?_
  refine g_istore (lv' := [some (.ref (aM 0)), some (.int x1), some (.int (now_1 10)), some (.int (141 + (14 * (now_1 10)))), some (.int r_1), none]) F dX10_stores_63 (Nat.le_of_ble_eq_true rfl) rfl rfl ?_
  refine g_iconst F 0 dX10_stores_65 rfl ?_
  refine g_istore (lv' := [some (.ref (aM 0)), some (.int x1), some (.int (now_1 10)), some (.int (141 + (14 * (now_1 10)))), some (.int r_1), some (.int 0)]) F dX10_stores_66 (Nat.le_of_ble_eq_true rfl) rfl rfl ?_
  refine ktX10_stores_L68 F aM anow aaside anames anamesAside atext aspelled acost afewestFrom afirst afresh aways aundo aslots aisSaved x1 (now_1 10) (141 + (14 * (now_1 10))) r_1 M_thrown M_length M_textSize M_start M_next M_token M_value M_error M_errorAt M_number M_many M_freshMany_1 M_undos spelled first fresh_1 r M_freshMany' now' fresh' (fun now_4 hf => ?_) FU 0 now_3 hf
  refine g_aload_n F dX10_stores_97 rfl ?_
  refine g_iload_n F dX10_stores_98 rfl ?_
  refine g_aload_n F dX10_stores_99 rfl ?_
  refine g_get (C := RX10) (T := TX10) (N := 27) F 0 0 1 rfl rfl rfl iX10_stores_X10 (by decide) (by decide +kernel) rfl dX10_stores_100 ?_
  refine g_iconst F 2 dX10_stores_103 rfl ?_
  refine g_iald F 1 0 2 (by decide) rfl rfl (by decide) dX10_stores_104 ?_
  refine g_iload F dX10_stores_105 rfl ?_
  refine g_imul F dX10_stores_107 ?_
  refine g_bipush F 8 dX10_stores_108 rfl ?_
  refine g_iconst F 2 dX10_stores_110 rfl ?_
  obtain ⟨now_5, hg_3, hf⟩ := gb1_el hf
  refine g_callV (C := RX10) (T := TX10) (N := 27) (Lr := [sArrI E aspelled 12 spelled, sArrI E afirst 13 first, sArrI E afresh 12 fresh_1]) (As := [.int x1, .int ((now_4 2) * r_1), .int 8, .int 2]) (rest := []) F 0 0 4 (ctX10_pays l E aM anow aaside anames anamesAside atext aspelled acost afewestFrom afirst afresh aways aundo aslots aisSaved x1 ((now_4 2) * r_1) 8 2 M_thrown M_length M_textSize M_start M_next M_token M_value M_error M_errorAt M_number M_many M_freshMany_1 M_undos now_4 now_5 hg_3) gX10_stores_X10_pays rfl rfl rfl h0X10_pays ⟨Nat.le_of_ble_eq_true rfl, Nat.le_of_ble_eq_true rfl⟩ rfl rfl rfl [0, 1] [2, 3, 4] rfl rfl rfl rfl rfl rfl (Nat.le_of_ble_eq_true rfl) dX10_stores_111 ⟨Nat.le_of_ble_eq_true rfl, Nat.le_of_ble_eq_true rfl⟩ ?_
  rintro v w ⟨rfl, rfl⟩
  refine g_norm (Lw' := [sModel E aM anow aaside anames anamesAside atext aspelled acost afewestFrom afirst afresh aways aundo aslots aisSaved M_thrown M_length M_textSize M_start M_next M_token M_value M_error M_errorAt M_number M_many M_freshMany_1 M_undos, sArrI E anow 365 now_5, sArrI E aspelled 12 spelled, sArrI E afirst 13 first, sArrI E afresh 12 fresh_1]) (st' := []) (pc' := 114) [0, 1, 2, 3, 4] rfl rfl rfl rfl ?_
  refine g_aload_n F dX10_stores_114 rfl ?_
  refine g_get (C := RX10) (T := TX10) (N := 27) F 0 0 1 rfl rfl rfl iX10_stores_X10 (by decide) (by decide +kernel) rfl dX10_stores_115 ?_
  refine g_bipush F 10 dX10_stores_118 rfl ?_
  refine g_dup2 F dX10_stores_120 rfl rfl ?_
  refine g_iald F 1 0 10 (by decide) rfl rfl (by decide) dX10_stores_121 ?_
  refine g_iconst F 1 dX10_stores_122 rfl ?_
  refine g_iadd F dX10_stores_123 ?_
  obtain ⟨now_6, hnow_6, hf⟩ := Lt_el hf
  refine g_iast (Lw' := [sModel E aM anow aaside anames anamesAside atext aspelled acost afewestFrom afirst afresh aways aundo aslots aisSaved M_thrown M_length M_textSize M_start M_next M_token M_value M_error M_errorAt M_number M_many M_freshMany_1 M_undos, sArrI E anow 365 now_6, sArrI E aspelled 12 spelled, sArrI E afirst 13 first, sArrI E afresh 12 fresh_1]) F 1 0 10 (by decide) rfl rfl (by decide) dX10_stores_124 (by subst hnow_6; rfl) ?_
  refine g_iload_n F dX10_stores_125 rfl ?_
  cases hf
  exact g_iret F rfl ⟨rfl, rfl⟩ dX10_stores_126
set_option maxHeartbeats 4000000 in
set_option maxRecDepth 100000 in
theorem ctX10_wordLine (l : Launch) (E : gE) (aM anow aaside anames anamesAside atext aspelled acost afewestFrom afirst afresh aways aundo aslots aisSaved : Nat → Nat) (M_thrown : Int32) (M_length : Int32) (M_textSize : Int32) (M_start : Int32) (M_next : Int32) (M_token : Int32) (M_value : Int32) (M_error : Int32) (M_errorAt : Int32) (M_number : Int32) (M_many : Int32) (M_freshMany : Int32) (M_undos : Int32) (now : (Nat → Int32)) (names : (Nat → Int64)) (text : (Nat → Int32)) (spelled : (Nat → Int32)) (cost : (Nat → Int32)) (fewestFrom : (Nat → Int32)) (first : (Nat → Int32)) (fresh : (Nat → Int32)) (r : Int32) (M_start' : Int32) (M_next' : Int32) (M_token' : Int32) (M_value' : Int32) (M_error' : Int32) (M_errorAt' : Int32) (M_many' : Int32) (M_freshMany' : Int32) (now' : (Nat → Int32)) (spelled' : (Nat → Int32)) (cost' : (Nat → Int32)) (fewestFrom' : (Nat → Int32)) (first' : (Nat → Int32)) (fresh' : (Nat → Int32)) (hf : fX10_wordLine M_textSize M_start M_next M_token M_value M_error M_errorAt M_many M_freshMany now names text spelled cost fewestFrom first fresh = some (r, M_start', M_next', M_token', M_value', M_error', M_errorAt', M_many', M_freshMany', now', spelled', cost', fewestFrom', first', fresh')) : gMet l yX10_wordLine wsX10_wordLine rmX10_wordLine vwCl E [.ref (aM 0)] [sModel E aM anow aaside anames anamesAside atext aspelled acost afewestFrom afirst afresh aways aundo aslots aisSaved M_thrown M_length M_textSize M_start M_next M_token M_value M_error M_errorAt M_number M_many M_freshMany M_undos, sArrI E anow 365 now, sArrJ E anames 4 names, sArrB E atext 600 text, sArrI E aspelled 12 spelled, sArrI E acost 13 cost, sArrI E afewestFrom 13 fewestFrom, sArrI E afirst 13 first, sArrI E afresh 12 fresh] (fun v w => v = some (.int r) ∧ w = [sModel E aM anow aaside anames anamesAside atext aspelled acost afewestFrom afirst afresh aways aundo aslots aisSaved M_thrown M_length M_textSize M_start' M_next' M_token' M_value' M_error' M_errorAt' M_number M_many' M_freshMany' M_undos, sArrI E anow 365 now', sArrJ E anames 4 names, sArrB E atext 600 text, sArrI E aspelled 12 spelled', sArrI E acost 13 cost', sArrI E afewestFrom 13 fewestFrom', sArrI E afirst 13 first', sArrI E afresh 12 fresh'] ∧ narrow .boolean (.int r) = .int r) 0 0 := by
  refine g_entry [some (.ref (aM 0)), none] (by decide) rfl (Nat.le_of_ble_eq_true rfl) rfl ?_
  intro p e s m below meth c A F hnm
  unfold fX10_wordLine at hf
  refine g_aload_n F dX10_wordLine_0 rfl ?_
  refine g_iconst F 5 dX10_wordLine_1 rfl ?_
  refine g_aload_n F dX10_wordLine_2 rfl ?_
  refine g_get (C := RX10) (T := TX10) (N := 27) F 0 0 1 rfl rfl rfl iX10_wordLine_X10 (by decide) (by decide +kernel) rfl dX10_wordLine_3 ?_
  refine g_bipush F 10 dX10_wordLine_6 rfl ?_
  refine g_iald F 1 0 10 (by decide) rfl rfl (by decide) dX10_wordLine_8 ?_
  refine g_bipush F 16 dX10_wordLine_9 rfl ?_
  obtain ⟨j_1, hj_1, hf⟩ := Lt_el hf
  have hj_1 : ∀ (t0_1 : Int32), j_1 t0_1 = some (r, M_start', M_next', M_token', M_value', M_error', M_errorAt', M_many', M_freshMany', now', spelled', cost', fewestFrom', first', fresh') → Gj p l e rmX10_wordLine s m ([.ref (aM 0)] : List Value).toArray below meth c 0 0 (MQ below (gQ vwCl E A (fun v w => v = some (.int r) ∧ w = [sModel E aM anow aaside anames anamesAside atext aspelled acost afewestFrom afirst afresh aways aundo aslots aisSaved M_thrown M_length M_textSize M_start' M_next' M_token' M_value' M_error' M_errorAt' M_number M_many' M_freshMany' M_undos, sArrI E anow 365 now', sArrJ E anames 4 names, sArrB E atext 600 text, sArrI E aspelled 12 spelled', sArrI E acost 13 cost', sArrI E afewestFrom 13 fewestFrom', sArrI E afirst 13 first', sArrI E afresh 12 fresh'] ∧ narrow .boolean (.int r) = .int r)) ([.ref (aM 0)] : List Value).toArray s 0 0 A) vwCl E A [sModel E aM anow aaside anames anamesAside atext aspelled acost afewestFrom afirst afresh aways aundo aslots aisSaved M_thrown M_length M_textSize M_start M_next M_token M_value M_error M_errorAt M_number M_many M_freshMany M_undos, sArrI E anow 365 now, sArrJ E anames 4 names, sArrB E atext 600 text, sArrI E aspelled 12 spelled, sArrI E acost 13 cost, sArrI E afewestFrom 13 fewestFrom, sArrI E afirst 13 first, sArrI E afresh 12 fresh] [some (.ref (aM 0)), none] [.int t0_1, .int 5, .ref (aM 0)] 19 := by
    intro t0_1 hf
    rw [hj_1] at hf
    obtain ⟨r_1, M_start_1, M_next_1, M_token_1, M_value_1, M_error_1, M_errorAt_1, hg_1, hf⟩ := gb7_el hf
    refine g_callV (C := RX10) (T := TX10) (N := 27) (Lr := [sArrI E anow 365 now, sArrJ E anames 4 names, sArrI E aspelled 12 spelled, sArrI E acost 13 cost, sArrI E afewestFrom 13 fewestFrom, sArrI E afirst 13 first, sArrI E afresh 12 fresh]) (As := [.int 5, .int t0_1]) (rest := []) F 0 0 2 (ctX10_starts l E aM anow aaside anames anamesAside atext aspelled acost afewestFrom afirst afresh aways aundo aslots aisSaved 5 t0_1 M_thrown M_length M_textSize M_start M_next M_token M_value M_error M_errorAt M_number M_many M_freshMany M_undos text r_1 M_start_1 M_next_1 M_token_1 M_value_1 M_error_1 M_errorAt_1 hg_1) gX10_wordLine_X10_starts rfl rfl rfl h0X10_starts ⟨Nat.le_of_ble_eq_true rfl, Nat.le_of_ble_eq_true rfl⟩ rfl rfl rfl [0, 3] [1, 2, 4, 5, 6, 7, 8] rfl rfl rfl rfl rfl rfl (Nat.le_of_ble_eq_true rfl) dX10_wordLine_19 ⟨Nat.le_of_ble_eq_true rfl, Nat.le_of_ble_eq_true rfl⟩ ?_
    rintro v w ⟨rfl, rfl, hz_1⟩
    refine g_norm (Lw' := [sModel E aM anow aaside anames anamesAside atext aspelled acost afewestFrom afirst afresh aways aundo aslots aisSaved M_thrown M_length M_textSize M_start_1 M_next_1 M_token_1 M_value_1 M_error_1 M_errorAt_1 M_number M_many M_freshMany M_undos, sArrI E anow 365 now, sArrJ E anames 4 names, sArrB E atext 600 text, sArrI E aspelled 12 spelled, sArrI E acost 13 cost, sArrI E afewestFrom 13 fewestFrom, sArrI E afirst 13 first, sArrI E afresh 12 fresh]) (st' := [.int r_1]) (pc' := 22) [0, 2, 3, 1, 4, 5, 6, 7, 8] rfl rfl rfl rfl ?_
    refine g_ifeq F 32 dX10_wordLine_22 (by decide) (fun hc_7 => ?_) (fun hc_7 => ?_)
    · replace hf := gi_t hc_7 hf
      refine g_iconst F 0 dX10_wordLine_32 rfl ?_
      cases hf
      exact g_zret (ty := .boolean) F rfl rfl ⟨rfl, rfl, rfl⟩ dX10_wordLine_33
    · replace hf := gi_f hc_7 hf
      refine g_aload_n F dX10_wordLine_25 rfl ?_
      obtain ⟨r_2, M_error_2, M_errorAt_2, M_many_1, spelled_1, hg_2, hf⟩ := gb5_el hf
      refine g_callV (C := RX10) (T := TX10) (N := 27) (Lr := [sArrI E anow 365 now, sArrJ E anames 4 names, sArrI E acost 13 cost, sArrI E afewestFrom 13 fewestFrom, sArrI E afirst 13 first, sArrI E afresh 12 fresh]) (As := []) (rest := []) F 0 0 0 (ctX10_spells l E aM anow aaside anames anamesAside atext aspelled acost afewestFrom afirst afresh aways aundo aslots aisSaved M_thrown M_length M_textSize M_start_1 M_next_1 M_token_1 M_value_1 M_error_1 M_errorAt_1 M_number M_many M_freshMany M_undos text spelled r_2 M_error_2 M_errorAt_2 M_many_1 spelled_1 hg_2) gX10_wordLine_X10_spells rfl rfl rfl h0X10_spells ⟨Nat.le_of_ble_eq_true rfl, Nat.le_of_ble_eq_true rfl⟩ rfl rfl rfl [0, 3, 4] [1, 2, 5, 6, 7, 8] rfl rfl rfl rfl rfl rfl (Nat.le_of_ble_eq_true rfl) dX10_wordLine_26 ⟨Nat.le_of_ble_eq_true rfl, Nat.le_of_ble_eq_true rfl⟩ ?_
      rintro v w ⟨rfl, rfl, hz_2⟩
      refine g_norm (Lw' := [sModel E aM anow aaside anames anamesAside atext aspelled acost afewestFrom afirst afresh aways aundo aslots aisSaved M_thrown M_length M_textSize M_start_1 M_next_1 M_token_1 M_value_1 M_error_2 M_errorAt_2 M_number M_many_1 M_freshMany M_undos, sArrI E anow 365 now, sArrJ E anames 4 names, sArrB E atext 600 text, sArrI E aspelled 12 spelled_1, sArrI E acost 13 cost, sArrI E afewestFrom 13 fewestFrom, sArrI E afirst 13 first, sArrI E afresh 12 fresh]) (st' := [.int r_2]) (pc' := 29) [0, 3, 4, 1, 2, 5, 6, 7, 8] rfl rfl rfl rfl ?_
      refine g_ifne F 34 dX10_wordLine_29 (by decide) (fun hc_6 => ?_) (fun hc_6 => ?_)
      · replace hf := gi_f hc_6 hf
        refine g_aload_n F dX10_wordLine_34 rfl ?_
        obtain ⟨r_3, hg_3, hf⟩ := gb1_el hf
        refine g_callV (C := RX10) (T := TX10) (N := 27) (Lr := [sArrB E atext 600 text, sArrI E acost 13 cost, sArrI E afewestFrom 13 fewestFrom, sArrI E afirst 13 first, sArrI E afresh 12 fresh]) (As := []) (rest := []) F 0 0 0 (ctX10_userNamed l E aM anow aaside anames anamesAside atext aspelled acost afewestFrom afirst afresh aways aundo aslots aisSaved M_thrown M_length M_textSize M_start_1 M_next_1 M_token_1 M_value_1 M_error_2 M_errorAt_2 M_number M_many_1 M_freshMany M_undos now names spelled_1 r_3 hg_3) gX10_wordLine_X10_userNamed rfl rfl rfl h0X10_userNamed ⟨Nat.le_of_ble_eq_true rfl, Nat.le_of_ble_eq_true rfl⟩ rfl rfl rfl [0, 1, 2, 4] [3, 5, 6, 7, 8] rfl rfl rfl rfl rfl rfl (Nat.le_of_ble_eq_true rfl) dX10_wordLine_35 ⟨Nat.le_of_ble_eq_true rfl, Nat.le_of_ble_eq_true rfl⟩ ?_
        rintro v w ⟨rfl, rfl⟩
        refine g_norm (Lw' := [sModel E aM anow aaside anames anamesAside atext aspelled acost afewestFrom afirst afresh aways aundo aslots aisSaved M_thrown M_length M_textSize M_start_1 M_next_1 M_token_1 M_value_1 M_error_2 M_errorAt_2 M_number M_many_1 M_freshMany M_undos, sArrI E anow 365 now, sArrJ E anames 4 names, sArrB E atext 600 text, sArrI E aspelled 12 spelled_1, sArrI E acost 13 cost, sArrI E afewestFrom 13 fewestFrom, sArrI E afirst 13 first, sArrI E afresh 12 fresh]) (st' := [.int r_3]) (pc' := 38) [0, 1, 2, 4, 3, 5, 6, 7, 8] rfl rfl rfl rfl ?_
        refine g_istore_n (lv' := [some (.ref (aM 0)), some (.int r_3)]) F dX10_wordLine_38 (Nat.le_of_ble_eq_true rfl) rfl rfl ?_
        refine g_aload_n F dX10_wordLine_39 rfl ?_
        refine g_iconst F 4 dX10_wordLine_40 rfl ?_
        refine g_iload_n F dX10_wordLine_41 rfl ?_
        refine g_iconst F (-1) dX10_wordLine_42 rfl ?_
        obtain ⟨j_2, hj_2, hf⟩ := Lt_el hf
        have hj_2 : ∀ (t0_2 : Int32), j_2 t0_2 = some (r, M_start', M_next', M_token', M_value', M_error', M_errorAt', M_many', M_freshMany', now', spelled', cost', fewestFrom', first', fresh') → Gj p l e rmX10_wordLine s m ([.ref (aM 0)] : List Value).toArray below meth c 0 0 (MQ below (gQ vwCl E A (fun v w => v = some (.int r) ∧ w = [sModel E aM anow aaside anames anamesAside atext aspelled acost afewestFrom afirst afresh aways aundo aslots aisSaved M_thrown M_length M_textSize M_start' M_next' M_token' M_value' M_error' M_errorAt' M_number M_many' M_freshMany' M_undos, sArrI E anow 365 now', sArrJ E anames 4 names, sArrB E atext 600 text, sArrI E aspelled 12 spelled', sArrI E acost 13 cost', sArrI E afewestFrom 13 fewestFrom', sArrI E afirst 13 first', sArrI E afresh 12 fresh'] ∧ narrow .boolean (.int r) = .int r)) ([.ref (aM 0)] : List Value).toArray s 0 0 A) vwCl E A [sModel E aM anow aaside anames anamesAside atext aspelled acost afewestFrom afirst afresh aways aundo aslots aisSaved M_thrown M_length M_textSize M_start_1 M_next_1 M_token_1 M_value_1 M_error_2 M_errorAt_2 M_number M_many_1 M_freshMany M_undos, sArrI E anow 365 now, sArrJ E anames 4 names, sArrB E atext 600 text, sArrI E aspelled 12 spelled_1, sArrI E acost 13 cost, sArrI E afewestFrom 13 fewestFrom, sArrI E afirst 13 first, sArrI E afresh 12 fresh] [some (.ref (aM 0)), some (.int r_3)] [.int t0_2, .int 4, .ref (aM 0)] 51 := by
          intro t0_2 hf
          rw [hj_2] at hf
          obtain ⟨r_4, M_start_2, M_next_2, M_token_2, M_value_2, M_error_3, M_errorAt_3, hg_4, hf⟩ := gb7_el hf
          refine g_callV (C := RX10) (T := TX10) (N := 27) (Lr := [sArrI E anow 365 now, sArrJ E anames 4 names, sArrI E aspelled 12 spelled_1, sArrI E acost 13 cost, sArrI E afewestFrom 13 fewestFrom, sArrI E afirst 13 first, sArrI E afresh 12 fresh]) (As := [.int 4, .int t0_2]) (rest := []) F 0 0 2 (ctX10_starts l E aM anow aaside anames anamesAside atext aspelled acost afewestFrom afirst afresh aways aundo aslots aisSaved 4 t0_2 M_thrown M_length M_textSize M_start_1 M_next_1 M_token_1 M_value_1 M_error_2 M_errorAt_2 M_number M_many_1 M_freshMany M_undos text r_4 M_start_2 M_next_2 M_token_2 M_value_2 M_error_3 M_errorAt_3 hg_4) gX10_wordLine_X10_starts rfl rfl rfl h0X10_starts ⟨Nat.le_of_ble_eq_true rfl, Nat.le_of_ble_eq_true rfl⟩ rfl rfl rfl [0, 3] [1, 2, 4, 5, 6, 7, 8] rfl rfl rfl rfl rfl rfl (Nat.le_of_ble_eq_true rfl) dX10_wordLine_51 ⟨Nat.le_of_ble_eq_true rfl, Nat.le_of_ble_eq_true rfl⟩ ?_
          rintro v w ⟨rfl, rfl, hz_3⟩
          refine g_norm (Lw' := [sModel E aM anow aaside anames anamesAside atext aspelled acost afewestFrom afirst afresh aways aundo aslots aisSaved M_thrown M_length M_textSize M_start_2 M_next_2 M_token_2 M_value_2 M_error_3 M_errorAt_3 M_number M_many_1 M_freshMany M_undos, sArrI E anow 365 now, sArrJ E anames 4 names, sArrB E atext 600 text, sArrI E aspelled 12 spelled_1, sArrI E acost 13 cost, sArrI E afewestFrom 13 fewestFrom, sArrI E afirst 13 first, sArrI E afresh 12 fresh]) (st' := [.int r_4]) (pc' := 54) [0, 2, 3, 1, 4, 5, 6, 7, 8] rfl rfl rfl rfl ?_
          refine g_ifeq F 64 dX10_wordLine_54 (by decide) (fun hc_4 => ?_) (fun hc_4 => ?_)
          · replace hf := gi_t hc_4 hf
            refine g_iconst F 0 dX10_wordLine_64 rfl ?_
            cases hf
            exact g_zret (ty := .boolean) F rfl rfl ⟨rfl, rfl, rfl⟩ dX10_wordLine_65
          · replace hf := gi_f hc_4 hf
            refine g_aload_n F dX10_wordLine_57 rfl ?_
            obtain ⟨r_5, M_error_4, M_errorAt_4, M_many_2, spelled_2, hg_5, hf⟩ := gb5_el hf
            refine g_callV (C := RX10) (T := TX10) (N := 27) (Lr := [sArrI E anow 365 now, sArrJ E anames 4 names, sArrI E acost 13 cost, sArrI E afewestFrom 13 fewestFrom, sArrI E afirst 13 first, sArrI E afresh 12 fresh]) (As := []) (rest := []) F 0 0 0 (ctX10_spells l E aM anow aaside anames anamesAside atext aspelled acost afewestFrom afirst afresh aways aundo aslots aisSaved M_thrown M_length M_textSize M_start_2 M_next_2 M_token_2 M_value_2 M_error_3 M_errorAt_3 M_number M_many_1 M_freshMany M_undos text spelled_1 r_5 M_error_4 M_errorAt_4 M_many_2 spelled_2 hg_5) gX10_wordLine_X10_spells rfl rfl rfl h0X10_spells ⟨Nat.le_of_ble_eq_true rfl, Nat.le_of_ble_eq_true rfl⟩ rfl rfl rfl [0, 3, 4] [1, 2, 5, 6, 7, 8] rfl rfl rfl rfl rfl rfl (Nat.le_of_ble_eq_true rfl) dX10_wordLine_58 ⟨Nat.le_of_ble_eq_true rfl, Nat.le_of_ble_eq_true rfl⟩ ?_
            rintro v w ⟨rfl, rfl, hz_4⟩
            refine g_norm (Lw' := [sModel E aM anow aaside anames anamesAside atext aspelled acost afewestFrom afirst afresh aways aundo aslots aisSaved M_thrown M_length M_textSize M_start_2 M_next_2 M_token_2 M_value_2 M_error_4 M_errorAt_4 M_number M_many_2 M_freshMany M_undos, sArrI E anow 365 now, sArrJ E anames 4 names, sArrB E atext 600 text, sArrI E aspelled 12 spelled_2, sArrI E acost 13 cost, sArrI E afewestFrom 13 fewestFrom, sArrI E afirst 13 first, sArrI E afresh 12 fresh]) (st' := [.int r_5]) (pc' := 61) [0, 3, 4, 1, 2, 5, 6, 7, 8] rfl rfl rfl rfl ?_
            refine g_ifne F 66 dX10_wordLine_61 (by decide) (fun hc_3 => ?_) (fun hc_3 => ?_)
            · replace hf := gi_f hc_3 hf
              refine g_aload_n F dX10_wordLine_66 rfl ?_
              obtain ⟨cost_1, fewestFrom_1, first_1, hg_6, hf⟩ := gb3_el hf
              refine g_callV (C := RX10) (T := TX10) (N := 27) (Lr := [sArrJ E anames 4 names, sArrB E atext 600 text, sArrI E afresh 12 fresh]) (As := []) (rest := []) F 0 0 0 (ctX10_cutsCheapest l E aM anow aaside anames anamesAside atext aspelled acost afewestFrom afirst afresh aways aundo aslots aisSaved M_thrown M_length M_textSize M_start_2 M_next_2 M_token_2 M_value_2 M_error_4 M_errorAt_4 M_number M_many_2 M_freshMany M_undos now spelled_2 cost fewestFrom first cost_1 fewestFrom_1 first_1 hg_6) gX10_wordLine_X10_cutsCheapest rfl rfl rfl h0X10_cutsCheapest ⟨Nat.le_of_ble_eq_true rfl, Nat.le_of_ble_eq_true rfl⟩ rfl rfl rfl [0, 1, 4, 5, 6, 7] [2, 3, 8] rfl rfl rfl rfl rfl rfl (Nat.le_of_ble_eq_true rfl) dX10_wordLine_67 ⟨Nat.le_of_ble_eq_true rfl, Nat.le_of_ble_eq_true rfl⟩ ?_
              rintro v w ⟨rfl, rfl⟩
              refine g_norm (Lw' := [sModel E aM anow aaside anames anamesAside atext aspelled acost afewestFrom afirst afresh aways aundo aslots aisSaved M_thrown M_length M_textSize M_start_2 M_next_2 M_token_2 M_value_2 M_error_4 M_errorAt_4 M_number M_many_2 M_freshMany M_undos, sArrI E anow 365 now, sArrJ E anames 4 names, sArrB E atext 600 text, sArrI E aspelled 12 spelled_2, sArrI E acost 13 cost_1, sArrI E afewestFrom 13 fewestFrom_1, sArrI E afirst 13 first_1, sArrI E afresh 12 fresh]) (st' := []) (pc' := 70) [0, 1, 6, 7, 2, 3, 4, 5, 8] rfl rfl rfl rfl ?_
              refine g_aload_n F dX10_wordLine_70 rfl ?_
              refine g_bipush F 6 dX10_wordLine_71 rfl ?_
              refine g_aload_n F dX10_wordLine_73 rfl ?_
              refine g_iload_n F dX10_wordLine_74 rfl ?_
              obtain ⟨r_6, M_freshMany_1, fresh_1, hg_7, hf⟩ := gb3_el hf
              refine g_callV (C := RX10) (T := TX10) (N := 27) (Lr := [sArrJ E anames 4 names, sArrB E atext 600 text, sArrI E acost 13 cost_1]) (As := [.int r_3]) (rest := [.int 6, .ref (aM 0)]) F 0 0 1 (ctX10_why l E aM anow aaside anames anamesAside atext aspelled acost afewestFrom afirst afresh aways aundo aslots aisSaved r_3 M_thrown M_length M_textSize M_start_2 M_next_2 M_token_2 M_value_2 M_error_4 M_errorAt_4 M_number M_many_2 M_freshMany M_undos now spelled_2 fewestFrom_1 first_1 fresh r_6 M_freshMany_1 fresh_1 hg_7) gX10_wordLine_X10_why rfl rfl rfl h0X10_why ⟨Nat.le_of_ble_eq_true rfl, Nat.le_of_ble_eq_true rfl⟩ rfl rfl rfl [0, 1, 4, 6, 7, 8] [2, 3, 5] rfl rfl rfl rfl rfl rfl (Nat.le_of_ble_eq_true rfl) dX10_wordLine_75 ⟨Nat.le_of_ble_eq_true rfl, Nat.le_of_ble_eq_true rfl⟩ ?_
              rintro v w ⟨rfl, rfl⟩
              refine g_norm (Lw' := [sModel E aM anow aaside anames anamesAside atext aspelled acost afewestFrom afirst afresh aways aundo aslots aisSaved M_thrown M_length M_textSize M_start_2 M_next_2 M_token_2 M_value_2 M_error_4 M_errorAt_4 M_number M_many_2 M_freshMany_1 M_undos, sArrI E anow 365 now, sArrJ E anames 4 names, sArrB E atext 600 text, sArrI E aspelled 12 spelled_2, sArrI E acost 13 cost_1, sArrI E afewestFrom 13 fewestFrom_1, sArrI E afirst 13 first_1, sArrI E afresh 12 fresh_1]) (st' := [.int r_6, .int 6, .ref (aM 0)]) (pc' := 78) [0, 1, 6, 7, 2, 8, 3, 4, 5] rfl rfl rfl rfl ?_
              obtain ⟨j_3, hj_3, hf⟩ := Lt_el hf
              have hj_3 : ∀ (t0_3 : Int32), j_3 t0_3 = some (r, M_start', M_next', M_token', M_value', M_error', M_errorAt', M_many', M_freshMany', now', spelled', cost', fewestFrom', first', fresh') → Gj p l e rmX10_wordLine s m ([.ref (aM 0)] : List Value).toArray below meth c 0 0 (MQ below (gQ vwCl E A (fun v w => v = some (.int r) ∧ w = [sModel E aM anow aaside anames anamesAside atext aspelled acost afewestFrom afirst afresh aways aundo aslots aisSaved M_thrown M_length M_textSize M_start' M_next' M_token' M_value' M_error' M_errorAt' M_number M_many' M_freshMany' M_undos, sArrI E anow 365 now', sArrJ E anames 4 names, sArrB E atext 600 text, sArrI E aspelled 12 spelled', sArrI E acost 13 cost', sArrI E afewestFrom 13 fewestFrom', sArrI E afirst 13 first', sArrI E afresh 12 fresh'] ∧ narrow .boolean (.int r) = .int r)) ([.ref (aM 0)] : List Value).toArray s 0 0 A) vwCl E A [sModel E aM anow aaside anames anamesAside atext aspelled acost afewestFrom afirst afresh aways aundo aslots aisSaved M_thrown M_length M_textSize M_start_2 M_next_2 M_token_2 M_value_2 M_error_4 M_errorAt_4 M_number M_many_2 M_freshMany_1 M_undos, sArrI E anow 365 now, sArrJ E anames 4 names, sArrB E atext 600 text, sArrI E aspelled 12 spelled_2, sArrI E acost 13 cost_1, sArrI E afewestFrom 13 fewestFrom_1, sArrI E afirst 13 first_1, sArrI E afresh 12 fresh_1] [some (.ref (aM 0)), some (.int r_3)] [.int t0_3, .int 6, .ref (aM 0)] 86 := by
                intro t0_3 hf
                rw [hj_3] at hf
                obtain ⟨r_7, M_start_3, M_next_3, M_token_3, M_value_3, M_error_5, M_errorAt_5, hg_8, hf⟩ := gb7_el hf
                refine g_callV (C := RX10) (T := TX10) (N := 27) (Lr := [sArrI E anow 365 now, sArrJ E anames 4 names, sArrI E aspelled 12 spelled_2, sArrI E acost 13 cost_1, sArrI E afewestFrom 13 fewestFrom_1, sArrI E afirst 13 first_1, sArrI E afresh 12 fresh_1]) (As := [.int 6, .int t0_3]) (rest := []) F 0 0 2 (ctX10_starts l E aM anow aaside anames anamesAside atext aspelled acost afewestFrom afirst afresh aways aundo aslots aisSaved 6 t0_3 M_thrown M_length M_textSize M_start_2 M_next_2 M_token_2 M_value_2 M_error_4 M_errorAt_4 M_number M_many_2 M_freshMany_1 M_undos text r_7 M_start_3 M_next_3 M_token_3 M_value_3 M_error_5 M_errorAt_5 hg_8) gX10_wordLine_X10_starts rfl rfl rfl h0X10_starts ⟨Nat.le_of_ble_eq_true rfl, Nat.le_of_ble_eq_true rfl⟩ rfl rfl rfl [0, 3] [1, 2, 4, 5, 6, 7, 8] rfl rfl rfl rfl rfl rfl (Nat.le_of_ble_eq_true rfl) dX10_wordLine_86 ⟨Nat.le_of_ble_eq_true rfl, Nat.le_of_ble_eq_true rfl⟩ ?_
                rintro v w ⟨rfl, rfl, hz_5⟩
                refine g_norm (Lw' := [sModel E aM anow aaside anames anamesAside atext aspelled acost afewestFrom afirst afresh aways aundo aslots aisSaved M_thrown M_length M_textSize M_start_3 M_next_3 M_token_3 M_value_3 M_error_5 M_errorAt_5 M_number M_many_2 M_freshMany_1 M_undos, sArrI E anow 365 now, sArrJ E anames 4 names, sArrB E atext 600 text, sArrI E aspelled 12 spelled_2, sArrI E acost 13 cost_1, sArrI E afewestFrom 13 fewestFrom_1, sArrI E afirst 13 first_1, sArrI E afresh 12 fresh_1]) (st' := [.int r_7]) (pc' := 89) [0, 2, 3, 1, 4, 5, 6, 7, 8] rfl rfl rfl rfl ?_
                refine g_ifne F 94 dX10_wordLine_89 (by decide) (fun hc_1 => ?_) (fun hc_1 => ?_)
                · replace hf := gi_f hc_1 hf
                  refine g_aload_n F dX10_wordLine_94 rfl ?_
                  refine g_iload_n F dX10_wordLine_95 rfl ?_
                  obtain ⟨r_8, M_freshMany_2, now_1, fresh_2, hg_9, hf⟩ := gb4_el hf
                  refine g_callV (C := RX10) (T := TX10) (N := 27) (Lr := [sArrJ E anames 4 names, sArrB E atext 600 text, sArrI E acost 13 cost_1, sArrI E afewestFrom 13 fewestFrom_1]) (As := [.int r_3]) (rest := []) F 0 0 1 (ctX10_stores l E aM anow aaside anames anamesAside atext aspelled acost afewestFrom afirst afresh aways aundo aslots aisSaved r_3 M_thrown M_length M_textSize M_start_3 M_next_3 M_token_3 M_value_3 M_error_5 M_errorAt_5 M_number M_many_2 M_freshMany_1 M_undos now spelled_2 first_1 fresh_1 r_8 M_freshMany_2 now_1 fresh_2 hg_9) gX10_wordLine_X10_stores rfl rfl rfl h0X10_stores ⟨Nat.le_of_ble_eq_true rfl, Nat.le_of_ble_eq_true rfl⟩ rfl rfl rfl [0, 1, 4, 7, 8] [2, 3, 5, 6] rfl rfl rfl rfl rfl rfl (Nat.le_of_ble_eq_true rfl) dX10_wordLine_96 ⟨Nat.le_of_ble_eq_true rfl, Nat.le_of_ble_eq_true rfl⟩ ?_
                  rintro v w ⟨rfl, rfl⟩
                  refine g_norm (Lw' := [sModel E aM anow aaside anames anamesAside atext aspelled acost afewestFrom afirst afresh aways aundo aslots aisSaved M_thrown M_length M_textSize M_start_3 M_next_3 M_token_3 M_value_3 M_error_5 M_errorAt_5 M_number M_many_2 M_freshMany_2 M_undos, sArrI E anow 365 now_1, sArrJ E anames 4 names, sArrB E atext 600 text, sArrI E aspelled 12 spelled_2, sArrI E acost 13 cost_1, sArrI E afewestFrom 13 fewestFrom_1, sArrI E afirst 13 first_1, sArrI E afresh 12 fresh_2]) (st' := [.int r_8]) (pc' := 99) [0, 1, 5, 6, 2, 7, 8, 3, 4] rfl rfl rfl rfl ?_
                  refine g_pop F dX10_wordLine_99 rfl ?_
                  refine g_iconst F 1 dX10_wordLine_100 rfl ?_
                  cases hf
                  exact g_zret (ty := .boolean) F rfl rfl ⟨rfl, rfl, rfl⟩ dX10_wordLine_101
                · replace hf := gi_t hc_1 hf
                  refine g_iconst F 0 dX10_wordLine_92 rfl ?_
                  cases hf
                  exact g_zret (ty := .boolean) F rfl rfl ⟨rfl, rfl, rfl⟩ dX10_wordLine_93
              refine g_ifne F 85 dX10_wordLine_78 (by decide) (fun hc_2 => ?_) (fun hc_2 => ?_)
              · replace hf := gi_f hc_2 hf
                refine g_iconst F 0 dX10_wordLine_85 rfl ?_
                exact hj_3 0 hf
              · replace hf := gi_t hc_2 hf
                refine g_iconst F 1 dX10_wordLine_81 rfl ?_
                refine g_goto F 86 dX10_wordLine_82 (by decide) ?_
                exact hj_3 1 hf
            · replace hf := gi_t hc_3 hf
              refine g_iconst F 0 dX10_wordLine_64 rfl ?_
              cases hf
              exact g_zret (ty := .boolean) F rfl rfl ⟨rfl, rfl, rfl⟩ dX10_wordLine_65
        refine g_icmp_eq F 50 dX10_wordLine_43 (by decide) (fun hc_5 => ?_) (fun hc_5 => ?_)
        · replace hf := gi_t hc_5 hf
          refine g_iconst F 0 dX10_wordLine_50 rfl ?_
          exact hj_2 0 hf
        · replace hf := gi_f hc_5 hf
          refine g_iconst F 1 dX10_wordLine_46 rfl ?_
          refine g_goto F 51 dX10_wordLine_47 (by decide) ?_
          exact hj_2 1 hf
      · replace hf := gi_t hc_6 hf
        refine g_iconst F 0 dX10_wordLine_32 rfl ?_
        cases hf
        exact g_zret (ty := .boolean) F rfl rfl ⟨rfl, rfl, rfl⟩ dX10_wordLine_33
  refine g_icmp_ge F 18 dX10_wordLine_11 (by decide) (fun hc_8 => ?_) (fun hc_8 => ?_)
  · replace hf := gi_t hc_8 hf
    refine g_iconst F 0 dX10_wordLine_18 rfl ?_
    exact hj_1 0 hf
  · replace hf := gi_f hc_8 hf
    refine g_iconst F 1 dX10_wordLine_14 rfl ?_
    refine g_goto F 19 dX10_wordLine_15 (by decide) ?_
    exact hj_1 1 hf
set_option maxHeartbeats 4000000 in
set_option maxRecDepth 100000 in
theorem ctX10_statement (l : Launch) (E : gE) (aM anow aaside anames anamesAside atext aspelled acost afewestFrom afirst afresh aways aundo aslots aisSaved : Nat → Nat) (M_thrown : Int32) (M_length : Int32) (M_textSize : Int32) (M_start : Int32) (M_next : Int32) (M_token : Int32) (M_value : Int32) (M_error : Int32) (M_errorAt : Int32) (M_number : Int32) (M_many : Int32) (M_freshMany : Int32) (M_undos : Int32) (now : (Nat → Int32)) (names : (Nat → Int64)) (text : (Nat → Int32)) (spelled : (Nat → Int32)) (cost : (Nat → Int32)) (fewestFrom : (Nat → Int32)) (first : (Nat → Int32)) (fresh : (Nat → Int32)) (r : Int32) (M_start' : Int32) (M_next' : Int32) (M_token' : Int32) (M_value' : Int32) (M_error' : Int32) (M_errorAt' : Int32) (M_number' : Int32) (M_many' : Int32) (M_freshMany' : Int32) (now' : (Nat → Int32)) (names' : (Nat → Int64)) (spelled' : (Nat → Int32)) (cost' : (Nat → Int32)) (fewestFrom' : (Nat → Int32)) (first' : (Nat → Int32)) (fresh' : (Nat → Int32)) (hf : fX10_statement M_textSize M_start M_next M_token M_value M_error M_errorAt M_number M_many M_freshMany now names text spelled cost fewestFrom first fresh = some (r, M_start', M_next', M_token', M_value', M_error', M_errorAt', M_number', M_many', M_freshMany', now', names', spelled', cost', fewestFrom', first', fresh')) : gMet l yX10_statement wsX10_statement rmX10_statement vwCl E [.ref (aM 0)] [sModel E aM anow aaside anames anamesAside atext aspelled acost afewestFrom afirst afresh aways aundo aslots aisSaved M_thrown M_length M_textSize M_start M_next M_token M_value M_error M_errorAt M_number M_many M_freshMany M_undos, sArrI E anow 365 now, sArrJ E anames 4 names, sArrB E atext 600 text, sArrI E aspelled 12 spelled, sArrI E acost 13 cost, sArrI E afewestFrom 13 fewestFrom, sArrI E afirst 13 first, sArrI E afresh 12 fresh] (fun v w => v = some (.int r) ∧ w = [sModel E aM anow aaside anames anamesAside atext aspelled acost afewestFrom afirst afresh aways aundo aslots aisSaved M_thrown M_length M_textSize M_start' M_next' M_token' M_value' M_error' M_errorAt' M_number' M_many' M_freshMany' M_undos, sArrI E anow 365 now', sArrJ E anames 4 names', sArrB E atext 600 text, sArrI E aspelled 12 spelled', sArrI E acost 13 cost', sArrI E afewestFrom 13 fewestFrom', sArrI E afirst 13 first', sArrI E afresh 12 fresh'] ∧ narrow .boolean (.int r) = .int r) 0 0 := by
  refine g_entry [some (.ref (aM 0))] (by decide) rfl (Nat.le_of_ble_eq_true rfl) rfl ?_
  intro p e s m below meth c A F hnm
  unfold fX10_statement at hf
  refine g_aload_n F dX10_statement_0 rfl ?_
  refine g_ldcS (tx := "user") (i := 1) F (by decide) dX10_statement_1 ?_
  obtain ⟨r_1, hg_1, hf⟩ := gb1_el hf
  refine g_callV (C := RX10) (T := TX10) (N := 27) (Lr := [sArrI E anow 365 now, sArrJ E anames 4 names, sArrI E aspelled 12 spelled, sArrI E acost 13 cost, sArrI E afewestFrom 13 fewestFrom, sArrI E afirst 13 first, sArrI E afresh 12 fresh]) (As := [.ref (E.2.2 1)]) (rest := []) F 0 0 1 (ctX10_isWord l E aM anow aaside anames anamesAside atext aspelled acost afewestFrom afirst afresh aways aundo aslots aisSaved 1 (by decide) M_thrown M_length M_textSize M_start M_next M_token M_value M_error M_errorAt M_number M_many M_freshMany M_undos text r_1 hg_1) gX10_statement_X10_isWord rfl rfl rfl h0X10_isWord ⟨Nat.le_of_ble_eq_true rfl, Nat.le_of_ble_eq_true rfl⟩ rfl rfl rfl [0, 3] [1, 2, 4, 5, 6, 7, 8] rfl rfl rfl rfl rfl rfl (Nat.le_of_ble_eq_true rfl) dX10_statement_3 ⟨Nat.le_of_ble_eq_true rfl, Nat.le_of_ble_eq_true rfl⟩ ?_
  rintro v w ⟨rfl, rfl, hz_1⟩
  refine g_norm (Lw' := [sModel E aM anow aaside anames anamesAside atext aspelled acost afewestFrom afirst afresh aways aundo aslots aisSaved M_thrown M_length M_textSize M_start M_next M_token M_value M_error M_errorAt M_number M_many M_freshMany M_undos, sArrI E anow 365 now, sArrJ E anames 4 names, sArrB E atext 600 text, sArrI E aspelled 12 spelled, sArrI E acost 13 cost, sArrI E afewestFrom 13 fewestFrom, sArrI E afirst 13 first, sArrI E afresh 12 fresh]) (st' := [.int r_1]) (pc' := 6) [0, 2, 3, 1, 4, 5, 6, 7, 8] rfl rfl rfl rfl ?_
  refine g_ifeq F 14 dX10_statement_6 (by decide) (fun hc_3 => ?_) (fun hc_3 => ?_)
  · replace hf := gi_t hc_3 hf
    refine g_aload_n F dX10_statement_14 rfl ?_
    refine g_ldcS (tx := "piece") (i := 2) F (by decide) dX10_statement_15 ?_
    obtain ⟨r_2, hg_2, hf⟩ := gb1_el hf
    refine g_callV (C := RX10) (T := TX10) (N := 27) (Lr := [sArrI E anow 365 now, sArrJ E anames 4 names, sArrI E aspelled 12 spelled, sArrI E acost 13 cost, sArrI E afewestFrom 13 fewestFrom, sArrI E afirst 13 first, sArrI E afresh 12 fresh]) (As := [.ref (E.2.2 2)]) (rest := []) F 0 0 1 (ctX10_isWord l E aM anow aaside anames anamesAside atext aspelled acost afewestFrom afirst afresh aways aundo aslots aisSaved 2 (by decide) M_thrown M_length M_textSize M_start M_next M_token M_value M_error M_errorAt M_number M_many M_freshMany M_undos text r_2 hg_2) gX10_statement_X10_isWord rfl rfl rfl h0X10_isWord ⟨Nat.le_of_ble_eq_true rfl, Nat.le_of_ble_eq_true rfl⟩ rfl rfl rfl [0, 3] [1, 2, 4, 5, 6, 7, 8] rfl rfl rfl rfl rfl rfl (Nat.le_of_ble_eq_true rfl) dX10_statement_17 ⟨Nat.le_of_ble_eq_true rfl, Nat.le_of_ble_eq_true rfl⟩ ?_
    rintro v w ⟨rfl, rfl, hz_2⟩
    refine g_norm (Lw' := [sModel E aM anow aaside anames anamesAside atext aspelled acost afewestFrom afirst afresh aways aundo aslots aisSaved M_thrown M_length M_textSize M_start M_next M_token M_value M_error M_errorAt M_number M_many M_freshMany M_undos, sArrI E anow 365 now, sArrJ E anames 4 names, sArrB E atext 600 text, sArrI E aspelled 12 spelled, sArrI E acost 13 cost, sArrI E afewestFrom 13 fewestFrom, sArrI E afirst 13 first, sArrI E afresh 12 fresh]) (st' := [.int r_2]) (pc' := 20) [0, 2, 3, 1, 4, 5, 6, 7, 8] rfl rfl rfl rfl ?_
    refine g_ifeq F 28 dX10_statement_20 (by decide) (fun hc_2 => ?_) (fun hc_2 => ?_)
    · replace hf := gi_t hc_2 hf
      refine g_aload_n F dX10_statement_28 rfl ?_
      refine g_ldcS (tx := "word") (i := 3) F (by decide) dX10_statement_29 ?_
      obtain ⟨r_3, hg_3, hf⟩ := gb1_el hf
      refine g_callV (C := RX10) (T := TX10) (N := 27) (Lr := [sArrI E anow 365 now, sArrJ E anames 4 names, sArrI E aspelled 12 spelled, sArrI E acost 13 cost, sArrI E afewestFrom 13 fewestFrom, sArrI E afirst 13 first, sArrI E afresh 12 fresh]) (As := [.ref (E.2.2 3)]) (rest := []) F 0 0 1 (ctX10_isWord l E aM anow aaside anames anamesAside atext aspelled acost afewestFrom afirst afresh aways aundo aslots aisSaved 3 (by decide) M_thrown M_length M_textSize M_start M_next M_token M_value M_error M_errorAt M_number M_many M_freshMany M_undos text r_3 hg_3) gX10_statement_X10_isWord rfl rfl rfl h0X10_isWord ⟨Nat.le_of_ble_eq_true rfl, Nat.le_of_ble_eq_true rfl⟩ rfl rfl rfl [0, 3] [1, 2, 4, 5, 6, 7, 8] rfl rfl rfl rfl rfl rfl (Nat.le_of_ble_eq_true rfl) dX10_statement_31 ⟨Nat.le_of_ble_eq_true rfl, Nat.le_of_ble_eq_true rfl⟩ ?_
      rintro v w ⟨rfl, rfl, hz_3⟩
      refine g_norm (Lw' := [sModel E aM anow aaside anames anamesAside atext aspelled acost afewestFrom afirst afresh aways aundo aslots aisSaved M_thrown M_length M_textSize M_start M_next M_token M_value M_error M_errorAt M_number M_many M_freshMany M_undos, sArrI E anow 365 now, sArrJ E anames 4 names, sArrB E atext 600 text, sArrI E aspelled 12 spelled, sArrI E acost 13 cost, sArrI E afewestFrom 13 fewestFrom, sArrI E afirst 13 first, sArrI E afresh 12 fresh]) (st' := [.int r_3]) (pc' := 34) [0, 2, 3, 1, 4, 5, 6, 7, 8] rfl rfl rfl rfl ?_
      refine g_ifeq F 44 dX10_statement_34 (by decide) (fun hc_1 => ?_) (fun hc_1 => ?_)
      · replace hf := gi_t hc_1 hf
        refine g_aload_n F dX10_statement_44 rfl ?_
        refine g_iconst F 1 dX10_statement_45 rfl ?_
        obtain ⟨r_4, M_error_1, M_errorAt_1, hg_4, hf⟩ := gb3_el hf
        refine g_callV (C := RX10) (T := TX10) (N := 27) (Lr := [sArrI E anow 365 now, sArrJ E anames 4 names, sArrB E atext 600 text, sArrI E aspelled 12 spelled, sArrI E acost 13 cost, sArrI E afewestFrom 13 fewestFrom, sArrI E afirst 13 first, sArrI E afresh 12 fresh]) (As := [.int 1]) (rest := []) F 0 0 1 (ctX10_fails l E aM anow aaside anames anamesAside atext aspelled acost afewestFrom afirst afresh aways aundo aslots aisSaved 1 M_thrown M_length M_textSize M_start M_next M_token M_value M_error M_errorAt M_number M_many M_freshMany M_undos r_4 M_error_1 M_errorAt_1 hg_4) gX10_statement_X10_fails rfl rfl rfl h0X10_fails ⟨Nat.le_of_ble_eq_true rfl, Nat.le_of_ble_eq_true rfl⟩ rfl rfl rfl [0] [1, 2, 3, 4, 5, 6, 7, 8] rfl rfl rfl rfl rfl rfl (Nat.le_of_ble_eq_true rfl) dX10_statement_46 ⟨Nat.le_of_ble_eq_true rfl, Nat.le_of_ble_eq_true rfl⟩ ?_
        rintro v w ⟨rfl, rfl, hz_4⟩
        refine g_norm (Lw' := [sModel E aM anow aaside anames anamesAside atext aspelled acost afewestFrom afirst afresh aways aundo aslots aisSaved M_thrown M_length M_textSize M_start M_next M_token M_value M_error_1 M_errorAt_1 M_number M_many M_freshMany M_undos, sArrI E anow 365 now, sArrJ E anames 4 names, sArrB E atext 600 text, sArrI E aspelled 12 spelled, sArrI E acost 13 cost, sArrI E afewestFrom 13 fewestFrom, sArrI E afirst 13 first, sArrI E afresh 12 fresh]) (st' := [.int r_4]) (pc' := 49) [0, 1, 2, 3, 4, 5, 6, 7, 8] rfl rfl rfl rfl ?_
        cases hf
        exact g_zret (ty := .boolean) F rfl hz_4 ⟨rfl, rfl, hz_4⟩ dX10_statement_49
      · replace hf := gi_f hc_1 hf
        refine g_aload_n F dX10_statement_37 rfl ?_
        obtain ⟨r_5, M_start_1, M_next_1, M_token_1, M_value_1, M_error_2, M_errorAt_2, M_many_1, M_freshMany_1, now_1, spelled_1, cost_1, fewestFrom_1, first_1, fresh_1, hg_5, hf⟩ := gb15_el hf
        refine g_callV (C := RX10) (T := TX10) (N := 27) (Lr := []) (As := []) (rest := []) F 0 0 0 (ctX10_wordLine l E aM anow aaside anames anamesAside atext aspelled acost afewestFrom afirst afresh aways aundo aslots aisSaved M_thrown M_length M_textSize M_start M_next M_token M_value M_error M_errorAt M_number M_many M_freshMany M_undos now names text spelled cost fewestFrom first fresh r_5 M_start_1 M_next_1 M_token_1 M_value_1 M_error_2 M_errorAt_2 M_many_1 M_freshMany_1 now_1 spelled_1 cost_1 fewestFrom_1 first_1 fresh_1 hg_5) gX10_statement_X10_wordLine rfl rfl rfl h0X10_wordLine ⟨Nat.le_of_ble_eq_true rfl, Nat.le_of_ble_eq_true rfl⟩ rfl rfl rfl [0, 1, 2, 3, 4, 5, 6, 7, 8] [] rfl rfl rfl rfl rfl rfl (Nat.le_of_ble_eq_true rfl) dX10_statement_38 ⟨Nat.le_of_ble_eq_true rfl, Nat.le_of_ble_eq_true rfl⟩ ?_
        rintro v w ⟨rfl, rfl, hz_5⟩
        refine g_norm (Lw' := [sModel E aM anow aaside anames anamesAside atext aspelled acost afewestFrom afirst afresh aways aundo aslots aisSaved M_thrown M_length M_textSize M_start_1 M_next_1 M_token_1 M_value_1 M_error_2 M_errorAt_2 M_number M_many_1 M_freshMany_1 M_undos, sArrI E anow 365 now_1, sArrJ E anames 4 names, sArrB E atext 600 text, sArrI E aspelled 12 spelled_1, sArrI E acost 13 cost_1, sArrI E afewestFrom 13 fewestFrom_1, sArrI E afirst 13 first_1, sArrI E afresh 12 fresh_1]) (st' := [.int r_5]) (pc' := 41) [0, 1, 2, 3, 4, 5, 6, 7, 8] rfl rfl rfl rfl ?_
        refine g_goto F 49 dX10_statement_41 (by decide) ?_
        cases hf
        exact g_zret (ty := .boolean) F rfl hz_5 ⟨rfl, rfl, hz_5⟩ dX10_statement_49
    · replace hf := gi_f hc_2 hf
      refine g_aload_n F dX10_statement_23 rfl ?_
      obtain ⟨r_6, M_start_2, M_next_2, M_token_2, M_value_2, M_error_3, M_errorAt_3, M_many_2, now_2, spelled_2, hg_6, hf⟩ := gb10_el hf
      refine g_callV (C := RX10) (T := TX10) (N := 27) (Lr := [sArrJ E anames 4 names, sArrI E acost 13 cost, sArrI E afewestFrom 13 fewestFrom, sArrI E afirst 13 first, sArrI E afresh 12 fresh]) (As := []) (rest := []) F 0 0 0 (ctX10_pieceLine l E aM anow aaside anames anamesAside atext aspelled acost afewestFrom afirst afresh aways aundo aslots aisSaved M_thrown M_length M_textSize M_start M_next M_token M_value M_error M_errorAt M_number M_many M_freshMany M_undos now text spelled r_6 M_start_2 M_next_2 M_token_2 M_value_2 M_error_3 M_errorAt_3 M_many_2 now_2 spelled_2 hg_6) gX10_statement_X10_pieceLine rfl rfl rfl h0X10_pieceLine ⟨Nat.le_of_ble_eq_true rfl, Nat.le_of_ble_eq_true rfl⟩ rfl rfl rfl [0, 1, 3, 4] [2, 5, 6, 7, 8] rfl rfl rfl rfl rfl rfl (Nat.le_of_ble_eq_true rfl) dX10_statement_24 ⟨Nat.le_of_ble_eq_true rfl, Nat.le_of_ble_eq_true rfl⟩ ?_
      rintro v w ⟨rfl, rfl, hz_6⟩
      refine g_norm (Lw' := [sModel E aM anow aaside anames anamesAside atext aspelled acost afewestFrom afirst afresh aways aundo aslots aisSaved M_thrown M_length M_textSize M_start_2 M_next_2 M_token_2 M_value_2 M_error_3 M_errorAt_3 M_number M_many_2 M_freshMany M_undos, sArrI E anow 365 now_2, sArrJ E anames 4 names, sArrB E atext 600 text, sArrI E aspelled 12 spelled_2, sArrI E acost 13 cost, sArrI E afewestFrom 13 fewestFrom, sArrI E afirst 13 first, sArrI E afresh 12 fresh]) (st' := [.int r_6]) (pc' := 27) [0, 1, 4, 2, 3, 5, 6, 7, 8] rfl rfl rfl rfl ?_
      cases hf
      exact g_zret (ty := .boolean) F rfl hz_6 ⟨rfl, rfl, hz_6⟩ dX10_statement_27
  · replace hf := gi_f hc_3 hf
    refine g_aload_n F dX10_statement_9 rfl ?_
    obtain ⟨r_7, M_start_3, M_next_3, M_token_3, M_value_3, M_error_4, M_errorAt_4, M_number_1, M_many_3, now_3, names_1, spelled_3, hg_7, hf⟩ := gb12_el hf
    refine g_callV (C := RX10) (T := TX10) (N := 27) (Lr := [sArrI E acost 13 cost, sArrI E afewestFrom 13 fewestFrom, sArrI E afirst 13 first, sArrI E afresh 12 fresh]) (As := []) (rest := []) F 0 0 0 (ctX10_userLine l E aM anow aaside anames anamesAside atext aspelled acost afewestFrom afirst afresh aways aundo aslots aisSaved M_thrown M_length M_textSize M_start M_next M_token M_value M_error M_errorAt M_number M_many M_freshMany M_undos now names text spelled r_7 M_start_3 M_next_3 M_token_3 M_value_3 M_error_4 M_errorAt_4 M_number_1 M_many_3 now_3 names_1 spelled_3 hg_7) gX10_statement_X10_userLine rfl rfl rfl h0X10_userLine ⟨Nat.le_of_ble_eq_true rfl, Nat.le_of_ble_eq_true rfl⟩ rfl rfl rfl [0, 1, 2, 3, 4] [5, 6, 7, 8] rfl rfl rfl rfl rfl rfl (Nat.le_of_ble_eq_true rfl) dX10_statement_10 ⟨Nat.le_of_ble_eq_true rfl, Nat.le_of_ble_eq_true rfl⟩ ?_
    rintro v w ⟨rfl, rfl, hz_7⟩
    refine g_norm (Lw' := [sModel E aM anow aaside anames anamesAside atext aspelled acost afewestFrom afirst afresh aways aundo aslots aisSaved M_thrown M_length M_textSize M_start_3 M_next_3 M_token_3 M_value_3 M_error_4 M_errorAt_4 M_number_1 M_many_3 M_freshMany M_undos, sArrI E anow 365 now_3, sArrJ E anames 4 names_1, sArrB E atext 600 text, sArrI E aspelled 12 spelled_3, sArrI E acost 13 cost, sArrI E afewestFrom 13 fewestFrom, sArrI E afirst 13 first, sArrI E afresh 12 fresh]) (st' := [.int r_7]) (pc' := 13) [0, 1, 2, 3, 4, 5, 6, 7, 8] rfl rfl rfl rfl ?_
    cases hf
    exact g_zret (ty := .boolean) F rfl hz_7 ⟨rfl, rfl, hz_7⟩ dX10_statement_13
set_option maxHeartbeats 4000000 in
set_option maxRecDepth 100000 in
theorem ctX10_head (l : Launch) (E : gE) (aM anow aaside anames anamesAside atext aspelled acost afewestFrom afirst afresh aways aundo aslots aisSaved : Nat → Nat) (M_thrown : Int32) (M_length : Int32) (M_textSize : Int32) (M_start : Int32) (M_next : Int32) (M_token : Int32) (M_value : Int32) (M_error : Int32) (M_errorAt : Int32) (M_number : Int32) (M_many : Int32) (M_freshMany : Int32) (M_undos : Int32) (now : (Nat → Int32)) (text : (Nat → Int32)) (r : Int32) (M_start' : Int32) (M_next' : Int32) (M_token' : Int32) (M_value' : Int32) (M_error' : Int32) (M_errorAt' : Int32) (M_number' : Int32) (now' : (Nat → Int32)) (hf : fX10_head M_textSize M_start M_next M_token M_value M_error M_errorAt M_number now text = some (r, M_start', M_next', M_token', M_value', M_error', M_errorAt', M_number', now')) : gMet l yX10_head wsX10_head rmX10_head vwCl E [.ref (aM 0)] [sModel E aM anow aaside anames anamesAside atext aspelled acost afewestFrom afirst afresh aways aundo aslots aisSaved M_thrown M_length M_textSize M_start M_next M_token M_value M_error M_errorAt M_number M_many M_freshMany M_undos, sArrI E anow 365 now, sArrB E atext 600 text] (fun v w => v = some (.int r) ∧ w = [sModel E aM anow aaside anames anamesAside atext aspelled acost afewestFrom afirst afresh aways aundo aslots aisSaved M_thrown M_length M_textSize M_start' M_next' M_token' M_value' M_error' M_errorAt' M_number' M_many M_freshMany M_undos, sArrI E anow 365 now', sArrB E atext 600 text] ∧ narrow .boolean (.int r) = .int r) 0 0 := by
  refine g_entry [some (.ref (aM 0))] (by decide) rfl (Nat.le_of_ble_eq_true rfl) rfl ?_
  intro p e s m below meth c A F hnm
  unfold fX10_head at hf
  refine g_aload_n F dX10_head_0 rfl ?_
  refine g_iconst F 1 dX10_head_1 rfl ?_
  refine g_aload_n F dX10_head_2 rfl ?_
  refine g_ldcS (tx := "book") (i := 0) F (by decide) dX10_head_3 ?_
  obtain ⟨r_1, hg_1, hf⟩ := gb1_el hf
  refine g_callV (C := RX10) (T := TX10) (N := 27) (Lr := [sArrI E anow 365 now]) (As := [.ref (E.2.2 0)]) (rest := [.int 1, .ref (aM 0)]) F 0 0 1 (ctX10_isWord l E aM anow aaside anames anamesAside atext aspelled acost afewestFrom afirst afresh aways aundo aslots aisSaved 0 (by decide) M_thrown M_length M_textSize M_start M_next M_token M_value M_error M_errorAt M_number M_many M_freshMany M_undos text r_1 hg_1) gX10_head_X10_isWord rfl rfl rfl h0X10_isWord ⟨Nat.le_of_ble_eq_true rfl, Nat.le_of_ble_eq_true rfl⟩ rfl rfl rfl [0, 2] [1] rfl rfl rfl rfl rfl rfl (Nat.le_of_ble_eq_true rfl) dX10_head_5 ⟨Nat.le_of_ble_eq_true rfl, Nat.le_of_ble_eq_true rfl⟩ ?_
  rintro v w ⟨rfl, rfl, hz_1⟩
  refine g_norm (Lw' := [sModel E aM anow aaside anames anamesAside atext aspelled acost afewestFrom afirst afresh aways aundo aslots aisSaved M_thrown M_length M_textSize M_start M_next M_token M_value M_error M_errorAt M_number M_many M_freshMany M_undos, sArrI E anow 365 now, sArrB E atext 600 text]) (st' := [.int r_1, .int 1, .ref (aM 0)]) (pc' := 8) [0, 2, 1] rfl rfl rfl rfl ?_
  obtain ⟨r_2, M_start_1, M_next_1, M_token_1, M_value_1, M_error_1, M_errorAt_1, hg_2, hf⟩ := gb7_el hf
  refine g_callV (C := RX10) (T := TX10) (N := 27) (Lr := [sArrI E anow 365 now]) (As := [.int 1, .int r_1]) (rest := []) F 0 0 2 (ctX10_starts l E aM anow aaside anames anamesAside atext aspelled acost afewestFrom afirst afresh aways aundo aslots aisSaved 1 r_1 M_thrown M_length M_textSize M_start M_next M_token M_value M_error M_errorAt M_number M_many M_freshMany M_undos text r_2 M_start_1 M_next_1 M_token_1 M_value_1 M_error_1 M_errorAt_1 hg_2) gX10_head_X10_starts rfl rfl rfl h0X10_starts ⟨Nat.le_of_ble_eq_true rfl, Nat.le_of_ble_eq_true rfl⟩ rfl rfl rfl [0, 2] [1] rfl rfl rfl rfl rfl rfl (Nat.le_of_ble_eq_true rfl) dX10_head_8 ⟨Nat.le_of_ble_eq_true rfl, Nat.le_of_ble_eq_true rfl⟩ ?_
  rintro v w ⟨rfl, rfl, hz_2⟩
  refine g_norm (Lw' := [sModel E aM anow aaside anames anamesAside atext aspelled acost afewestFrom afirst afresh aways aundo aslots aisSaved M_thrown M_length M_textSize M_start_1 M_next_1 M_token_1 M_value_1 M_error_1 M_errorAt_1 M_number M_many M_freshMany M_undos, sArrI E anow 365 now, sArrB E atext 600 text]) (st' := [.int r_2]) (pc' := 11) [0, 2, 1] rfl rfl rfl rfl ?_
  refine g_ifeq F 80 dX10_head_11 (by decide) (fun hc_7 => ?_) (fun hc_7 => ?_)
  · replace hf := gi_t hc_7 hf
    refine g_iconst F 0 dX10_head_80 rfl ?_
    cases hf
    exact g_zret (ty := .boolean) F rfl rfl ⟨rfl, rfl, rfl⟩ dX10_head_81
  · replace hf := gi_f hc_7 hf
    refine g_aload_n F dX10_head_14 rfl ?_
    refine g_iconst F 0 dX10_head_15 rfl ?_
    refine g_iconst F 0 dX10_head_16 rfl ?_
    refine g_bipush F 99 dX10_head_17 rfl ?_
    obtain ⟨r_3, M_start_2, M_next_2, M_token_2, M_value_2, M_error_2, M_errorAt_2, M_number_1, now_1, hg_3, hf⟩ := gb9_el hf
    refine g_callV (C := RX10) (T := TX10) (N := 27) (Lr := []) (As := [.int 0, .int 0, .int 99]) (rest := []) F 0 0 3 (ctX10_lays l E aM anow aaside anames anamesAside atext aspelled acost afewestFrom afirst afresh aways aundo aslots aisSaved 0 0 99 M_thrown M_length M_textSize M_start_1 M_next_1 M_token_1 M_value_1 M_error_1 M_errorAt_1 M_number M_many M_freshMany M_undos now text r_3 M_start_2 M_next_2 M_token_2 M_value_2 M_error_2 M_errorAt_2 M_number_1 now_1 hg_3) gX10_head_X10_lays rfl rfl rfl h0X10_lays ⟨Nat.le_of_ble_eq_true rfl, Nat.le_of_ble_eq_true rfl⟩ rfl rfl rfl [0, 1, 2] [] rfl rfl rfl rfl rfl rfl (Nat.le_of_ble_eq_true rfl) dX10_head_19 ⟨Nat.le_of_ble_eq_true rfl, Nat.le_of_ble_eq_true rfl⟩ ?_
    rintro v w ⟨rfl, rfl, hz_3⟩
    refine g_norm (Lw' := [sModel E aM anow aaside anames anamesAside atext aspelled acost afewestFrom afirst afresh aways aundo aslots aisSaved M_thrown M_length M_textSize M_start_2 M_next_2 M_token_2 M_value_2 M_error_2 M_errorAt_2 M_number_1 M_many M_freshMany M_undos, sArrI E anow 365 now_1, sArrB E atext 600 text]) (st' := [.int r_3]) (pc' := 22) [0, 1, 2] rfl rfl rfl rfl ?_
    refine g_ifeq F 80 dX10_head_22 (by decide) (fun hc_6 => ?_) (fun hc_6 => ?_)
    · replace hf := gi_t hc_6 hf
      refine g_iconst F 0 dX10_head_80 rfl ?_
      cases hf
      exact g_zret (ty := .boolean) F rfl rfl ⟨rfl, rfl, rfl⟩ dX10_head_81
    · replace hf := gi_f hc_6 hf
      refine g_aload_n F dX10_head_25 rfl ?_
      refine g_iconst F 1 dX10_head_26 rfl ?_
      refine g_iconst F 0 dX10_head_27 rfl ?_
      refine g_bipush F 9 dX10_head_28 rfl ?_
      obtain ⟨r_4, M_start_3, M_next_3, M_token_3, M_value_3, M_error_3, M_errorAt_3, M_number_2, now_2, hg_4, hf⟩ := gb9_el hf
      refine g_callV (C := RX10) (T := TX10) (N := 27) (Lr := []) (As := [.int 1, .int 0, .int 9]) (rest := []) F 0 0 3 (ctX10_lays l E aM anow aaside anames anamesAside atext aspelled acost afewestFrom afirst afresh aways aundo aslots aisSaved 1 0 9 M_thrown M_length M_textSize M_start_2 M_next_2 M_token_2 M_value_2 M_error_2 M_errorAt_2 M_number_1 M_many M_freshMany M_undos now_1 text r_4 M_start_3 M_next_3 M_token_3 M_value_3 M_error_3 M_errorAt_3 M_number_2 now_2 hg_4) gX10_head_X10_lays rfl rfl rfl h0X10_lays ⟨Nat.le_of_ble_eq_true rfl, Nat.le_of_ble_eq_true rfl⟩ rfl rfl rfl [0, 1, 2] [] rfl rfl rfl rfl rfl rfl (Nat.le_of_ble_eq_true rfl) dX10_head_30 ⟨Nat.le_of_ble_eq_true rfl, Nat.le_of_ble_eq_true rfl⟩ ?_
      rintro v w ⟨rfl, rfl, hz_4⟩
      refine g_norm (Lw' := [sModel E aM anow aaside anames anamesAside atext aspelled acost afewestFrom afirst afresh aways aundo aslots aisSaved M_thrown M_length M_textSize M_start_3 M_next_3 M_token_3 M_value_3 M_error_3 M_errorAt_3 M_number_2 M_many M_freshMany M_undos, sArrI E anow 365 now_2, sArrB E atext 600 text]) (st' := [.int r_4]) (pc' := 33) [0, 1, 2] rfl rfl rfl rfl ?_
      refine g_ifeq F 80 dX10_head_33 (by decide) (fun hc_5 => ?_) (fun hc_5 => ?_)
      · replace hf := gi_t hc_5 hf
        refine g_iconst F 0 dX10_head_80 rfl ?_
        cases hf
        exact g_zret (ty := .boolean) F rfl rfl ⟨rfl, rfl, rfl⟩ dX10_head_81
      · replace hf := gi_f hc_5 hf
        refine g_aload_n F dX10_head_36 rfl ?_
        refine g_iconst F 2 dX10_head_37 rfl ?_
        refine g_iconst F 1 dX10_head_38 rfl ?_
        refine g_bipush F 9 dX10_head_39 rfl ?_
        obtain ⟨r_5, M_start_4, M_next_4, M_token_4, M_value_4, M_error_4, M_errorAt_4, M_number_3, now_3, hg_5, hf⟩ := gb9_el hf
        refine g_callV (C := RX10) (T := TX10) (N := 27) (Lr := []) (As := [.int 2, .int 1, .int 9]) (rest := []) F 0 0 3 (ctX10_lays l E aM anow aaside anames anamesAside atext aspelled acost afewestFrom afirst afresh aways aundo aslots aisSaved 2 1 9 M_thrown M_length M_textSize M_start_3 M_next_3 M_token_3 M_value_3 M_error_3 M_errorAt_3 M_number_2 M_many M_freshMany M_undos now_2 text r_5 M_start_4 M_next_4 M_token_4 M_value_4 M_error_4 M_errorAt_4 M_number_3 now_3 hg_5) gX10_head_X10_lays rfl rfl rfl h0X10_lays ⟨Nat.le_of_ble_eq_true rfl, Nat.le_of_ble_eq_true rfl⟩ rfl rfl rfl [0, 1, 2] [] rfl rfl rfl rfl rfl rfl (Nat.le_of_ble_eq_true rfl) dX10_head_41 ⟨Nat.le_of_ble_eq_true rfl, Nat.le_of_ble_eq_true rfl⟩ ?_
        rintro v w ⟨rfl, rfl, hz_5⟩
        refine g_norm (Lw' := [sModel E aM anow aaside anames anamesAside atext aspelled acost afewestFrom afirst afresh aways aundo aslots aisSaved M_thrown M_length M_textSize M_start_4 M_next_4 M_token_4 M_value_4 M_error_4 M_errorAt_4 M_number_3 M_many M_freshMany M_undos, sArrI E anow 365 now_3, sArrB E atext 600 text]) (st' := [.int r_5]) (pc' := 44) [0, 1, 2] rfl rfl rfl rfl ?_
        refine g_ifeq F 80 dX10_head_44 (by decide) (fun hc_4 => ?_) (fun hc_4 => ?_)
        · replace hf := gi_t hc_4 hf
          refine g_iconst F 0 dX10_head_80 rfl ?_
          cases hf
          exact g_zret (ty := .boolean) F rfl rfl ⟨rfl, rfl, rfl⟩ dX10_head_81
        · replace hf := gi_f hc_4 hf
          refine g_aload_n F dX10_head_47 rfl ?_
          refine g_iconst F 3 dX10_head_48 rfl ?_
          refine g_iconst F 0 dX10_head_49 rfl ?_
          refine g_bipush F 20 dX10_head_50 rfl ?_
          obtain ⟨r_6, M_start_5, M_next_5, M_token_5, M_value_5, M_error_5, M_errorAt_5, M_number_4, now_4, hg_6, hf⟩ := gb9_el hf
          refine g_callV (C := RX10) (T := TX10) (N := 27) (Lr := []) (As := [.int 3, .int 0, .int 20]) (rest := []) F 0 0 3 (ctX10_lays l E aM anow aaside anames anamesAside atext aspelled acost afewestFrom afirst afresh aways aundo aslots aisSaved 3 0 20 M_thrown M_length M_textSize M_start_4 M_next_4 M_token_4 M_value_4 M_error_4 M_errorAt_4 M_number_3 M_many M_freshMany M_undos now_3 text r_6 M_start_5 M_next_5 M_token_5 M_value_5 M_error_5 M_errorAt_5 M_number_4 now_4 hg_6) gX10_head_X10_lays rfl rfl rfl h0X10_lays ⟨Nat.le_of_ble_eq_true rfl, Nat.le_of_ble_eq_true rfl⟩ rfl rfl rfl [0, 1, 2] [] rfl rfl rfl rfl rfl rfl (Nat.le_of_ble_eq_true rfl) dX10_head_52 ⟨Nat.le_of_ble_eq_true rfl, Nat.le_of_ble_eq_true rfl⟩ ?_
          rintro v w ⟨rfl, rfl, hz_6⟩
          refine g_norm (Lw' := [sModel E aM anow aaside anames anamesAside atext aspelled acost afewestFrom afirst afresh aways aundo aslots aisSaved M_thrown M_length M_textSize M_start_5 M_next_5 M_token_5 M_value_5 M_error_5 M_errorAt_5 M_number_4 M_many M_freshMany M_undos, sArrI E anow 365 now_4, sArrB E atext 600 text]) (st' := [.int r_6]) (pc' := 55) [0, 1, 2] rfl rfl rfl rfl ?_
          refine g_ifeq F 80 dX10_head_55 (by decide) (fun hc_3 => ?_) (fun hc_3 => ?_)
          · replace hf := gi_t hc_3 hf
            refine g_iconst F 0 dX10_head_80 rfl ?_
            cases hf
            exact g_zret (ty := .boolean) F rfl rfl ⟨rfl, rfl, rfl⟩ dX10_head_81
          · replace hf := gi_f hc_3 hf
            refine g_aload_n F dX10_head_58 rfl ?_
            refine g_iconst F 4 dX10_head_59 rfl ?_
            refine g_iconst F 0 dX10_head_60 rfl ?_
            refine g_bipush F 100 dX10_head_61 rfl ?_
            obtain ⟨r_7, M_start_6, M_next_6, M_token_6, M_value_6, M_error_6, M_errorAt_6, M_number_5, now_5, hg_7, hf⟩ := gb9_el hf
            refine g_callV (C := RX10) (T := TX10) (N := 27) (Lr := []) (As := [.int 4, .int 0, .int 100]) (rest := []) F 0 0 3 (ctX10_lays l E aM anow aaside anames anamesAside atext aspelled acost afewestFrom afirst afresh aways aundo aslots aisSaved 4 0 100 M_thrown M_length M_textSize M_start_5 M_next_5 M_token_5 M_value_5 M_error_5 M_errorAt_5 M_number_4 M_many M_freshMany M_undos now_4 text r_7 M_start_6 M_next_6 M_token_6 M_value_6 M_error_6 M_errorAt_6 M_number_5 now_5 hg_7) gX10_head_X10_lays rfl rfl rfl h0X10_lays ⟨Nat.le_of_ble_eq_true rfl, Nat.le_of_ble_eq_true rfl⟩ rfl rfl rfl [0, 1, 2] [] rfl rfl rfl rfl rfl rfl (Nat.le_of_ble_eq_true rfl) dX10_head_63 ⟨Nat.le_of_ble_eq_true rfl, Nat.le_of_ble_eq_true rfl⟩ ?_
            rintro v w ⟨rfl, rfl, hz_7⟩
            refine g_norm (Lw' := [sModel E aM anow aaside anames anamesAside atext aspelled acost afewestFrom afirst afresh aways aundo aslots aisSaved M_thrown M_length M_textSize M_start_6 M_next_6 M_token_6 M_value_6 M_error_6 M_errorAt_6 M_number_5 M_many M_freshMany M_undos, sArrI E anow 365 now_5, sArrB E atext 600 text]) (st' := [.int r_7]) (pc' := 66) [0, 1, 2] rfl rfl rfl rfl ?_
            refine g_ifeq F 80 dX10_head_66 (by decide) (fun hc_2 => ?_) (fun hc_2 => ?_)
            · replace hf := gi_t hc_2 hf
              refine g_iconst F 0 dX10_head_80 rfl ?_
              cases hf
              exact g_zret (ty := .boolean) F rfl rfl ⟨rfl, rfl, rfl⟩ dX10_head_81
            · replace hf := gi_f hc_2 hf
              refine g_aload_n F dX10_head_69 rfl ?_
              obtain ⟨r_8, M_start_7, M_next_7, M_token_7, M_value_7, M_error_7, M_errorAt_7, hg_8, hf⟩ := gb7_el hf
              refine g_callV (C := RX10) (T := TX10) (N := 27) (Lr := [sArrI E anow 365 now_5]) (As := []) (rest := []) F 0 0 0 (ctX10_closes l E aM anow aaside anames anamesAside atext aspelled acost afewestFrom afirst afresh aways aundo aslots aisSaved M_thrown M_length M_textSize M_start_6 M_next_6 M_token_6 M_value_6 M_error_6 M_errorAt_6 M_number_5 M_many M_freshMany M_undos text r_8 M_start_7 M_next_7 M_token_7 M_value_7 M_error_7 M_errorAt_7 hg_8) gX10_head_X10_closes rfl rfl rfl h0X10_closes ⟨Nat.le_of_ble_eq_true rfl, Nat.le_of_ble_eq_true rfl⟩ rfl rfl rfl [0, 2] [1] rfl rfl rfl rfl rfl rfl (Nat.le_of_ble_eq_true rfl) dX10_head_70 ⟨Nat.le_of_ble_eq_true rfl, Nat.le_of_ble_eq_true rfl⟩ ?_
              rintro v w ⟨rfl, rfl, hz_8⟩
              refine g_norm (Lw' := [sModel E aM anow aaside anames anamesAside atext aspelled acost afewestFrom afirst afresh aways aundo aslots aisSaved M_thrown M_length M_textSize M_start_7 M_next_7 M_token_7 M_value_7 M_error_7 M_errorAt_7 M_number_5 M_many M_freshMany M_undos, sArrI E anow 365 now_5, sArrB E atext 600 text]) (st' := [.int r_8]) (pc' := 73) [0, 2, 1] rfl rfl rfl rfl ?_
              refine g_ifeq F 80 dX10_head_73 (by decide) (fun hc_1 => ?_) (fun hc_1 => ?_)
              · replace hf := gi_t hc_1 hf
                refine g_iconst F 0 dX10_head_80 rfl ?_
                cases hf
                exact g_zret (ty := .boolean) F rfl rfl ⟨rfl, rfl, rfl⟩ dX10_head_81
              · replace hf := gi_f hc_1 hf
                refine g_iconst F 1 dX10_head_76 rfl ?_
                refine g_goto F 81 dX10_head_77 (by decide) ?_
                cases hf
                exact g_zret (ty := .boolean) F rfl rfl ⟨rfl, rfl, rfl⟩ dX10_head_81
set_option maxHeartbeats 4000000 in
set_option maxRecDepth 100000 in
theorem ktX10_parse_L70 {p : Program} {l : Launch} {e : Env} {s : State} {m : MethodId} {args : Array Value} {below : List Frame} {meth : Method} {c : Code} {E : gE} {A : Nat → Prop} (F : gFx p s m args meth c RX10 wsX10_parse cX10_parse 4 (some .int) vwCl E A) (aM anow aaside anames anamesAside atext aspelled acost afewestFrom afirst afresh aways aundo aslots aisSaved : Nat → Nat) (names : (Nat → Int64)) (M_thrown : Int32) (M_length : Int32) (M_textSize : Int32) (M_start : Int32) (M_next : Int32) (M_token : Int32) (M_value : Int32) (M_error : Int32) (M_errorAt : Int32) (M_number : Int32) (M_many : Int32) (M_freshMany : Int32) (M_undos : Int32) (now : (Nat → Int32)) (aside : (Nat → Int32)) (text : (Nat → Int32)) (spelled : (Nat → Int32)) (cost : (Nat → Int32)) (fewestFrom : (Nat → Int32)) (first : (Nat → Int32)) (fresh : (Nat → Int32)) (isSaved : (Nat → Int32)) (r : Int32) (M_thrown' : Int32) (M_length' : Int32) (M_textSize' : Int32) (M_start' : Int32) (M_next' : Int32) (M_token' : Int32) (M_value' : Int32) (M_error' : Int32) (M_errorAt' : Int32) (M_number' : Int32) (M_many' : Int32) (M_freshMany' : Int32) (M_undos' : Int32) (now' : (Nat → Int32)) (aside' : (Nat → Int32)) (names' : (Nat → Int64)) (namesAside' : (Nat → Int64)) (spelled' : (Nat → Int32)) (cost' : (Nat → Int32)) (fewestFrom' : (Nat → Int32)) (first' : (Nat → Int32)) (fresh' : (Nat → Int32)) (isSaved' : (Nat → Int32)) {k : (Nat → Int64) → Option (Int32 × Int32 × Int32 × Int32 × Int32 × Int32 × Int32 × Int32 × Int32 × Int32 × Int32 × Int32 × Int32 × Int32 × (Nat → Int32) × (Nat → Int32) × (Nat → Int64) × (Nat → Int64) × (Nat → Int32) × (Nat → Int32) × (Nat → Int32) × (Nat → Int32) × (Nat → Int32) × (Nat → Int32))} (hk : ∀ (namesAside : (Nat → Int64)), k namesAside = some (r, M_thrown', M_length', M_textSize', M_start', M_next', M_token', M_value', M_error', M_errorAt', M_number', M_many', M_freshMany', M_undos', now', aside', names', namesAside', spelled', cost', fewestFrom', first', fresh', isSaved') → Gj p l e rmX10_parse s m args below meth c 0 0 (MQ below (gQ vwCl E A (fun v w => v = some (.int r) ∧ w = [sModel E aM anow aaside anames anamesAside atext aspelled acost afewestFrom afirst afresh aways aundo aslots aisSaved M_thrown' M_length' M_textSize' M_start' M_next' M_token' M_value' M_error' M_errorAt' M_number' M_many' M_freshMany' M_undos', sArrI E anow 365 now', sArrI E aaside 365 aside', sArrJ E anames 4 names', sArrJ E anamesAside 4 namesAside', sArrB E atext 600 text, sArrI E aspelled 12 spelled', sArrI E acost 13 cost', sArrI E afewestFrom 13 fewestFrom', sArrI E afirst 13 first', sArrI E afresh 12 fresh', sArrZ E aisSaved 2 isSaved'])) args s 0 0 A) vwCl E A [sModel E aM anow aaside anames anamesAside atext aspelled acost afewestFrom afirst afresh aways aundo aslots aisSaved M_thrown M_length M_textSize M_start M_next M_token M_value M_error M_errorAt M_number M_many M_freshMany M_undos, sArrI E anow 365 now, sArrI E aaside 365 aside, sArrJ E anames 4 names, sArrJ E anamesAside 4 namesAside, sArrB E atext 600 text, sArrI E aspelled 12 spelled, sArrI E acost 13 cost, sArrI E afewestFrom 13 fewestFrom, sArrI E afirst 13 first, sArrI E afresh 12 fresh, sArrZ E aisSaved 2 isSaved] [some (.ref (aM 0)), none, none, none] [] 93) : ∀ (n : Nat) (x2 : Int32) (namesAside : (Nat → Int64)), fX10_parse_L70 names k n x2 namesAside = some (r, M_thrown', M_length', M_textSize', M_start', M_next', M_token', M_value', M_error', M_errorAt', M_number', M_many', M_freshMany', M_undos', now', aside', names', namesAside', spelled', cost', fewestFrom', first', fresh', isSaved') → Gj p l e rmX10_parse s m args below meth c 0 0 (MQ below (gQ vwCl E A (fun v w => v = some (.int r) ∧ w = [sModel E aM anow aaside anames anamesAside atext aspelled acost afewestFrom afirst afresh aways aundo aslots aisSaved M_thrown' M_length' M_textSize' M_start' M_next' M_token' M_value' M_error' M_errorAt' M_number' M_many' M_freshMany' M_undos', sArrI E anow 365 now', sArrI E aaside 365 aside', sArrJ E anames 4 names', sArrJ E anamesAside 4 namesAside', sArrB E atext 600 text, sArrI E aspelled 12 spelled', sArrI E acost 13 cost', sArrI E afewestFrom 13 fewestFrom', sArrI E afirst 13 first', sArrI E afresh 12 fresh', sArrZ E aisSaved 2 isSaved'])) args s 0 0 A) vwCl E A [sModel E aM anow aaside anames anamesAside atext aspelled acost afewestFrom afirst afresh aways aundo aslots aisSaved M_thrown M_length M_textSize M_start M_next M_token M_value M_error M_errorAt M_number M_many M_freshMany M_undos, sArrI E anow 365 now, sArrI E aaside 365 aside, sArrJ E anames 4 names, sArrJ E anamesAside 4 namesAside, sArrB E atext 600 text, sArrI E aspelled 12 spelled, sArrI E acost 13 cost, sArrI E afewestFrom 13 fewestFrom, sArrI E afirst 13 first, sArrI E afresh 12 fresh, sArrZ E aisSaved 2 isSaved] [some (.ref (aM 0)), none, some (.int x2), none] [] 70
  | 0, _, _, hf => by cases hf
  | n + 1, x2, namesAside, hf => by
    have ih := ktX10_parse_L70 F aM anow aaside anames anamesAside atext aspelled acost afewestFrom afirst afresh aways aundo aslots aisSaved names M_thrown M_length M_textSize M_start M_next M_token M_value M_error M_errorAt M_number M_many M_freshMany M_undos now aside text spelled cost fewestFrom first fresh isSaved r M_thrown' M_length' M_textSize' M_start' M_next' M_token' M_value' M_error' M_errorAt' M_number' M_many' M_freshMany' M_undos' now' aside' names' namesAside' spelled' cost' fewestFrom' first' fresh' isSaved' hk n
    rw [fX10_parse_L70] at hf
    refine g_iload_n F dX10_parse_70 rfl ?_
    refine g_iconst F 4 dX10_parse_71 rfl ?_
    refine g_icmp_ge F 93 dX10_parse_72 (by decide) (fun hc_1 => ?_) (fun hc_1 => ?_)
    · replace hf := gi_t hc_1 hf
      refine g_mask [true, true, false, true] rfl ?_
      exact hk namesAside hf
    · replace hf := gi_f hc_1 hf
      refine g_aload_n F dX10_parse_75 rfl ?_
      refine g_get (C := RX10) (T := TX10) (N := 27) F 0 0 4 rfl rfl rfl iX10_parse_X10 (by decide) (by decide +kernel) rfl dX10_parse_76 ?_
      refine g_iload_n F dX10_parse_79 rfl ?_
      refine g_aload_n F dX10_parse_80 rfl ?_
      refine g_get (C := RX10) (T := TX10) (N := 27) F 0 0 3 rfl rfl rfl iX10_parse_X10 (by decide) (by decide +kernel) rfl dX10_parse_81 ?_
      refine g_iload_n F dX10_parse_84 rfl ?_
      obtain ⟨hb_1, hf⟩ := gb_in hf
      refine g_lald F 3 0 (x2.toNatClampNeg) rfl rfl rfl hb_1 dX10_parse_85 ?_
      obtain ⟨hb_2, hf⟩ := gb_in hf
      obtain ⟨namesAside_1, hnamesAside_1, hf⟩ := Lt_el hf
      refine g_last (Lw' := [sModel E aM anow aaside anames anamesAside atext aspelled acost afewestFrom afirst afresh aways aundo aslots aisSaved M_thrown M_length M_textSize M_start M_next M_token M_value M_error M_errorAt M_number M_many M_freshMany M_undos, sArrI E anow 365 now, sArrI E aaside 365 aside, sArrJ E anames 4 names, sArrJ E anamesAside 4 namesAside_1, sArrB E atext 600 text, sArrI E aspelled 12 spelled, sArrI E acost 13 cost, sArrI E afewestFrom 13 fewestFrom, sArrI E afirst 13 first, sArrI E afresh 12 fresh, sArrZ E aisSaved 2 isSaved]) F 4 0 (x2.toNatClampNeg) rfl rfl rfl hb_2 dX10_parse_86 (by subst hnamesAside_1; rfl) ?_
      refine g_iinc (lv' := [some (.ref (aM 0)), none, some (.int (x2 + 1)), none]) F (x2 + 1) dX10_parse_87 rfl rfl rfl rfl ?_
      refine g_goto F 70 dX10_parse_90 (by decide) ?_
      exact ih (x2 + 1) namesAside_1 hf
set_option maxHeartbeats 4000000 in
set_option maxRecDepth 100000 in
theorem ktX10_parse_L95 {p : Program} {l : Launch} {e : Env} {s : State} {m : MethodId} {args : Array Value} {below : List Frame} {meth : Method} {c : Code} {E : gE} {A : Nat → Prop} (F : gFx p s m args meth c RX10 wsX10_parse cX10_parse 4 (some .int) vwCl E A) (aM anow aaside anames anamesAside atext aspelled acost afewestFrom afirst afresh aways aundo aslots aisSaved : Nat → Nat) (M_thrown : Int32) (M_length : Int32) (M_textSize : Int32) (M_start : Int32) (M_next : Int32) (M_token : Int32) (M_value : Int32) (M_error : Int32) (M_errorAt : Int32) (M_number : Int32) (M_many : Int32) (M_freshMany : Int32) (M_undos : Int32) (aside : (Nat → Int32)) (names : (Nat → Int64)) (namesAside : (Nat → Int64)) (text : (Nat → Int32)) (spelled : (Nat → Int32)) (cost : (Nat → Int32)) (fewestFrom : (Nat → Int32)) (first : (Nat → Int32)) (fresh : (Nat → Int32)) (isSaved : (Nat → Int32)) (r : Int32) (M_thrown' : Int32) (M_length' : Int32) (M_textSize' : Int32) (M_start' : Int32) (M_next' : Int32) (M_token' : Int32) (M_value' : Int32) (M_error' : Int32) (M_errorAt' : Int32) (M_number' : Int32) (M_many' : Int32) (M_freshMany' : Int32) (M_undos' : Int32) (now' : (Nat → Int32)) (aside' : (Nat → Int32)) (names' : (Nat → Int64)) (namesAside' : (Nat → Int64)) (spelled' : (Nat → Int32)) (cost' : (Nat → Int32)) (fewestFrom' : (Nat → Int32)) (first' : (Nat → Int32)) (fresh' : (Nat → Int32)) (isSaved' : (Nat → Int32)) {k : (Nat → Int32) → Option (Int32 × Int32 × Int32 × Int32 × Int32 × Int32 × Int32 × Int32 × Int32 × Int32 × Int32 × Int32 × Int32 × Int32 × (Nat → Int32) × (Nat → Int32) × (Nat → Int64) × (Nat → Int64) × (Nat → Int32) × (Nat → Int32) × (Nat → Int32) × (Nat → Int32) × (Nat → Int32) × (Nat → Int32))} (hk : ∀ (now : (Nat → Int32)), k now = some (r, M_thrown', M_length', M_textSize', M_start', M_next', M_token', M_value', M_error', M_errorAt', M_number', M_many', M_freshMany', M_undos', now', aside', names', namesAside', spelled', cost', fewestFrom', first', fresh', isSaved') → Gj p l e rmX10_parse s m args below meth c 0 0 (MQ below (gQ vwCl E A (fun v w => v = some (.int r) ∧ w = [sModel E aM anow aaside anames anamesAside atext aspelled acost afewestFrom afirst afresh aways aundo aslots aisSaved M_thrown' M_length' M_textSize' M_start' M_next' M_token' M_value' M_error' M_errorAt' M_number' M_many' M_freshMany' M_undos', sArrI E anow 365 now', sArrI E aaside 365 aside', sArrJ E anames 4 names', sArrJ E anamesAside 4 namesAside', sArrB E atext 600 text, sArrI E aspelled 12 spelled', sArrI E acost 13 cost', sArrI E afewestFrom 13 fewestFrom', sArrI E afirst 13 first', sArrI E afresh 12 fresh', sArrZ E aisSaved 2 isSaved'])) args s 0 0 A) vwCl E A [sModel E aM anow aaside anames anamesAside atext aspelled acost afewestFrom afirst afresh aways aundo aslots aisSaved M_thrown M_length M_textSize M_start M_next M_token M_value M_error M_errorAt M_number M_many M_freshMany M_undos, sArrI E anow 365 now, sArrI E aaside 365 aside, sArrJ E anames 4 names, sArrJ E anamesAside 4 namesAside, sArrB E atext 600 text, sArrI E aspelled 12 spelled, sArrI E acost 13 cost, sArrI E afewestFrom 13 fewestFrom, sArrI E afirst 13 first, sArrI E afresh 12 fresh, sArrZ E aisSaved 2 isSaved] [some (.ref (aM 0)), none, none, none] [] 115) : ∀ (n : Nat) (x2 : Int32) (now : (Nat → Int32)), fX10_parse_L95 k n x2 now = some (r, M_thrown', M_length', M_textSize', M_start', M_next', M_token', M_value', M_error', M_errorAt', M_number', M_many', M_freshMany', M_undos', now', aside', names', namesAside', spelled', cost', fewestFrom', first', fresh', isSaved') → Gj p l e rmX10_parse s m args below meth c 0 0 (MQ below (gQ vwCl E A (fun v w => v = some (.int r) ∧ w = [sModel E aM anow aaside anames anamesAside atext aspelled acost afewestFrom afirst afresh aways aundo aslots aisSaved M_thrown' M_length' M_textSize' M_start' M_next' M_token' M_value' M_error' M_errorAt' M_number' M_many' M_freshMany' M_undos', sArrI E anow 365 now', sArrI E aaside 365 aside', sArrJ E anames 4 names', sArrJ E anamesAside 4 namesAside', sArrB E atext 600 text, sArrI E aspelled 12 spelled', sArrI E acost 13 cost', sArrI E afewestFrom 13 fewestFrom', sArrI E afirst 13 first', sArrI E afresh 12 fresh', sArrZ E aisSaved 2 isSaved'])) args s 0 0 A) vwCl E A [sModel E aM anow aaside anames anamesAside atext aspelled acost afewestFrom afirst afresh aways aundo aslots aisSaved M_thrown M_length M_textSize M_start M_next M_token M_value M_error M_errorAt M_number M_many M_freshMany M_undos, sArrI E anow 365 now, sArrI E aaside 365 aside, sArrJ E anames 4 names, sArrJ E anamesAside 4 namesAside, sArrB E atext 600 text, sArrI E aspelled 12 spelled, sArrI E acost 13 cost, sArrI E afewestFrom 13 fewestFrom, sArrI E afirst 13 first, sArrI E afresh 12 fresh, sArrZ E aisSaved 2 isSaved] [some (.ref (aM 0)), none, some (.int x2), none] [] 95
  | 0, _, _, hf => by cases hf
  | n + 1, x2, now, hf => by
    have ih := ktX10_parse_L95 F aM anow aaside anames anamesAside atext aspelled acost afewestFrom afirst afresh aways aundo aslots aisSaved M_thrown M_length M_textSize M_start M_next M_token M_value M_error M_errorAt M_number M_many M_freshMany M_undos aside names namesAside text spelled cost fewestFrom first fresh isSaved r M_thrown' M_length' M_textSize' M_start' M_next' M_token' M_value' M_error' M_errorAt' M_number' M_many' M_freshMany' M_undos' now' aside' names' namesAside' spelled' cost' fewestFrom' first' fresh' isSaved' hk n
    rw [fX10_parse_L95] at hf
    refine g_iload_n F dX10_parse_95 rfl ?_
    refine g_sipush F 365 dX10_parse_96 rfl ?_
    refine g_icmp_ge F 115 dX10_parse_99 (by decide) (fun hc_1 => ?_) (fun hc_1 => ?_)
    · replace hf := gi_t hc_1 hf
      refine g_mask [true, true, false, true] rfl ?_
      exact hk now hf
    · replace hf := gi_f hc_1 hf
      refine g_aload_n F dX10_parse_102 rfl ?_
      refine g_get (C := RX10) (T := TX10) (N := 27) F 0 0 1 rfl rfl rfl iX10_parse_X10 (by decide) (by decide +kernel) rfl dX10_parse_103 ?_
      refine g_iload_n F dX10_parse_106 rfl ?_
      refine g_iconst F 0 dX10_parse_107 rfl ?_
      obtain ⟨hb_1, hf⟩ := gb_in hf
      obtain ⟨now_1, hnow_1, hf⟩ := Lt_el hf
      refine g_iast (Lw' := [sModel E aM anow aaside anames anamesAside atext aspelled acost afewestFrom afirst afresh aways aundo aslots aisSaved M_thrown M_length M_textSize M_start M_next M_token M_value M_error M_errorAt M_number M_many M_freshMany M_undos, sArrI E anow 365 now_1, sArrI E aaside 365 aside, sArrJ E anames 4 names, sArrJ E anamesAside 4 namesAside, sArrB E atext 600 text, sArrI E aspelled 12 spelled, sArrI E acost 13 cost, sArrI E afewestFrom 13 fewestFrom, sArrI E afirst 13 first, sArrI E afresh 12 fresh, sArrZ E aisSaved 2 isSaved]) F 1 0 (x2.toNatClampNeg) rfl rfl rfl hb_1 dX10_parse_108 (by subst hnow_1; rfl) ?_
      refine g_iinc (lv' := [some (.ref (aM 0)), none, some (.int (x2 + 1)), none]) F (x2 + 1) dX10_parse_109 rfl rfl rfl rfl ?_
      refine g_goto F 95 dX10_parse_112 (by decide) ?_
      exact ih (x2 + 1) now_1 hf
set_option maxHeartbeats 4000000 in
set_option maxRecDepth 100000 in
theorem ktX10_parse_L124 {p : Program} {l : Launch} {e : Env} {s : State} {m : MethodId} {args : Array Value} {below : List Frame} {meth : Method} {c : Code} {E : gE} {A : Nat → Prop} (F : gFx p s m args meth c RX10 wsX10_parse cX10_parse 4 (some .int) vwCl E A) (aM anow aaside anames anamesAside atext aspelled acost afewestFrom afirst afresh aways aundo aslots aisSaved : Nat → Nat) (M_textSize : Int32) (text : (Nat → Int32)) (M_thrown : Int32) (M_length : Int32) (M_undos : Int32) (aside : (Nat → Int32)) (namesAside : (Nat → Int64)) (isSaved : (Nat → Int32)) (r : Int32) (M_thrown' : Int32) (M_length' : Int32) (M_textSize' : Int32) (M_start' : Int32) (M_next' : Int32) (M_token' : Int32) (M_value' : Int32) (M_error' : Int32) (M_errorAt' : Int32) (M_number' : Int32) (M_many' : Int32) (M_freshMany' : Int32) (M_undos' : Int32) (now' : (Nat → Int32)) (aside' : (Nat → Int32)) (names' : (Nat → Int64)) (namesAside' : (Nat → Int64)) (spelled' : (Nat → Int32)) (cost' : (Nat → Int32)) (fewestFrom' : (Nat → Int32)) (first' : (Nat → Int32)) (fresh' : (Nat → Int32)) (isSaved' : (Nat → Int32)) {k : Int32 → Int32 → Int32 → Int32 → Int32 → Int32 → Int32 → Int32 → Int32 → Int32 → (Nat → Int32) → (Nat → Int64) → (Nat → Int32) → (Nat → Int32) → (Nat → Int32) → (Nat → Int32) → (Nat → Int32) → Option (Int32 × Int32 × Int32 × Int32 × Int32 × Int32 × Int32 × Int32 × Int32 × Int32 × Int32 × Int32 × Int32 × Int32 × (Nat → Int32) × (Nat → Int32) × (Nat → Int64) × (Nat → Int64) × (Nat → Int32) × (Nat → Int32) × (Nat → Int32) × (Nat → Int32) × (Nat → Int32) × (Nat → Int32))} (hk : ∀ (x2 : Int32) (M_start : Int32) (M_next : Int32) (M_token : Int32) (M_value : Int32) (M_error : Int32) (M_errorAt : Int32) (M_number : Int32) (M_many : Int32) (M_freshMany : Int32) (now : (Nat → Int32)) (names : (Nat → Int64)) (spelled : (Nat → Int32)) (cost : (Nat → Int32)) (fewestFrom : (Nat → Int32)) (first : (Nat → Int32)) (fresh : (Nat → Int32)), k x2 M_start M_next M_token M_value M_error M_errorAt M_number M_many M_freshMany now names spelled cost fewestFrom first fresh = some (r, M_thrown', M_length', M_textSize', M_start', M_next', M_token', M_value', M_error', M_errorAt', M_number', M_many', M_freshMany', M_undos', now', aside', names', namesAside', spelled', cost', fewestFrom', first', fresh', isSaved') → Gj p l e rmX10_parse s m args below meth c 0 0 (MQ below (gQ vwCl E A (fun v w => v = some (.int r) ∧ w = [sModel E aM anow aaside anames anamesAside atext aspelled acost afewestFrom afirst afresh aways aundo aslots aisSaved M_thrown' M_length' M_textSize' M_start' M_next' M_token' M_value' M_error' M_errorAt' M_number' M_many' M_freshMany' M_undos', sArrI E anow 365 now', sArrI E aaside 365 aside', sArrJ E anames 4 names', sArrJ E anamesAside 4 namesAside', sArrB E atext 600 text, sArrI E aspelled 12 spelled', sArrI E acost 13 cost', sArrI E afewestFrom 13 fewestFrom', sArrI E afirst 13 first', sArrI E afresh 12 fresh', sArrZ E aisSaved 2 isSaved'])) args s 0 0 A) vwCl E A [sModel E aM anow aaside anames anamesAside atext aspelled acost afewestFrom afirst afresh aways aundo aslots aisSaved M_thrown M_length M_textSize M_start M_next M_token M_value M_error M_errorAt M_number M_many M_freshMany M_undos, sArrI E anow 365 now, sArrI E aaside 365 aside, sArrJ E anames 4 names, sArrJ E anamesAside 4 namesAside, sArrB E atext 600 text, sArrI E aspelled 12 spelled, sArrI E acost 13 cost, sArrI E afewestFrom 13 fewestFrom, sArrI E afirst 13 first, sArrI E afresh 12 fresh, sArrZ E aisSaved 2 isSaved] [some (.ref (aM 0)), none, some (.int x2), none] [] 158) : ∀ (n : Nat) (x2 : Int32) (M_start : Int32) (M_next : Int32) (M_token : Int32) (M_value : Int32) (M_error : Int32) (M_errorAt : Int32) (M_number : Int32) (M_many : Int32) (M_freshMany : Int32) (now : (Nat → Int32)) (names : (Nat → Int64)) (spelled : (Nat → Int32)) (cost : (Nat → Int32)) (fewestFrom : (Nat → Int32)) (first : (Nat → Int32)) (fresh : (Nat → Int32)), fX10_parse_L124 M_textSize text k n x2 M_start M_next M_token M_value M_error M_errorAt M_number M_many M_freshMany now names spelled cost fewestFrom first fresh = some (r, M_thrown', M_length', M_textSize', M_start', M_next', M_token', M_value', M_error', M_errorAt', M_number', M_many', M_freshMany', M_undos', now', aside', names', namesAside', spelled', cost', fewestFrom', first', fresh', isSaved') → Gj p l e rmX10_parse s m args below meth c 0 0 (MQ below (gQ vwCl E A (fun v w => v = some (.int r) ∧ w = [sModel E aM anow aaside anames anamesAside atext aspelled acost afewestFrom afirst afresh aways aundo aslots aisSaved M_thrown' M_length' M_textSize' M_start' M_next' M_token' M_value' M_error' M_errorAt' M_number' M_many' M_freshMany' M_undos', sArrI E anow 365 now', sArrI E aaside 365 aside', sArrJ E anames 4 names', sArrJ E anamesAside 4 namesAside', sArrB E atext 600 text, sArrI E aspelled 12 spelled', sArrI E acost 13 cost', sArrI E afewestFrom 13 fewestFrom', sArrI E afirst 13 first', sArrI E afresh 12 fresh', sArrZ E aisSaved 2 isSaved'])) args s 0 0 A) vwCl E A [sModel E aM anow aaside anames anamesAside atext aspelled acost afewestFrom afirst afresh aways aundo aslots aisSaved M_thrown M_length M_textSize M_start M_next M_token M_value M_error M_errorAt M_number M_many M_freshMany M_undos, sArrI E anow 365 now, sArrI E aaside 365 aside, sArrJ E anames 4 names, sArrJ E anamesAside 4 namesAside, sArrB E atext 600 text, sArrI E aspelled 12 spelled, sArrI E acost 13 cost, sArrI E afewestFrom 13 fewestFrom, sArrI E afirst 13 first, sArrI E afresh 12 fresh, sArrZ E aisSaved 2 isSaved] [some (.ref (aM 0)), none, some (.int x2), none] [] 124
  | 0, _, _, _, _, _, _, _, _, _, _, _, _, _, _, _, _, _, hf => by cases hf
  | n + 1, x2, M_start, M_next, M_token, M_value, M_error, M_errorAt, M_number, M_many, M_freshMany, now, names, spelled, cost, fewestFrom, first, fresh, hf => by
    have ih := ktX10_parse_L124 F aM anow aaside anames anamesAside atext aspelled acost afewestFrom afirst afresh aways aundo aslots aisSaved M_textSize text M_thrown M_length M_undos aside namesAside isSaved r M_thrown' M_length' M_textSize' M_start' M_next' M_token' M_value' M_error' M_errorAt' M_number' M_many' M_freshMany' M_undos' now' aside' names' namesAside' spelled' cost' fewestFrom' first' fresh' isSaved' hk n
    rw [fX10_parse_L124] at hf
    refine g_iload_n F dX10_parse_124 rfl ?_
    refine g_ifeq F 158 dX10_parse_125 (by decide) (fun hc_4 => ?_) (fun hc_4 => ?_)
    · replace hf := gi_t hc_4 hf
      exact hk x2 M_start M_next M_token M_value M_error M_errorAt M_number M_many M_freshMany now names spelled cost fewestFrom first fresh hf
    · replace hf := gi_f hc_4 hf
      refine g_aload_n F dX10_parse_128 rfl ?_
      refine g_get (C := RX10) (T := TX10) (N := 27) F 0 0 10 rfl rfl rfl iX10_parse_X10 (by decide) (by decide +kernel) rfl dX10_parse_129 ?_
      refine g_ifeq F 158 dX10_parse_132 (by decide) (fun hc_3 => ?_) (fun hc_3 => ?_)
      · replace hf := gi_t hc_3 hf
        exact hk x2 M_start M_next M_token M_value M_error M_errorAt M_number M_many M_freshMany now names spelled cost fewestFrom first fresh hf
      · replace hf := gi_f hc_3 hf
        refine g_aload_n F dX10_parse_135 rfl ?_
        obtain ⟨r_1, M_start_1, M_next_1, M_token_1, M_value_1, M_error_1, M_errorAt_1, M_number_1, M_many_1, M_freshMany_1, now_1, names_1, spelled_1, cost_1, fewestFrom_1, first_1, fresh_1, hg_1, hf⟩ := gb17_el hf
        refine g_callV (C := RX10) (T := TX10) (N := 27) (Lr := [sArrI E aaside 365 aside, sArrJ E anamesAside 4 namesAside, sArrZ E aisSaved 2 isSaved]) (As := []) (rest := []) F 0 0 0 (ctX10_statement l E aM anow aaside anames anamesAside atext aspelled acost afewestFrom afirst afresh aways aundo aslots aisSaved M_thrown M_length M_textSize M_start M_next M_token M_value M_error M_errorAt M_number M_many M_freshMany M_undos now names text spelled cost fewestFrom first fresh r_1 M_start_1 M_next_1 M_token_1 M_value_1 M_error_1 M_errorAt_1 M_number_1 M_many_1 M_freshMany_1 now_1 names_1 spelled_1 cost_1 fewestFrom_1 first_1 fresh_1 hg_1) gX10_parse_X10_statement rfl rfl rfl h0X10_statement ⟨Nat.le_of_ble_eq_true rfl, Nat.le_of_ble_eq_true rfl⟩ rfl rfl rfl [0, 1, 3, 5, 6, 7, 8, 9, 10] [2, 4, 11] rfl rfl rfl rfl rfl rfl (Nat.le_of_ble_eq_true rfl) dX10_parse_136 ⟨Nat.le_of_ble_eq_true rfl, Nat.le_of_ble_eq_true rfl⟩ ?_
        rintro v w ⟨rfl, rfl, hz_1⟩
        refine g_norm (Lw' := [sModel E aM anow aaside anames anamesAside atext aspelled acost afewestFrom afirst afresh aways aundo aslots aisSaved M_thrown M_length M_textSize M_start_1 M_next_1 M_token_1 M_value_1 M_error_1 M_errorAt_1 M_number_1 M_many_1 M_freshMany_1 M_undos, sArrI E anow 365 now_1, sArrI E aaside 365 aside, sArrJ E anames 4 names_1, sArrJ E anamesAside 4 namesAside, sArrB E atext 600 text, sArrI E aspelled 12 spelled_1, sArrI E acost 13 cost_1, sArrI E afewestFrom 13 fewestFrom_1, sArrI E afirst 13 first_1, sArrI E afresh 12 fresh_1, sArrZ E aisSaved 2 isSaved]) (st' := [.int r_1]) (pc' := 139) [0, 1, 9, 2, 10, 3, 4, 5, 6, 7, 8, 11] rfl rfl rfl rfl ?_
        refine g_ifeq F 153 dX10_parse_139 (by decide) (fun hc_2 => ?_) (fun hc_2 => ?_)
        · replace hf := gi_t hc_2 hf
          refine g_iconst F 0 dX10_parse_153 rfl ?_
          refine g_istore_n (lv' := [some (.ref (aM 0)), none, some (.int 0), none]) F dX10_parse_154 (Nat.le_of_ble_eq_true rfl) rfl rfl ?_
          refine g_goto F 124 dX10_parse_155 (by decide) ?_
          exact ih 0 M_start_1 M_next_1 M_token_1 M_value_1 M_error_1 M_errorAt_1 M_number_1 M_many_1 M_freshMany_1 now_1 names_1 spelled_1 cost_1 fewestFrom_1 first_1 fresh_1 hf
        · replace hf := gi_f hc_2 hf
          refine g_aload_n F dX10_parse_142 rfl ?_
          obtain ⟨r_2, M_start_2, M_next_2, M_token_2, M_value_2, M_error_2, M_errorAt_2, hg_2, hf⟩ := gb7_el hf
          refine g_callV (C := RX10) (T := TX10) (N := 27) (Lr := [sArrI E anow 365 now_1, sArrI E aaside 365 aside, sArrJ E anames 4 names_1, sArrJ E anamesAside 4 namesAside, sArrI E aspelled 12 spelled_1, sArrI E acost 13 cost_1, sArrI E afewestFrom 13 fewestFrom_1, sArrI E afirst 13 first_1, sArrI E afresh 12 fresh_1, sArrZ E aisSaved 2 isSaved]) (As := []) (rest := []) F 0 0 0 (ctX10_closes l E aM anow aaside anames anamesAside atext aspelled acost afewestFrom afirst afresh aways aundo aslots aisSaved M_thrown M_length M_textSize M_start_1 M_next_1 M_token_1 M_value_1 M_error_1 M_errorAt_1 M_number_1 M_many_1 M_freshMany_1 M_undos text r_2 M_start_2 M_next_2 M_token_2 M_value_2 M_error_2 M_errorAt_2 hg_2) gX10_parse_X10_closes rfl rfl rfl h0X10_closes ⟨Nat.le_of_ble_eq_true rfl, Nat.le_of_ble_eq_true rfl⟩ rfl rfl rfl [0, 5] [1, 2, 3, 4, 6, 7, 8, 9, 10, 11] rfl rfl rfl rfl rfl rfl (Nat.le_of_ble_eq_true rfl) dX10_parse_143 ⟨Nat.le_of_ble_eq_true rfl, Nat.le_of_ble_eq_true rfl⟩ ?_
          rintro v w ⟨rfl, rfl, hz_2⟩
          refine g_norm (Lw' := [sModel E aM anow aaside anames anamesAside atext aspelled acost afewestFrom afirst afresh aways aundo aslots aisSaved M_thrown M_length M_textSize M_start_2 M_next_2 M_token_2 M_value_2 M_error_2 M_errorAt_2 M_number_1 M_many_1 M_freshMany_1 M_undos, sArrI E anow 365 now_1, sArrI E aaside 365 aside, sArrJ E anames 4 names_1, sArrJ E anamesAside 4 namesAside, sArrB E atext 600 text, sArrI E aspelled 12 spelled_1, sArrI E acost 13 cost_1, sArrI E afewestFrom 13 fewestFrom_1, sArrI E afirst 13 first_1, sArrI E afresh 12 fresh_1, sArrZ E aisSaved 2 isSaved]) (st' := [.int r_2]) (pc' := 146) [0, 2, 3, 4, 5, 1, 6, 7, 8, 9, 10, 11] rfl rfl rfl rfl ?_
          refine g_ifeq F 153 dX10_parse_146 (by decide) (fun hc_1 => ?_) (fun hc_1 => ?_)
          · replace hf := gi_t hc_1 hf
            refine g_iconst F 0 dX10_parse_153 rfl ?_
            refine g_istore_n (lv' := [some (.ref (aM 0)), none, some (.int 0), none]) F dX10_parse_154 (Nat.le_of_ble_eq_true rfl) rfl rfl ?_
            refine g_goto F 124 dX10_parse_155 (by decide) ?_
            exact ih 0 M_start_2 M_next_2 M_token_2 M_value_2 M_error_2 M_errorAt_2 M_number_1 M_many_1 M_freshMany_1 now_1 names_1 spelled_1 cost_1 fewestFrom_1 first_1 fresh_1 hf
          · replace hf := gi_f hc_1 hf
            refine g_iconst F 1 dX10_parse_149 rfl ?_
            refine g_goto F 154 dX10_parse_150 (by decide) ?_
            refine g_istore_n (lv' := [some (.ref (aM 0)), none, some (.int 1), none]) F dX10_parse_154 (Nat.le_of_ble_eq_true rfl) rfl rfl ?_
            refine g_goto F 124 dX10_parse_155 (by decide) ?_
            exact ih 1 M_start_2 M_next_2 M_token_2 M_value_2 M_error_2 M_errorAt_2 M_number_1 M_many_1 M_freshMany_1 now_1 names_1 spelled_1 cost_1 fewestFrom_1 first_1 fresh_1 hf
set_option maxHeartbeats 4000000 in
set_option maxRecDepth 100000 in
theorem ktX10_parse_L175 {p : Program} {l : Launch} {e : Env} {s : State} {m : MethodId} {args : Array Value} {below : List Frame} {meth : Method} {c : Code} {E : gE} {A : Nat → Prop} (F : gFx p s m args meth c RX10 wsX10_parse cX10_parse 4 (some .int) vwCl E A) (aM anow aaside anames anamesAside atext aspelled acost afewestFrom afirst afresh aways aundo aslots aisSaved : Nat → Nat) (namesAside : (Nat → Int64)) (M_thrown : Int32) (M_length : Int32) (M_textSize : Int32) (M_start : Int32) (M_next : Int32) (M_token : Int32) (M_value : Int32) (M_error : Int32) (M_errorAt : Int32) (M_number : Int32) (M_many : Int32) (M_freshMany : Int32) (M_undos : Int32) (now : (Nat → Int32)) (aside : (Nat → Int32)) (text : (Nat → Int32)) (spelled : (Nat → Int32)) (cost : (Nat → Int32)) (fewestFrom : (Nat → Int32)) (first : (Nat → Int32)) (fresh : (Nat → Int32)) (isSaved : (Nat → Int32)) (r : Int32) (M_thrown' : Int32) (M_length' : Int32) (M_textSize' : Int32) (M_start' : Int32) (M_next' : Int32) (M_token' : Int32) (M_value' : Int32) (M_error' : Int32) (M_errorAt' : Int32) (M_number' : Int32) (M_many' : Int32) (M_freshMany' : Int32) (M_undos' : Int32) (now' : (Nat → Int32)) (aside' : (Nat → Int32)) (names' : (Nat → Int64)) (namesAside' : (Nat → Int64)) (spelled' : (Nat → Int32)) (cost' : (Nat → Int32)) (fewestFrom' : (Nat → Int32)) (first' : (Nat → Int32)) (fresh' : (Nat → Int32)) (isSaved' : (Nat → Int32)) {k : (Nat → Int64) → Option (Int32 × Int32 × Int32 × Int32 × Int32 × Int32 × Int32 × Int32 × Int32 × Int32 × Int32 × Int32 × Int32 × Int32 × (Nat → Int32) × (Nat → Int32) × (Nat → Int64) × (Nat → Int64) × (Nat → Int32) × (Nat → Int32) × (Nat → Int32) × (Nat → Int32) × (Nat → Int32) × (Nat → Int32))} (hk : ∀ (names : (Nat → Int64)), k names = some (r, M_thrown', M_length', M_textSize', M_start', M_next', M_token', M_value', M_error', M_errorAt', M_number', M_many', M_freshMany', M_undos', now', aside', names', namesAside', spelled', cost', fewestFrom', first', fresh', isSaved') → Gj p l e rmX10_parse s m args below meth c 0 0 (MQ below (gQ vwCl E A (fun v w => v = some (.int r) ∧ w = [sModel E aM anow aaside anames anamesAside atext aspelled acost afewestFrom afirst afresh aways aundo aslots aisSaved M_thrown' M_length' M_textSize' M_start' M_next' M_token' M_value' M_error' M_errorAt' M_number' M_many' M_freshMany' M_undos', sArrI E anow 365 now', sArrI E aaside 365 aside', sArrJ E anames 4 names', sArrJ E anamesAside 4 namesAside', sArrB E atext 600 text, sArrI E aspelled 12 spelled', sArrI E acost 13 cost', sArrI E afewestFrom 13 fewestFrom', sArrI E afirst 13 first', sArrI E afresh 12 fresh', sArrZ E aisSaved 2 isSaved'])) args s 0 0 A) vwCl E A [sModel E aM anow aaside anames anamesAside atext aspelled acost afewestFrom afirst afresh aways aundo aslots aisSaved M_thrown M_length M_textSize M_start M_next M_token M_value M_error M_errorAt M_number M_many M_freshMany M_undos, sArrI E anow 365 now, sArrI E aaside 365 aside, sArrJ E anames 4 names, sArrJ E anamesAside 4 namesAside, sArrB E atext 600 text, sArrI E aspelled 12 spelled, sArrI E acost 13 cost, sArrI E afewestFrom 13 fewestFrom, sArrI E afirst 13 first, sArrI E afresh 12 fresh, sArrZ E aisSaved 2 isSaved] [some (.ref (aM 0)), none, none, none] [] 198) : ∀ (n : Nat) (x3 : Int32) (names : (Nat → Int64)), fX10_parse_L175 namesAside k n x3 names = some (r, M_thrown', M_length', M_textSize', M_start', M_next', M_token', M_value', M_error', M_errorAt', M_number', M_many', M_freshMany', M_undos', now', aside', names', namesAside', spelled', cost', fewestFrom', first', fresh', isSaved') → Gj p l e rmX10_parse s m args below meth c 0 0 (MQ below (gQ vwCl E A (fun v w => v = some (.int r) ∧ w = [sModel E aM anow aaside anames anamesAside atext aspelled acost afewestFrom afirst afresh aways aundo aslots aisSaved M_thrown' M_length' M_textSize' M_start' M_next' M_token' M_value' M_error' M_errorAt' M_number' M_many' M_freshMany' M_undos', sArrI E anow 365 now', sArrI E aaside 365 aside', sArrJ E anames 4 names', sArrJ E anamesAside 4 namesAside', sArrB E atext 600 text, sArrI E aspelled 12 spelled', sArrI E acost 13 cost', sArrI E afewestFrom 13 fewestFrom', sArrI E afirst 13 first', sArrI E afresh 12 fresh', sArrZ E aisSaved 2 isSaved'])) args s 0 0 A) vwCl E A [sModel E aM anow aaside anames anamesAside atext aspelled acost afewestFrom afirst afresh aways aundo aslots aisSaved M_thrown M_length M_textSize M_start M_next M_token M_value M_error M_errorAt M_number M_many M_freshMany M_undos, sArrI E anow 365 now, sArrI E aaside 365 aside, sArrJ E anames 4 names, sArrJ E anamesAside 4 namesAside, sArrB E atext 600 text, sArrI E aspelled 12 spelled, sArrI E acost 13 cost, sArrI E afewestFrom 13 fewestFrom, sArrI E afirst 13 first, sArrI E afresh 12 fresh, sArrZ E aisSaved 2 isSaved] [some (.ref (aM 0)), none, none, some (.int x3)] [] 175
  | 0, _, _, hf => by cases hf
  | n + 1, x3, names, hf => by
    have ih := ktX10_parse_L175 F aM anow aaside anames anamesAside atext aspelled acost afewestFrom afirst afresh aways aundo aslots aisSaved namesAside M_thrown M_length M_textSize M_start M_next M_token M_value M_error M_errorAt M_number M_many M_freshMany M_undos now aside text spelled cost fewestFrom first fresh isSaved r M_thrown' M_length' M_textSize' M_start' M_next' M_token' M_value' M_error' M_errorAt' M_number' M_many' M_freshMany' M_undos' now' aside' names' namesAside' spelled' cost' fewestFrom' first' fresh' isSaved' hk n
    rw [fX10_parse_L175] at hf
    refine g_iload_n F dX10_parse_175 rfl ?_
    refine g_iconst F 4 dX10_parse_176 rfl ?_
    refine g_icmp_ge F 198 dX10_parse_177 (by decide) (fun hc_1 => ?_) (fun hc_1 => ?_)
    · replace hf := gi_t hc_1 hf
      refine g_mask [true, true, true, false] rfl ?_
      exact hk names hf
    · replace hf := gi_f hc_1 hf
      refine g_aload_n F dX10_parse_180 rfl ?_
      refine g_get (C := RX10) (T := TX10) (N := 27) F 0 0 3 rfl rfl rfl iX10_parse_X10 (by decide) (by decide +kernel) rfl dX10_parse_181 ?_
      refine g_iload_n F dX10_parse_184 rfl ?_
      refine g_aload_n F dX10_parse_185 rfl ?_
      refine g_get (C := RX10) (T := TX10) (N := 27) F 0 0 4 rfl rfl rfl iX10_parse_X10 (by decide) (by decide +kernel) rfl dX10_parse_186 ?_
      refine g_iload_n F dX10_parse_189 rfl ?_
      obtain ⟨hb_1, hf⟩ := gb_in hf
      refine g_lald F 4 0 (x3.toNatClampNeg) rfl rfl rfl hb_1 dX10_parse_190 ?_
      obtain ⟨hb_2, hf⟩ := gb_in hf
      obtain ⟨names_1, hnames_1, hf⟩ := Lt_el hf
      refine g_last (Lw' := [sModel E aM anow aaside anames anamesAside atext aspelled acost afewestFrom afirst afresh aways aundo aslots aisSaved M_thrown M_length M_textSize M_start M_next M_token M_value M_error M_errorAt M_number M_many M_freshMany M_undos, sArrI E anow 365 now, sArrI E aaside 365 aside, sArrJ E anames 4 names_1, sArrJ E anamesAside 4 namesAside, sArrB E atext 600 text, sArrI E aspelled 12 spelled, sArrI E acost 13 cost, sArrI E afewestFrom 13 fewestFrom, sArrI E afirst 13 first, sArrI E afresh 12 fresh, sArrZ E aisSaved 2 isSaved]) F 3 0 (x3.toNatClampNeg) rfl rfl rfl hb_2 dX10_parse_191 (by subst hnames_1; rfl) ?_
      refine g_iinc (lv' := [some (.ref (aM 0)), none, none, some (.int (x3 + 1))]) F (x3 + 1) dX10_parse_192 rfl rfl rfl rfl ?_
      refine g_goto F 175 dX10_parse_195 (by decide) ?_
      exact ih (x3 + 1) names_1 hf
set_option maxHeartbeats 4000000 in
set_option maxRecDepth 100000 in
theorem ctX10_parse (l : Launch) (E : gE) (aM anow aaside anames anamesAside atext aspelled acost afewestFrom afirst afresh aways aundo aslots aisSaved : Nat → Nat) (x1 : Int32) (M_thrown : Int32) (M_length : Int32) (M_textSize : Int32) (M_start : Int32) (M_next : Int32) (M_token : Int32) (M_value : Int32) (M_error : Int32) (M_errorAt : Int32) (M_number : Int32) (M_many : Int32) (M_freshMany : Int32) (M_undos : Int32) (now : (Nat → Int32)) (aside : (Nat → Int32)) (names : (Nat → Int64)) (namesAside : (Nat → Int64)) (text : (Nat → Int32)) (spelled : (Nat → Int32)) (cost : (Nat → Int32)) (fewestFrom : (Nat → Int32)) (first : (Nat → Int32)) (fresh : (Nat → Int32)) (isSaved : (Nat → Int32)) (r : Int32) (M_thrown' : Int32) (M_length' : Int32) (M_textSize' : Int32) (M_start' : Int32) (M_next' : Int32) (M_token' : Int32) (M_value' : Int32) (M_error' : Int32) (M_errorAt' : Int32) (M_number' : Int32) (M_many' : Int32) (M_freshMany' : Int32) (M_undos' : Int32) (now' : (Nat → Int32)) (aside' : (Nat → Int32)) (names' : (Nat → Int64)) (namesAside' : (Nat → Int64)) (spelled' : (Nat → Int32)) (cost' : (Nat → Int32)) (fewestFrom' : (Nat → Int32)) (first' : (Nat → Int32)) (fresh' : (Nat → Int32)) (isSaved' : (Nat → Int32)) (hf : fX10_parse x1 M_thrown M_length M_textSize M_start M_next M_token M_value M_error M_errorAt M_number M_many M_freshMany M_undos now aside names namesAside text spelled cost fewestFrom first fresh isSaved = some (r, M_thrown', M_length', M_textSize', M_start', M_next', M_token', M_value', M_error', M_errorAt', M_number', M_many', M_freshMany', M_undos', now', aside', names', namesAside', spelled', cost', fewestFrom', first', fresh', isSaved')) : gMet l yX10_parse wsX10_parse rmX10_parse vwCl E [.ref (aM 0), .int x1] [sModel E aM anow aaside anames anamesAside atext aspelled acost afewestFrom afirst afresh aways aundo aslots aisSaved M_thrown M_length M_textSize M_start M_next M_token M_value M_error M_errorAt M_number M_many M_freshMany M_undos, sArrI E anow 365 now, sArrI E aaside 365 aside, sArrJ E anames 4 names, sArrJ E anamesAside 4 namesAside, sArrB E atext 600 text, sArrI E aspelled 12 spelled, sArrI E acost 13 cost, sArrI E afewestFrom 13 fewestFrom, sArrI E afirst 13 first, sArrI E afresh 12 fresh, sArrZ E aisSaved 2 isSaved] (fun v w => v = some (.int r) ∧ w = [sModel E aM anow aaside anames anamesAside atext aspelled acost afewestFrom afirst afresh aways aundo aslots aisSaved M_thrown' M_length' M_textSize' M_start' M_next' M_token' M_value' M_error' M_errorAt' M_number' M_many' M_freshMany' M_undos', sArrI E anow 365 now', sArrI E aaside 365 aside', sArrJ E anames 4 names', sArrJ E anamesAside 4 namesAside', sArrB E atext 600 text, sArrI E aspelled 12 spelled', sArrI E acost 13 cost', sArrI E afewestFrom 13 fewestFrom', sArrI E afirst 13 first', sArrI E afresh 12 fresh', sArrZ E aisSaved 2 isSaved']) 0 0 := by
  refine g_entry [some (.ref (aM 0)), some (.int x1), none, none] (by decide) rfl (Nat.le_of_ble_eq_true rfl) rfl ?_
  intro p e s m below meth c A F hnm
  unfold fX10_parse at hf
  refine g_aload_n F dX10_parse_0 rfl ?_
  refine g_iconst F 0 dX10_parse_1 rfl ?_
  refine g_put (C := RX10) (T := TX10) (N := 27) (tys := tyX10) (Lw' := [sModel E aM anow aaside anames anamesAside atext aspelled acost afewestFrom afirst afresh aways aundo aslots aisSaved 0 M_length M_textSize M_start M_next M_token M_value M_error M_errorAt M_number M_many M_freshMany M_undos, sArrI E anow 365 now, sArrI E aaside 365 aside, sArrJ E anames 4 names, sArrJ E anamesAside 4 namesAside, sArrB E atext 600 text, sArrI E aspelled 12 spelled, sArrI E acost 13 cost, sArrI E afewestFrom 13 fewestFrom, sArrI E afirst 13 first, sArrI E afresh 12 fresh, sArrZ E aisSaved 2 isSaved]) F 0 0 0 rfl rfl rfl iX10_parse_X10 tyX10_ok nmX10 (by decide) (by decide +kernel) rfl rfl rfl rfl (Nat.le_of_ble_eq_true rfl) dX10_parse_2 rfl ?_
  refine g_aload_n F dX10_parse_5 rfl ?_
  refine g_iload_n F dX10_parse_6 rfl ?_
  refine g_iconst F 0 dX10_parse_7 rfl ?_
  refine g_aload_n F dX10_parse_8 rfl ?_
  refine g_get (C := RX10) (T := TX10) (N := 27) F 0 0 6 rfl rfl rfl iX10_parse_X10 (by decide) (by decide +kernel) rfl dX10_parse_9 ?_
  obtain ⟨r_1, hg_1, hf⟩ := gb1_el hf
  refine g_callS (Lr := [sModel E aM anow aaside anames anamesAside atext aspelled acost afewestFrom afirst afresh aways aundo aslots aisSaved 0 M_length M_textSize M_start M_next M_token M_value M_error M_errorAt M_number M_many M_freshMany M_undos, sArrI E anow 365 now, sArrI E aaside 365 aside, sArrJ E anames 4 names, sArrJ E anamesAside 4 namesAside, sArrB E atext 600 text, sArrI E aspelled 12 spelled, sArrI E acost 13 cost, sArrI E afewestFrom 13 fewestFrom, sArrI E afirst 13 first, sArrI E afresh 12 fresh, sArrZ E aisSaved 2 isSaved]) (As := [.int x1, .int 0, .int M_length]) (rest := [.ref (aM 0)]) F 3 (ctX10_within l E x1 0 M_length r_1 hg_1) (va_cwS 3 F.2.2.2.2.2.1 gX10_parse_X10_within rfl rfl rfl h0X10_within ⟨Nat.le_of_ble_eq_true rfl, Nat.le_of_ble_eq_true rfl⟩) [] [0, 1, 2, 3, 4, 5, 6, 7, 8, 9, 10, 11] rfl rfl rfl rfl rfl rfl (Nat.le_of_ble_eq_true rfl) dX10_parse_12 ⟨Nat.le_of_ble_eq_true rfl, Nat.le_of_ble_eq_true rfl⟩ ?_
  rintro v w ⟨rfl, rfl, hz_1⟩
  refine g_norm (Lw' := [sModel E aM anow aaside anames anamesAside atext aspelled acost afewestFrom afirst afresh aways aundo aslots aisSaved 0 M_length M_textSize M_start M_next M_token M_value M_error M_errorAt M_number M_many M_freshMany M_undos, sArrI E anow 365 now, sArrI E aaside 365 aside, sArrJ E anames 4 names, sArrJ E anamesAside 4 namesAside, sArrB E atext 600 text, sArrI E aspelled 12 spelled, sArrI E acost 13 cost, sArrI E afewestFrom 13 fewestFrom, sArrI E afirst 13 first, sArrI E afresh 12 fresh, sArrZ E aisSaved 2 isSaved]) (st' := [.int r_1, .ref (aM 0)]) (pc' := 15) [0, 1, 2, 3, 4, 5, 6, 7, 8, 9, 10, 11] rfl rfl rfl rfl ?_
  obtain ⟨j_1, hj_1, hf⟩ := Lt_el hf
  have hj_1 : ∀ (t0_1 : Int32), j_1 t0_1 = some (r, M_thrown', M_length', M_textSize', M_start', M_next', M_token', M_value', M_error', M_errorAt', M_number', M_many', M_freshMany', M_undos', now', aside', names', namesAside', spelled', cost', fewestFrom', first', fresh', isSaved') → Gj p l e rmX10_parse s m ([.ref (aM 0), .int x1] : List Value).toArray below meth c 0 0 (MQ below (gQ vwCl E A (fun v w => v = some (.int r) ∧ w = [sModel E aM anow aaside anames anamesAside atext aspelled acost afewestFrom afirst afresh aways aundo aslots aisSaved M_thrown' M_length' M_textSize' M_start' M_next' M_token' M_value' M_error' M_errorAt' M_number' M_many' M_freshMany' M_undos', sArrI E anow 365 now', sArrI E aaside 365 aside', sArrJ E anames 4 names', sArrJ E anamesAside 4 namesAside', sArrB E atext 600 text, sArrI E aspelled 12 spelled', sArrI E acost 13 cost', sArrI E afewestFrom 13 fewestFrom', sArrI E afirst 13 first', sArrI E afresh 12 fresh', sArrZ E aisSaved 2 isSaved'])) ([.ref (aM 0), .int x1] : List Value).toArray s 0 0 A) vwCl E A [sModel E aM anow aaside anames anamesAside atext aspelled acost afewestFrom afirst afresh aways aundo aslots aisSaved 0 M_length M_textSize M_start M_next M_token M_value M_error M_errorAt M_number M_many M_freshMany M_undos, sArrI E anow 365 now, sArrI E aaside 365 aside, sArrJ E anames 4 names, sArrJ E anamesAside 4 namesAside, sArrB E atext 600 text, sArrI E aspelled 12 spelled, sArrI E acost 13 cost, sArrI E afewestFrom 13 fewestFrom, sArrI E afirst 13 first, sArrI E afresh 12 fresh, sArrZ E aisSaved 2 isSaved] [some (.ref (aM 0)), some (.int x1), none, none] [.int t0_1, .ref (aM 0)] 23 := by
    intro t0_1 hf
    rw [hj_1] at hf
    refine g_iconst F 1 dX10_parse_23 rfl ?_
    obtain ⟨r_2, M_thrown_1, hg_2, hf⟩ := gb2_el hf
    refine g_callV (C := RX10) (T := TX10) (N := 27) (Lr := [sArrI E anow 365 now, sArrI E aaside 365 aside, sArrJ E anames 4 names, sArrJ E anamesAside 4 namesAside, sArrB E atext 600 text, sArrI E aspelled 12 spelled, sArrI E acost 13 cost, sArrI E afewestFrom 13 fewestFrom, sArrI E afirst 13 first, sArrI E afresh 12 fresh, sArrZ E aisSaved 2 isSaved]) (As := [.int t0_1, .int 1]) (rest := []) F 0 0 2 (ctX10_throwsIf l E aM anow aaside anames anamesAside atext aspelled acost afewestFrom afirst afresh aways aundo aslots aisSaved t0_1 1 0 M_length M_textSize M_start M_next M_token M_value M_error M_errorAt M_number M_many M_freshMany M_undos r_2 M_thrown_1 hg_2) gX10_parse_X10_throwsIf rfl rfl rfl h0X10_throwsIf ⟨Nat.le_of_ble_eq_true rfl, Nat.le_of_ble_eq_true rfl⟩ rfl rfl rfl [0] [1, 2, 3, 4, 5, 6, 7, 8, 9, 10, 11] rfl rfl rfl rfl rfl rfl (Nat.le_of_ble_eq_true rfl) dX10_parse_24 ⟨Nat.le_of_ble_eq_true rfl, Nat.le_of_ble_eq_true rfl⟩ ?_
    rintro v w ⟨rfl, rfl, hz_2⟩
    refine g_norm (Lw' := [sModel E aM anow aaside anames anamesAside atext aspelled acost afewestFrom afirst afresh aways aundo aslots aisSaved M_thrown_1 M_length M_textSize M_start M_next M_token M_value M_error M_errorAt M_number M_many M_freshMany M_undos, sArrI E anow 365 now, sArrI E aaside 365 aside, sArrJ E anames 4 names, sArrJ E anamesAside 4 namesAside, sArrB E atext 600 text, sArrI E aspelled 12 spelled, sArrI E acost 13 cost, sArrI E afewestFrom 13 fewestFrom, sArrI E afirst 13 first, sArrI E afresh 12 fresh, sArrZ E aisSaved 2 isSaved]) (st' := [.int r_2]) (pc' := 27) [0, 1, 2, 3, 4, 5, 6, 7, 8, 9, 10, 11] rfl rfl rfl rfl ?_
    refine g_ifeq F 32 dX10_parse_27 (by decide) (fun hc_2 => ?_) (fun hc_2 => ?_)
    · replace hf := gi_t hc_2 hf
      refine g_aload_n F dX10_parse_32 rfl ?_
      refine g_iload_n F dX10_parse_33 rfl ?_
      refine g_put (C := RX10) (T := TX10) (N := 27) (tys := tyX10) (Lw' := [sModel E aM anow aaside anames anamesAside atext aspelled acost afewestFrom afirst afresh aways aundo aslots aisSaved M_thrown_1 M_length x1 M_start M_next M_token M_value M_error M_errorAt M_number M_many M_freshMany M_undos, sArrI E anow 365 now, sArrI E aaside 365 aside, sArrJ E anames 4 names, sArrJ E anamesAside 4 namesAside, sArrB E atext 600 text, sArrI E aspelled 12 spelled, sArrI E acost 13 cost, sArrI E afewestFrom 13 fewestFrom, sArrI E afirst 13 first, sArrI E afresh 12 fresh, sArrZ E aisSaved 2 isSaved]) F 0 0 7 rfl rfl rfl iX10_parse_X10 tyX10_ok nmX10 (by decide) (by decide +kernel) rfl rfl rfl rfl (Nat.le_of_ble_eq_true rfl) dX10_parse_34 rfl ?_
      refine g_aload_n F dX10_parse_37 rfl ?_
      refine g_iconst F 0 dX10_parse_38 rfl ?_
      refine g_put (C := RX10) (T := TX10) (N := 27) (tys := tyX10) (Lw' := [sModel E aM anow aaside anames anamesAside atext aspelled acost afewestFrom afirst afresh aways aundo aslots aisSaved M_thrown_1 0 x1 M_start M_next M_token M_value M_error M_errorAt M_number M_many M_freshMany M_undos, sArrI E anow 365 now, sArrI E aaside 365 aside, sArrJ E anames 4 names, sArrJ E anamesAside 4 namesAside, sArrB E atext 600 text, sArrI E aspelled 12 spelled, sArrI E acost 13 cost, sArrI E afewestFrom 13 fewestFrom, sArrI E afirst 13 first, sArrI E afresh 12 fresh, sArrZ E aisSaved 2 isSaved]) F 0 0 6 rfl rfl rfl iX10_parse_X10 tyX10_ok nmX10 (by decide) (by decide +kernel) rfl rfl rfl rfl (Nat.le_of_ble_eq_true rfl) dX10_parse_39 rfl ?_
      refine g_aload_n F dX10_parse_42 rfl ?_
      refine g_iconst F 0 dX10_parse_43 rfl ?_
      refine g_put (C := RX10) (T := TX10) (N := 27) (tys := tyX10) (Lw' := [sModel E aM anow aaside anames anamesAside atext aspelled acost afewestFrom afirst afresh aways aundo aslots aisSaved M_thrown_1 0 x1 M_start 0 M_token M_value M_error M_errorAt M_number M_many M_freshMany M_undos, sArrI E anow 365 now, sArrI E aaside 365 aside, sArrJ E anames 4 names, sArrJ E anamesAside 4 namesAside, sArrB E atext 600 text, sArrI E aspelled 12 spelled, sArrI E acost 13 cost, sArrI E afewestFrom 13 fewestFrom, sArrI E afirst 13 first, sArrI E afresh 12 fresh, sArrZ E aisSaved 2 isSaved]) F 0 0 9 rfl rfl rfl iX10_parse_X10 tyX10_ok nmX10 (by decide) (by decide +kernel) rfl rfl rfl rfl (Nat.le_of_ble_eq_true rfl) dX10_parse_44 rfl ?_
      refine g_aload_n F dX10_parse_47 rfl ?_
      refine g_iconst F 0 dX10_parse_48 rfl ?_
      refine g_put (C := RX10) (T := TX10) (N := 27) (tys := tyX10) (Lw' := [sModel E aM anow aaside anames anamesAside atext aspelled acost afewestFrom afirst afresh aways aundo aslots aisSaved M_thrown_1 0 x1 M_start 0 M_token M_value 0 M_errorAt M_number M_many M_freshMany M_undos, sArrI E anow 365 now, sArrI E aaside 365 aside, sArrJ E anames 4 names, sArrJ E anamesAside 4 namesAside, sArrB E atext 600 text, sArrI E aspelled 12 spelled, sArrI E acost 13 cost, sArrI E afewestFrom 13 fewestFrom, sArrI E afirst 13 first, sArrI E afresh 12 fresh, sArrZ E aisSaved 2 isSaved]) F 0 0 12 rfl rfl rfl iX10_parse_X10 tyX10_ok nmX10 (by decide) (by decide +kernel) rfl rfl rfl rfl (Nat.le_of_ble_eq_true rfl) dX10_parse_49 rfl ?_
      refine g_aload_n F dX10_parse_52 rfl ?_
      refine g_iconst F (-1) dX10_parse_53 rfl ?_
      refine g_put (C := RX10) (T := TX10) (N := 27) (tys := tyX10) (Lw' := [sModel E aM anow aaside anames anamesAside atext aspelled acost afewestFrom afirst afresh aways aundo aslots aisSaved M_thrown_1 0 x1 M_start 0 M_token M_value 0 (-1) M_number M_many M_freshMany M_undos, sArrI E anow 365 now, sArrI E aaside 365 aside, sArrJ E anames 4 names, sArrJ E anamesAside 4 namesAside, sArrB E atext 600 text, sArrI E aspelled 12 spelled, sArrI E acost 13 cost, sArrI E afewestFrom 13 fewestFrom, sArrI E afirst 13 first, sArrI E afresh 12 fresh, sArrZ E aisSaved 2 isSaved]) F 0 0 13 rfl rfl rfl iX10_parse_X10 tyX10_ok nmX10 (by decide) (by decide +kernel) rfl rfl rfl rfl (Nat.le_of_ble_eq_true rfl) dX10_parse_54 rfl ?_
      refine g_aload_n F dX10_parse_57 rfl ?_
      refine g_get (C := RX10) (T := TX10) (N := 27) F 0 0 1 rfl rfl rfl iX10_parse_X10 (by decide) (by decide +kernel) rfl dX10_parse_58 ?_
      refine g_aload_n F dX10_parse_61 rfl ?_
      refine g_get (C := RX10) (T := TX10) (N := 27) F 0 0 2 rfl rfl rfl iX10_parse_X10 (by decide) (by decide +kernel) rfl dX10_parse_62 ?_
      obtain ⟨aside_1, hg_3, hf⟩ := gb1_el hf
      refine g_callS (Lr := [sModel E aM anow aaside anames anamesAside atext aspelled acost afewestFrom afirst afresh aways aundo aslots aisSaved M_thrown_1 0 x1 M_start 0 M_token M_value 0 (-1) M_number M_many M_freshMany M_undos, sArrJ E anames 4 names, sArrJ E anamesAside 4 namesAside, sArrB E atext 600 text, sArrI E aspelled 12 spelled, sArrI E acost 13 cost, sArrI E afewestFrom 13 fewestFrom, sArrI E afirst 13 first, sArrI E afresh 12 fresh, sArrZ E aisSaved 2 isSaved]) (As := [.ref (anow 0), .ref (aaside 0)]) (rest := []) F 2 (ctX10_puts l E anow aaside 365 365 now aside aside_1 hg_3) (va_cwS 2 F.2.2.2.2.2.1 gX10_parse_X10_puts rfl rfl rfl h0X10_puts ⟨Nat.le_of_ble_eq_true rfl, Nat.le_of_ble_eq_true rfl⟩) [1, 2] [0, 3, 4, 5, 6, 7, 8, 9, 10, 11] rfl rfl rfl rfl rfl rfl (Nat.le_of_ble_eq_true rfl) dX10_parse_65 ⟨Nat.le_of_ble_eq_true rfl, Nat.le_of_ble_eq_true rfl⟩ ?_
      rintro v w ⟨rfl, rfl⟩
      refine g_norm (Lw' := [sModel E aM anow aaside anames anamesAside atext aspelled acost afewestFrom afirst afresh aways aundo aslots aisSaved M_thrown_1 0 x1 M_start 0 M_token M_value 0 (-1) M_number M_many M_freshMany M_undos, sArrI E anow 365 now, sArrI E aaside 365 aside_1, sArrJ E anames 4 names, sArrJ E anamesAside 4 namesAside, sArrB E atext 600 text, sArrI E aspelled 12 spelled, sArrI E acost 13 cost, sArrI E afewestFrom 13 fewestFrom, sArrI E afirst 13 first, sArrI E afresh 12 fresh, sArrZ E aisSaved 2 isSaved]) (st' := []) (pc' := 68) [2, 0, 1, 3, 4, 5, 6, 7, 8, 9, 10, 11] rfl rfl rfl rfl ?_
      refine g_iconst F 0 dX10_parse_68 rfl ?_
      refine g_istore_n (lv' := [some (.ref (aM 0)), some (.int x1), some (.int 0), none]) F dX10_parse_69 (Nat.le_of_ble_eq_true rfl) rfl rfl ?_
      refine g_mask [true, false, true, true] rfl ?_
      refine ktX10_parse_L70 F aM anow aaside anames anamesAside atext aspelled acost afewestFrom afirst afresh aways aundo aslots aisSaved names M_thrown_1 0 x1 M_start 0 M_token M_value 0 (-1) M_number M_many M_freshMany M_undos now aside_1 text spelled cost fewestFrom first fresh isSaved r M_thrown' M_length' M_textSize' M_start' M_next' M_token' M_value' M_error' M_errorAt' M_number' M_many' M_freshMany' M_undos' now' aside' names' namesAside' spelled' cost' fewestFrom' first' fresh' isSaved' (fun namesAside_1 hf => ?_) FU 0 namesAside hf
      refine g_iconst F 0 dX10_parse_93 rfl ?_
      refine g_istore_n (lv' := [some (.ref (aM 0)), none, some (.int 0), none]) F dX10_parse_94 (Nat.le_of_ble_eq_true rfl) rfl rfl ?_
      refine ktX10_parse_L95 F aM anow aaside anames anamesAside atext aspelled acost afewestFrom afirst afresh aways aundo aslots aisSaved M_thrown_1 0 x1 M_start 0 M_token M_value 0 (-1) M_number M_many M_freshMany M_undos aside_1 names namesAside_1 text spelled cost fewestFrom first fresh isSaved r M_thrown' M_length' M_textSize' M_start' M_next' M_token' M_value' M_error' M_errorAt' M_number' M_many' M_freshMany' M_undos' now' aside' names' namesAside' spelled' cost' fewestFrom' first' fresh' isSaved' (fun now_1 hf => ?_) FU 0 now hf
      refine g_aload_n F dX10_parse_115 rfl ?_
      obtain ⟨M_start_1, M_next_1, M_token_1, M_value_1, hg_4, hf⟩ := gb4_el hf
      refine g_callV (C := RX10) (T := TX10) (N := 27) (Lr := [sArrI E anow 365 now_1, sArrI E aaside 365 aside_1, sArrJ E anames 4 names, sArrJ E anamesAside 4 namesAside_1, sArrI E aspelled 12 spelled, sArrI E acost 13 cost, sArrI E afewestFrom 13 fewestFrom, sArrI E afirst 13 first, sArrI E afresh 12 fresh, sArrZ E aisSaved 2 isSaved]) (As := []) (rest := []) F 0 0 0 (ctX10_advance l E aM anow aaside anames anamesAside atext aspelled acost afewestFrom afirst afresh aways aundo aslots aisSaved M_thrown_1 0 x1 M_start 0 M_token M_value 0 (-1) M_number M_many M_freshMany M_undos text M_start_1 M_next_1 M_token_1 M_value_1 hg_4) gX10_parse_X10_advance rfl rfl rfl h0X10_advance ⟨Nat.le_of_ble_eq_true rfl, Nat.le_of_ble_eq_true rfl⟩ rfl rfl rfl [0, 5] [1, 2, 3, 4, 6, 7, 8, 9, 10, 11] rfl rfl rfl rfl rfl rfl (Nat.le_of_ble_eq_true rfl) dX10_parse_116 ⟨Nat.le_of_ble_eq_true rfl, Nat.le_of_ble_eq_true rfl⟩ ?_
      rintro v w ⟨rfl, rfl⟩
      refine g_norm (Lw' := [sModel E aM anow aaside anames anamesAside atext aspelled acost afewestFrom afirst afresh aways aundo aslots aisSaved M_thrown_1 0 x1 M_start_1 M_next_1 M_token_1 M_value_1 0 (-1) M_number M_many M_freshMany M_undos, sArrI E anow 365 now_1, sArrI E aaside 365 aside_1, sArrJ E anames 4 names, sArrJ E anamesAside 4 namesAside_1, sArrB E atext 600 text, sArrI E aspelled 12 spelled, sArrI E acost 13 cost, sArrI E afewestFrom 13 fewestFrom, sArrI E afirst 13 first, sArrI E afresh 12 fresh, sArrZ E aisSaved 2 isSaved]) (st' := []) (pc' := 119) [0, 2, 3, 4, 5, 1, 6, 7, 8, 9, 10, 11] rfl rfl rfl rfl ?_
      refine g_aload_n F dX10_parse_119 rfl ?_
      obtain ⟨r_3, M_start_2, M_next_2, M_token_2, M_value_2, M_error_1, M_errorAt_1, M_number_1, now_2, hg_5, hf⟩ := gb9_el hf
      refine g_callV (C := RX10) (T := TX10) (N := 27) (Lr := [sArrI E aaside 365 aside_1, sArrJ E anames 4 names, sArrJ E anamesAside 4 namesAside_1, sArrI E aspelled 12 spelled, sArrI E acost 13 cost, sArrI E afewestFrom 13 fewestFrom, sArrI E afirst 13 first, sArrI E afresh 12 fresh, sArrZ E aisSaved 2 isSaved]) (As := []) (rest := []) F 0 0 0 (ctX10_head l E aM anow aaside anames anamesAside atext aspelled acost afewestFrom afirst afresh aways aundo aslots aisSaved M_thrown_1 0 x1 M_start_1 M_next_1 M_token_1 M_value_1 0 (-1) M_number M_many M_freshMany M_undos now_1 text r_3 M_start_2 M_next_2 M_token_2 M_value_2 M_error_1 M_errorAt_1 M_number_1 now_2 hg_5) gX10_parse_X10_head rfl rfl rfl h0X10_head ⟨Nat.le_of_ble_eq_true rfl, Nat.le_of_ble_eq_true rfl⟩ rfl rfl rfl [0, 1, 5] [2, 3, 4, 6, 7, 8, 9, 10, 11] rfl rfl rfl rfl rfl rfl (Nat.le_of_ble_eq_true rfl) dX10_parse_120 ⟨Nat.le_of_ble_eq_true rfl, Nat.le_of_ble_eq_true rfl⟩ ?_
      rintro v w ⟨rfl, rfl, hz_3⟩
      refine g_norm (Lw' := [sModel E aM anow aaside anames anamesAside atext aspelled acost afewestFrom afirst afresh aways aundo aslots aisSaved M_thrown_1 0 x1 M_start_2 M_next_2 M_token_2 M_value_2 M_error_1 M_errorAt_1 M_number_1 M_many M_freshMany M_undos, sArrI E anow 365 now_2, sArrI E aaside 365 aside_1, sArrJ E anames 4 names, sArrJ E anamesAside 4 namesAside_1, sArrB E atext 600 text, sArrI E aspelled 12 spelled, sArrI E acost 13 cost, sArrI E afewestFrom 13 fewestFrom, sArrI E afirst 13 first, sArrI E afresh 12 fresh, sArrZ E aisSaved 2 isSaved]) (st' := [.int r_3]) (pc' := 123) [0, 1, 3, 4, 5, 2, 6, 7, 8, 9, 10, 11] rfl rfl rfl rfl ?_
      refine g_istore_n (lv' := [some (.ref (aM 0)), none, some (.int r_3), none]) F dX10_parse_123 (Nat.le_of_ble_eq_true rfl) rfl rfl ?_
      refine ktX10_parse_L124 F aM anow aaside anames anamesAside atext aspelled acost afewestFrom afirst afresh aways aundo aslots aisSaved x1 text M_thrown_1 0 M_undos aside_1 namesAside_1 isSaved r M_thrown' M_length' M_textSize' M_start' M_next' M_token' M_value' M_error' M_errorAt' M_number' M_many' M_freshMany' M_undos' now' aside' names' namesAside' spelled' cost' fewestFrom' first' fresh' isSaved' (fun x2_1 M_start_3 M_next_3 M_token_3 M_value_3 M_error_2 M_errorAt_2 M_number_2 M_many_1 M_freshMany_1 now_3 names_1 spelled_1 cost_1 fewestFrom_1 first_1 fresh_1 hf => ?_) FU r_3 M_start_2 M_next_2 M_token_2 M_value_2 M_error_1 M_errorAt_1 M_number_1 M_many M_freshMany now_2 names spelled cost fewestFrom first fresh hf
      refine g_iload_n F dX10_parse_158 rfl ?_
      refine g_ifne F 203 dX10_parse_159 (by decide) (fun hc_1 => ?_) (fun hc_1 => ?_)
      · replace hf := gi_f hc_1 hf
        refine g_aload_n F dX10_parse_203 rfl ?_
        refine g_iconst F 0 dX10_parse_204 rfl ?_
        refine g_put (C := RX10) (T := TX10) (N := 27) (tys := tyX10) (Lw' := [sModel E aM anow aaside anames anamesAside atext aspelled acost afewestFrom afirst afresh aways aundo aslots aisSaved M_thrown_1 0 x1 M_start_3 M_next_3 M_token_3 M_value_3 M_error_2 M_errorAt_2 M_number_2 M_many_1 M_freshMany_1 0, sArrI E anow 365 now_3, sArrI E aaside 365 aside_1, sArrJ E anames 4 names_1, sArrJ E anamesAside 4 namesAside_1, sArrB E atext 600 text, sArrI E aspelled 12 spelled_1, sArrI E acost 13 cost_1, sArrI E afewestFrom 13 fewestFrom_1, sArrI E afirst 13 first_1, sArrI E afresh 12 fresh_1, sArrZ E aisSaved 2 isSaved]) F 0 0 23 rfl rfl rfl iX10_parse_X10 tyX10_ok nmX10 (by decide) (by decide +kernel) rfl rfl rfl rfl (Nat.le_of_ble_eq_true rfl) dX10_parse_205 rfl ?_
        refine g_aload_n F dX10_parse_208 rfl ?_
        refine g_get (C := RX10) (T := TX10) (N := 27) F 0 0 26 rfl rfl rfl iX10_parse_X10 (by decide) (by decide +kernel) rfl dX10_parse_209 ?_
        refine g_iconst F 0 dX10_parse_212 rfl ?_
        refine g_iconst F 0 dX10_parse_213 rfl ?_
        obtain ⟨isSaved_1, hisSaved_1, hf⟩ := Lt_el hf
        refine g_zast (Lw' := [sModel E aM anow aaside anames anamesAside atext aspelled acost afewestFrom afirst afresh aways aundo aslots aisSaved M_thrown_1 0 x1 M_start_3 M_next_3 M_token_3 M_value_3 M_error_2 M_errorAt_2 M_number_2 M_many_1 M_freshMany_1 0, sArrI E anow 365 now_3, sArrI E aaside 365 aside_1, sArrJ E anames 4 names_1, sArrJ E anamesAside 4 namesAside_1, sArrB E atext 600 text, sArrI E aspelled 12 spelled_1, sArrI E acost 13 cost_1, sArrI E afewestFrom 13 fewestFrom_1, sArrI E afirst 13 first_1, sArrI E afresh 12 fresh_1, sArrZ E aisSaved 2 isSaved_1]) F 11 0 0 (by decide) rfl rfl (by decide) dX10_parse_214 (by subst hisSaved_1; rfl) ?_
        refine g_aload_n F dX10_parse_215 rfl ?_
        refine g_get (C := RX10) (T := TX10) (N := 27) F 0 0 26 rfl rfl rfl iX10_parse_X10 (by decide) (by decide +kernel) rfl dX10_parse_216 ?_
        refine g_iconst F 1 dX10_parse_219 rfl ?_
        refine g_iconst F 0 dX10_parse_220 rfl ?_
        obtain ⟨isSaved_2, hisSaved_2, hf⟩ := Lt_el hf
        refine g_zast (Lw' := [sModel E aM anow aaside anames anamesAside atext aspelled acost afewestFrom afirst afresh aways aundo aslots aisSaved M_thrown_1 0 x1 M_start_3 M_next_3 M_token_3 M_value_3 M_error_2 M_errorAt_2 M_number_2 M_many_1 M_freshMany_1 0, sArrI E anow 365 now_3, sArrI E aaside 365 aside_1, sArrJ E anames 4 names_1, sArrJ E anamesAside 4 namesAside_1, sArrB E atext 600 text, sArrI E aspelled 12 spelled_1, sArrI E acost 13 cost_1, sArrI E afewestFrom 13 fewestFrom_1, sArrI E afirst 13 first_1, sArrI E afresh 12 fresh_1, sArrZ E aisSaved 2 isSaved_2]) F 11 0 1 (by decide) rfl rfl (by decide) dX10_parse_221 (by subst hisSaved_2; rfl) ?_
        refine g_iconst F 0 dX10_parse_222 rfl ?_
        cases hf
        exact g_iret F rfl ⟨rfl, rfl⟩ dX10_parse_223
      · replace hf := gi_t hc_1 hf
        refine g_aload_n F dX10_parse_162 rfl ?_
        refine g_get (C := RX10) (T := TX10) (N := 27) F 0 0 2 rfl rfl rfl iX10_parse_X10 (by decide) (by decide +kernel) rfl dX10_parse_163 ?_
        refine g_aload_n F dX10_parse_166 rfl ?_
        refine g_get (C := RX10) (T := TX10) (N := 27) F 0 0 1 rfl rfl rfl iX10_parse_X10 (by decide) (by decide +kernel) rfl dX10_parse_167 ?_
        obtain ⟨now_4, hg_6, hf⟩ := gb1_el hf
        refine g_callS (Lr := [sModel E aM anow aaside anames anamesAside atext aspelled acost afewestFrom afirst afresh aways aundo aslots aisSaved M_thrown_1 0 x1 M_start_3 M_next_3 M_token_3 M_value_3 M_error_2 M_errorAt_2 M_number_2 M_many_1 M_freshMany_1 M_undos, sArrJ E anames 4 names_1, sArrJ E anamesAside 4 namesAside_1, sArrB E atext 600 text, sArrI E aspelled 12 spelled_1, sArrI E acost 13 cost_1, sArrI E afewestFrom 13 fewestFrom_1, sArrI E afirst 13 first_1, sArrI E afresh 12 fresh_1, sArrZ E aisSaved 2 isSaved]) (As := [.ref (aaside 0), .ref (anow 0)]) (rest := []) F 2 (ctX10_puts l E aaside anow 365 365 aside_1 now_3 now_4 hg_6) (va_cwS 2 F.2.2.2.2.2.1 gX10_parse_X10_puts rfl rfl rfl h0X10_puts ⟨Nat.le_of_ble_eq_true rfl, Nat.le_of_ble_eq_true rfl⟩) [2, 1] [0, 3, 4, 5, 6, 7, 8, 9, 10, 11] rfl rfl rfl rfl rfl rfl (Nat.le_of_ble_eq_true rfl) dX10_parse_170 ⟨Nat.le_of_ble_eq_true rfl, Nat.le_of_ble_eq_true rfl⟩ ?_
        rintro v w ⟨rfl, rfl⟩
        refine g_norm (Lw' := [sModel E aM anow aaside anames anamesAside atext aspelled acost afewestFrom afirst afresh aways aundo aslots aisSaved M_thrown_1 0 x1 M_start_3 M_next_3 M_token_3 M_value_3 M_error_2 M_errorAt_2 M_number_2 M_many_1 M_freshMany_1 M_undos, sArrI E anow 365 now_4, sArrI E aaside 365 aside_1, sArrJ E anames 4 names_1, sArrJ E anamesAside 4 namesAside_1, sArrB E atext 600 text, sArrI E aspelled 12 spelled_1, sArrI E acost 13 cost_1, sArrI E afewestFrom 13 fewestFrom_1, sArrI E afirst 13 first_1, sArrI E afresh 12 fresh_1, sArrZ E aisSaved 2 isSaved]) (st' := []) (pc' := 173) [2, 1, 0, 3, 4, 5, 6, 7, 8, 9, 10, 11] rfl rfl rfl rfl ?_
        refine g_iconst F 0 dX10_parse_173 rfl ?_
        refine g_istore_n (lv' := [some (.ref (aM 0)), none, some (.int x2_1), some (.int 0)]) F dX10_parse_174 (Nat.le_of_ble_eq_true rfl) rfl rfl ?_
        refine g_mask [true, true, false, true] rfl ?_
        refine ktX10_parse_L175 F aM anow aaside anames anamesAside atext aspelled acost afewestFrom afirst afresh aways aundo aslots aisSaved namesAside_1 M_thrown_1 0 x1 M_start_3 M_next_3 M_token_3 M_value_3 M_error_2 M_errorAt_2 M_number_2 M_many_1 M_freshMany_1 M_undos now_4 aside_1 text spelled_1 cost_1 fewestFrom_1 first_1 fresh_1 isSaved r M_thrown' M_length' M_textSize' M_start' M_next' M_token' M_value' M_error' M_errorAt' M_number' M_many' M_freshMany' M_undos' now' aside' names' namesAside' spelled' cost' fewestFrom' first' fresh' isSaved' (fun names_2 hf => ?_) FU 0 names_1 hf
        refine g_aload_n F dX10_parse_198 rfl ?_
        refine g_get (C := RX10) (T := TX10) (N := 27) F 0 0 12 rfl rfl rfl iX10_parse_X10 (by decide) (by decide +kernel) rfl dX10_parse_199 ?_
        cases hf
        exact g_iret F rfl ⟨rfl, rfl⟩ dX10_parse_202
    · replace hf := gi_f hc_2 hf
      refine g_iconst F 0 dX10_parse_30 rfl ?_
      cases hf
      exact g_iret F rfl ⟨rfl, rfl⟩ dX10_parse_31
  refine g_ifne F 22 dX10_parse_15 (by decide) (fun hc_3 => ?_) (fun hc_3 => ?_)
  · replace hf := gi_f hc_3 hf
    refine g_iconst F 0 dX10_parse_22 rfl ?_
    exact hj_1 0 hf
  · replace hf := gi_t hc_3 hf
    refine g_iconst F 1 dX10_parse_18 rfl ?_
    refine g_goto F 23 dX10_parse_19 (by decide) ?_
    exact hj_1 1 hf
