abbrev rmX10_usesTold : Room := { frames := 1, cells := 0, slots := 0, locals := 22 }
theorem iX10_usesTold_X10 : ∀ w ∈ u_ws RX10 TX10 27, w ∈ wsX10_usesTold := by decide +kernel
theorem h0X10_usesTold : yX10_usesTold.cls = RX10 ∧ yX10_usesTold.cls ≠ "java/lang/invoke/MethodHandle" ∧ yX10_usesTold.cls ≠ "java/lang/invoke/VarHandle" ∧ (parseMethodDescriptor yX10_usesTold.desc).map (fun d => d.parameters.length) = some 1 := by decide +kernel
abbrev rmX10_isWhole : Room := { frames := 2, cells := 0, slots := 0, locals := 47 }
theorem iX10_isWhole_X10 : ∀ w ∈ u_ws RX10 TX10 27, w ∈ wsX10_isWhole := by decide +kernel
theorem h0X10_isWhole : yX10_isWhole.cls = RX10 ∧ yX10_isWhole.cls ≠ "java/lang/invoke/MethodHandle" ∧ yX10_isWhole.cls ≠ "java/lang/invoke/VarHandle" ∧ (parseMethodDescriptor yX10_isWhole.desc).map (fun d => d.parameters.length) = some 0 := by decide +kernel
abbrev rmX10_account : Room := { frames := 1, cells := 0, slots := 0, locals := 22 }
theorem iX10_account_X10 : ∀ w ∈ u_ws RX10 TX10 27, w ∈ wsX10_account := by decide +kernel
theorem h0X10_account : yX10_account.cls = RX10 ∧ yX10_account.cls ≠ "java/lang/invoke/MethodHandle" ∧ yX10_account.cls ≠ "java/lang/invoke/VarHandle" ∧ (parseMethodDescriptor yX10_account.desc).map (fun d => d.parameters.length) = some 1 := by decide +kernel
abbrev rmX10_copies : Room := { frames := 0, cells := 0, slots := 0, locals := 0 }
theorem h0X10_copies : yX10_copies.cls ≠ "java/lang/invoke/MethodHandle" ∧ yX10_copies.cls ≠ "java/lang/invoke/VarHandle" ∧ (parseMethodDescriptor yX10_copies.desc).map (fun d => d.parameters.length) = some 4 := by decide +kernel
abbrev rmX10_copiesA : Room := { frames := 0, cells := 0, slots := 0, locals := 0 }
theorem h0X10_copiesA : yX10_copies.cls ≠ "java/lang/invoke/MethodHandle" ∧ yX10_copies.cls ≠ "java/lang/invoke/VarHandle" ∧ (parseMethodDescriptor yX10_copies.desc).map (fun d => d.parameters.length) = some 4 := by decide +kernel
abbrev rmX10_keeps : Room := { frames := 1, cells := 0, slots := 0, locals := 24 }
theorem iX10_keeps_X10 : ∀ w ∈ u_ws RX10 TX10 27, w ∈ wsX10_keeps := by decide +kernel
theorem h0X10_keeps : yX10_keeps.cls = RX10 ∧ yX10_keeps.cls ≠ "java/lang/invoke/MethodHandle" ∧ yX10_keeps.cls ≠ "java/lang/invoke/VarHandle" ∧ (parseMethodDescriptor yX10_keeps.desc).map (fun d => d.parameters.length) = some 0 := by decide +kernel
abbrev rmX10_store : Room := { frames := 5, cells := 0, slots := 0, locals := 116 }
theorem h0X10_store : yX10_store.cls = RX10 ∧ yX10_store.cls ≠ "java/lang/invoke/MethodHandle" ∧ yX10_store.cls ≠ "java/lang/invoke/VarHandle" ∧ (parseMethodDescriptor yX10_store.desc).map (fun d => d.parameters.length) = some 1 := by decide +kernel
abbrev rmX10_remove : Room := { frames := 3, cells := 0, slots := 0, locals := 65 }
theorem iX10_remove_X10 : ∀ w ∈ u_ws RX10 TX10 27, w ∈ wsX10_remove := by decide +kernel
theorem h0X10_remove : yX10_remove.cls = RX10 ∧ yX10_remove.cls ≠ "java/lang/invoke/MethodHandle" ∧ yX10_remove.cls ≠ "java/lang/invoke/VarHandle" ∧ (parseMethodDescriptor yX10_remove.desc).map (fun d => d.parameters.length) = some 1 := by decide +kernel
abbrev rmX10_recut : Room := { frames := 5, cells := 0, slots := 0, locals := 120 }
theorem h0X10_recut : yX10_recut.cls = RX10 ∧ yX10_recut.cls ≠ "java/lang/invoke/MethodHandle" ∧ yX10_recut.cls ≠ "java/lang/invoke/VarHandle" ∧ (parseMethodDescriptor yX10_recut.desc).map (fun d => d.parameters.length) = some 1 := by decide +kernel
abbrev rmX10_recutAll : Room := { frames := 5, cells := 0, slots := 0, locals := 120 }
theorem iX10_recutAll_X10 : ∀ w ∈ u_ws RX10 TX10 27, w ∈ wsX10_recutAll := by decide +kernel
theorem h0X10_recutAll : yX10_recutAll.cls = RX10 ∧ yX10_recutAll.cls ≠ "java/lang/invoke/MethodHandle" ∧ yX10_recutAll.cls ≠ "java/lang/invoke/VarHandle" ∧ (parseMethodDescriptor yX10_recutAll.desc).map (fun d => d.parameters.length) = some 0 := by decide +kernel
abbrev rmX10_bring : Room := { frames := 3, cells := 0, slots := 0, locals := 66 }
theorem iX10_bring_X10 : ∀ w ∈ u_ws RX10 TX10 27, w ∈ wsX10_bring := by decide +kernel
theorem h0X10_bring : yX10_bring.cls = RX10 ∧ yX10_bring.cls ≠ "java/lang/invoke/MethodHandle" ∧ yX10_bring.cls ≠ "java/lang/invoke/VarHandle" ∧ (parseMethodDescriptor yX10_bring.desc).map (fun d => d.parameters.length) = some 1 := by decide +kernel
abbrev rmX10_tick : Room := { frames := 3, cells := 0, slots := 0, locals := 70 }
theorem iX10_tick_X10 : ∀ w ∈ u_ws RX10 TX10 27, w ∈ wsX10_tick := by decide +kernel
theorem h0X10_tick : yX10_tick.cls = RX10 ∧ yX10_tick.cls ≠ "java/lang/invoke/MethodHandle" ∧ yX10_tick.cls ≠ "java/lang/invoke/VarHandle" ∧ (parseMethodDescriptor yX10_tick.desc).map (fun d => d.parameters.length) = some 1 := by decide +kernel
abbrev rmX10_pay : Room := { frames := 3, cells := 0, slots := 0, locals := 65 }
theorem iX10_pay_X10 : ∀ w ∈ u_ws RX10 TX10 27, w ∈ wsX10_pay := by decide +kernel
theorem h0X10_pay : yX10_pay.cls = RX10 ∧ yX10_pay.cls ≠ "java/lang/invoke/MethodHandle" ∧ yX10_pay.cls ≠ "java/lang/invoke/VarHandle" ∧ (parseMethodDescriptor yX10_pay.desc).map (fun d => d.parameters.length) = some 3 := by decide +kernel
abbrev rmX10_undo : Room := { frames := 1, cells := 0, slots := 0, locals := 24 }
theorem iX10_undo_X10 : ∀ w ∈ u_ws RX10 TX10 27, w ∈ wsX10_undo := by decide +kernel
theorem h0X10_undo : yX10_undo.cls = RX10 ∧ yX10_undo.cls ≠ "java/lang/invoke/MethodHandle" ∧ yX10_undo.cls ≠ "java/lang/invoke/VarHandle" ∧ (parseMethodDescriptor yX10_undo.desc).map (fun d => d.parameters.length) = some 0 := by decide +kernel
abbrev rmX10_noSlot : Room := { frames := 2, cells := 0, slots := 0, locals := 44 }
theorem iX10_noSlot_X10 : ∀ w ∈ u_ws RX10 TX10 27, w ∈ wsX10_noSlot := by decide +kernel
theorem h0X10_noSlot : yX10_noSlot.cls = RX10 ∧ yX10_noSlot.cls ≠ "java/lang/invoke/MethodHandle" ∧ yX10_noSlot.cls ≠ "java/lang/invoke/VarHandle" ∧ (parseMethodDescriptor yX10_noSlot.desc).map (fun d => d.parameters.length) = some 1 := by decide +kernel
abbrev rmX10_saveSnapshot : Room := { frames := 3, cells := 0, slots := 0, locals := 65 }
theorem iX10_saveSnapshot_X10 : ∀ w ∈ u_ws RX10 TX10 27, w ∈ wsX10_saveSnapshot := by decide +kernel
theorem h0X10_saveSnapshot : yX10_saveSnapshot.cls = RX10 ∧ yX10_saveSnapshot.cls ≠ "java/lang/invoke/MethodHandle" ∧ yX10_saveSnapshot.cls ≠ "java/lang/invoke/VarHandle" ∧ (parseMethodDescriptor yX10_saveSnapshot.desc).map (fun d => d.parameters.length) = some 1 := by decide +kernel
abbrev rmX10_restoreSnapshot : Room := { frames := 3, cells := 0, slots := 0, locals := 65 }
theorem iX10_restoreSnapshot_X10 : ∀ w ∈ u_ws RX10 TX10 27, w ∈ wsX10_restoreSnapshot := by decide +kernel
theorem h0X10_restoreSnapshot : yX10_restoreSnapshot.cls = RX10 ∧ yX10_restoreSnapshot.cls ≠ "java/lang/invoke/MethodHandle" ∧ yX10_restoreSnapshot.cls ≠ "java/lang/invoke/VarHandle" ∧ (parseMethodDescriptor yX10_restoreSnapshot.desc).map (fun d => d.parameters.length) = some 1 := by decide +kernel
def fX10_usesTold_L18 (x1 : Int32) (x3 : Int32) (now : (Nat → Int32)) (k : Int32 → Option (Int32)) : Nat → Int32 → Int32 → Option (Int32)
  | 0, _, _ => none
  | n + 1, x2, x4 => gb1 (fX10_ofWord x3 1 now) fun (r_1 : Int32) => if r_1 ≤ x4 then (k x2) else (gb1 (fX10_ofWord x3 (2 + x4) now) fun (r_2 : Int32) => if r_2 = x1 then (fX10_usesTold_L18 x1 x3 now k n (x2 + 1) (x4 + 1)) else (fX10_usesTold_L18 x1 x3 now k n (x2 + 0) (x4 + 1)))
def fX10_usesTold_L4 (x1 : Int32) (now : (Nat → Int32)) (k : Int32 → Option (Int32)) : Nat → Int32 → Int32 → Option (Int32)
  | 0, _, _ => none
  | n + 1, x2, x3 => if (now 10) ≤ x3 then (k x2) else (fX10_usesTold_L18 x1 x3 now (fun (x2_1 : Int32) => (fX10_usesTold_L4 x1 now k n x2_1 (x3 + 1))) FU x2 0)
def fX10_usesTold (x1 : Int32) (now : (Nat → Int32)) : Option (Int32) := fX10_usesTold_L4 x1 now (fun (x2_1 : Int32) => (some x2_1)) FU 0 0
def fX10_isWhole_L11 (now : (Nat → Int32)) (k : Int32 → Int32 → Int32 → (Nat → Int32) → Option (Int32 × Int32 × Int32 × (Nat → Int32))) : Nat → Int32 → Int32 → Int32 → Int32 → (Nat → Int32) → Option (Int32 × Int32 × Int32 × (Nat → Int32))
  | 0, _, _, _, _, _ => none
  | n + 1, x1, x2, x3, M_many, spelled => if (now 10) ≤ x3 then (k x1 x2 M_many spelled) else (gb1 (fX10_ofWord x3 1 now) fun (r_1 : Int32) => gb2 (fX10_spellsWord x3 M_many now spelled) fun (M_many_1 : Int32) (spelled_1 : (Nat → Int32)) => if x2 = 0 then (fX10_isWhole_L11 now k n (x1 + ((now 2) * r_1)) 0 (x3 + 1) M_many_1 spelled_1) else (gb1 (fX10_within M_many_1 1 12) fun (r_2 : Int32) => if r_2 = 0 then (fX10_isWhole_L11 now k n (x1 + ((now 2) * r_1)) 0 (x3 + 1) M_many_1 spelled_1) else (fX10_isWhole_L11 now k n (x1 + ((now 2) * r_1)) 1 (x3 + 1) M_many_1 spelled_1)))
def fX10_isWhole_L74 (x1 : Int32) (now : (Nat → Int32)) (k : Int32 → Option (Int32 × Int32 × Int32 × (Nat → Int32))) : Nat → Int32 → Int32 → Option (Int32 × Int32 × Int32 × (Nat → Int32))
  | 0, _, _ => none
  | n + 1, x2, x3 => if (now 9) ≤ x3 then (k x2) else (if x2 = 0 then (fX10_isWhole_L74 x1 now k n 0 (x3 + 1)) else (gb1 (fX10_usesTold x3 now) fun (r_1 : Int32) => gb1 (fX10_ofPiece x3 3 now) fun (r_2 : Int32) => if r_1 = r_2 then (fX10_isWhole_L74 x1 now k n 1 (x3 + 1)) else (fX10_isWhole_L74 x1 now k n 0 (x3 + 1))))
def fX10_isWhole (M_thrown : Int32) (M_many : Int32) (now : (Nat → Int32)) (spelled : (Nat → Int32)) : Option (Int32 × Int32 × Int32 × (Nat → Int32)) := fX10_isWhole_L11 now (fun (x1_1 : Int32) (x2_1 : Int32) (M_many_1 : Int32) (spelled_1 : (Nat → Int32)) => (fX10_isWhole_L74 x1_1 now (fun (x2_2 : Int32) => (if x2_2 = 0 then (some (0, 0, M_many_1, spelled_1)) else (if x1_1 = (now 8) then (some (1, 0, M_many_1, spelled_1)) else (some (0, 0, M_many_1, spelled_1))))) FU x2_1 0)) FU 0 1 0 M_many spelled
def fX10_account (x1 : Int32) (M_thrown : Int32) (now : (Nat → Int32)) : Option (Int32 × Int32) := gb1 (fX10_within x1 0 5) fun (r_1 : Int32) => Lt (fun (t0_1 : Int32) => (gb2 (fX10_throwsIf t0_1 1 0) fun (r_2 : Int32) (M_thrown_1 : Int32) => if r_2 = 0 then (if (11 + x1) < 0 ∨ 365 ≤ (11 + x1).toNatClampNeg then none else some (now ((11 + x1).toNatClampNeg), M_thrown_1)) else (some (0, M_thrown_1)))) fun (j_1 : Int32 → Option (Int32 × Int32)) => if r_1 = 0 then (j_1 1) else (j_1 0)
def fX10_copies_L3 (n_p0 : Nat) (n_p2 : Nat) (x1 : Int32) (x3 : Int32) (p0 : (Nat → Int32)) (k : (Nat → Int32) → Option ((Nat → Int32))) : Nat → Int32 → (Nat → Int32) → Option ((Nat → Int32))
  | 0, _, _ => none
  | n + 1, x4, p2 => if 365 ≤ x4 then (k p2) else (if (x1 + x4) < 0 ∨ n_p0 ≤ (x1 + x4).toNatClampNeg then none else if (x3 + x4) < 0 ∨ n_p2 ≤ (x3 + x4).toNatClampNeg then none else Lt (upd p2 ((x3 + x4).toNatClampNeg) (p0 ((x1 + x4).toNatClampNeg))) fun (p2_1 : (Nat → Int32)) => fX10_copies_L3 n_p0 n_p2 x1 x3 p0 k n (x4 + 1) p2_1)
def fX10_copies (n_p0 : Nat) (n_p2 : Nat) (x1 : Int32) (x3 : Int32) (p0 : (Nat → Int32)) (p2 : (Nat → Int32)) : Option ((Nat → Int32)) := fX10_copies_L3 n_p0 n_p2 x1 x3 p0 (fun (p2_1 : (Nat → Int32)) => (some p2_1)) FU 0 p2
def fX10_copiesA_L3 (n_p0 : Nat) (x1 : Int32) (x3 : Int32) (k : (Nat → Int32) → Option ((Nat → Int32))) : Nat → Int32 → (Nat → Int32) → Option ((Nat → Int32))
  | 0, _, _ => none
  | n + 1, x4, p0 => if 365 ≤ x4 then (k p0) else (if (x1 + x4) < 0 ∨ n_p0 ≤ (x1 + x4).toNatClampNeg then none else if (x3 + x4) < 0 ∨ n_p0 ≤ (x3 + x4).toNatClampNeg then none else Lt (upd p0 ((x3 + x4).toNatClampNeg) (p0 ((x1 + x4).toNatClampNeg))) fun (p0_1 : (Nat → Int32)) => fX10_copiesA_L3 n_p0 x1 x3 k n (x4 + 1) p0_1)
def fX10_copiesA (n_p0 : Nat) (x1 : Int32) (x3 : Int32) (p0 : (Nat → Int32)) : Option ((Nat → Int32)) := fX10_copiesA_L3 n_p0 x1 x3 (fun (p0_1 : (Nat → Int32)) => (some p0_1)) FU 0 p0
def fX10_keeps_L21 (M_undos : Int32) (k : (Nat → Int32) → Option (Int32 × (Nat → Int32))) : Nat → Int32 → (Nat → Int32) → Option (Int32 × (Nat → Int32))
  | 0, _, _ => none
  | n + 1, x1, undo => if M_undos ≤ x1 then (k undo) else (gb1 (fX10_copiesA 3650 (365 * (x1 + 1)) (365 * x1) undo) fun (undo_1 : (Nat → Int32)) => fX10_keeps_L21 M_undos k n (x1 + 1) undo_1)
def fX10_keeps (M_undos : Int32) (now : (Nat → Int32)) (undo : (Nat → Int32)) : Option (Int32 × (Nat → Int32)) := Lt (fun (M_undos_1 : Int32) (undo_1 : (Nat → Int32)) => (gb1 (fX10_copies 365 3650 0 (365 * M_undos_1) now undo_1) fun (undo_2 : (Nat → Int32)) => some (M_undos_1 + 1, undo_2))) fun (j_1 : Int32 → (Nat → Int32) → Option (Int32 × (Nat → Int32))) => if M_undos = 10 then (fX10_keeps_L21 (M_undos - 1) (fun (undo_3 : (Nat → Int32)) => (j_1 (M_undos - 1) undo_3)) FU 0 undo) else (j_1 M_undos undo)
def fX10_store (x1 : Int32) (M_thrown : Int32) (M_length : Int32) (M_textSize : Int32) (M_start : Int32) (M_next : Int32) (M_many : Int32) (M_freshMany : Int32) (M_undos : Int32) (now : (Nat → Int32)) (text : (Nat → Int32)) (spelled : (Nat → Int32)) (cost : (Nat → Int32)) (fewestFrom : (Nat → Int32)) (first : (Nat → Int32)) (fresh : (Nat → Int32)) (undo : (Nat → Int32)) : Option (Int32 × Int32 × Int32 × Int32 × Int32 × Int32 × Int32 × Int32 × Int32 × (Nat → Int32) × (Nat → Int32) × (Nat → Int32) × (Nat → Int32) × (Nat → Int32) × (Nat → Int32) × (Nat → Int32)) := gb7 (fX10_reads M_length M_textSize M_start M_next M_many text spelled) fun (r_1 : Int32) (M_length_1 : Int32) (M_textSize_1 : Int32) (M_start_1 : Int32) (M_next_1 : Int32) (M_many_1 : Int32) (spelled_1 : (Nat → Int32)) => gb2 (fX10_noUser x1 M_thrown now) fun (r_2 : Int32) (M_thrown_1 : Int32) => if r_2 = 0 then (Lt (fun (t0_1 : Int32) => (gb2 (fX10_throwsIf t0_1 2 M_thrown_1) fun (r_3 : Int32) (M_thrown_2 : Int32) => if r_3 = 0 then (gb3 (fX10_cutsCheapest M_many_1 now spelled_1 cost fewestFrom first) fun (cost_1 : (Nat → Int32)) (fewestFrom_1 : (Nat → Int32)) (first_1 : (Nat → Int32)) => gb3 (fX10_why x1 M_many_1 M_freshMany now spelled_1 fewestFrom_1 first_1 fresh) fun (r_4 : Int32) (M_freshMany_1 : Int32) (fresh_1 : (Nat → Int32)) => Lt (fun (t0_2 : Int32) => (gb2 (fX10_throwsIf t0_2 3 M_thrown_2) fun (r_5 : Int32) (M_thrown_3 : Int32) => if r_5 = 0 then (gb2 (fX10_keeps M_undos now undo) fun (M_undos_1 : Int32) (undo_1 : (Nat → Int32)) => gb4 (fX10_stores x1 M_many_1 M_freshMany_1 now spelled_1 first_1 fresh_1) fun (r_6 : Int32) (M_freshMany_2 : Int32) (now_1 : (Nat → Int32)) (fresh_2 : (Nat → Int32)) => some (r_6, M_thrown_3, M_length_1, M_textSize_1, M_start_1, M_next_1, M_many_1, M_freshMany_2, M_undos_1, now_1, spelled_1, cost_1, fewestFrom_1, first_1, fresh_2, undo_1)) else (some (0, M_thrown_3, M_length_1, M_textSize_1, M_start_1, M_next_1, M_many_1, M_freshMany_1, M_undos, now, spelled_1, cost_1, fewestFrom_1, first_1, fresh_1, undo)))) fun (j_2 : Int32 → Option (Int32 × Int32 × Int32 × Int32 × Int32 × Int32 × Int32 × Int32 × Int32 × (Nat → Int32) × (Nat → Int32) × (Nat → Int32) × (Nat → Int32) × (Nat → Int32) × (Nat → Int32) × (Nat → Int32))) => if r_4 = 0 then (j_2 0) else (j_2 1)) else (some (0, M_thrown_2, M_length_1, M_textSize_1, M_start_1, M_next_1, M_many_1, M_freshMany, M_undos, now, spelled_1, cost, fewestFrom, first, fresh, undo)))) fun (j_1 : Int32 → Option (Int32 × Int32 × Int32 × Int32 × Int32 × Int32 × Int32 × Int32 × Int32 × (Nat → Int32) × (Nat → Int32) × (Nat → Int32) × (Nat → Int32) × (Nat → Int32) × (Nat → Int32) × (Nat → Int32))) => if r_1 = 0 then (j_1 1) else (j_1 0)) else (some (0, M_thrown_1, M_length_1, M_textSize_1, M_start_1, M_next_1, M_many_1, M_freshMany, M_undos, now, spelled_1, cost, fewestFrom, first, fresh, undo))
def fX10_remove_L38 (x1 : Int32) (x2 : Int32) (x3 : Int32) (k : (Nat → Int32) → Option (Int32 × Int32 × Int32 × (Nat → Int32) × (Nat → Int32))) : Nat → Int32 → (Nat → Int32) → Option (Int32 × Int32 × Int32 × (Nat → Int32) × (Nat → Int32))
  | 0, _, _ => none
  | n + 1, x4, now => gb1 (fX10_ofWord x1 1 now) fun (r_1 : Int32) => if r_1 ≤ x4 then (k now) else (gb1 (fX10_ofWord x1 (2 + x4) now) fun (r_2 : Int32) => gb1 (fX10_uses r_2 (-1) now) fun (now_1 : (Nat → Int32)) => fX10_remove_L38 x1 x2 x3 k n (x4 + 1) now_1)
def fX10_remove_L125 (x2 : Int32) (k : (Nat → Int32) → Option (Int32 × Int32 × Int32 × (Nat → Int32) × (Nat → Int32))) : Nat → Int32 → (Nat → Int32) → Option (Int32 × Int32 × Int32 × (Nat → Int32) × (Nat → Int32))
  | 0, _, _ => none
  | n + 1, x4, now => if (141 + (14 * (now 10))) ≤ x4 then (k now) else (if (x4 + 14) < 0 ∨ 365 ≤ (x4 + 14).toNatClampNeg then none else if x4 < 0 ∨ 365 ≤ x4.toNatClampNeg then none else Lt (upd now (x4.toNatClampNeg) (now ((x4 + 14).toNatClampNeg))) fun (now_1 : (Nat → Int32)) => fX10_remove_L125 x2 k n (x4 + 1) now_1)
def fX10_remove (x1 : Int32) (M_thrown : Int32) (M_undos : Int32) (now : (Nat → Int32)) (undo : (Nat → Int32)) : Option (Int32 × Int32 × Int32 × (Nat → Int32) × (Nat → Int32)) := gb2 (fX10_noWord x1 M_thrown now) fun (r_1 : Int32) (M_thrown_1 : Int32) => if r_1 = 0 then (gb2 (fX10_keeps M_undos now undo) fun (M_undos_1 : Int32) (undo_1 : (Nat → Int32)) => gb1 (fX10_ofWord x1 0 now) fun (r_2 : Int32) => gb1 (fX10_ofWord x1 1 now) fun (r_3 : Int32) => fX10_remove_L38 x1 r_2 ((now 2) * r_3) (fun (now_1 : (Nat → Int32)) => (Lt (upd now_1 8 ((now_1 8) - ((now 2) * r_3))) fun (now_2 : (Nat → Int32)) => if (17 + r_2) < 0 ∨ 365 ≤ (17 + r_2).toNatClampNeg then none else if (17 + r_2) < 0 ∨ 365 ≤ (17 + r_2).toNatClampNeg then none else Lt (upd now_2 ((17 + r_2).toNatClampNeg) ((now_2 ((17 + r_2).toNatClampNeg)) + ((now 2) * r_3))) fun (now_3 : (Nat → Int32)) => Lt (upd now_3 14 ((now_3 14) + ((now 2) * r_3))) fun (now_4 : (Nat → Int32)) => Lt (upd now_4 10 ((now_4 10) - 1)) fun (now_5 : (Nat → Int32)) => fX10_remove_L125 r_2 (fun (now_6 : (Nat → Int32)) => (if (17 + r_2) < 0 ∨ 365 ≤ (17 + r_2).toNatClampNeg then none else some (now_6 ((17 + r_2).toNatClampNeg), M_thrown_1, M_undos_1, now_6, undo_1))) FU (141 + (14 * x1)) now_5)) FU 0 now) else (some (0, M_thrown_1, M_undos, now, undo))
def fX10_recut (x1 : Int32) (M_thrown : Int32) (M_many : Int32) (M_undos : Int32) (now : (Nat → Int32)) (spelled : (Nat → Int32)) (cost : (Nat → Int32)) (fewestFrom : (Nat → Int32)) (first : (Nat → Int32)) (undo : (Nat → Int32)) : Option (Int32 × Int32 × Int32 × Int32 × (Nat → Int32) × (Nat → Int32) × (Nat → Int32) × (Nat → Int32) × (Nat → Int32) × (Nat → Int32)) := gb2 (fX10_noWord x1 M_thrown now) fun (r_1 : Int32) (M_thrown_1 : Int32) => if r_1 = 0 then (gb2 (fX10_keeps M_undos now undo) fun (M_undos_1 : Int32) (undo_1 : (Nat → Int32)) => gb7 (fX10_recuts x1 M_many now spelled cost fewestFrom first) fun (r_2 : Int32) (M_many_1 : Int32) (now_1 : (Nat → Int32)) (spelled_1 : (Nat → Int32)) (cost_1 : (Nat → Int32)) (fewestFrom_1 : (Nat → Int32)) (first_1 : (Nat → Int32)) => some (r_2, M_thrown_1, M_many_1, M_undos_1, now_1, spelled_1, cost_1, fewestFrom_1, first_1, undo_1)) else (some (0, M_thrown_1, M_many, M_undos, now, spelled, cost, fewestFrom, first, undo))
def fX10_recutAll_L13 (k : Int32 → Int32 → (Nat → Int32) → (Nat → Int32) → (Nat → Int32) → (Nat → Int32) → (Nat → Int32) → Option (Int32 × Int32 × Int32 × Int32 × (Nat → Int32) × (Nat → Int32) × (Nat → Int32) × (Nat → Int32) × (Nat → Int32) × (Nat → Int32))) : Nat → Int32 → Int32 → Int32 → (Nat → Int32) → (Nat → Int32) → (Nat → Int32) → (Nat → Int32) → (Nat → Int32) → Option (Int32 × Int32 × Int32 × Int32 × (Nat → Int32) × (Nat → Int32) × (Nat → Int32) × (Nat → Int32) × (Nat → Int32) × (Nat → Int32))
  | 0, _, _, _, _, _, _, _, _ => none
  | n + 1, x1, x2, M_many, now, spelled, cost, fewestFrom, first => if (now 10) ≤ x2 then (k x1 M_many now spelled cost fewestFrom first) else (gb7 (fX10_recuts x2 M_many now spelled cost fewestFrom first) fun (r_1 : Int32) (M_many_1 : Int32) (now_1 : (Nat → Int32)) (spelled_1 : (Nat → Int32)) (cost_1 : (Nat → Int32)) (fewestFrom_1 : (Nat → Int32)) (first_1 : (Nat → Int32)) => fX10_recutAll_L13 k n (x1 + r_1) (x2 + 1) M_many_1 now_1 spelled_1 cost_1 fewestFrom_1 first_1)
def fX10_recutAll (M_thrown : Int32) (M_many : Int32) (M_undos : Int32) (now : (Nat → Int32)) (spelled : (Nat → Int32)) (cost : (Nat → Int32)) (fewestFrom : (Nat → Int32)) (first : (Nat → Int32)) (undo : (Nat → Int32)) : Option (Int32 × Int32 × Int32 × Int32 × (Nat → Int32) × (Nat → Int32) × (Nat → Int32) × (Nat → Int32) × (Nat → Int32) × (Nat → Int32)) := gb2 (fX10_keeps M_undos now undo) fun (M_undos_1 : Int32) (undo_1 : (Nat → Int32)) => fX10_recutAll_L13 (fun (x1_1 : Int32) (M_many_1 : Int32) (now_1 : (Nat → Int32)) (spelled_1 : (Nat → Int32)) (cost_1 : (Nat → Int32)) (fewestFrom_1 : (Nat → Int32)) (first_1 : (Nat → Int32)) => (some (x1_1, 0, M_many_1, M_undos_1, now_1, spelled_1, cost_1, fewestFrom_1, first_1, undo_1))) FU 0 0 M_many now spelled cost fewestFrom first
def fX10_bring (x1 : Int32) (M_thrown : Int32) (M_length : Int32) (M_textSize : Int32) (M_start : Int32) (M_next : Int32) (M_many : Int32) (M_undos : Int32) (now : (Nat → Int32)) (text : (Nat → Int32)) (spelled : (Nat → Int32)) (undo : (Nat → Int32)) : Option (Int32 × Int32 × Int32 × Int32 × Int32 × Int32 × Int32 × Int32 × (Nat → Int32) × (Nat → Int32) × (Nat → Int32)) := gb7 (fX10_reads M_length M_textSize M_start M_next M_many text spelled) fun (r_1 : Int32) (M_length_1 : Int32) (M_textSize_1 : Int32) (M_start_1 : Int32) (M_next_1 : Int32) (M_many_1 : Int32) (spelled_1 : (Nat → Int32)) => gb2 (fX10_noUser x1 M_thrown now) fun (r_2 : Int32) (M_thrown_1 : Int32) => if r_2 = 0 then (Lt (fun (t0_1 : Int32) => (Lt (fun (t0_2 : Int32) => (gb2 (fX10_throwsIf t0_2 2 M_thrown_1) fun (r_3 : Int32) (M_thrown_2 : Int32) => if r_3 = 0 then (Lt (fun (t0_3 : Int32) => (gb2 (fX10_throwsIf t0_3 3 M_thrown_2) fun (r_4 : Int32) (M_thrown_3 : Int32) => if r_4 = 0 then (gb2 (fX10_keeps M_undos now undo) fun (M_undos_1 : Int32) (undo_1 : (Nat → Int32)) => gb2 (fX10_buys t0_1 x1 now) fun (r_5 : Int32) (now_1 : (Nat → Int32)) => some (r_5, M_thrown_3, M_length_1, M_textSize_1, M_start_1, M_next_1, M_many_1, M_undos_1, now_1, spelled_1, undo_1)) else (some (0, M_thrown_3, M_length_1, M_textSize_1, M_start_1, M_next_1, M_many_1, M_undos, now, spelled_1, undo)))) fun (j_3 : Int32 → Option (Int32 × Int32 × Int32 × Int32 × Int32 × Int32 × Int32 × Int32 × (Nat → Int32) × (Nat → Int32) × (Nat → Int32))) => Lt ((j_3 1) : Option (Int32 × Int32 × Int32 × Int32 × Int32 × Int32 × Int32 × Int32 × (Nat → Int32) × (Nat → Int32) × (Nat → Int32))) fun (j_4 : Option (Int32 × Int32 × Int32 × Int32 × Int32 × Int32 × Int32 × Int32 × (Nat → Int32) × (Nat → Int32) × (Nat → Int32))) => if (now 9) = 24 then (j_4) else (if (17 + x1) < 0 ∨ 365 ≤ (17 + x1).toNatClampNeg then none else gb1 (fX10_priceOf t0_1 now) fun (r_6 : Int32) => if r_6 ≤ (now ((17 + x1).toNatClampNeg)) then (j_3 0) else (j_4))) else (some (0, M_thrown_2, M_length_1, M_textSize_1, M_start_1, M_next_1, M_many_1, M_undos, now, spelled_1, undo)))) fun (j_2 : Int32 → Option (Int32 × Int32 × Int32 × Int32 × Int32 × Int32 × Int32 × Int32 × (Nat → Int32) × (Nat → Int32) × (Nat → Int32))) => Lt ((j_2 1) : Option (Int32 × Int32 × Int32 × Int32 × Int32 × Int32 × Int32 × Int32 × (Nat → Int32) × (Nat → Int32) × (Nat → Int32))) fun (j_5 : Option (Int32 × Int32 × Int32 × Int32 × Int32 × Int32 × Int32 × Int32 × (Nat → Int32) × (Nat → Int32) × (Nat → Int32))) => if t0_1 = 0 then (j_5) else (gb1 (fX10_pieceOf t0_1 now) fun (r_7 : Int32) => if r_7 = (-1) then (j_2 0) else (j_5)))) fun (j_1 : Int32 → Option (Int32 × Int32 × Int32 × Int32 × Int32 × Int32 × Int32 × Int32 × (Nat → Int32) × (Nat → Int32) × (Nat → Int32))) => Lt ((j_1 0) : Option (Int32 × Int32 × Int32 × Int32 × Int32 × Int32 × Int32 × Int32 × (Nat → Int32) × (Nat → Int32) × (Nat → Int32))) fun (j_6 : Option (Int32 × Int32 × Int32 × Int32 × Int32 × Int32 × Int32 × Int32 × (Nat → Int32) × (Nat → Int32) × (Nat → Int32))) => if r_1 = 0 then (j_6) else (if 6 < M_many_1 then (j_6) else (gb1 (fX10_code 0 M_many_1 spelled_1) fun (r_8 : Int32) => j_1 r_8))) else (some (0, M_thrown_1, M_length_1, M_textSize_1, M_start_1, M_next_1, M_many_1, M_undos, now, spelled_1, undo))
def fX10_tick_L38 (x1 : Int32) (k : Int32 → (Nat → Int32) → Option (Int32 × Int32 × Int32 × (Nat → Int32) × (Nat → Int32))) : Nat → Int32 → Int32 → (Nat → Int32) → Option (Int32 × Int32 × Int32 × (Nat → Int32) × (Nat → Int32))
  | 0, _, _, _ => none
  | n + 1, x2, x3, now => if x1 ≤ x3 then (k x2 now) else (gb2 (fX10_ticks now) fun (r_1 : Int32) (now_1 : (Nat → Int32)) => fX10_tick_L38 x1 k n (x2 + r_1) (x3 + 1) now_1)
def fX10_tick (x1 : Int32) (M_thrown : Int32) (M_undos : Int32) (now : (Nat → Int32)) (undo : (Nat → Int32)) : Option (Int32 × Int32 × Int32 × (Nat → Int32) × (Nat → Int32)) := gb1 (fX10_within x1 1 30) fun (r_1 : Int32) => Lt (fun (t0_1 : Int32) => (gb2 (fX10_throwsIf t0_1 1 0) fun (r_2 : Int32) (M_thrown_1 : Int32) => if r_2 = 0 then (gb2 (fX10_keeps M_undos now undo) fun (M_undos_1 : Int32) (undo_1 : (Nat → Int32)) => fX10_tick_L38 x1 (fun (x2_1 : Int32) (now_1 : (Nat → Int32)) => (some (x2_1, M_thrown_1, M_undos_1, now_1, undo_1))) FU 0 0 now) else (some (0, M_thrown_1, M_undos, now, undo)))) fun (j_1 : Int32 → Option (Int32 × Int32 × Int32 × (Nat → Int32) × (Nat → Int32))) => if r_1 = 0 then (j_1 1) else (j_1 0)
def fX10_pay (x1 : Int32) (x2 : Int32) (x3 : Int32) (M_thrown : Int32) (M_undos : Int32) (now : (Nat → Int32)) (undo : (Nat → Int32)) : Option (Int32 × Int32 × Int32 × (Nat → Int32) × (Nat → Int32)) := gb2 (fX10_noUser x1 M_thrown now) fun (r_1 : Int32) (M_thrown_1 : Int32) => if r_1 = 0 then (gb2 (fX10_no x2 (now 5) M_thrown_1) fun (r_2 : Int32) (M_thrown_2 : Int32) => if r_2 = 0 then (gb1 (fX10_within x3 0 9999) fun (r_3 : Int32) => Lt (fun (t0_1 : Int32) => (gb2 (fX10_throwsIf t0_1 2 M_thrown_2) fun (r_4 : Int32) (M_thrown_3 : Int32) => if r_4 = 0 then (if (17 + x1) < 0 ∨ 365 ≤ (17 + x1).toNatClampNeg then none else Lt (fun (t0_2 : Int32) => (gb2 (fX10_throwsIf t0_2 3 M_thrown_3) fun (r_5 : Int32) (M_thrown_4 : Int32) => if r_5 = 0 then (gb2 (fX10_keeps M_undos now undo) fun (M_undos_1 : Int32) (undo_1 : (Nat → Int32)) => if (17 + x1) < 0 ∨ 365 ≤ (17 + x1).toNatClampNeg then none else if (17 + x1) < 0 ∨ 365 ≤ (17 + x1).toNatClampNeg then none else Lt (upd now ((17 + x1).toNatClampNeg) ((now ((17 + x1).toNatClampNeg)) - x3)) fun (now_1 : (Nat → Int32)) => if (17 + x2) < 0 ∨ 365 ≤ (17 + x2).toNatClampNeg then none else if (17 + x2) < 0 ∨ 365 ≤ (17 + x2).toNatClampNeg then none else Lt (upd now_1 ((17 + x2).toNatClampNeg) ((now_1 ((17 + x2).toNatClampNeg)) + x3)) fun (now_2 : (Nat → Int32)) => if (17 + x2) < 0 ∨ 365 ≤ (17 + x2).toNatClampNeg then none else some (now_2 ((17 + x2).toNatClampNeg), M_thrown_4, M_undos_1, now_2, undo_1)) else (some (0, M_thrown_4, M_undos, now, undo)))) fun (j_2 : Int32 → Option (Int32 × Int32 × Int32 × (Nat → Int32) × (Nat → Int32))) => if x3 ≤ (now ((17 + x1).toNatClampNeg)) then (j_2 0) else (j_2 1)) else (some (0, M_thrown_3, M_undos, now, undo)))) fun (j_1 : Int32 → Option (Int32 × Int32 × Int32 × (Nat → Int32) × (Nat → Int32))) => if r_3 = 0 then (j_1 1) else (j_1 0)) else (some (0, M_thrown_2, M_undos, now, undo))) else (some (0, M_thrown_1, M_undos, now, undo))
def fX10_undo (M_thrown : Int32) (M_undos : Int32) (now : (Nat → Int32)) (undo : (Nat → Int32)) : Option (Int32 × Int32 × Int32 × (Nat → Int32)) := if M_undos = 0 then (some ((-1), 0, M_undos, now)) else (gb1 (fX10_copies 3650 365 (365 * (M_undos - 1)) 0 undo now) fun (now_1 : (Nat → Int32)) => some (M_undos - 1, 0, M_undos - 1, now_1))
def fX10_noSlot (x1 : Int32) (M_thrown : Int32) : Option (Int32 × Int32) := gb2 (fX10_no x1 2 0) fun (r_1 : Int32) (M_thrown_1 : Int32) => some (r_1, M_thrown_1)
def fX10_saveSnapshot (x1 : Int32) (M_thrown : Int32) (now : (Nat → Int32)) (slots : (Nat → Int32)) (isSaved : (Nat → Int32)) : Option (Int32 × Int32 × (Nat → Int32) × (Nat → Int32)) := gb2 (fX10_noSlot x1 M_thrown) fun (r_1 : Int32) (M_thrown_1 : Int32) => if r_1 = 0 then (if x1 < 0 ∨ 2 ≤ x1.toNatClampNeg then none else gb1 (fX10_copies 365 730 0 (365 * x1) now slots) fun (slots_1 : (Nat → Int32)) => if x1 < 0 ∨ 2 ≤ x1.toNatClampNeg then none else Lt (upd isSaved (x1.toNatClampNeg) (vp_nar .boolean 1)) fun (isSaved_1 : (Nat → Int32)) => if (isSaved (x1.toNatClampNeg)) &&& 1 = (isSaved (x1.toNatClampNeg)) then (some (isSaved (x1.toNatClampNeg), M_thrown_1, slots_1, isSaved_1)) else none) else (some (0, M_thrown_1, slots, isSaved))
def fX10_restoreSnapshot (x1 : Int32) (M_thrown : Int32) (M_undos : Int32) (now : (Nat → Int32)) (slots : (Nat → Int32)) (isSaved : (Nat → Int32)) : Option (Int32 × Int32 × Int32 × (Nat → Int32)) := gb2 (fX10_noSlot x1 M_thrown) fun (r_1 : Int32) (M_thrown_1 : Int32) => if r_1 = 0 then (if x1 < 0 ∨ 2 ≤ x1.toNatClampNeg then none else Lt (fun (t0_1 : Int32) => (gb2 (fX10_throwsIf t0_1 2 M_thrown_1) fun (r_2 : Int32) (M_thrown_2 : Int32) => if r_2 = 0 then (gb1 (fX10_copies 730 365 (365 * x1) 0 slots now) fun (now_1 : (Nat → Int32)) => some (now_1 10, M_thrown_2, 0, now_1)) else (some (0, M_thrown_2, M_undos, now)))) fun (j_1 : Int32 → Option (Int32 × Int32 × Int32 × (Nat → Int32))) => if (isSaved (x1.toNatClampNeg)) = 0 then (j_1 1) else (j_1 0)) else (some (0, M_thrown_1, M_undos, now))
set_option maxHeartbeats 4000000 in
set_option maxRecDepth 100000 in
theorem ktX10_usesTold_L18 {p : Program} {l : Launch} {e : Env} {s : State} {m : MethodId} {args : Array Value} {below : List Frame} {meth : Method} {c : Code} {E : gE} {A : Nat → Prop} (F : gFx p s m args meth c RX10 wsX10_usesTold cX10_usesTold 5 (some .int) vwCl E A) (aM anow aaside anames anamesAside atext aspelled acost afewestFrom afirst afresh aways aundo aslots aisSaved : Nat → Nat) (x1 : Int32) (x3 : Int32) (now : (Nat → Int32)) (M_thrown : Int32) (M_length : Int32) (M_textSize : Int32) (M_start : Int32) (M_next : Int32) (M_token : Int32) (M_value : Int32) (M_error : Int32) (M_errorAt : Int32) (M_number : Int32) (M_many : Int32) (M_freshMany : Int32) (M_undos : Int32) (r : Int32) {k : Int32 → Option (Int32)} (hk : ∀ (x2 : Int32), k x2 = some r → Gj p l e rmX10_usesTold s m args below meth c 0 0 (MQ below (gQ vwCl E A (fun v w => v = some (.int r) ∧ w = [sModel E aM anow aaside anames anamesAside atext aspelled acost afewestFrom afirst afresh aways aundo aslots aisSaved M_thrown M_length M_textSize M_start M_next M_token M_value M_error M_errorAt M_number M_many M_freshMany M_undos, sArrI E anow 365 now])) args s 0 0 A) vwCl E A [sModel E aM anow aaside anames anamesAside atext aspelled acost afewestFrom afirst afresh aways aundo aslots aisSaved M_thrown M_length M_textSize M_start M_next M_token M_value M_error M_errorAt M_number M_many M_freshMany M_undos, sArrI E anow 365 now] [some (.ref (aM 0)), some (.int x1), some (.int x2), some (.int x3), none] [] 56) : ∀ (n : Nat) (x2 : Int32) (x4 : Int32), fX10_usesTold_L18 x1 x3 now k n x2 x4 = some r → Gj p l e rmX10_usesTold s m args below meth c 0 0 (MQ below (gQ vwCl E A (fun v w => v = some (.int r) ∧ w = [sModel E aM anow aaside anames anamesAside atext aspelled acost afewestFrom afirst afresh aways aundo aslots aisSaved M_thrown M_length M_textSize M_start M_next M_token M_value M_error M_errorAt M_number M_many M_freshMany M_undos, sArrI E anow 365 now])) args s 0 0 A) vwCl E A [sModel E aM anow aaside anames anamesAside atext aspelled acost afewestFrom afirst afresh aways aundo aslots aisSaved M_thrown M_length M_textSize M_start M_next M_token M_value M_error M_errorAt M_number M_many M_freshMany M_undos, sArrI E anow 365 now] [some (.ref (aM 0)), some (.int x1), some (.int x2), some (.int x3), some (.int x4)] [] 18
  | 0, _, _, hf => by cases hf
  | n + 1, x2, x4, hf => by
    have ih := ktX10_usesTold_L18 F aM anow aaside anames anamesAside atext aspelled acost afewestFrom afirst afresh aways aundo aslots aisSaved x1 x3 now M_thrown M_length M_textSize M_start M_next M_token M_value M_error M_errorAt M_number M_many M_freshMany M_undos r hk n
    rw [fX10_usesTold_L18] at hf
    refine g_iload F dX10_usesTold_18 rfl ?_
    refine g_aload_n F dX10_usesTold_20 rfl ?_
    refine g_iload_n F dX10_usesTold_21 rfl ?_
    refine g_iconst F 1 dX10_usesTold_22 rfl ?_
    obtain ⟨r_1, hg_1, hf⟩ := gb1_el hf
    refine g_callV (C := RX10) (T := TX10) (N := 27) (Lr := []) (As := [.int x3, .int 1]) (rest := [.int x4]) F 0 0 2 (ctX10_ofWord l E aM anow aaside anames anamesAside atext aspelled acost afewestFrom afirst afresh aways aundo aslots aisSaved x3 1 M_thrown M_length M_textSize M_start M_next M_token M_value M_error M_errorAt M_number M_many M_freshMany M_undos now r_1 hg_1) gX10_usesTold_X10_ofWord rfl rfl rfl h0X10_ofWord ⟨Nat.le_of_ble_eq_true rfl, Nat.le_of_ble_eq_true rfl⟩ rfl rfl rfl [0, 1] [] rfl rfl rfl rfl rfl rfl (Nat.le_of_ble_eq_true rfl) dX10_usesTold_23 ⟨Nat.le_of_ble_eq_true rfl, Nat.le_of_ble_eq_true rfl⟩ ?_
    rintro v w ⟨rfl, rfl⟩
    refine g_norm (Lw' := [sModel E aM anow aaside anames anamesAside atext aspelled acost afewestFrom afirst afresh aways aundo aslots aisSaved M_thrown M_length M_textSize M_start M_next M_token M_value M_error M_errorAt M_number M_many M_freshMany M_undos, sArrI E anow 365 now]) (st' := [.int r_1, .int x4]) (pc' := 26) [0, 1] rfl rfl rfl rfl ?_
    refine g_icmp_ge F 56 dX10_usesTold_26 (by decide) (fun hc_2 => ?_) (fun hc_2 => ?_)
    · replace hf := gi_t hc_2 hf
      refine g_mask [true, true, true, true, false] rfl ?_
      exact hk x2 hf
    · replace hf := gi_f hc_2 hf
      refine g_iload_n F dX10_usesTold_29 rfl ?_
      refine g_aload_n F dX10_usesTold_30 rfl ?_
      refine g_iload_n F dX10_usesTold_31 rfl ?_
      refine g_iconst F 2 dX10_usesTold_32 rfl ?_
      refine g_iload F dX10_usesTold_33 rfl ?_
      refine g_iadd F dX10_usesTold_35 ?_
      obtain ⟨r_2, hg_2, hf⟩ := gb1_el hf
      refine g_callV (C := RX10) (T := TX10) (N := 27) (Lr := []) (As := [.int x3, .int (2 + x4)]) (rest := [.int x2]) F 0 0 2 (ctX10_ofWord l E aM anow aaside anames anamesAside atext aspelled acost afewestFrom afirst afresh aways aundo aslots aisSaved x3 (2 + x4) M_thrown M_length M_textSize M_start M_next M_token M_value M_error M_errorAt M_number M_many M_freshMany M_undos now r_2 hg_2) gX10_usesTold_X10_ofWord rfl rfl rfl h0X10_ofWord ⟨Nat.le_of_ble_eq_true rfl, Nat.le_of_ble_eq_true rfl⟩ rfl rfl rfl [0, 1] [] rfl rfl rfl rfl rfl rfl (Nat.le_of_ble_eq_true rfl) dX10_usesTold_36 ⟨Nat.le_of_ble_eq_true rfl, Nat.le_of_ble_eq_true rfl⟩ ?_
      rintro v w ⟨rfl, rfl⟩
      refine g_norm (Lw' := [sModel E aM anow aaside anames anamesAside atext aspelled acost afewestFrom afirst afresh aways aundo aslots aisSaved M_thrown M_length M_textSize M_start M_next M_token M_value M_error M_errorAt M_number M_many M_freshMany M_undos, sArrI E anow 365 now]) (st' := [.int r_2, .int x2]) (pc' := 39) [0, 1] rfl rfl rfl rfl ?_
      refine g_iload_n F dX10_usesTold_39 rfl ?_
      refine g_icmp_ne F 47 dX10_usesTold_40 (by decide) (fun hc_1 => ?_) (fun hc_1 => ?_)
      · replace hf := gi_f hc_1 hf
        refine g_iconst F 0 dX10_usesTold_47 rfl ?_
        refine g_iadd F dX10_usesTold_48 ?_
        refine g_istore_n (lv' := [some (.ref (aM 0)), some (.int x1), some (.int (x2 + 0)), some (.int x3), some (.int x4)]) F dX10_usesTold_49 (Nat.le_of_ble_eq_true rfl) rfl rfl ?_
        refine g_iinc (lv' := [some (.ref (aM 0)), some (.int x1), some (.int (x2 + 0)), some (.int x3), some (.int (x4 + 1))]) F (x4 + 1) dX10_usesTold_50 rfl rfl rfl rfl ?_
        refine g_goto F 18 dX10_usesTold_53 (by decide) ?_
        exact ih (x2 + 0) (x4 + 1) hf
      · replace hf := gi_t hc_1 hf
        refine g_iconst F 1 dX10_usesTold_43 rfl ?_
        refine g_goto F 48 dX10_usesTold_44 (by decide) ?_
        refine g_iadd F dX10_usesTold_48 ?_
        refine g_istore_n (lv' := [some (.ref (aM 0)), some (.int x1), some (.int (x2 + 1)), some (.int x3), some (.int x4)]) F dX10_usesTold_49 (Nat.le_of_ble_eq_true rfl) rfl rfl ?_
        refine g_iinc (lv' := [some (.ref (aM 0)), some (.int x1), some (.int (x2 + 1)), some (.int x3), some (.int (x4 + 1))]) F (x4 + 1) dX10_usesTold_50 rfl rfl rfl rfl ?_
        refine g_goto F 18 dX10_usesTold_53 (by decide) ?_
        exact ih (x2 + 1) (x4 + 1) hf
set_option maxHeartbeats 4000000 in
set_option maxRecDepth 100000 in
theorem ktX10_usesTold_L4 {p : Program} {l : Launch} {e : Env} {s : State} {m : MethodId} {args : Array Value} {below : List Frame} {meth : Method} {c : Code} {E : gE} {A : Nat → Prop} (F : gFx p s m args meth c RX10 wsX10_usesTold cX10_usesTold 5 (some .int) vwCl E A) (aM anow aaside anames anamesAside atext aspelled acost afewestFrom afirst afresh aways aundo aslots aisSaved : Nat → Nat) (x1 : Int32) (now : (Nat → Int32)) (M_thrown : Int32) (M_length : Int32) (M_textSize : Int32) (M_start : Int32) (M_next : Int32) (M_token : Int32) (M_value : Int32) (M_error : Int32) (M_errorAt : Int32) (M_number : Int32) (M_many : Int32) (M_freshMany : Int32) (M_undos : Int32) (r : Int32) {k : Int32 → Option (Int32)} (hk : ∀ (x2 : Int32), k x2 = some r → Gj p l e rmX10_usesTold s m args below meth c 0 0 (MQ below (gQ vwCl E A (fun v w => v = some (.int r) ∧ w = [sModel E aM anow aaside anames anamesAside atext aspelled acost afewestFrom afirst afresh aways aundo aslots aisSaved M_thrown M_length M_textSize M_start M_next M_token M_value M_error M_errorAt M_number M_many M_freshMany M_undos, sArrI E anow 365 now])) args s 0 0 A) vwCl E A [sModel E aM anow aaside anames anamesAside atext aspelled acost afewestFrom afirst afresh aways aundo aslots aisSaved M_thrown M_length M_textSize M_start M_next M_token M_value M_error M_errorAt M_number M_many M_freshMany M_undos, sArrI E anow 365 now] [none, none, some (.int x2), none, none] [] 62) : ∀ (n : Nat) (x2 : Int32) (x3 : Int32), fX10_usesTold_L4 x1 now k n x2 x3 = some r → Gj p l e rmX10_usesTold s m args below meth c 0 0 (MQ below (gQ vwCl E A (fun v w => v = some (.int r) ∧ w = [sModel E aM anow aaside anames anamesAside atext aspelled acost afewestFrom afirst afresh aways aundo aslots aisSaved M_thrown M_length M_textSize M_start M_next M_token M_value M_error M_errorAt M_number M_many M_freshMany M_undos, sArrI E anow 365 now])) args s 0 0 A) vwCl E A [sModel E aM anow aaside anames anamesAside atext aspelled acost afewestFrom afirst afresh aways aundo aslots aisSaved M_thrown M_length M_textSize M_start M_next M_token M_value M_error M_errorAt M_number M_many M_freshMany M_undos, sArrI E anow 365 now] [some (.ref (aM 0)), some (.int x1), some (.int x2), some (.int x3), none] [] 4
  | 0, _, _, hf => by cases hf
  | n + 1, x2, x3, hf => by
    have ih := ktX10_usesTold_L4 F aM anow aaside anames anamesAside atext aspelled acost afewestFrom afirst afresh aways aundo aslots aisSaved x1 now M_thrown M_length M_textSize M_start M_next M_token M_value M_error M_errorAt M_number M_many M_freshMany M_undos r hk n
    rw [fX10_usesTold_L4] at hf
    refine g_iload_n F dX10_usesTold_4 rfl ?_
    refine g_aload_n F dX10_usesTold_5 rfl ?_
    refine g_get (C := RX10) (T := TX10) (N := 27) F 0 0 1 rfl rfl rfl iX10_usesTold_X10 (by decide) (by decide +kernel) rfl dX10_usesTold_6 ?_
    refine g_bipush F 10 dX10_usesTold_9 rfl ?_
    refine g_iald F 1 0 10 (by decide) rfl rfl (by decide) dX10_usesTold_11 ?_
    refine g_icmp_ge F 62 dX10_usesTold_12 (by decide) (fun hc_1 => ?_) (fun hc_1 => ?_)
    · replace hf := gi_t hc_1 hf
      refine g_mask [false, false, true, false, true] rfl ?_
      exact hk x2 hf
    · replace hf := gi_f hc_1 hf
      refine g_iconst F 0 dX10_usesTold_15 rfl ?_
      refine g_istore (lv' := [some (.ref (aM 0)), some (.int x1), some (.int x2), some (.int x3), some (.int 0)]) F dX10_usesTold_16 (Nat.le_of_ble_eq_true rfl) rfl rfl ?_
      refine ktX10_usesTold_L18 F aM anow aaside anames anamesAside atext aspelled acost afewestFrom afirst afresh aways aundo aslots aisSaved x1 x3 now M_thrown M_length M_textSize M_start M_next M_token M_value M_error M_errorAt M_number M_many M_freshMany M_undos r (fun x2_1 hf => ?_) FU x2 0 hf
      refine g_iinc (lv' := [some (.ref (aM 0)), some (.int x1), some (.int x2_1), some (.int (x3 + 1)), none]) F (x3 + 1) dX10_usesTold_56 rfl rfl rfl rfl ?_
      refine g_goto F 4 dX10_usesTold_59 (by decide) ?_
      exact ih x2_1 (x3 + 1) hf
set_option maxHeartbeats 4000000 in
set_option maxRecDepth 100000 in
theorem ctX10_usesTold (l : Launch) (E : gE) (aM anow aaside anames anamesAside atext aspelled acost afewestFrom afirst afresh aways aundo aslots aisSaved : Nat → Nat) (x1 : Int32) (M_thrown : Int32) (M_length : Int32) (M_textSize : Int32) (M_start : Int32) (M_next : Int32) (M_token : Int32) (M_value : Int32) (M_error : Int32) (M_errorAt : Int32) (M_number : Int32) (M_many : Int32) (M_freshMany : Int32) (M_undos : Int32) (now : (Nat → Int32)) (r : Int32) (hf : fX10_usesTold x1 now = some r) : gMet l yX10_usesTold wsX10_usesTold rmX10_usesTold vwCl E [.ref (aM 0), .int x1] [sModel E aM anow aaside anames anamesAside atext aspelled acost afewestFrom afirst afresh aways aundo aslots aisSaved M_thrown M_length M_textSize M_start M_next M_token M_value M_error M_errorAt M_number M_many M_freshMany M_undos, sArrI E anow 365 now] (fun v w => v = some (.int r) ∧ w = [sModel E aM anow aaside anames anamesAside atext aspelled acost afewestFrom afirst afresh aways aundo aslots aisSaved M_thrown M_length M_textSize M_start M_next M_token M_value M_error M_errorAt M_number M_many M_freshMany M_undos, sArrI E anow 365 now]) 0 0 := by
  refine g_entry [some (.ref (aM 0)), some (.int x1), none, none, none] (by decide) rfl (Nat.le_of_ble_eq_true rfl) rfl ?_
  intro p e s m below meth c A F hnm
  unfold fX10_usesTold at hf
  refine g_iconst F 0 dX10_usesTold_0 rfl ?_
  refine g_istore_n (lv' := [some (.ref (aM 0)), some (.int x1), some (.int 0), none, none]) F dX10_usesTold_1 (Nat.le_of_ble_eq_true rfl) rfl rfl ?_
  refine g_iconst F 0 dX10_usesTold_2 rfl ?_
  refine g_istore_n (lv' := [some (.ref (aM 0)), some (.int x1), some (.int 0), some (.int 0), none]) F dX10_usesTold_3 (Nat.le_of_ble_eq_true rfl) rfl rfl ?_
  refine ktX10_usesTold_L4 F aM anow aaside anames anamesAside atext aspelled acost afewestFrom afirst afresh aways aundo aslots aisSaved x1 now M_thrown M_length M_textSize M_start M_next M_token M_value M_error M_errorAt M_number M_many M_freshMany M_undos r (fun x2_1 hf => ?_) FU 0 0 hf
  refine g_iload_n F dX10_usesTold_62 rfl ?_
  cases hf
  exact g_iret F rfl ⟨rfl, rfl⟩ dX10_usesTold_63
set_option maxHeartbeats 4000000 in
set_option maxRecDepth 100000 in
theorem ktX10_isWhole_L11 {p : Program} {l : Launch} {e : Env} {s : State} {m : MethodId} {args : Array Value} {below : List Frame} {meth : Method} {c : Code} {E : gE} {A : Nat → Prop} (F : gFx p s m args meth c RX10 wsX10_isWhole cX10_isWhole 4 (some .boolean) vwCl E A) (aM anow aaside anames anamesAside atext aspelled acost afewestFrom afirst afresh aways aundo aslots aisSaved : Nat → Nat) (now : (Nat → Int32)) (M_thrown : Int32) (M_length : Int32) (M_textSize : Int32) (M_start : Int32) (M_next : Int32) (M_token : Int32) (M_value : Int32) (M_error : Int32) (M_errorAt : Int32) (M_number : Int32) (M_freshMany : Int32) (M_undos : Int32) (r : Int32) (M_thrown' : Int32) (M_many' : Int32) (spelled' : (Nat → Int32)) {k : Int32 → Int32 → Int32 → (Nat → Int32) → Option (Int32 × Int32 × Int32 × (Nat → Int32))} (hk : ∀ (x1 : Int32) (x2 : Int32) (M_many : Int32) (spelled : (Nat → Int32)), k x1 x2 M_many spelled = some (r, M_thrown', M_many', spelled') → Gj p l e rmX10_isWhole s m args below meth c 0 0 (MQ below (gQ vwCl E A (fun v w => v = some (.int r) ∧ w = [sModel E aM anow aaside anames anamesAside atext aspelled acost afewestFrom afirst afresh aways aundo aslots aisSaved M_thrown' M_length M_textSize M_start M_next M_token M_value M_error M_errorAt M_number M_many' M_freshMany M_undos, sArrI E anow 365 now, sArrI E aspelled 12 spelled'] ∧ narrow .boolean (.int r) = .int r)) args s 0 0 A) vwCl E A [sModel E aM anow aaside anames anamesAside atext aspelled acost afewestFrom afirst afresh aways aundo aslots aisSaved M_thrown M_length M_textSize M_start M_next M_token M_value M_error M_errorAt M_number M_many M_freshMany M_undos, sArrI E anow 365 now, sArrI E aspelled 12 spelled] [some (.ref (aM 0)), some (.int x1), some (.int x2), none] [] 72) : ∀ (n : Nat) (x1 : Int32) (x2 : Int32) (x3 : Int32) (M_many : Int32) (spelled : (Nat → Int32)), fX10_isWhole_L11 now k n x1 x2 x3 M_many spelled = some (r, M_thrown', M_many', spelled') → Gj p l e rmX10_isWhole s m args below meth c 0 0 (MQ below (gQ vwCl E A (fun v w => v = some (.int r) ∧ w = [sModel E aM anow aaside anames anamesAside atext aspelled acost afewestFrom afirst afresh aways aundo aslots aisSaved M_thrown' M_length M_textSize M_start M_next M_token M_value M_error M_errorAt M_number M_many' M_freshMany M_undos, sArrI E anow 365 now, sArrI E aspelled 12 spelled'] ∧ narrow .boolean (.int r) = .int r)) args s 0 0 A) vwCl E A [sModel E aM anow aaside anames anamesAside atext aspelled acost afewestFrom afirst afresh aways aundo aslots aisSaved M_thrown M_length M_textSize M_start M_next M_token M_value M_error M_errorAt M_number M_many M_freshMany M_undos, sArrI E anow 365 now, sArrI E aspelled 12 spelled] [some (.ref (aM 0)), some (.int x1), some (.int x2), some (.int x3)] [] 11
  | 0, _, _, _, _, _, hf => by cases hf
  | n + 1, x1, x2, x3, M_many, spelled, hf => by
    have ih := ktX10_isWhole_L11 F aM anow aaside anames anamesAside atext aspelled acost afewestFrom afirst afresh aways aundo aslots aisSaved now M_thrown M_length M_textSize M_start M_next M_token M_value M_error M_errorAt M_number M_freshMany M_undos r M_thrown' M_many' spelled' hk n
    rw [fX10_isWhole_L11] at hf
    refine g_iload_n F dX10_isWhole_11 rfl ?_
    refine g_aload_n F dX10_isWhole_12 rfl ?_
    refine g_get (C := RX10) (T := TX10) (N := 27) F 0 0 1 rfl rfl rfl iX10_isWhole_X10 (by decide) (by decide +kernel) rfl dX10_isWhole_13 ?_
    refine g_bipush F 10 dX10_isWhole_16 rfl ?_
    refine g_iald F 1 0 10 (by decide) rfl rfl (by decide) dX10_isWhole_18 ?_
    refine g_icmp_ge F 72 dX10_isWhole_19 (by decide) (fun hc_3 => ?_) (fun hc_3 => ?_)
    · replace hf := gi_t hc_3 hf
      refine g_mask [true, true, true, false] rfl ?_
      exact hk x1 x2 M_many spelled hf
    · replace hf := gi_f hc_3 hf
      refine g_iload_n F dX10_isWhole_22 rfl ?_
      refine g_aload_n F dX10_isWhole_23 rfl ?_
      refine g_get (C := RX10) (T := TX10) (N := 27) F 0 0 1 rfl rfl rfl iX10_isWhole_X10 (by decide) (by decide +kernel) rfl dX10_isWhole_24 ?_
      refine g_iconst F 2 dX10_isWhole_27 rfl ?_
      refine g_iald F 1 0 2 (by decide) rfl rfl (by decide) dX10_isWhole_28 ?_
      refine g_aload_n F dX10_isWhole_29 rfl ?_
      refine g_iload_n F dX10_isWhole_30 rfl ?_
      refine g_iconst F 1 dX10_isWhole_31 rfl ?_
      obtain ⟨r_1, hg_1, hf⟩ := gb1_el hf
      refine g_callV (C := RX10) (T := TX10) (N := 27) (Lr := [sArrI E aspelled 12 spelled]) (As := [.int x3, .int 1]) (rest := [.int (now 2), .int x1]) F 0 0 2 (ctX10_ofWord l E aM anow aaside anames anamesAside atext aspelled acost afewestFrom afirst afresh aways aundo aslots aisSaved x3 1 M_thrown M_length M_textSize M_start M_next M_token M_value M_error M_errorAt M_number M_many M_freshMany M_undos now r_1 hg_1) gX10_isWhole_X10_ofWord rfl rfl rfl h0X10_ofWord ⟨Nat.le_of_ble_eq_true rfl, Nat.le_of_ble_eq_true rfl⟩ rfl rfl rfl [0, 1] [2] rfl rfl rfl rfl rfl rfl (Nat.le_of_ble_eq_true rfl) dX10_isWhole_32 ⟨Nat.le_of_ble_eq_true rfl, Nat.le_of_ble_eq_true rfl⟩ ?_
      rintro v w ⟨rfl, rfl⟩
      refine g_norm (Lw' := [sModel E aM anow aaside anames anamesAside atext aspelled acost afewestFrom afirst afresh aways aundo aslots aisSaved M_thrown M_length M_textSize M_start M_next M_token M_value M_error M_errorAt M_number M_many M_freshMany M_undos, sArrI E anow 365 now, sArrI E aspelled 12 spelled]) (st' := [.int r_1, .int (now 2), .int x1]) (pc' := 35) [0, 1, 2] rfl rfl rfl rfl ?_
      refine g_imul F dX10_isWhole_35 ?_
      refine g_iadd F dX10_isWhole_36 ?_
      refine g_istore_n (lv' := [some (.ref (aM 0)), some (.int (x1 + ((now 2) * r_1))), some (.int x2), some (.int x3)]) F dX10_isWhole_37 (Nat.le_of_ble_eq_true rfl) rfl rfl ?_
      refine g_aload_n F dX10_isWhole_38 rfl ?_
      refine g_iload_n F dX10_isWhole_39 rfl ?_
      obtain ⟨M_many_1, spelled_1, hg_2, hf⟩ := gb2_el hf
      refine g_callV (C := RX10) (T := TX10) (N := 27) (Lr := []) (As := [.int x3]) (rest := []) F 0 0 1 (ctX10_spellsWord l E aM anow aaside anames anamesAside atext aspelled acost afewestFrom afirst afresh aways aundo aslots aisSaved x3 M_thrown M_length M_textSize M_start M_next M_token M_value M_error M_errorAt M_number M_many M_freshMany M_undos now spelled M_many_1 spelled_1 hg_2) gX10_isWhole_X10_spellsWord rfl rfl rfl h0X10_spellsWord ⟨Nat.le_of_ble_eq_true rfl, Nat.le_of_ble_eq_true rfl⟩ rfl rfl rfl [0, 1, 2] [] rfl rfl rfl rfl rfl rfl (Nat.le_of_ble_eq_true rfl) dX10_isWhole_40 ⟨Nat.le_of_ble_eq_true rfl, Nat.le_of_ble_eq_true rfl⟩ ?_
      rintro v w ⟨rfl, rfl⟩
      refine g_norm (Lw' := [sModel E aM anow aaside anames anamesAside atext aspelled acost afewestFrom afirst afresh aways aundo aslots aisSaved M_thrown M_length M_textSize M_start M_next M_token M_value M_error M_errorAt M_number M_many_1 M_freshMany M_undos, sArrI E anow 365 now, sArrI E aspelled 12 spelled_1]) (st' := []) (pc' := 43) [0, 1, 2] rfl rfl rfl rfl ?_
      refine g_iload_n F dX10_isWhole_43 rfl ?_
      refine g_ifeq F 64 dX10_isWhole_44 (by decide) (fun hc_2 => ?_) (fun hc_2 => ?_)
      · replace hf := gi_t hc_2 hf
        refine g_iconst F 0 dX10_isWhole_64 rfl ?_
        refine g_istore_n (lv' := [some (.ref (aM 0)), some (.int (x1 + ((now 2) * r_1))), some (.int 0), some (.int x3)]) F dX10_isWhole_65 (Nat.le_of_ble_eq_true rfl) rfl rfl ?_
        refine g_iinc (lv' := [some (.ref (aM 0)), some (.int (x1 + ((now 2) * r_1))), some (.int 0), some (.int (x3 + 1))]) F (x3 + 1) dX10_isWhole_66 rfl rfl rfl rfl ?_
        refine g_goto F 11 dX10_isWhole_69 (by decide) ?_
        exact ih (x1 + ((now 2) * r_1)) 0 (x3 + 1) M_many_1 spelled_1 hf
      · replace hf := gi_f hc_2 hf
        refine g_aload_n F dX10_isWhole_47 rfl ?_
        refine g_get (C := RX10) (T := TX10) (N := 27) F 0 0 16 rfl rfl rfl iX10_isWhole_X10 (by decide) (by decide +kernel) rfl dX10_isWhole_48 ?_
        refine g_iconst F 1 dX10_isWhole_51 rfl ?_
        refine g_bipush F 12 dX10_isWhole_52 rfl ?_
        obtain ⟨r_2, hg_3, hf⟩ := gb1_el hf
        refine g_callS (Lr := [sModel E aM anow aaside anames anamesAside atext aspelled acost afewestFrom afirst afresh aways aundo aslots aisSaved M_thrown M_length M_textSize M_start M_next M_token M_value M_error M_errorAt M_number M_many_1 M_freshMany M_undos, sArrI E anow 365 now, sArrI E aspelled 12 spelled_1]) (As := [.int M_many_1, .int 1, .int 12]) (rest := []) F 3 (ctX10_within l E M_many_1 1 12 r_2 hg_3) (va_cwS 3 F.2.2.2.2.2.1 gX10_isWhole_X10_within rfl rfl rfl h0X10_within ⟨Nat.le_of_ble_eq_true rfl, Nat.le_of_ble_eq_true rfl⟩) [] [0, 1, 2] rfl rfl rfl rfl rfl rfl (Nat.le_of_ble_eq_true rfl) dX10_isWhole_54 ⟨Nat.le_of_ble_eq_true rfl, Nat.le_of_ble_eq_true rfl⟩ ?_
        rintro v w ⟨rfl, rfl, hz_1⟩
        refine g_norm (Lw' := [sModel E aM anow aaside anames anamesAside atext aspelled acost afewestFrom afirst afresh aways aundo aslots aisSaved M_thrown M_length M_textSize M_start M_next M_token M_value M_error M_errorAt M_number M_many_1 M_freshMany M_undos, sArrI E anow 365 now, sArrI E aspelled 12 spelled_1]) (st' := [.int r_2]) (pc' := 57) [0, 1, 2] rfl rfl rfl rfl ?_
        refine g_ifeq F 64 dX10_isWhole_57 (by decide) (fun hc_1 => ?_) (fun hc_1 => ?_)
        · replace hf := gi_t hc_1 hf
          refine g_iconst F 0 dX10_isWhole_64 rfl ?_
          refine g_istore_n (lv' := [some (.ref (aM 0)), some (.int (x1 + ((now 2) * r_1))), some (.int 0), some (.int x3)]) F dX10_isWhole_65 (Nat.le_of_ble_eq_true rfl) rfl rfl ?_
          refine g_iinc (lv' := [some (.ref (aM 0)), some (.int (x1 + ((now 2) * r_1))), some (.int 0), some (.int (x3 + 1))]) F (x3 + 1) dX10_isWhole_66 rfl rfl rfl rfl ?_
          refine g_goto F 11 dX10_isWhole_69 (by decide) ?_
          exact ih (x1 + ((now 2) * r_1)) 0 (x3 + 1) M_many_1 spelled_1 hf
        · replace hf := gi_f hc_1 hf
          refine g_iconst F 1 dX10_isWhole_60 rfl ?_
          refine g_goto F 65 dX10_isWhole_61 (by decide) ?_
          refine g_istore_n (lv' := [some (.ref (aM 0)), some (.int (x1 + ((now 2) * r_1))), some (.int 1), some (.int x3)]) F dX10_isWhole_65 (Nat.le_of_ble_eq_true rfl) rfl rfl ?_
          refine g_iinc (lv' := [some (.ref (aM 0)), some (.int (x1 + ((now 2) * r_1))), some (.int 1), some (.int (x3 + 1))]) F (x3 + 1) dX10_isWhole_66 rfl rfl rfl rfl ?_
          refine g_goto F 11 dX10_isWhole_69 (by decide) ?_
          exact ih (x1 + ((now 2) * r_1)) 1 (x3 + 1) M_many_1 spelled_1 hf
set_option maxHeartbeats 4000000 in
set_option maxRecDepth 100000 in
theorem ktX10_isWhole_L74 {p : Program} {l : Launch} {e : Env} {s : State} {m : MethodId} {args : Array Value} {below : List Frame} {meth : Method} {c : Code} {E : gE} {A : Nat → Prop} (F : gFx p s m args meth c RX10 wsX10_isWhole cX10_isWhole 4 (some .boolean) vwCl E A) (aM anow aaside anames anamesAside atext aspelled acost afewestFrom afirst afresh aways aundo aslots aisSaved : Nat → Nat) (x1 : Int32) (now : (Nat → Int32)) (M_thrown : Int32) (M_length : Int32) (M_textSize : Int32) (M_start : Int32) (M_next : Int32) (M_token : Int32) (M_value : Int32) (M_error : Int32) (M_errorAt : Int32) (M_number : Int32) (M_many : Int32) (M_freshMany : Int32) (M_undos : Int32) (spelled : (Nat → Int32)) (r : Int32) (M_thrown' : Int32) (M_many' : Int32) (spelled' : (Nat → Int32)) {k : Int32 → Option (Int32 × Int32 × Int32 × (Nat → Int32))} (hk : ∀ (x2 : Int32), k x2 = some (r, M_thrown', M_many', spelled') → Gj p l e rmX10_isWhole s m args below meth c 0 0 (MQ below (gQ vwCl E A (fun v w => v = some (.int r) ∧ w = [sModel E aM anow aaside anames anamesAside atext aspelled acost afewestFrom afirst afresh aways aundo aslots aisSaved M_thrown' M_length M_textSize M_start M_next M_token M_value M_error M_errorAt M_number M_many' M_freshMany M_undos, sArrI E anow 365 now, sArrI E aspelled 12 spelled'] ∧ narrow .boolean (.int r) = .int r)) args s 0 0 A) vwCl E A [sModel E aM anow aaside anames anamesAside atext aspelled acost afewestFrom afirst afresh aways aundo aslots aisSaved M_thrown M_length M_textSize M_start M_next M_token M_value M_error M_errorAt M_number M_many M_freshMany M_undos, sArrI E anow 365 now, sArrI E aspelled 12 spelled] [some (.ref (aM 0)), some (.int x1), some (.int x2), none] [] 115) : ∀ (n : Nat) (x2 : Int32) (x3 : Int32), fX10_isWhole_L74 x1 now k n x2 x3 = some (r, M_thrown', M_many', spelled') → Gj p l e rmX10_isWhole s m args below meth c 0 0 (MQ below (gQ vwCl E A (fun v w => v = some (.int r) ∧ w = [sModel E aM anow aaside anames anamesAside atext aspelled acost afewestFrom afirst afresh aways aundo aslots aisSaved M_thrown' M_length M_textSize M_start M_next M_token M_value M_error M_errorAt M_number M_many' M_freshMany M_undos, sArrI E anow 365 now, sArrI E aspelled 12 spelled'] ∧ narrow .boolean (.int r) = .int r)) args s 0 0 A) vwCl E A [sModel E aM anow aaside anames anamesAside atext aspelled acost afewestFrom afirst afresh aways aundo aslots aisSaved M_thrown M_length M_textSize M_start M_next M_token M_value M_error M_errorAt M_number M_many M_freshMany M_undos, sArrI E anow 365 now, sArrI E aspelled 12 spelled] [some (.ref (aM 0)), some (.int x1), some (.int x2), some (.int x3)] [] 74
  | 0, _, _, hf => by cases hf
  | n + 1, x2, x3, hf => by
    have ih := ktX10_isWhole_L74 F aM anow aaside anames anamesAside atext aspelled acost afewestFrom afirst afresh aways aundo aslots aisSaved x1 now M_thrown M_length M_textSize M_start M_next M_token M_value M_error M_errorAt M_number M_many M_freshMany M_undos spelled r M_thrown' M_many' spelled' hk n
    rw [fX10_isWhole_L74] at hf
    refine g_iload_n F dX10_isWhole_74 rfl ?_
    refine g_aload_n F dX10_isWhole_75 rfl ?_
    refine g_get (C := RX10) (T := TX10) (N := 27) F 0 0 1 rfl rfl rfl iX10_isWhole_X10 (by decide) (by decide +kernel) rfl dX10_isWhole_76 ?_
    refine g_bipush F 9 dX10_isWhole_79 rfl ?_
    refine g_iald F 1 0 9 (by decide) rfl rfl (by decide) dX10_isWhole_81 ?_
    refine g_icmp_ge F 115 dX10_isWhole_82 (by decide) (fun hc_3 => ?_) (fun hc_3 => ?_)
    · replace hf := gi_t hc_3 hf
      refine g_mask [true, true, true, false] rfl ?_
      exact hk x2 hf
    · replace hf := gi_f hc_3 hf
      refine g_iload_n F dX10_isWhole_85 rfl ?_
      refine g_ifeq F 107 dX10_isWhole_86 (by decide) (fun hc_2 => ?_) (fun hc_2 => ?_)
      · replace hf := gi_t hc_2 hf
        refine g_iconst F 0 dX10_isWhole_107 rfl ?_
        refine g_istore_n (lv' := [some (.ref (aM 0)), some (.int x1), some (.int 0), some (.int x3)]) F dX10_isWhole_108 (Nat.le_of_ble_eq_true rfl) rfl rfl ?_
        refine g_iinc (lv' := [some (.ref (aM 0)), some (.int x1), some (.int 0), some (.int (x3 + 1))]) F (x3 + 1) dX10_isWhole_109 rfl rfl rfl rfl ?_
        refine g_goto F 74 dX10_isWhole_112 (by decide) ?_
        exact ih 0 (x3 + 1) hf
      · replace hf := gi_f hc_2 hf
        refine g_aload_n F dX10_isWhole_89 rfl ?_
        refine g_iload_n F dX10_isWhole_90 rfl ?_
        obtain ⟨r_1, hg_1, hf⟩ := gb1_el hf
        refine g_callV (C := RX10) (T := TX10) (N := 27) (Lr := [sArrI E aspelled 12 spelled]) (As := [.int x3]) (rest := []) F 0 0 1 (ctX10_usesTold l E aM anow aaside anames anamesAside atext aspelled acost afewestFrom afirst afresh aways aundo aslots aisSaved x3 M_thrown M_length M_textSize M_start M_next M_token M_value M_error M_errorAt M_number M_many M_freshMany M_undos now r_1 hg_1) gX10_isWhole_X10_usesTold rfl rfl rfl h0X10_usesTold ⟨Nat.le_of_ble_eq_true rfl, Nat.le_of_ble_eq_true rfl⟩ rfl rfl rfl [0, 1] [2] rfl rfl rfl rfl rfl rfl (Nat.le_of_ble_eq_true rfl) dX10_isWhole_91 ⟨Nat.le_of_ble_eq_true rfl, Nat.le_of_ble_eq_true rfl⟩ ?_
        rintro v w ⟨rfl, rfl⟩
        refine g_norm (Lw' := [sModel E aM anow aaside anames anamesAside atext aspelled acost afewestFrom afirst afresh aways aundo aslots aisSaved M_thrown M_length M_textSize M_start M_next M_token M_value M_error M_errorAt M_number M_many M_freshMany M_undos, sArrI E anow 365 now, sArrI E aspelled 12 spelled]) (st' := [.int r_1]) (pc' := 94) [0, 1, 2] rfl rfl rfl rfl ?_
        refine g_aload_n F dX10_isWhole_94 rfl ?_
        refine g_iload_n F dX10_isWhole_95 rfl ?_
        refine g_iconst F 3 dX10_isWhole_96 rfl ?_
        obtain ⟨r_2, hg_2, hf⟩ := gb1_el hf
        refine g_callV (C := RX10) (T := TX10) (N := 27) (Lr := [sArrI E aspelled 12 spelled]) (As := [.int x3, .int 3]) (rest := [.int r_1]) F 0 0 2 (ctX10_ofPiece l E aM anow aaside anames anamesAside atext aspelled acost afewestFrom afirst afresh aways aundo aslots aisSaved x3 3 M_thrown M_length M_textSize M_start M_next M_token M_value M_error M_errorAt M_number M_many M_freshMany M_undos now r_2 hg_2) gX10_isWhole_X10_ofPiece rfl rfl rfl h0X10_ofPiece ⟨Nat.le_of_ble_eq_true rfl, Nat.le_of_ble_eq_true rfl⟩ rfl rfl rfl [0, 1] [2] rfl rfl rfl rfl rfl rfl (Nat.le_of_ble_eq_true rfl) dX10_isWhole_97 ⟨Nat.le_of_ble_eq_true rfl, Nat.le_of_ble_eq_true rfl⟩ ?_
        rintro v w ⟨rfl, rfl⟩
        refine g_norm (Lw' := [sModel E aM anow aaside anames anamesAside atext aspelled acost afewestFrom afirst afresh aways aundo aslots aisSaved M_thrown M_length M_textSize M_start M_next M_token M_value M_error M_errorAt M_number M_many M_freshMany M_undos, sArrI E anow 365 now, sArrI E aspelled 12 spelled]) (st' := [.int r_2, .int r_1]) (pc' := 100) [0, 1, 2] rfl rfl rfl rfl ?_
        refine g_icmp_ne F 107 dX10_isWhole_100 (by decide) (fun hc_1 => ?_) (fun hc_1 => ?_)
        · replace hf := gi_f hc_1 hf
          refine g_iconst F 0 dX10_isWhole_107 rfl ?_
          refine g_istore_n (lv' := [some (.ref (aM 0)), some (.int x1), some (.int 0), some (.int x3)]) F dX10_isWhole_108 (Nat.le_of_ble_eq_true rfl) rfl rfl ?_
          refine g_iinc (lv' := [some (.ref (aM 0)), some (.int x1), some (.int 0), some (.int (x3 + 1))]) F (x3 + 1) dX10_isWhole_109 rfl rfl rfl rfl ?_
          refine g_goto F 74 dX10_isWhole_112 (by decide) ?_
          exact ih 0 (x3 + 1) hf
        · replace hf := gi_t hc_1 hf
          refine g_iconst F 1 dX10_isWhole_103 rfl ?_
          refine g_goto F 108 dX10_isWhole_104 (by decide) ?_
          refine g_istore_n (lv' := [some (.ref (aM 0)), some (.int x1), some (.int 1), some (.int x3)]) F dX10_isWhole_108 (Nat.le_of_ble_eq_true rfl) rfl rfl ?_
          refine g_iinc (lv' := [some (.ref (aM 0)), some (.int x1), some (.int 1), some (.int (x3 + 1))]) F (x3 + 1) dX10_isWhole_109 rfl rfl rfl rfl ?_
          refine g_goto F 74 dX10_isWhole_112 (by decide) ?_
          exact ih 1 (x3 + 1) hf
set_option maxHeartbeats 4000000 in
set_option maxRecDepth 100000 in
theorem ctX10_isWhole (l : Launch) (E : gE) (aM anow aaside anames anamesAside atext aspelled acost afewestFrom afirst afresh aways aundo aslots aisSaved : Nat → Nat) (M_thrown : Int32) (M_length : Int32) (M_textSize : Int32) (M_start : Int32) (M_next : Int32) (M_token : Int32) (M_value : Int32) (M_error : Int32) (M_errorAt : Int32) (M_number : Int32) (M_many : Int32) (M_freshMany : Int32) (M_undos : Int32) (now : (Nat → Int32)) (spelled : (Nat → Int32)) (r : Int32) (M_thrown' : Int32) (M_many' : Int32) (spelled' : (Nat → Int32)) (hf : fX10_isWhole M_thrown M_many now spelled = some (r, M_thrown', M_many', spelled')) : gMet l yX10_isWhole wsX10_isWhole rmX10_isWhole vwCl E [.ref (aM 0)] [sModel E aM anow aaside anames anamesAside atext aspelled acost afewestFrom afirst afresh aways aundo aslots aisSaved M_thrown M_length M_textSize M_start M_next M_token M_value M_error M_errorAt M_number M_many M_freshMany M_undos, sArrI E anow 365 now, sArrI E aspelled 12 spelled] (fun v w => v = some (.int r) ∧ w = [sModel E aM anow aaside anames anamesAside atext aspelled acost afewestFrom afirst afresh aways aundo aslots aisSaved M_thrown' M_length M_textSize M_start M_next M_token M_value M_error M_errorAt M_number M_many' M_freshMany M_undos, sArrI E anow 365 now, sArrI E aspelled 12 spelled'] ∧ narrow .boolean (.int r) = .int r) 0 0 := by
  refine g_entry [some (.ref (aM 0)), none, none, none] (by decide) rfl (Nat.le_of_ble_eq_true rfl) rfl ?_
  intro p e s m below meth c A F hnm
  unfold fX10_isWhole at hf
  refine g_aload_n F dX10_isWhole_0 rfl ?_
  refine g_iconst F 0 dX10_isWhole_1 rfl ?_
  refine g_put (C := RX10) (T := TX10) (N := 27) (tys := tyX10) (Lw' := [sModel E aM anow aaside anames anamesAside atext aspelled acost afewestFrom afirst afresh aways aundo aslots aisSaved 0 M_length M_textSize M_start M_next M_token M_value M_error M_errorAt M_number M_many M_freshMany M_undos, sArrI E anow 365 now, sArrI E aspelled 12 spelled]) F 0 0 0 rfl rfl rfl iX10_isWhole_X10 tyX10_ok nmX10 (by decide) (by decide +kernel) rfl rfl rfl rfl (Nat.le_of_ble_eq_true rfl) dX10_isWhole_2 rfl ?_
  refine g_iconst F 0 dX10_isWhole_5 rfl ?_
  refine g_istore_n (lv' := [some (.ref (aM 0)), some (.int 0), none, none]) F dX10_isWhole_6 (Nat.le_of_ble_eq_true rfl) rfl rfl ?_
  refine g_iconst F 1 dX10_isWhole_7 rfl ?_
  refine g_istore_n (lv' := [some (.ref (aM 0)), some (.int 0), some (.int 1), none]) F dX10_isWhole_8 (Nat.le_of_ble_eq_true rfl) rfl rfl ?_
  refine g_iconst F 0 dX10_isWhole_9 rfl ?_
  refine g_istore_n (lv' := [some (.ref (aM 0)), some (.int 0), some (.int 1), some (.int 0)]) F dX10_isWhole_10 (Nat.le_of_ble_eq_true rfl) rfl rfl ?_
  refine ktX10_isWhole_L11 F aM anow aaside anames anamesAside atext aspelled acost afewestFrom afirst afresh aways aundo aslots aisSaved now 0 M_length M_textSize M_start M_next M_token M_value M_error M_errorAt M_number M_freshMany M_undos r M_thrown' M_many' spelled' (fun x1_1 x2_1 M_many_1 spelled_1 hf => ?_) FU 0 1 0 M_many spelled hf
  refine g_iconst F 0 dX10_isWhole_72 rfl ?_
  refine g_istore_n (lv' := [some (.ref (aM 0)), some (.int x1_1), some (.int x2_1), some (.int 0)]) F dX10_isWhole_73 (Nat.le_of_ble_eq_true rfl) rfl rfl ?_
  refine ktX10_isWhole_L74 F aM anow aaside anames anamesAside atext aspelled acost afewestFrom afirst afresh aways aundo aslots aisSaved x1_1 now 0 M_length M_textSize M_start M_next M_token M_value M_error M_errorAt M_number M_many_1 M_freshMany M_undos spelled_1 r M_thrown' M_many' spelled' (fun x2_2 hf => ?_) FU x2_1 0 hf
  refine g_iload_n F dX10_isWhole_115 rfl ?_
  refine g_ifeq F 134 dX10_isWhole_116 (by decide) (fun hc_2 => ?_) (fun hc_2 => ?_)
  · replace hf := gi_t hc_2 hf
    refine g_iconst F 0 dX10_isWhole_134 rfl ?_
    cases hf
    exact g_zret (ty := .boolean) F rfl rfl ⟨rfl, rfl, rfl⟩ dX10_isWhole_135
  · replace hf := gi_f hc_2 hf
    refine g_iload_n F dX10_isWhole_119 rfl ?_
    refine g_aload_n F dX10_isWhole_120 rfl ?_
    refine g_get (C := RX10) (T := TX10) (N := 27) F 0 0 1 rfl rfl rfl iX10_isWhole_X10 (by decide) (by decide +kernel) rfl dX10_isWhole_121 ?_
    refine g_bipush F 8 dX10_isWhole_124 rfl ?_
    refine g_iald F 1 0 8 (by decide) rfl rfl (by decide) dX10_isWhole_126 ?_
    refine g_icmp_ne F 134 dX10_isWhole_127 (by decide) (fun hc_1 => ?_) (fun hc_1 => ?_)
    · replace hf := gi_f hc_1 hf
      refine g_iconst F 0 dX10_isWhole_134 rfl ?_
      cases hf
      exact g_zret (ty := .boolean) F rfl rfl ⟨rfl, rfl, rfl⟩ dX10_isWhole_135
    · replace hf := gi_t hc_1 hf
      refine g_iconst F 1 dX10_isWhole_130 rfl ?_
      refine g_goto F 135 dX10_isWhole_131 (by decide) ?_
      cases hf
      exact g_zret (ty := .boolean) F rfl rfl ⟨rfl, rfl, rfl⟩ dX10_isWhole_135
set_option maxHeartbeats 4000000 in
set_option maxRecDepth 100000 in
theorem ctX10_account (l : Launch) (E : gE) (aM anow aaside anames anamesAside atext aspelled acost afewestFrom afirst afresh aways aundo aslots aisSaved : Nat → Nat) (x1 : Int32) (M_thrown : Int32) (M_length : Int32) (M_textSize : Int32) (M_start : Int32) (M_next : Int32) (M_token : Int32) (M_value : Int32) (M_error : Int32) (M_errorAt : Int32) (M_number : Int32) (M_many : Int32) (M_freshMany : Int32) (M_undos : Int32) (now : (Nat → Int32)) (r : Int32) (M_thrown' : Int32) (hf : fX10_account x1 M_thrown now = some (r, M_thrown')) : gMet l yX10_account wsX10_account rmX10_account vwCl E [.ref (aM 0), .int x1] [sModel E aM anow aaside anames anamesAside atext aspelled acost afewestFrom afirst afresh aways aundo aslots aisSaved M_thrown M_length M_textSize M_start M_next M_token M_value M_error M_errorAt M_number M_many M_freshMany M_undos, sArrI E anow 365 now] (fun v w => v = some (.int r) ∧ w = [sModel E aM anow aaside anames anamesAside atext aspelled acost afewestFrom afirst afresh aways aundo aslots aisSaved M_thrown' M_length M_textSize M_start M_next M_token M_value M_error M_errorAt M_number M_many M_freshMany M_undos, sArrI E anow 365 now]) 0 0 := by
  refine g_entry [some (.ref (aM 0)), some (.int x1)] (by decide) rfl (Nat.le_of_ble_eq_true rfl) rfl ?_
  intro p e s m below meth c A F hnm
  unfold fX10_account at hf
  refine g_aload_n F dX10_account_0 rfl ?_
  refine g_iconst F 0 dX10_account_1 rfl ?_
  refine g_put (C := RX10) (T := TX10) (N := 27) (tys := tyX10) (Lw' := [sModel E aM anow aaside anames anamesAside atext aspelled acost afewestFrom afirst afresh aways aundo aslots aisSaved 0 M_length M_textSize M_start M_next M_token M_value M_error M_errorAt M_number M_many M_freshMany M_undos, sArrI E anow 365 now]) F 0 0 0 rfl rfl rfl iX10_account_X10 tyX10_ok nmX10 (by decide) (by decide +kernel) rfl rfl rfl rfl (Nat.le_of_ble_eq_true rfl) dX10_account_2 rfl ?_
  refine g_aload_n F dX10_account_5 rfl ?_
  refine g_iload_n F dX10_account_6 rfl ?_
  refine g_iconst F 0 dX10_account_7 rfl ?_
  refine g_iconst F 5 dX10_account_8 rfl ?_
  obtain ⟨r_1, hg_1, hf⟩ := gb1_el hf
  refine g_callS (Lr := [sModel E aM anow aaside anames anamesAside atext aspelled acost afewestFrom afirst afresh aways aundo aslots aisSaved 0 M_length M_textSize M_start M_next M_token M_value M_error M_errorAt M_number M_many M_freshMany M_undos, sArrI E anow 365 now]) (As := [.int x1, .int 0, .int 5]) (rest := [.ref (aM 0)]) F 3 (ctX10_within l E x1 0 5 r_1 hg_1) (va_cwS 3 F.2.2.2.2.2.1 gX10_account_X10_within rfl rfl rfl h0X10_within ⟨Nat.le_of_ble_eq_true rfl, Nat.le_of_ble_eq_true rfl⟩) [] [0, 1] rfl rfl rfl rfl rfl rfl (Nat.le_of_ble_eq_true rfl) dX10_account_9 ⟨Nat.le_of_ble_eq_true rfl, Nat.le_of_ble_eq_true rfl⟩ ?_
  rintro v w ⟨rfl, rfl, hz_1⟩
  refine g_norm (Lw' := [sModel E aM anow aaside anames anamesAside atext aspelled acost afewestFrom afirst afresh aways aundo aslots aisSaved 0 M_length M_textSize M_start M_next M_token M_value M_error M_errorAt M_number M_many M_freshMany M_undos, sArrI E anow 365 now]) (st' := [.int r_1, .ref (aM 0)]) (pc' := 12) [0, 1] rfl rfl rfl rfl ?_
  obtain ⟨j_1, hj_1, hf⟩ := Lt_el hf
  have hj_1 : ∀ (t0_1 : Int32), j_1 t0_1 = some (r, M_thrown') → Gj p l e rmX10_account s m ([.ref (aM 0), .int x1] : List Value).toArray below meth c 0 0 (MQ below (gQ vwCl E A (fun v w => v = some (.int r) ∧ w = [sModel E aM anow aaside anames anamesAside atext aspelled acost afewestFrom afirst afresh aways aundo aslots aisSaved M_thrown' M_length M_textSize M_start M_next M_token M_value M_error M_errorAt M_number M_many M_freshMany M_undos, sArrI E anow 365 now])) ([.ref (aM 0), .int x1] : List Value).toArray s 0 0 A) vwCl E A [sModel E aM anow aaside anames anamesAside atext aspelled acost afewestFrom afirst afresh aways aundo aslots aisSaved 0 M_length M_textSize M_start M_next M_token M_value M_error M_errorAt M_number M_many M_freshMany M_undos, sArrI E anow 365 now] [some (.ref (aM 0)), some (.int x1)] [.int t0_1, .ref (aM 0)] 20 := by
    intro t0_1 hf
    rw [hj_1] at hf
    refine g_iconst F 1 dX10_account_20 rfl ?_
    obtain ⟨r_2, M_thrown_1, hg_2, hf⟩ := gb2_el hf
    refine g_callV (C := RX10) (T := TX10) (N := 27) (Lr := [sArrI E anow 365 now]) (As := [.int t0_1, .int 1]) (rest := []) F 0 0 2 (ctX10_throwsIf l E aM anow aaside anames anamesAside atext aspelled acost afewestFrom afirst afresh aways aundo aslots aisSaved t0_1 1 0 M_length M_textSize M_start M_next M_token M_value M_error M_errorAt M_number M_many M_freshMany M_undos r_2 M_thrown_1 hg_2) gX10_account_X10_throwsIf rfl rfl rfl h0X10_throwsIf ⟨Nat.le_of_ble_eq_true rfl, Nat.le_of_ble_eq_true rfl⟩ rfl rfl rfl [0] [1] rfl rfl rfl rfl rfl rfl (Nat.le_of_ble_eq_true rfl) dX10_account_21 ⟨Nat.le_of_ble_eq_true rfl, Nat.le_of_ble_eq_true rfl⟩ ?_
    rintro v w ⟨rfl, rfl, hz_2⟩
    refine g_norm (Lw' := [sModel E aM anow aaside anames anamesAside atext aspelled acost afewestFrom afirst afresh aways aundo aslots aisSaved M_thrown_1 M_length M_textSize M_start M_next M_token M_value M_error M_errorAt M_number M_many M_freshMany M_undos, sArrI E anow 365 now]) (st' := [.int r_2]) (pc' := 24) [0, 1] rfl rfl rfl rfl ?_
    refine g_ifeq F 31 dX10_account_24 (by decide) (fun hc_1 => ?_) (fun hc_1 => ?_)
    · replace hf := gi_t hc_1 hf
      refine g_aload_n F dX10_account_31 rfl ?_
      refine g_get (C := RX10) (T := TX10) (N := 27) F 0 0 1 rfl rfl rfl iX10_account_X10 (by decide) (by decide +kernel) rfl dX10_account_32 ?_
      refine g_bipush F 11 dX10_account_35 rfl ?_
      refine g_iload_n F dX10_account_37 rfl ?_
      refine g_iadd F dX10_account_38 ?_
      obtain ⟨hb_1, hf⟩ := gb_in hf
      refine g_iald F 1 0 ((11 + x1).toNatClampNeg) rfl rfl rfl hb_1 dX10_account_39 ?_
      cases hf
      exact g_iret F rfl ⟨rfl, rfl⟩ dX10_account_40
    · replace hf := gi_f hc_1 hf
      refine g_iconst F 0 dX10_account_27 rfl ?_
      refine g_goto F 40 dX10_account_28 (by decide) ?_
      cases hf
      exact g_iret F rfl ⟨rfl, rfl⟩ dX10_account_40
  refine g_ifne F 19 dX10_account_12 (by decide) (fun hc_2 => ?_) (fun hc_2 => ?_)
  · replace hf := gi_f hc_2 hf
    refine g_iconst F 0 dX10_account_19 rfl ?_
    exact hj_1 0 hf
  · replace hf := gi_t hc_2 hf
    refine g_iconst F 1 dX10_account_15 rfl ?_
    refine g_goto F 20 dX10_account_16 (by decide) ?_
    exact hj_1 1 hf
set_option maxHeartbeats 4000000 in
set_option maxRecDepth 100000 in
theorem ktX10_copies_L3 {p : Program} {l : Launch} {e : Env} {s : State} {m : MethodId} {args : Array Value} {below : List Frame} {meth : Method} {c : Code} {E : gE} {A : Nat → Prop} (F : gFx p s m args meth c RX10 wsX10_copies cX10_copies 5 none vwCl E A) (ap0 ap2 : Nat → Nat) (n_p0 : Nat) (n_p2 : Nat) (x1 : Int32) (x3 : Int32) (p0 : (Nat → Int32)) (p2' : (Nat → Int32)) {k : (Nat → Int32) → Option ((Nat → Int32))} (hk : ∀ (p2 : (Nat → Int32)), k p2 = some p2' → Gj p l e rmX10_copies s m args below meth c 0 0 (MQ below (gQ vwCl E A (fun v w => v = none ∧ w = [sArrI E ap0 n_p0 p0, sArrI E ap2 n_p2 p2'])) args s 0 0 A) vwCl E A [sArrI E ap0 n_p0 p0, sArrI E ap2 n_p2 p2] [none, none, none, none, none] [] 29) : ∀ (n : Nat) (x4 : Int32) (p2 : (Nat → Int32)), fX10_copies_L3 n_p0 n_p2 x1 x3 p0 k n x4 p2 = some p2' → Gj p l e rmX10_copies s m args below meth c 0 0 (MQ below (gQ vwCl E A (fun v w => v = none ∧ w = [sArrI E ap0 n_p0 p0, sArrI E ap2 n_p2 p2'])) args s 0 0 A) vwCl E A [sArrI E ap0 n_p0 p0, sArrI E ap2 n_p2 p2] [some (.ref (ap0 0)), some (.int x1), some (.ref (ap2 0)), some (.int x3), some (.int x4)] [] 3
  | 0, _, _, hf => by cases hf
  | n + 1, x4, p2, hf => by
    have ih := ktX10_copies_L3 F ap0 ap2 n_p0 n_p2 x1 x3 p0 p2' hk n
    rw [fX10_copies_L3] at hf
    refine g_iload F dX10_copies_3 rfl ?_
    refine g_sipush F 365 dX10_copies_5 rfl ?_
    refine g_icmp_ge F 29 dX10_copies_8 (by decide) (fun hc_1 => ?_) (fun hc_1 => ?_)
    · replace hf := gi_t hc_1 hf
      refine g_mask [false, false, false, false, false] rfl ?_
      exact hk p2 hf
    · replace hf := gi_f hc_1 hf
      refine g_aload_n F dX10_copies_11 rfl ?_
      refine g_iload_n F dX10_copies_12 rfl ?_
      refine g_iload F dX10_copies_13 rfl ?_
      refine g_iadd F dX10_copies_15 ?_
      refine g_aload_n F dX10_copies_16 rfl ?_
      refine g_iload_n F dX10_copies_17 rfl ?_
      refine g_iload F dX10_copies_18 rfl ?_
      refine g_iadd F dX10_copies_20 ?_
      obtain ⟨hb_1, hf⟩ := gb_in hf
      refine g_iald F 0 0 ((x1 + x4).toNatClampNeg) rfl rfl rfl hb_1 dX10_copies_21 ?_
      obtain ⟨hb_2, hf⟩ := gb_in hf
      obtain ⟨p2_1, hp2_1, hf⟩ := Lt_el hf
      refine g_iast (Lw' := [sArrI E ap0 n_p0 p0, sArrI E ap2 n_p2 p2_1]) F 1 0 ((x3 + x4).toNatClampNeg) rfl rfl rfl hb_2 dX10_copies_22 (by subst hp2_1; rfl) ?_
      refine g_iinc (lv' := [some (.ref (ap0 0)), some (.int x1), some (.ref (ap2 0)), some (.int x3), some (.int (x4 + 1))]) F (x4 + 1) dX10_copies_23 rfl rfl rfl rfl ?_
      refine g_goto F 3 dX10_copies_26 (by decide) ?_
      exact ih (x4 + 1) p2_1 hf
set_option maxHeartbeats 4000000 in
set_option maxRecDepth 100000 in
theorem ctX10_copies (l : Launch) (E : gE) (ap0 ap2 : Nat → Nat) (n_p0 : Nat) (n_p2 : Nat) (x1 : Int32) (x3 : Int32) (p0 : (Nat → Int32)) (p2 : (Nat → Int32)) (p2' : (Nat → Int32)) (hf : fX10_copies n_p0 n_p2 x1 x3 p0 p2 = some p2') : gMet l yX10_copies wsX10_copies rmX10_copies vwCl E [.ref (ap0 0), .int x1, .ref (ap2 0), .int x3] [sArrI E ap0 n_p0 p0, sArrI E ap2 n_p2 p2] (fun v w => v = none ∧ w = [sArrI E ap0 n_p0 p0, sArrI E ap2 n_p2 p2']) 0 0 := by
  refine g_entry [some (.ref (ap0 0)), some (.int x1), some (.ref (ap2 0)), some (.int x3), none] (by decide) rfl (Nat.le_of_ble_eq_true rfl) rfl ?_
  intro p e s m below meth c A F hnm
  unfold fX10_copies at hf
  refine g_iconst F 0 dX10_copies_0 rfl ?_
  refine g_istore (lv' := [some (.ref (ap0 0)), some (.int x1), some (.ref (ap2 0)), some (.int x3), some (.int 0)]) F dX10_copies_1 (Nat.le_of_ble_eq_true rfl) rfl rfl ?_
  refine ktX10_copies_L3 F ap0 ap2 n_p0 n_p2 x1 x3 p0 p2' (fun p2_1 hf => ?_) FU 0 p2 hf
  cases hf
  exact g_vret F rfl ⟨rfl, rfl⟩ dX10_copies_29
set_option maxHeartbeats 4000000 in
set_option maxRecDepth 100000 in
theorem ktX10_copiesA_L3 {p : Program} {l : Launch} {e : Env} {s : State} {m : MethodId} {args : Array Value} {below : List Frame} {meth : Method} {c : Code} {E : gE} {A : Nat → Prop} (F : gFx p s m args meth c RX10 wsX10_copies cX10_copies 5 none vwCl E A) (ap0 : Nat → Nat) (n_p0 : Nat) (x1 : Int32) (x3 : Int32) (p0' : (Nat → Int32)) {k : (Nat → Int32) → Option ((Nat → Int32))} (hk : ∀ (p0 : (Nat → Int32)), k p0 = some p0' → Gj p l e rmX10_copiesA s m args below meth c 0 0 (MQ below (gQ vwCl E A (fun v w => v = none ∧ w = [sArrI E ap0 n_p0 p0'])) args s 0 0 A) vwCl E A [sArrI E ap0 n_p0 p0] [none, none, none, none, none] [] 29) : ∀ (n : Nat) (x4 : Int32) (p0 : (Nat → Int32)), fX10_copiesA_L3 n_p0 x1 x3 k n x4 p0 = some p0' → Gj p l e rmX10_copiesA s m args below meth c 0 0 (MQ below (gQ vwCl E A (fun v w => v = none ∧ w = [sArrI E ap0 n_p0 p0'])) args s 0 0 A) vwCl E A [sArrI E ap0 n_p0 p0] [some (.ref (ap0 0)), some (.int x1), some (.ref (ap0 0)), some (.int x3), some (.int x4)] [] 3
  | 0, _, _, hf => by cases hf
  | n + 1, x4, p0, hf => by
    have ih := ktX10_copiesA_L3 F ap0 n_p0 x1 x3 p0' hk n
    rw [fX10_copiesA_L3] at hf
    refine g_iload F dX10_copies_3 rfl ?_
    refine g_sipush F 365 dX10_copies_5 rfl ?_
    refine g_icmp_ge F 29 dX10_copies_8 (by decide) (fun hc_1 => ?_) (fun hc_1 => ?_)
    · replace hf := gi_t hc_1 hf
      refine g_mask [false, false, false, false, false] rfl ?_
      exact hk p0 hf
    · replace hf := gi_f hc_1 hf
      refine g_aload_n F dX10_copies_11 rfl ?_
      refine g_iload_n F dX10_copies_12 rfl ?_
      refine g_iload F dX10_copies_13 rfl ?_
      refine g_iadd F dX10_copies_15 ?_
      refine g_aload_n F dX10_copies_16 rfl ?_
      refine g_iload_n F dX10_copies_17 rfl ?_
      refine g_iload F dX10_copies_18 rfl ?_
      refine g_iadd F dX10_copies_20 ?_
      obtain ⟨hb_1, hf⟩ := gb_in hf
      refine g_iald F 0 0 ((x1 + x4).toNatClampNeg) rfl rfl rfl hb_1 dX10_copies_21 ?_
      obtain ⟨hb_2, hf⟩ := gb_in hf
      obtain ⟨p0_1, hp0_1, hf⟩ := Lt_el hf
      refine g_iast (Lw' := [sArrI E ap0 n_p0 p0_1]) F 0 0 ((x3 + x4).toNatClampNeg) rfl rfl rfl hb_2 dX10_copies_22 (by subst hp0_1; rfl) ?_
      refine g_iinc (lv' := [some (.ref (ap0 0)), some (.int x1), some (.ref (ap0 0)), some (.int x3), some (.int (x4 + 1))]) F (x4 + 1) dX10_copies_23 rfl rfl rfl rfl ?_
      refine g_goto F 3 dX10_copies_26 (by decide) ?_
      exact ih (x4 + 1) p0_1 hf
set_option maxHeartbeats 4000000 in
set_option maxRecDepth 100000 in
theorem ctX10_copiesA (l : Launch) (E : gE) (ap0 : Nat → Nat) (n_p0 : Nat) (x1 : Int32) (x3 : Int32) (p0 : (Nat → Int32)) (p0' : (Nat → Int32)) (hf : fX10_copiesA n_p0 x1 x3 p0 = some p0') : gMet l yX10_copies wsX10_copies rmX10_copiesA vwCl E [.ref (ap0 0), .int x1, .ref (ap0 0), .int x3] [sArrI E ap0 n_p0 p0] (fun v w => v = none ∧ w = [sArrI E ap0 n_p0 p0']) 0 0 := by
  refine g_entry [some (.ref (ap0 0)), some (.int x1), some (.ref (ap0 0)), some (.int x3), none] (by decide) rfl (Nat.le_of_ble_eq_true rfl) rfl ?_
  intro p e s m below meth c A F hnm
  unfold fX10_copiesA at hf
  refine g_iconst F 0 dX10_copies_0 rfl ?_
  refine g_istore (lv' := [some (.ref (ap0 0)), some (.int x1), some (.ref (ap0 0)), some (.int x3), some (.int 0)]) F dX10_copies_1 (Nat.le_of_ble_eq_true rfl) rfl rfl ?_
  refine ktX10_copiesA_L3 F ap0 n_p0 x1 x3 p0' (fun p0_1 hf => ?_) FU 0 p0 hf
  cases hf
  exact g_vret F rfl ⟨rfl, rfl⟩ dX10_copies_29
set_option maxHeartbeats 4000000 in
set_option maxRecDepth 100000 in
theorem ktX10_keeps_L21 {p : Program} {l : Launch} {e : Env} {s : State} {m : MethodId} {args : Array Value} {below : List Frame} {meth : Method} {c : Code} {E : gE} {A : Nat → Prop} (F : gFx p s m args meth c RX10 wsX10_keeps cX10_keeps 2 none vwCl E A) (aM anow aaside anames anamesAside atext aspelled acost afewestFrom afirst afresh aways aundo aslots aisSaved : Nat → Nat) (M_undos : Int32) (M_thrown : Int32) (M_length : Int32) (M_textSize : Int32) (M_start : Int32) (M_next : Int32) (M_token : Int32) (M_value : Int32) (M_error : Int32) (M_errorAt : Int32) (M_number : Int32) (M_many : Int32) (M_freshMany : Int32) (now : (Nat → Int32)) (M_undos' : Int32) (undo' : (Nat → Int32)) {k : (Nat → Int32) → Option (Int32 × (Nat → Int32))} (hk : ∀ (undo : (Nat → Int32)), k undo = some (M_undos', undo') → Gj p l e rmX10_keeps s m args below meth c 0 0 (MQ below (gQ vwCl E A (fun v w => v = none ∧ w = [sModel E aM anow aaside anames anamesAside atext aspelled acost afewestFrom afirst afresh aways aundo aslots aisSaved M_thrown M_length M_textSize M_start M_next M_token M_value M_error M_errorAt M_number M_many M_freshMany M_undos', sArrI E anow 365 now, sArrI E aundo 3650 undo'])) args s 0 0 A) vwCl E A [sModel E aM anow aaside anames anamesAside atext aspelled acost afewestFrom afirst afresh aways aundo aslots aisSaved M_thrown M_length M_textSize M_start M_next M_token M_value M_error M_errorAt M_number M_many M_freshMany M_undos, sArrI E anow 365 now, sArrI E aundo 3650 undo] [some (.ref (aM 0)), none] [] 58) : ∀ (n : Nat) (x1 : Int32) (undo : (Nat → Int32)), fX10_keeps_L21 M_undos k n x1 undo = some (M_undos', undo') → Gj p l e rmX10_keeps s m args below meth c 0 0 (MQ below (gQ vwCl E A (fun v w => v = none ∧ w = [sModel E aM anow aaside anames anamesAside atext aspelled acost afewestFrom afirst afresh aways aundo aslots aisSaved M_thrown M_length M_textSize M_start M_next M_token M_value M_error M_errorAt M_number M_many M_freshMany M_undos', sArrI E anow 365 now, sArrI E aundo 3650 undo'])) args s 0 0 A) vwCl E A [sModel E aM anow aaside anames anamesAside atext aspelled acost afewestFrom afirst afresh aways aundo aslots aisSaved M_thrown M_length M_textSize M_start M_next M_token M_value M_error M_errorAt M_number M_many M_freshMany M_undos, sArrI E anow 365 now, sArrI E aundo 3650 undo] [some (.ref (aM 0)), some (.int x1)] [] 21
  | 0, _, _, hf => by cases hf
  | n + 1, x1, undo, hf => by
    have ih := ktX10_keeps_L21 F aM anow aaside anames anamesAside atext aspelled acost afewestFrom afirst afresh aways aundo aslots aisSaved M_undos M_thrown M_length M_textSize M_start M_next M_token M_value M_error M_errorAt M_number M_many M_freshMany now M_undos' undo' hk n
    rw [fX10_keeps_L21] at hf
    refine g_iload_n F dX10_keeps_21 rfl ?_
    refine g_aload_n F dX10_keeps_22 rfl ?_
    refine g_get (C := RX10) (T := TX10) (N := 27) F 0 0 23 rfl rfl rfl iX10_keeps_X10 (by decide) (by decide +kernel) rfl dX10_keeps_23 ?_
    refine g_icmp_ge F 58 dX10_keeps_26 (by decide) (fun hc_1 => ?_) (fun hc_1 => ?_)
    · replace hf := gi_t hc_1 hf
      refine g_mask [true, false] rfl ?_
      exact hk undo hf
    · replace hf := gi_f hc_1 hf
      refine g_aload_n F dX10_keeps_29 rfl ?_
      refine g_get (C := RX10) (T := TX10) (N := 27) F 0 0 24 rfl rfl rfl iX10_keeps_X10 (by decide) (by decide +kernel) rfl dX10_keeps_30 ?_
      refine g_sipush F 365 dX10_keeps_33 rfl ?_
      refine g_iload_n F dX10_keeps_36 rfl ?_
      refine g_iconst F 1 dX10_keeps_37 rfl ?_
      refine g_iadd F dX10_keeps_38 ?_
      refine g_imul F dX10_keeps_39 ?_
      refine g_aload_n F dX10_keeps_40 rfl ?_
      refine g_get (C := RX10) (T := TX10) (N := 27) F 0 0 24 rfl rfl rfl iX10_keeps_X10 (by decide) (by decide +kernel) rfl dX10_keeps_41 ?_
      refine g_sipush F 365 dX10_keeps_44 rfl ?_
      refine g_iload_n F dX10_keeps_47 rfl ?_
      refine g_imul F dX10_keeps_48 ?_
      obtain ⟨undo_1, hg_1, hf⟩ := gb1_el hf
      refine g_callS (Lr := [sModel E aM anow aaside anames anamesAside atext aspelled acost afewestFrom afirst afresh aways aundo aslots aisSaved M_thrown M_length M_textSize M_start M_next M_token M_value M_error M_errorAt M_number M_many M_freshMany M_undos, sArrI E anow 365 now]) (As := [.ref (aundo 0), .int (365 * (x1 + 1)), .ref (aundo 0), .int (365 * x1)]) (rest := []) F 4 (ctX10_copiesA l E aundo 3650 (365 * (x1 + 1)) (365 * x1) undo undo_1 hg_1) (va_cwS 4 F.2.2.2.2.2.1 gX10_keeps_X10_copies rfl rfl rfl h0X10_copiesA ⟨Nat.le_of_ble_eq_true rfl, Nat.le_of_ble_eq_true rfl⟩) [2] [0, 1] rfl rfl rfl rfl rfl rfl (Nat.le_of_ble_eq_true rfl) dX10_keeps_49 ⟨Nat.le_of_ble_eq_true rfl, Nat.le_of_ble_eq_true rfl⟩ ?_
      rintro v w ⟨rfl, rfl⟩
      refine g_norm (Lw' := [sModel E aM anow aaside anames anamesAside atext aspelled acost afewestFrom afirst afresh aways aundo aslots aisSaved M_thrown M_length M_textSize M_start M_next M_token M_value M_error M_errorAt M_number M_many M_freshMany M_undos, sArrI E anow 365 now, sArrI E aundo 3650 undo_1]) (st' := []) (pc' := 52) [1, 2, 0] rfl rfl rfl rfl ?_
      refine g_iinc (lv' := [some (.ref (aM 0)), some (.int (x1 + 1))]) F (x1 + 1) dX10_keeps_52 rfl rfl rfl rfl ?_
      refine g_goto F 21 dX10_keeps_55 (by decide) ?_
      exact ih (x1 + 1) undo_1 hf
set_option maxHeartbeats 4000000 in
set_option maxRecDepth 100000 in
theorem ctX10_keeps (l : Launch) (E : gE) (aM anow aaside anames anamesAside atext aspelled acost afewestFrom afirst afresh aways aundo aslots aisSaved : Nat → Nat) (M_thrown : Int32) (M_length : Int32) (M_textSize : Int32) (M_start : Int32) (M_next : Int32) (M_token : Int32) (M_value : Int32) (M_error : Int32) (M_errorAt : Int32) (M_number : Int32) (M_many : Int32) (M_freshMany : Int32) (M_undos : Int32) (now : (Nat → Int32)) (undo : (Nat → Int32)) (M_undos' : Int32) (undo' : (Nat → Int32)) (hf : fX10_keeps M_undos now undo = some (M_undos', undo')) : gMet l yX10_keeps wsX10_keeps rmX10_keeps vwCl E [.ref (aM 0)] [sModel E aM anow aaside anames anamesAside atext aspelled acost afewestFrom afirst afresh aways aundo aslots aisSaved M_thrown M_length M_textSize M_start M_next M_token M_value M_error M_errorAt M_number M_many M_freshMany M_undos, sArrI E anow 365 now, sArrI E aundo 3650 undo] (fun v w => v = none ∧ w = [sModel E aM anow aaside anames anamesAside atext aspelled acost afewestFrom afirst afresh aways aundo aslots aisSaved M_thrown M_length M_textSize M_start M_next M_token M_value M_error M_errorAt M_number M_many M_freshMany M_undos', sArrI E anow 365 now, sArrI E aundo 3650 undo']) 0 0 := by
  refine g_entry [some (.ref (aM 0)), none] (by decide) rfl (Nat.le_of_ble_eq_true rfl) rfl ?_
  intro p e s m below meth c A F hnm
  unfold fX10_keeps at hf
  refine g_aload_n F dX10_keeps_0 rfl ?_
  refine g_get (C := RX10) (T := TX10) (N := 27) F 0 0 23 rfl rfl rfl iX10_keeps_X10 (by decide) (by decide +kernel) rfl dX10_keeps_1 ?_
  refine g_bipush F 10 dX10_keeps_4 rfl ?_
  obtain ⟨j_1, hj_1, hf⟩ := Lt_el hf
  have hj_1 : ∀ (M_undos_1 : Int32) (undo_1 : (Nat → Int32)), j_1 M_undos_1 undo_1 = some (M_undos', undo') → Gj p l e rmX10_keeps s m ([.ref (aM 0)] : List Value).toArray below meth c 0 0 (MQ below (gQ vwCl E A (fun v w => v = none ∧ w = [sModel E aM anow aaside anames anamesAside atext aspelled acost afewestFrom afirst afresh aways aundo aslots aisSaved M_thrown M_length M_textSize M_start M_next M_token M_value M_error M_errorAt M_number M_many M_freshMany M_undos', sArrI E anow 365 now, sArrI E aundo 3650 undo'])) ([.ref (aM 0)] : List Value).toArray s 0 0 A) vwCl E A [sModel E aM anow aaside anames anamesAside atext aspelled acost afewestFrom afirst afresh aways aundo aslots aisSaved M_thrown M_length M_textSize M_start M_next M_token M_value M_error M_errorAt M_number M_many M_freshMany M_undos_1, sArrI E anow 365 now, sArrI E aundo 3650 undo_1] [some (.ref (aM 0)), none] [] 58 := by
    intro M_undos_1 undo_1 hf
    rw [hj_1] at hf
    refine g_aload_n F dX10_keeps_58 rfl ?_
    refine g_get (C := RX10) (T := TX10) (N := 27) F 0 0 1 rfl rfl rfl iX10_keeps_X10 (by decide) (by decide +kernel) rfl dX10_keeps_59 ?_
    refine g_iconst F 0 dX10_keeps_62 rfl ?_
    refine g_aload_n F dX10_keeps_63 rfl ?_
    refine g_get (C := RX10) (T := TX10) (N := 27) F 0 0 24 rfl rfl rfl iX10_keeps_X10 (by decide) (by decide +kernel) rfl dX10_keeps_64 ?_
    refine g_sipush F 365 dX10_keeps_67 rfl ?_
    refine g_aload_n F dX10_keeps_70 rfl ?_
    refine g_get (C := RX10) (T := TX10) (N := 27) F 0 0 23 rfl rfl rfl iX10_keeps_X10 (by decide) (by decide +kernel) rfl dX10_keeps_71 ?_
    refine g_imul F dX10_keeps_74 ?_
    obtain ⟨undo_2, hg_1, hf⟩ := gb1_el hf
    refine g_callS (Lr := [sModel E aM anow aaside anames anamesAside atext aspelled acost afewestFrom afirst afresh aways aundo aslots aisSaved M_thrown M_length M_textSize M_start M_next M_token M_value M_error M_errorAt M_number M_many M_freshMany M_undos_1]) (As := [.ref (anow 0), .int 0, .ref (aundo 0), .int (365 * M_undos_1)]) (rest := []) F 4 (ctX10_copies l E anow aundo 365 3650 0 (365 * M_undos_1) now undo_1 undo_2 hg_1) (va_cwS 4 F.2.2.2.2.2.1 gX10_keeps_X10_copies rfl rfl rfl h0X10_copies ⟨Nat.le_of_ble_eq_true rfl, Nat.le_of_ble_eq_true rfl⟩) [1, 2] [0] rfl rfl rfl rfl rfl rfl (Nat.le_of_ble_eq_true rfl) dX10_keeps_75 ⟨Nat.le_of_ble_eq_true rfl, Nat.le_of_ble_eq_true rfl⟩ ?_
    rintro v w ⟨rfl, rfl⟩
    refine g_norm (Lw' := [sModel E aM anow aaside anames anamesAside atext aspelled acost afewestFrom afirst afresh aways aundo aslots aisSaved M_thrown M_length M_textSize M_start M_next M_token M_value M_error M_errorAt M_number M_many M_freshMany M_undos_1, sArrI E anow 365 now, sArrI E aundo 3650 undo_2]) (st' := []) (pc' := 78) [2, 0, 1] rfl rfl rfl rfl ?_
    refine g_aload_n F dX10_keeps_78 rfl ?_
    refine g_dup F dX10_keeps_79 rfl ?_
    refine g_get (C := RX10) (T := TX10) (N := 27) F 0 0 23 rfl rfl rfl iX10_keeps_X10 (by decide) (by decide +kernel) rfl dX10_keeps_80 ?_
    refine g_iconst F 1 dX10_keeps_83 rfl ?_
    refine g_iadd F dX10_keeps_84 ?_
    refine g_put (C := RX10) (T := TX10) (N := 27) (tys := tyX10) (Lw' := [sModel E aM anow aaside anames anamesAside atext aspelled acost afewestFrom afirst afresh aways aundo aslots aisSaved M_thrown M_length M_textSize M_start M_next M_token M_value M_error M_errorAt M_number M_many M_freshMany (M_undos_1 + 1), sArrI E anow 365 now, sArrI E aundo 3650 undo_2]) F 0 0 23 rfl rfl rfl iX10_keeps_X10 tyX10_ok nmX10 (by decide) (by decide +kernel) rfl rfl rfl rfl (Nat.le_of_ble_eq_true rfl) dX10_keeps_85 rfl ?_
    cases hf
    exact g_vret F rfl ⟨rfl, rfl⟩ dX10_keeps_88
  refine g_icmp_ne F 58 dX10_keeps_6 (by decide) (fun hc_1 => ?_) (fun hc_1 => ?_)
  · replace hf := gi_f hc_1 hf
    exact hj_1 M_undos undo hf
  · replace hf := gi_t hc_1 hf
    refine g_aload_n F dX10_keeps_9 rfl ?_
    refine g_dup F dX10_keeps_10 rfl ?_
    refine g_get (C := RX10) (T := TX10) (N := 27) F 0 0 23 rfl rfl rfl iX10_keeps_X10 (by decide) (by decide +kernel) rfl dX10_keeps_11 ?_
    refine g_iconst F 1 dX10_keeps_14 rfl ?_
    refine g_isub F dX10_keeps_15 ?_
    refine g_put (C := RX10) (T := TX10) (N := 27) (tys := tyX10) (Lw' := [sModel E aM anow aaside anames anamesAside atext aspelled acost afewestFrom afirst afresh aways aundo aslots aisSaved M_thrown M_length M_textSize M_start M_next M_token M_value M_error M_errorAt M_number M_many M_freshMany (M_undos - 1), sArrI E anow 365 now, sArrI E aundo 3650 undo]) F 0 0 23 rfl rfl rfl iX10_keeps_X10 tyX10_ok nmX10 (by decide) (by decide +kernel) rfl rfl rfl rfl (Nat.le_of_ble_eq_true rfl) dX10_keeps_16 rfl ?_
    refine g_iconst F 0 dX10_keeps_19 rfl ?_
    refine g_istore_n (lv' := [some (.ref (aM 0)), some (.int 0)]) F dX10_keeps_20 (Nat.le_of_ble_eq_true rfl) rfl rfl ?_
    refine ktX10_keeps_L21 F aM anow aaside anames anamesAside atext aspelled acost afewestFrom afirst afresh aways aundo aslots aisSaved (M_undos - 1) M_thrown M_length M_textSize M_start M_next M_token M_value M_error M_errorAt M_number M_many M_freshMany now M_undos' undo' (fun undo_3 hf => ?_) FU 0 undo hf
    exact hj_1 (M_undos - 1) undo_3 hf
set_option maxHeartbeats 4000000 in
set_option maxRecDepth 100000 in
theorem ctX10_store (l : Launch) (E : gE) (aM anow aaside anames anamesAside atext aspelled acost afewestFrom afirst afresh aways aundo aslots aisSaved : Nat → Nat) (x1 : Int32) (M_thrown : Int32) (M_length : Int32) (M_textSize : Int32) (M_start : Int32) (M_next : Int32) (M_token : Int32) (M_value : Int32) (M_error : Int32) (M_errorAt : Int32) (M_number : Int32) (M_many : Int32) (M_freshMany : Int32) (M_undos : Int32) (now : (Nat → Int32)) (text : (Nat → Int32)) (spelled : (Nat → Int32)) (cost : (Nat → Int32)) (fewestFrom : (Nat → Int32)) (first : (Nat → Int32)) (fresh : (Nat → Int32)) (undo : (Nat → Int32)) (r : Int32) (M_thrown' : Int32) (M_length' : Int32) (M_textSize' : Int32) (M_start' : Int32) (M_next' : Int32) (M_many' : Int32) (M_freshMany' : Int32) (M_undos' : Int32) (now' : (Nat → Int32)) (spelled' : (Nat → Int32)) (cost' : (Nat → Int32)) (fewestFrom' : (Nat → Int32)) (first' : (Nat → Int32)) (fresh' : (Nat → Int32)) (undo' : (Nat → Int32)) (hf : fX10_store x1 M_thrown M_length M_textSize M_start M_next M_many M_freshMany M_undos now text spelled cost fewestFrom first fresh undo = some (r, M_thrown', M_length', M_textSize', M_start', M_next', M_many', M_freshMany', M_undos', now', spelled', cost', fewestFrom', first', fresh', undo')) : gMet l yX10_store wsX10_store rmX10_store vwCl E [.ref (aM 0), .int x1] [sModel E aM anow aaside anames anamesAside atext aspelled acost afewestFrom afirst afresh aways aundo aslots aisSaved M_thrown M_length M_textSize M_start M_next M_token M_value M_error M_errorAt M_number M_many M_freshMany M_undos, sArrI E anow 365 now, sArrB E atext 600 text, sArrI E aspelled 12 spelled, sArrI E acost 13 cost, sArrI E afewestFrom 13 fewestFrom, sArrI E afirst 13 first, sArrI E afresh 12 fresh, sArrI E aundo 3650 undo] (fun v w => v = some (.int r) ∧ w = [sModel E aM anow aaside anames anamesAside atext aspelled acost afewestFrom afirst afresh aways aundo aslots aisSaved M_thrown' M_length' M_textSize' M_start' M_next' M_token M_value M_error M_errorAt M_number M_many' M_freshMany' M_undos', sArrI E anow 365 now', sArrB E atext 600 text, sArrI E aspelled 12 spelled', sArrI E acost 13 cost', sArrI E afewestFrom 13 fewestFrom', sArrI E afirst 13 first', sArrI E afresh 12 fresh', sArrI E aundo 3650 undo']) 0 0 := by
  refine g_entry [some (.ref (aM 0)), some (.int x1), none] (by decide) rfl (Nat.le_of_ble_eq_true rfl) rfl ?_
  intro p e s m below meth c A F hnm
  unfold fX10_store at hf
  refine g_aload_n F dX10_store_0 rfl ?_
  obtain ⟨r_1, M_length_1, M_textSize_1, M_start_1, M_next_1, M_many_1, spelled_1, hg_1, hf⟩ := gb7_el hf
  refine g_callV (C := RX10) (T := TX10) (N := 27) (Lr := [sArrI E anow 365 now, sArrI E acost 13 cost, sArrI E afewestFrom 13 fewestFrom, sArrI E afirst 13 first, sArrI E afresh 12 fresh, sArrI E aundo 3650 undo]) (As := []) (rest := []) F 0 0 0 (ctX10_reads l E aM anow aaside anames anamesAside atext aspelled acost afewestFrom afirst afresh aways aundo aslots aisSaved M_thrown M_length M_textSize M_start M_next M_token M_value M_error M_errorAt M_number M_many M_freshMany M_undos text spelled r_1 M_length_1 M_textSize_1 M_start_1 M_next_1 M_many_1 spelled_1 hg_1) gX10_store_X10_reads rfl rfl rfl h0X10_reads ⟨Nat.le_of_ble_eq_true rfl, Nat.le_of_ble_eq_true rfl⟩ rfl rfl rfl [0, 2, 3] [1, 4, 5, 6, 7, 8] rfl rfl rfl rfl rfl rfl (Nat.le_of_ble_eq_true rfl) dX10_store_1 ⟨Nat.le_of_ble_eq_true rfl, Nat.le_of_ble_eq_true rfl⟩ ?_
  rintro v w ⟨rfl, rfl, hz_1⟩
  refine g_norm (Lw' := [sModel E aM anow aaside anames anamesAside atext aspelled acost afewestFrom afirst afresh aways aundo aslots aisSaved M_thrown M_length_1 M_textSize_1 M_start_1 M_next_1 M_token M_value M_error M_errorAt M_number M_many_1 M_freshMany M_undos, sArrI E anow 365 now, sArrB E atext 600 text, sArrI E aspelled 12 spelled_1, sArrI E acost 13 cost, sArrI E afewestFrom 13 fewestFrom, sArrI E afirst 13 first, sArrI E afresh 12 fresh, sArrI E aundo 3650 undo]) (st' := [.int r_1]) (pc' := 4) [0, 3, 1, 2, 4, 5, 6, 7, 8] rfl rfl rfl rfl ?_
  refine g_istore_n (lv' := [some (.ref (aM 0)), some (.int x1), some (.int r_1)]) F dX10_store_4 (Nat.le_of_ble_eq_true rfl) rfl rfl ?_
  refine g_aload_n F dX10_store_5 rfl ?_
  refine g_iload_n F dX10_store_6 rfl ?_
  obtain ⟨r_2, M_thrown_1, hg_2, hf⟩ := gb2_el hf
  refine g_callV (C := RX10) (T := TX10) (N := 27) (Lr := [sArrB E atext 600 text, sArrI E aspelled 12 spelled_1, sArrI E acost 13 cost, sArrI E afewestFrom 13 fewestFrom, sArrI E afirst 13 first, sArrI E afresh 12 fresh, sArrI E aundo 3650 undo]) (As := [.int x1]) (rest := []) F 0 0 1 (ctX10_noUser l E aM anow aaside anames anamesAside atext aspelled acost afewestFrom afirst afresh aways aundo aslots aisSaved x1 M_thrown M_length_1 M_textSize_1 M_start_1 M_next_1 M_token M_value M_error M_errorAt M_number M_many_1 M_freshMany M_undos now r_2 M_thrown_1 hg_2) gX10_store_X10_noUser rfl rfl rfl h0X10_noUser ⟨Nat.le_of_ble_eq_true rfl, Nat.le_of_ble_eq_true rfl⟩ rfl rfl rfl [0, 1] [2, 3, 4, 5, 6, 7, 8] rfl rfl rfl rfl rfl rfl (Nat.le_of_ble_eq_true rfl) dX10_store_7 ⟨Nat.le_of_ble_eq_true rfl, Nat.le_of_ble_eq_true rfl⟩ ?_
  rintro v w ⟨rfl, rfl, hz_2⟩
  refine g_norm (Lw' := [sModel E aM anow aaside anames anamesAside atext aspelled acost afewestFrom afirst afresh aways aundo aslots aisSaved M_thrown_1 M_length_1 M_textSize_1 M_start_1 M_next_1 M_token M_value M_error M_errorAt M_number M_many_1 M_freshMany M_undos, sArrI E anow 365 now, sArrB E atext 600 text, sArrI E aspelled 12 spelled_1, sArrI E acost 13 cost, sArrI E afewestFrom 13 fewestFrom, sArrI E afirst 13 first, sArrI E afresh 12 fresh, sArrI E aundo 3650 undo]) (st' := [.int r_2]) (pc' := 10) [0, 1, 2, 3, 4, 5, 6, 7, 8] rfl rfl rfl rfl ?_
  refine g_ifne F 30 dX10_store_10 (by decide) (fun hc_5 => ?_) (fun hc_5 => ?_)
  · replace hf := gi_f hc_5 hf
    refine g_iconst F 0 dX10_store_30 rfl ?_
    cases hf
    exact g_iret F rfl ⟨rfl, rfl⟩ dX10_store_31
  · replace hf := gi_t hc_5 hf
    refine g_aload_n F dX10_store_13 rfl ?_
    refine g_iload_n F dX10_store_14 rfl ?_
    obtain ⟨j_1, hj_1, hf⟩ := Lt_el hf
    have hj_1 : ∀ (t0_1 : Int32), j_1 t0_1 = some (r, M_thrown', M_length', M_textSize', M_start', M_next', M_many', M_freshMany', M_undos', now', spelled', cost', fewestFrom', first', fresh', undo') → Gj p l e rmX10_store s m ([.ref (aM 0), .int x1] : List Value).toArray below meth c 0 0 (MQ below (gQ vwCl E A (fun v w => v = some (.int r) ∧ w = [sModel E aM anow aaside anames anamesAside atext aspelled acost afewestFrom afirst afresh aways aundo aslots aisSaved M_thrown' M_length' M_textSize' M_start' M_next' M_token M_value M_error M_errorAt M_number M_many' M_freshMany' M_undos', sArrI E anow 365 now', sArrB E atext 600 text, sArrI E aspelled 12 spelled', sArrI E acost 13 cost', sArrI E afewestFrom 13 fewestFrom', sArrI E afirst 13 first', sArrI E afresh 12 fresh', sArrI E aundo 3650 undo'])) ([.ref (aM 0), .int x1] : List Value).toArray s 0 0 A) vwCl E A [sModel E aM anow aaside anames anamesAside atext aspelled acost afewestFrom afirst afresh aways aundo aslots aisSaved M_thrown_1 M_length_1 M_textSize_1 M_start_1 M_next_1 M_token M_value M_error M_errorAt M_number M_many_1 M_freshMany M_undos, sArrI E anow 365 now, sArrB E atext 600 text, sArrI E aspelled 12 spelled_1, sArrI E acost 13 cost, sArrI E afewestFrom 13 fewestFrom, sArrI E afirst 13 first, sArrI E afresh 12 fresh, sArrI E aundo 3650 undo] [some (.ref (aM 0)), some (.int x1), none] [.int t0_1, .ref (aM 0)] 23 := by
      intro t0_1 hf
      rw [hj_1] at hf
      refine g_iconst F 2 dX10_store_23 rfl ?_
      obtain ⟨r_3, M_thrown_2, hg_3, hf⟩ := gb2_el hf
      refine g_callV (C := RX10) (T := TX10) (N := 27) (Lr := [sArrI E anow 365 now, sArrB E atext 600 text, sArrI E aspelled 12 spelled_1, sArrI E acost 13 cost, sArrI E afewestFrom 13 fewestFrom, sArrI E afirst 13 first, sArrI E afresh 12 fresh, sArrI E aundo 3650 undo]) (As := [.int t0_1, .int 2]) (rest := []) F 0 0 2 (ctX10_throwsIf l E aM anow aaside anames anamesAside atext aspelled acost afewestFrom afirst afresh aways aundo aslots aisSaved t0_1 2 M_thrown_1 M_length_1 M_textSize_1 M_start_1 M_next_1 M_token M_value M_error M_errorAt M_number M_many_1 M_freshMany M_undos r_3 M_thrown_2 hg_3) gX10_store_X10_throwsIf rfl rfl rfl h0X10_throwsIf ⟨Nat.le_of_ble_eq_true rfl, Nat.le_of_ble_eq_true rfl⟩ rfl rfl rfl [0] [1, 2, 3, 4, 5, 6, 7, 8] rfl rfl rfl rfl rfl rfl (Nat.le_of_ble_eq_true rfl) dX10_store_24 ⟨Nat.le_of_ble_eq_true rfl, Nat.le_of_ble_eq_true rfl⟩ ?_
      rintro v w ⟨rfl, rfl, hz_3⟩
      refine g_norm (Lw' := [sModel E aM anow aaside anames anamesAside atext aspelled acost afewestFrom afirst afresh aways aundo aslots aisSaved M_thrown_2 M_length_1 M_textSize_1 M_start_1 M_next_1 M_token M_value M_error M_errorAt M_number M_many_1 M_freshMany M_undos, sArrI E anow 365 now, sArrB E atext 600 text, sArrI E aspelled 12 spelled_1, sArrI E acost 13 cost, sArrI E afewestFrom 13 fewestFrom, sArrI E afirst 13 first, sArrI E afresh 12 fresh, sArrI E aundo 3650 undo]) (st' := [.int r_3]) (pc' := 27) [0, 1, 2, 3, 4, 5, 6, 7, 8] rfl rfl rfl rfl ?_
      refine g_ifeq F 32 dX10_store_27 (by decide) (fun hc_3 => ?_) (fun hc_3 => ?_)
      · replace hf := gi_t hc_3 hf
        refine g_aload_n F dX10_store_32 rfl ?_
        obtain ⟨cost_1, fewestFrom_1, first_1, hg_4, hf⟩ := gb3_el hf
        refine g_callV (C := RX10) (T := TX10) (N := 27) (Lr := [sArrB E atext 600 text, sArrI E afresh 12 fresh, sArrI E aundo 3650 undo]) (As := []) (rest := []) F 0 0 0 (ctX10_cutsCheapest l E aM anow aaside anames anamesAside atext aspelled acost afewestFrom afirst afresh aways aundo aslots aisSaved M_thrown_2 M_length_1 M_textSize_1 M_start_1 M_next_1 M_token M_value M_error M_errorAt M_number M_many_1 M_freshMany M_undos now spelled_1 cost fewestFrom first cost_1 fewestFrom_1 first_1 hg_4) gX10_store_X10_cutsCheapest rfl rfl rfl h0X10_cutsCheapest ⟨Nat.le_of_ble_eq_true rfl, Nat.le_of_ble_eq_true rfl⟩ rfl rfl rfl [0, 1, 3, 4, 5, 6] [2, 7, 8] rfl rfl rfl rfl rfl rfl (Nat.le_of_ble_eq_true rfl) dX10_store_33 ⟨Nat.le_of_ble_eq_true rfl, Nat.le_of_ble_eq_true rfl⟩ ?_
        rintro v w ⟨rfl, rfl⟩
        refine g_norm (Lw' := [sModel E aM anow aaside anames anamesAside atext aspelled acost afewestFrom afirst afresh aways aundo aslots aisSaved M_thrown_2 M_length_1 M_textSize_1 M_start_1 M_next_1 M_token M_value M_error M_errorAt M_number M_many_1 M_freshMany M_undos, sArrI E anow 365 now, sArrB E atext 600 text, sArrI E aspelled 12 spelled_1, sArrI E acost 13 cost_1, sArrI E afewestFrom 13 fewestFrom_1, sArrI E afirst 13 first_1, sArrI E afresh 12 fresh, sArrI E aundo 3650 undo]) (st' := []) (pc' := 36) [0, 1, 6, 2, 3, 4, 5, 7, 8] rfl rfl rfl rfl ?_
        refine g_aload_n F dX10_store_36 rfl ?_
        refine g_aload_n F dX10_store_37 rfl ?_
        refine g_iload_n F dX10_store_38 rfl ?_
        obtain ⟨r_4, M_freshMany_1, fresh_1, hg_5, hf⟩ := gb3_el hf
        refine g_callV (C := RX10) (T := TX10) (N := 27) (Lr := [sArrB E atext 600 text, sArrI E acost 13 cost_1, sArrI E aundo 3650 undo]) (As := [.int x1]) (rest := [.ref (aM 0)]) F 0 0 1 (ctX10_why l E aM anow aaside anames anamesAside atext aspelled acost afewestFrom afirst afresh aways aundo aslots aisSaved x1 M_thrown_2 M_length_1 M_textSize_1 M_start_1 M_next_1 M_token M_value M_error M_errorAt M_number M_many_1 M_freshMany M_undos now spelled_1 fewestFrom_1 first_1 fresh r_4 M_freshMany_1 fresh_1 hg_5) gX10_store_X10_why rfl rfl rfl h0X10_why ⟨Nat.le_of_ble_eq_true rfl, Nat.le_of_ble_eq_true rfl⟩ rfl rfl rfl [0, 1, 3, 5, 6, 7] [2, 4, 8] rfl rfl rfl rfl rfl rfl (Nat.le_of_ble_eq_true rfl) dX10_store_39 ⟨Nat.le_of_ble_eq_true rfl, Nat.le_of_ble_eq_true rfl⟩ ?_
        rintro v w ⟨rfl, rfl⟩
        refine g_norm (Lw' := [sModel E aM anow aaside anames anamesAside atext aspelled acost afewestFrom afirst afresh aways aundo aslots aisSaved M_thrown_2 M_length_1 M_textSize_1 M_start_1 M_next_1 M_token M_value M_error M_errorAt M_number M_many_1 M_freshMany_1 M_undos, sArrI E anow 365 now, sArrB E atext 600 text, sArrI E aspelled 12 spelled_1, sArrI E acost 13 cost_1, sArrI E afewestFrom 13 fewestFrom_1, sArrI E afirst 13 first_1, sArrI E afresh 12 fresh_1, sArrI E aundo 3650 undo]) (st' := [.int r_4, .ref (aM 0)]) (pc' := 42) [0, 1, 6, 2, 7, 3, 4, 5, 8] rfl rfl rfl rfl ?_
        obtain ⟨j_2, hj_2, hf⟩ := Lt_el hf
        have hj_2 : ∀ (t0_2 : Int32), j_2 t0_2 = some (r, M_thrown', M_length', M_textSize', M_start', M_next', M_many', M_freshMany', M_undos', now', spelled', cost', fewestFrom', first', fresh', undo') → Gj p l e rmX10_store s m ([.ref (aM 0), .int x1] : List Value).toArray below meth c 0 0 (MQ below (gQ vwCl E A (fun v w => v = some (.int r) ∧ w = [sModel E aM anow aaside anames anamesAside atext aspelled acost afewestFrom afirst afresh aways aundo aslots aisSaved M_thrown' M_length' M_textSize' M_start' M_next' M_token M_value M_error M_errorAt M_number M_many' M_freshMany' M_undos', sArrI E anow 365 now', sArrB E atext 600 text, sArrI E aspelled 12 spelled', sArrI E acost 13 cost', sArrI E afewestFrom 13 fewestFrom', sArrI E afirst 13 first', sArrI E afresh 12 fresh', sArrI E aundo 3650 undo'])) ([.ref (aM 0), .int x1] : List Value).toArray s 0 0 A) vwCl E A [sModel E aM anow aaside anames anamesAside atext aspelled acost afewestFrom afirst afresh aways aundo aslots aisSaved M_thrown_2 M_length_1 M_textSize_1 M_start_1 M_next_1 M_token M_value M_error M_errorAt M_number M_many_1 M_freshMany_1 M_undos, sArrI E anow 365 now, sArrB E atext 600 text, sArrI E aspelled 12 spelled_1, sArrI E acost 13 cost_1, sArrI E afewestFrom 13 fewestFrom_1, sArrI E afirst 13 first_1, sArrI E afresh 12 fresh_1, sArrI E aundo 3650 undo] [some (.ref (aM 0)), some (.int x1), none] [.int t0_2, .ref (aM 0)] 50 := by
          intro t0_2 hf
          rw [hj_2] at hf
          refine g_iconst F 3 dX10_store_50 rfl ?_
          obtain ⟨r_5, M_thrown_3, hg_6, hf⟩ := gb2_el hf
          refine g_callV (C := RX10) (T := TX10) (N := 27) (Lr := [sArrI E anow 365 now, sArrB E atext 600 text, sArrI E aspelled 12 spelled_1, sArrI E acost 13 cost_1, sArrI E afewestFrom 13 fewestFrom_1, sArrI E afirst 13 first_1, sArrI E afresh 12 fresh_1, sArrI E aundo 3650 undo]) (As := [.int t0_2, .int 3]) (rest := []) F 0 0 2 (ctX10_throwsIf l E aM anow aaside anames anamesAside atext aspelled acost afewestFrom afirst afresh aways aundo aslots aisSaved t0_2 3 M_thrown_2 M_length_1 M_textSize_1 M_start_1 M_next_1 M_token M_value M_error M_errorAt M_number M_many_1 M_freshMany_1 M_undos r_5 M_thrown_3 hg_6) gX10_store_X10_throwsIf rfl rfl rfl h0X10_throwsIf ⟨Nat.le_of_ble_eq_true rfl, Nat.le_of_ble_eq_true rfl⟩ rfl rfl rfl [0] [1, 2, 3, 4, 5, 6, 7, 8] rfl rfl rfl rfl rfl rfl (Nat.le_of_ble_eq_true rfl) dX10_store_51 ⟨Nat.le_of_ble_eq_true rfl, Nat.le_of_ble_eq_true rfl⟩ ?_
          rintro v w ⟨rfl, rfl, hz_4⟩
          refine g_norm (Lw' := [sModel E aM anow aaside anames anamesAside atext aspelled acost afewestFrom afirst afresh aways aundo aslots aisSaved M_thrown_3 M_length_1 M_textSize_1 M_start_1 M_next_1 M_token M_value M_error M_errorAt M_number M_many_1 M_freshMany_1 M_undos, sArrI E anow 365 now, sArrB E atext 600 text, sArrI E aspelled 12 spelled_1, sArrI E acost 13 cost_1, sArrI E afewestFrom 13 fewestFrom_1, sArrI E afirst 13 first_1, sArrI E afresh 12 fresh_1, sArrI E aundo 3650 undo]) (st' := [.int r_5]) (pc' := 54) [0, 1, 2, 3, 4, 5, 6, 7, 8] rfl rfl rfl rfl ?_
          refine g_ifeq F 59 dX10_store_54 (by decide) (fun hc_1 => ?_) (fun hc_1 => ?_)
          · replace hf := gi_t hc_1 hf
            refine g_aload_n F dX10_store_59 rfl ?_
            obtain ⟨M_undos_1, undo_1, hg_7, hf⟩ := gb2_el hf
            refine g_callV (C := RX10) (T := TX10) (N := 27) (Lr := [sArrB E atext 600 text, sArrI E aspelled 12 spelled_1, sArrI E acost 13 cost_1, sArrI E afewestFrom 13 fewestFrom_1, sArrI E afirst 13 first_1, sArrI E afresh 12 fresh_1]) (As := []) (rest := []) F 0 0 0 (ctX10_keeps l E aM anow aaside anames anamesAside atext aspelled acost afewestFrom afirst afresh aways aundo aslots aisSaved M_thrown_3 M_length_1 M_textSize_1 M_start_1 M_next_1 M_token M_value M_error M_errorAt M_number M_many_1 M_freshMany_1 M_undos now undo M_undos_1 undo_1 hg_7) gX10_store_X10_keeps rfl rfl rfl h0X10_keeps ⟨Nat.le_of_ble_eq_true rfl, Nat.le_of_ble_eq_true rfl⟩ rfl rfl rfl [0, 1, 8] [2, 3, 4, 5, 6, 7] rfl rfl rfl rfl rfl rfl (Nat.le_of_ble_eq_true rfl) dX10_store_60 ⟨Nat.le_of_ble_eq_true rfl, Nat.le_of_ble_eq_true rfl⟩ ?_
            rintro v w ⟨rfl, rfl⟩
            refine g_norm (Lw' := [sModel E aM anow aaside anames anamesAside atext aspelled acost afewestFrom afirst afresh aways aundo aslots aisSaved M_thrown_3 M_length_1 M_textSize_1 M_start_1 M_next_1 M_token M_value M_error M_errorAt M_number M_many_1 M_freshMany_1 M_undos_1, sArrI E anow 365 now, sArrB E atext 600 text, sArrI E aspelled 12 spelled_1, sArrI E acost 13 cost_1, sArrI E afewestFrom 13 fewestFrom_1, sArrI E afirst 13 first_1, sArrI E afresh 12 fresh_1, sArrI E aundo 3650 undo_1]) (st' := []) (pc' := 63) [0, 1, 3, 4, 5, 6, 7, 8, 2] rfl rfl rfl rfl ?_
            refine g_aload_n F dX10_store_63 rfl ?_
            refine g_iload_n F dX10_store_64 rfl ?_
            obtain ⟨r_6, M_freshMany_2, now_1, fresh_2, hg_8, hf⟩ := gb4_el hf
            refine g_callV (C := RX10) (T := TX10) (N := 27) (Lr := [sArrB E atext 600 text, sArrI E acost 13 cost_1, sArrI E afewestFrom 13 fewestFrom_1, sArrI E aundo 3650 undo_1]) (As := [.int x1]) (rest := []) F 0 0 1 (ctX10_stores l E aM anow aaside anames anamesAside atext aspelled acost afewestFrom afirst afresh aways aundo aslots aisSaved x1 M_thrown_3 M_length_1 M_textSize_1 M_start_1 M_next_1 M_token M_value M_error M_errorAt M_number M_many_1 M_freshMany_1 M_undos_1 now spelled_1 first_1 fresh_1 r_6 M_freshMany_2 now_1 fresh_2 hg_8) gX10_store_X10_stores rfl rfl rfl h0X10_stores ⟨Nat.le_of_ble_eq_true rfl, Nat.le_of_ble_eq_true rfl⟩ rfl rfl rfl [0, 1, 3, 6, 7] [2, 4, 5, 8] rfl rfl rfl rfl rfl rfl (Nat.le_of_ble_eq_true rfl) dX10_store_65 ⟨Nat.le_of_ble_eq_true rfl, Nat.le_of_ble_eq_true rfl⟩ ?_
            rintro v w ⟨rfl, rfl⟩
            refine g_norm (Lw' := [sModel E aM anow aaside anames anamesAside atext aspelled acost afewestFrom afirst afresh aways aundo aslots aisSaved M_thrown_3 M_length_1 M_textSize_1 M_start_1 M_next_1 M_token M_value M_error M_errorAt M_number M_many_1 M_freshMany_2 M_undos_1, sArrI E anow 365 now_1, sArrB E atext 600 text, sArrI E aspelled 12 spelled_1, sArrI E acost 13 cost_1, sArrI E afewestFrom 13 fewestFrom_1, sArrI E afirst 13 first_1, sArrI E afresh 12 fresh_2, sArrI E aundo 3650 undo_1]) (st' := [.int r_6]) (pc' := 68) [0, 1, 5, 2, 6, 7, 3, 4, 8] rfl rfl rfl rfl ?_
            cases hf
            exact g_iret F rfl ⟨rfl, rfl⟩ dX10_store_68
          · replace hf := gi_f hc_1 hf
            refine g_iconst F 0 dX10_store_57 rfl ?_
            cases hf
            exact g_iret F rfl ⟨rfl, rfl⟩ dX10_store_58
        refine g_ifeq F 49 dX10_store_42 (by decide) (fun hc_2 => ?_) (fun hc_2 => ?_)
        · replace hf := gi_t hc_2 hf
          refine g_iconst F 0 dX10_store_49 rfl ?_
          exact hj_2 0 hf
        · replace hf := gi_f hc_2 hf
          refine g_iconst F 1 dX10_store_45 rfl ?_
          refine g_goto F 50 dX10_store_46 (by decide) ?_
          exact hj_2 1 hf
      · replace hf := gi_f hc_3 hf
        refine g_iconst F 0 dX10_store_30 rfl ?_
        cases hf
        exact g_iret F rfl ⟨rfl, rfl⟩ dX10_store_31
    refine g_ifne F 22 dX10_store_15 (by decide) (fun hc_4 => ?_) (fun hc_4 => ?_)
    · replace hf := gi_f hc_4 hf
      refine g_iconst F 0 dX10_store_22 rfl ?_
      refine g_mask [true, true, false] rfl ?_
      exact hj_1 0 hf
    · replace hf := gi_t hc_4 hf
      refine g_iconst F 1 dX10_store_18 rfl ?_
      refine g_goto F 23 dX10_store_19 (by decide) ?_
      refine g_mask [true, true, false] rfl ?_
      exact hj_1 1 hf
set_option maxHeartbeats 4000000 in
set_option maxRecDepth 100000 in
theorem ktX10_remove_L38 {p : Program} {l : Launch} {e : Env} {s : State} {m : MethodId} {args : Array Value} {below : List Frame} {meth : Method} {c : Code} {E : gE} {A : Nat → Prop} (F : gFx p s m args meth c RX10 wsX10_remove cX10_remove 5 (some .int) vwCl E A) (aM anow aaside anames anamesAside atext aspelled acost afewestFrom afirst afresh aways aundo aslots aisSaved : Nat → Nat) (x1 : Int32) (x2 : Int32) (x3 : Int32) (M_thrown : Int32) (M_length : Int32) (M_textSize : Int32) (M_start : Int32) (M_next : Int32) (M_token : Int32) (M_value : Int32) (M_error : Int32) (M_errorAt : Int32) (M_number : Int32) (M_many : Int32) (M_freshMany : Int32) (M_undos : Int32) (undo : (Nat → Int32)) (r : Int32) (M_thrown' : Int32) (M_undos' : Int32) (now' : (Nat → Int32)) (undo' : (Nat → Int32)) {k : (Nat → Int32) → Option (Int32 × Int32 × Int32 × (Nat → Int32) × (Nat → Int32))} (hk : ∀ (now : (Nat → Int32)), k now = some (r, M_thrown', M_undos', now', undo') → Gj p l e rmX10_remove s m args below meth c 0 0 (MQ below (gQ vwCl E A (fun v w => v = some (.int r) ∧ w = [sModel E aM anow aaside anames anamesAside atext aspelled acost afewestFrom afirst afresh aways aundo aslots aisSaved M_thrown' M_length M_textSize M_start M_next M_token M_value M_error M_errorAt M_number M_many M_freshMany M_undos', sArrI E anow 365 now', sArrI E aundo 3650 undo'])) args s 0 0 A) vwCl E A [sModel E aM anow aaside anames anamesAside atext aspelled acost afewestFrom afirst afresh aways aundo aslots aisSaved M_thrown M_length M_textSize M_start M_next M_token M_value M_error M_errorAt M_number M_many M_freshMany M_undos, sArrI E anow 365 now, sArrI E aundo 3650 undo] [some (.ref (aM 0)), some (.int x1), some (.int x2), some (.int x3), none] [] 69) : ∀ (n : Nat) (x4 : Int32) (now : (Nat → Int32)), fX10_remove_L38 x1 x2 x3 k n x4 now = some (r, M_thrown', M_undos', now', undo') → Gj p l e rmX10_remove s m args below meth c 0 0 (MQ below (gQ vwCl E A (fun v w => v = some (.int r) ∧ w = [sModel E aM anow aaside anames anamesAside atext aspelled acost afewestFrom afirst afresh aways aundo aslots aisSaved M_thrown' M_length M_textSize M_start M_next M_token M_value M_error M_errorAt M_number M_many M_freshMany M_undos', sArrI E anow 365 now', sArrI E aundo 3650 undo'])) args s 0 0 A) vwCl E A [sModel E aM anow aaside anames anamesAside atext aspelled acost afewestFrom afirst afresh aways aundo aslots aisSaved M_thrown M_length M_textSize M_start M_next M_token M_value M_error M_errorAt M_number M_many M_freshMany M_undos, sArrI E anow 365 now, sArrI E aundo 3650 undo] [some (.ref (aM 0)), some (.int x1), some (.int x2), some (.int x3), some (.int x4)] [] 38
  | 0, _, _, hf => by cases hf
  | n + 1, x4, now, hf => by
    have ih := ktX10_remove_L38 F aM anow aaside anames anamesAside atext aspelled acost afewestFrom afirst afresh aways aundo aslots aisSaved x1 x2 x3 M_thrown M_length M_textSize M_start M_next M_token M_value M_error M_errorAt M_number M_many M_freshMany M_undos undo r M_thrown' M_undos' now' undo' hk n
    rw [fX10_remove_L38] at hf
    refine g_iload F dX10_remove_38 rfl ?_
    refine g_aload_n F dX10_remove_40 rfl ?_
    refine g_iload_n F dX10_remove_41 rfl ?_
    refine g_iconst F 1 dX10_remove_42 rfl ?_
    obtain ⟨r_1, hg_1, hf⟩ := gb1_el hf
    refine g_callV (C := RX10) (T := TX10) (N := 27) (Lr := [sArrI E aundo 3650 undo]) (As := [.int x1, .int 1]) (rest := [.int x4]) F 0 0 2 (ctX10_ofWord l E aM anow aaside anames anamesAside atext aspelled acost afewestFrom afirst afresh aways aundo aslots aisSaved x1 1 M_thrown M_length M_textSize M_start M_next M_token M_value M_error M_errorAt M_number M_many M_freshMany M_undos now r_1 hg_1) gX10_remove_X10_ofWord rfl rfl rfl h0X10_ofWord ⟨Nat.le_of_ble_eq_true rfl, Nat.le_of_ble_eq_true rfl⟩ rfl rfl rfl [0, 1] [2] rfl rfl rfl rfl rfl rfl (Nat.le_of_ble_eq_true rfl) dX10_remove_43 ⟨Nat.le_of_ble_eq_true rfl, Nat.le_of_ble_eq_true rfl⟩ ?_
    rintro v w ⟨rfl, rfl⟩
    refine g_norm (Lw' := [sModel E aM anow aaside anames anamesAside atext aspelled acost afewestFrom afirst afresh aways aundo aslots aisSaved M_thrown M_length M_textSize M_start M_next M_token M_value M_error M_errorAt M_number M_many M_freshMany M_undos, sArrI E anow 365 now, sArrI E aundo 3650 undo]) (st' := [.int r_1, .int x4]) (pc' := 46) [0, 1, 2] rfl rfl rfl rfl ?_
    refine g_icmp_ge F 69 dX10_remove_46 (by decide) (fun hc_1 => ?_) (fun hc_1 => ?_)
    · replace hf := gi_t hc_1 hf
      refine g_mask [true, true, true, true, false] rfl ?_
      exact hk now hf
    · replace hf := gi_f hc_1 hf
      refine g_aload_n F dX10_remove_49 rfl ?_
      refine g_aload_n F dX10_remove_50 rfl ?_
      refine g_iload_n F dX10_remove_51 rfl ?_
      refine g_iconst F 2 dX10_remove_52 rfl ?_
      refine g_iload F dX10_remove_53 rfl ?_
      refine g_iadd F dX10_remove_55 ?_
      obtain ⟨r_2, hg_2, hf⟩ := gb1_el hf
      refine g_callV (C := RX10) (T := TX10) (N := 27) (Lr := [sArrI E aundo 3650 undo]) (As := [.int x1, .int (2 + x4)]) (rest := [.ref (aM 0)]) F 0 0 2 (ctX10_ofWord l E aM anow aaside anames anamesAside atext aspelled acost afewestFrom afirst afresh aways aundo aslots aisSaved x1 (2 + x4) M_thrown M_length M_textSize M_start M_next M_token M_value M_error M_errorAt M_number M_many M_freshMany M_undos now r_2 hg_2) gX10_remove_X10_ofWord rfl rfl rfl h0X10_ofWord ⟨Nat.le_of_ble_eq_true rfl, Nat.le_of_ble_eq_true rfl⟩ rfl rfl rfl [0, 1] [2] rfl rfl rfl rfl rfl rfl (Nat.le_of_ble_eq_true rfl) dX10_remove_56 ⟨Nat.le_of_ble_eq_true rfl, Nat.le_of_ble_eq_true rfl⟩ ?_
      rintro v w ⟨rfl, rfl⟩
      refine g_norm (Lw' := [sModel E aM anow aaside anames anamesAside atext aspelled acost afewestFrom afirst afresh aways aundo aslots aisSaved M_thrown M_length M_textSize M_start M_next M_token M_value M_error M_errorAt M_number M_many M_freshMany M_undos, sArrI E anow 365 now, sArrI E aundo 3650 undo]) (st' := [.int r_2, .ref (aM 0)]) (pc' := 59) [0, 1, 2] rfl rfl rfl rfl ?_
      refine g_iconst F (-1) dX10_remove_59 rfl ?_
      obtain ⟨now_1, hg_3, hf⟩ := gb1_el hf
      refine g_callV (C := RX10) (T := TX10) (N := 27) (Lr := [sArrI E aundo 3650 undo]) (As := [.int r_2, .int (-1)]) (rest := []) F 0 0 2 (ctX10_uses l E aM anow aaside anames anamesAside atext aspelled acost afewestFrom afirst afresh aways aundo aslots aisSaved r_2 (-1) M_thrown M_length M_textSize M_start M_next M_token M_value M_error M_errorAt M_number M_many M_freshMany M_undos now now_1 hg_3) gX10_remove_X10_uses rfl rfl rfl h0X10_uses ⟨Nat.le_of_ble_eq_true rfl, Nat.le_of_ble_eq_true rfl⟩ rfl rfl rfl [0, 1] [2] rfl rfl rfl rfl rfl rfl (Nat.le_of_ble_eq_true rfl) dX10_remove_60 ⟨Nat.le_of_ble_eq_true rfl, Nat.le_of_ble_eq_true rfl⟩ ?_
      rintro v w ⟨rfl, rfl⟩
      refine g_norm (Lw' := [sModel E aM anow aaside anames anamesAside atext aspelled acost afewestFrom afirst afresh aways aundo aslots aisSaved M_thrown M_length M_textSize M_start M_next M_token M_value M_error M_errorAt M_number M_many M_freshMany M_undos, sArrI E anow 365 now_1, sArrI E aundo 3650 undo]) (st' := []) (pc' := 63) [0, 1, 2] rfl rfl rfl rfl ?_
      refine g_iinc (lv' := [some (.ref (aM 0)), some (.int x1), some (.int x2), some (.int x3), some (.int (x4 + 1))]) F (x4 + 1) dX10_remove_63 rfl rfl rfl rfl ?_
      refine g_goto F 38 dX10_remove_66 (by decide) ?_
      exact ih (x4 + 1) now_1 hf
set_option maxHeartbeats 4000000 in
set_option maxRecDepth 100000 in
theorem ktX10_remove_L125 {p : Program} {l : Launch} {e : Env} {s : State} {m : MethodId} {args : Array Value} {below : List Frame} {meth : Method} {c : Code} {E : gE} {A : Nat → Prop} (F : gFx p s m args meth c RX10 wsX10_remove cX10_remove 5 (some .int) vwCl E A) (aM anow aaside anames anamesAside atext aspelled acost afewestFrom afirst afresh aways aundo aslots aisSaved : Nat → Nat) (x2 : Int32) (M_thrown : Int32) (M_length : Int32) (M_textSize : Int32) (M_start : Int32) (M_next : Int32) (M_token : Int32) (M_value : Int32) (M_error : Int32) (M_errorAt : Int32) (M_number : Int32) (M_many : Int32) (M_freshMany : Int32) (M_undos : Int32) (undo : (Nat → Int32)) (r : Int32) (M_thrown' : Int32) (M_undos' : Int32) (now' : (Nat → Int32)) (undo' : (Nat → Int32)) {k : (Nat → Int32) → Option (Int32 × Int32 × Int32 × (Nat → Int32) × (Nat → Int32))} (hk : ∀ (now : (Nat → Int32)), k now = some (r, M_thrown', M_undos', now', undo') → Gj p l e rmX10_remove s m args below meth c 0 0 (MQ below (gQ vwCl E A (fun v w => v = some (.int r) ∧ w = [sModel E aM anow aaside anames anamesAside atext aspelled acost afewestFrom afirst afresh aways aundo aslots aisSaved M_thrown' M_length M_textSize M_start M_next M_token M_value M_error M_errorAt M_number M_many M_freshMany M_undos', sArrI E anow 365 now', sArrI E aundo 3650 undo'])) args s 0 0 A) vwCl E A [sModel E aM anow aaside anames anamesAside atext aspelled acost afewestFrom afirst afresh aways aundo aslots aisSaved M_thrown M_length M_textSize M_start M_next M_token M_value M_error M_errorAt M_number M_many M_freshMany M_undos, sArrI E anow 365 now, sArrI E aundo 3650 undo] [some (.ref (aM 0)), none, some (.int x2), none, none] [] 167) : ∀ (n : Nat) (x4 : Int32) (now : (Nat → Int32)), fX10_remove_L125 x2 k n x4 now = some (r, M_thrown', M_undos', now', undo') → Gj p l e rmX10_remove s m args below meth c 0 0 (MQ below (gQ vwCl E A (fun v w => v = some (.int r) ∧ w = [sModel E aM anow aaside anames anamesAside atext aspelled acost afewestFrom afirst afresh aways aundo aslots aisSaved M_thrown' M_length M_textSize M_start M_next M_token M_value M_error M_errorAt M_number M_many M_freshMany M_undos', sArrI E anow 365 now', sArrI E aundo 3650 undo'])) args s 0 0 A) vwCl E A [sModel E aM anow aaside anames anamesAside atext aspelled acost afewestFrom afirst afresh aways aundo aslots aisSaved M_thrown M_length M_textSize M_start M_next M_token M_value M_error M_errorAt M_number M_many M_freshMany M_undos, sArrI E anow 365 now, sArrI E aundo 3650 undo] [some (.ref (aM 0)), none, some (.int x2), none, some (.int x4)] [] 125
  | 0, _, _, hf => by cases hf
  | n + 1, x4, now, hf => by
    have ih := ktX10_remove_L125 F aM anow aaside anames anamesAside atext aspelled acost afewestFrom afirst afresh aways aundo aslots aisSaved x2 M_thrown M_length M_textSize M_start M_next M_token M_value M_error M_errorAt M_number M_many M_freshMany M_undos undo r M_thrown' M_undos' now' undo' hk n
    rw [fX10_remove_L125] at hf
    refine g_iload F dX10_remove_125 rfl ?_
    refine g_sipush F 141 dX10_remove_127 rfl ?_
    refine g_bipush F 14 dX10_remove_130 rfl ?_
    refine g_aload_n F dX10_remove_132 rfl ?_
    refine g_get (C := RX10) (T := TX10) (N := 27) F 0 0 1 rfl rfl rfl iX10_remove_X10 (by decide) (by decide +kernel) rfl dX10_remove_133 ?_
    refine g_bipush F 10 dX10_remove_136 rfl ?_
    refine g_iald F 1 0 10 (by decide) rfl rfl (by decide) dX10_remove_138 ?_
    refine g_imul F dX10_remove_139 ?_
    refine g_iadd F dX10_remove_140 ?_
    refine g_icmp_ge F 167 dX10_remove_141 (by decide) (fun hc_1 => ?_) (fun hc_1 => ?_)
    · replace hf := gi_t hc_1 hf
      refine g_mask [true, true, true, true, false] rfl ?_
      exact hk now hf
    · replace hf := gi_f hc_1 hf
      refine g_aload_n F dX10_remove_144 rfl ?_
      refine g_get (C := RX10) (T := TX10) (N := 27) F 0 0 1 rfl rfl rfl iX10_remove_X10 (by decide) (by decide +kernel) rfl dX10_remove_145 ?_
      refine g_iload F dX10_remove_148 rfl ?_
      refine g_aload_n F dX10_remove_150 rfl ?_
      refine g_get (C := RX10) (T := TX10) (N := 27) F 0 0 1 rfl rfl rfl iX10_remove_X10 (by decide) (by decide +kernel) rfl dX10_remove_151 ?_
      refine g_iload F dX10_remove_154 rfl ?_
      refine g_bipush F 14 dX10_remove_156 rfl ?_
      refine g_iadd F dX10_remove_158 ?_
      obtain ⟨hb_1, hf⟩ := gb_in hf
      refine g_iald F 1 0 ((x4 + 14).toNatClampNeg) rfl rfl rfl hb_1 dX10_remove_159 ?_
      obtain ⟨hb_2, hf⟩ := gb_in hf
      obtain ⟨now_1, hnow_1, hf⟩ := Lt_el hf
      refine g_iast (Lw' := [sModel E aM anow aaside anames anamesAside atext aspelled acost afewestFrom afirst afresh aways aundo aslots aisSaved M_thrown M_length M_textSize M_start M_next M_token M_value M_error M_errorAt M_number M_many M_freshMany M_undos, sArrI E anow 365 now_1, sArrI E aundo 3650 undo]) F 1 0 (x4.toNatClampNeg) rfl rfl rfl hb_2 dX10_remove_160 (by subst hnow_1; rfl) ?_
      refine g_iinc (lv' := [some (.ref (aM 0)), none, some (.int x2), none, some (.int (x4 + 1))]) F (x4 + 1) dX10_remove_161 rfl rfl rfl rfl ?_
      refine g_goto F 125 dX10_remove_164 (by decide) ?_
      exact ih (x4 + 1) now_1 hf
set_option maxHeartbeats 4000000 in
set_option maxRecDepth 100000 in
theorem ctX10_remove (l : Launch) (E : gE) (aM anow aaside anames anamesAside atext aspelled acost afewestFrom afirst afresh aways aundo aslots aisSaved : Nat → Nat) (x1 : Int32) (M_thrown : Int32) (M_length : Int32) (M_textSize : Int32) (M_start : Int32) (M_next : Int32) (M_token : Int32) (M_value : Int32) (M_error : Int32) (M_errorAt : Int32) (M_number : Int32) (M_many : Int32) (M_freshMany : Int32) (M_undos : Int32) (now : (Nat → Int32)) (undo : (Nat → Int32)) (r : Int32) (M_thrown' : Int32) (M_undos' : Int32) (now' : (Nat → Int32)) (undo' : (Nat → Int32)) (hf : fX10_remove x1 M_thrown M_undos now undo = some (r, M_thrown', M_undos', now', undo')) : gMet l yX10_remove wsX10_remove rmX10_remove vwCl E [.ref (aM 0), .int x1] [sModel E aM anow aaside anames anamesAside atext aspelled acost afewestFrom afirst afresh aways aundo aslots aisSaved M_thrown M_length M_textSize M_start M_next M_token M_value M_error M_errorAt M_number M_many M_freshMany M_undos, sArrI E anow 365 now, sArrI E aundo 3650 undo] (fun v w => v = some (.int r) ∧ w = [sModel E aM anow aaside anames anamesAside atext aspelled acost afewestFrom afirst afresh aways aundo aslots aisSaved M_thrown' M_length M_textSize M_start M_next M_token M_value M_error M_errorAt M_number M_many M_freshMany M_undos', sArrI E anow 365 now', sArrI E aundo 3650 undo']) 0 0 := by
  refine g_entry [some (.ref (aM 0)), some (.int x1), none, none, none] (by decide) rfl (Nat.le_of_ble_eq_true rfl) rfl ?_
  intro p e s m below meth c A F hnm
  unfold fX10_remove at hf
  refine g_aload_n F dX10_remove_0 rfl ?_
  refine g_iload_n F dX10_remove_1 rfl ?_
  obtain ⟨r_1, M_thrown_1, hg_1, hf⟩ := gb2_el hf
  refine g_callV (C := RX10) (T := TX10) (N := 27) (Lr := [sArrI E aundo 3650 undo]) (As := [.int x1]) (rest := []) F 0 0 1 (ctX10_noWord l E aM anow aaside anames anamesAside atext aspelled acost afewestFrom afirst afresh aways aundo aslots aisSaved x1 M_thrown M_length M_textSize M_start M_next M_token M_value M_error M_errorAt M_number M_many M_freshMany M_undos now r_1 M_thrown_1 hg_1) gX10_remove_X10_noWord rfl rfl rfl h0X10_noWord ⟨Nat.le_of_ble_eq_true rfl, Nat.le_of_ble_eq_true rfl⟩ rfl rfl rfl [0, 1] [2] rfl rfl rfl rfl rfl rfl (Nat.le_of_ble_eq_true rfl) dX10_remove_2 ⟨Nat.le_of_ble_eq_true rfl, Nat.le_of_ble_eq_true rfl⟩ ?_
  rintro v w ⟨rfl, rfl, hz_1⟩
  refine g_norm (Lw' := [sModel E aM anow aaside anames anamesAside atext aspelled acost afewestFrom afirst afresh aways aundo aslots aisSaved M_thrown_1 M_length M_textSize M_start M_next M_token M_value M_error M_errorAt M_number M_many M_freshMany M_undos, sArrI E anow 365 now, sArrI E aundo 3650 undo]) (st' := [.int r_1]) (pc' := 5) [0, 1, 2] rfl rfl rfl rfl ?_
  refine g_ifeq F 10 dX10_remove_5 (by decide) (fun hc_1 => ?_) (fun hc_1 => ?_)
  · replace hf := gi_t hc_1 hf
    refine g_aload_n F dX10_remove_10 rfl ?_
    obtain ⟨M_undos_1, undo_1, hg_2, hf⟩ := gb2_el hf
    refine g_callV (C := RX10) (T := TX10) (N := 27) (Lr := []) (As := []) (rest := []) F 0 0 0 (ctX10_keeps l E aM anow aaside anames anamesAside atext aspelled acost afewestFrom afirst afresh aways aundo aslots aisSaved M_thrown_1 M_length M_textSize M_start M_next M_token M_value M_error M_errorAt M_number M_many M_freshMany M_undos now undo M_undos_1 undo_1 hg_2) gX10_remove_X10_keeps rfl rfl rfl h0X10_keeps ⟨Nat.le_of_ble_eq_true rfl, Nat.le_of_ble_eq_true rfl⟩ rfl rfl rfl [0, 1, 2] [] rfl rfl rfl rfl rfl rfl (Nat.le_of_ble_eq_true rfl) dX10_remove_11 ⟨Nat.le_of_ble_eq_true rfl, Nat.le_of_ble_eq_true rfl⟩ ?_
    rintro v w ⟨rfl, rfl⟩
    refine g_norm (Lw' := [sModel E aM anow aaside anames anamesAside atext aspelled acost afewestFrom afirst afresh aways aundo aslots aisSaved M_thrown_1 M_length M_textSize M_start M_next M_token M_value M_error M_errorAt M_number M_many M_freshMany M_undos_1, sArrI E anow 365 now, sArrI E aundo 3650 undo_1]) (st' := []) (pc' := 14) [0, 1, 2] rfl rfl rfl rfl ?_
    refine g_aload_n F dX10_remove_14 rfl ?_
    refine g_iload_n F dX10_remove_15 rfl ?_
    refine g_iconst F 0 dX10_remove_16 rfl ?_
    obtain ⟨r_2, hg_3, hf⟩ := gb1_el hf
    refine g_callV (C := RX10) (T := TX10) (N := 27) (Lr := [sArrI E aundo 3650 undo_1]) (As := [.int x1, .int 0]) (rest := []) F 0 0 2 (ctX10_ofWord l E aM anow aaside anames anamesAside atext aspelled acost afewestFrom afirst afresh aways aundo aslots aisSaved x1 0 M_thrown_1 M_length M_textSize M_start M_next M_token M_value M_error M_errorAt M_number M_many M_freshMany M_undos_1 now r_2 hg_3) gX10_remove_X10_ofWord rfl rfl rfl h0X10_ofWord ⟨Nat.le_of_ble_eq_true rfl, Nat.le_of_ble_eq_true rfl⟩ rfl rfl rfl [0, 1] [2] rfl rfl rfl rfl rfl rfl (Nat.le_of_ble_eq_true rfl) dX10_remove_17 ⟨Nat.le_of_ble_eq_true rfl, Nat.le_of_ble_eq_true rfl⟩ ?_
    rintro v w ⟨rfl, rfl⟩
    refine g_norm (Lw' := [sModel E aM anow aaside anames anamesAside atext aspelled acost afewestFrom afirst afresh aways aundo aslots aisSaved M_thrown_1 M_length M_textSize M_start M_next M_token M_value M_error M_errorAt M_number M_many M_freshMany M_undos_1, sArrI E anow 365 now, sArrI E aundo 3650 undo_1]) (st' := [.int r_2]) (pc' := 20) [0, 1, 2] rfl rfl rfl rfl ?_
    refine g_istore_n (lv' := [some (.ref (aM 0)), some (.int x1), some (.int r_2), none, none]) F dX10_remove_20 (Nat.le_of_ble_eq_true rfl) rfl rfl ?_
    refine g_aload_n F dX10_remove_21 rfl ?_
    refine g_get (C := RX10) (T := TX10) (N := 27) F 0 0 1 rfl rfl rfl iX10_remove_X10 (by decide) (by decide +kernel) rfl dX10_remove_22 ?_
    refine g_iconst F 2 dX10_remove_25 rfl ?_
    refine g_iald F 1 0 2 (by decide) rfl rfl (by decide) dX10_remove_26 ?_
    refine g_aload_n F dX10_remove_27 rfl ?_
    refine g_iload_n F dX10_remove_28 rfl ?_
    refine g_iconst F 1 dX10_remove_29 rfl ?_
    obtain ⟨r_3, hg_4, hf⟩ := gb1_el hf
    refine g_callV (C := RX10) (T := TX10) (N := 27) (Lr := [sArrI E aundo 3650 undo_1]) (As := [.int x1, .int 1]) (rest := [.int (now 2)]) F 0 0 2 (ctX10_ofWord l E aM anow aaside anames anamesAside atext aspelled acost afewestFrom afirst afresh aways aundo aslots aisSaved x1 1 M_thrown_1 M_length M_textSize M_start M_next M_token M_value M_error M_errorAt M_number M_many M_freshMany M_undos_1 now r_3 hg_4) gX10_remove_X10_ofWord rfl rfl rfl h0X10_ofWord ⟨Nat.le_of_ble_eq_true rfl, Nat.le_of_ble_eq_true rfl⟩ rfl rfl rfl [0, 1] [2] rfl rfl rfl rfl rfl rfl (Nat.le_of_ble_eq_true rfl) dX10_remove_30 ⟨Nat.le_of_ble_eq_true rfl, Nat.le_of_ble_eq_true rfl⟩ ?_
    rintro v w ⟨rfl, rfl⟩
    refine g_norm (Lw' := [sModel E aM anow aaside anames anamesAside atext aspelled acost afewestFrom afirst afresh aways aundo aslots aisSaved M_thrown_1 M_length M_textSize M_start M_next M_token M_value M_error M_errorAt M_number M_many M_freshMany M_undos_1, sArrI E anow 365 now, sArrI E aundo 3650 undo_1]) (st' := [.int r_3, .int (now 2)]) (pc' := 33) [0, 1, 2] rfl rfl rfl rfl ?_
    refine g_imul F dX10_remove_33 ?_
    refine g_istore_n (lv' := [some (.ref (aM 0)), some (.int x1), some (.int r_2), some (.int ((now 2) * r_3)), none]) F dX10_remove_34 (Nat.le_of_ble_eq_true rfl) rfl rfl ?_
    refine g_iconst F 0 dX10_remove_35 rfl ?_
    refine g_istore (lv' := [some (.ref (aM 0)), some (.int x1), some (.int r_2), some (.int ((now 2) * r_3)), some (.int 0)]) F dX10_remove_36 (Nat.le_of_ble_eq_true rfl) rfl rfl ?_
    refine ktX10_remove_L38 F aM anow aaside anames anamesAside atext aspelled acost afewestFrom afirst afresh aways aundo aslots aisSaved x1 r_2 ((now 2) * r_3) M_thrown_1 M_length M_textSize M_start M_next M_token M_value M_error M_errorAt M_number M_many M_freshMany M_undos_1 undo_1 r M_thrown' M_undos' now' undo' (fun now_1 hf => ?_) FU 0 now hf
    refine g_aload_n F dX10_remove_69 rfl ?_
    refine g_get (C := RX10) (T := TX10) (N := 27) F 0 0 1 rfl rfl rfl iX10_remove_X10 (by decide) (by decide +kernel) rfl dX10_remove_70 ?_
    refine g_bipush F 8 dX10_remove_73 rfl ?_
    refine g_dup2 F dX10_remove_75 rfl rfl ?_
    refine g_iald F 1 0 8 (by decide) rfl rfl (by decide) dX10_remove_76 ?_
    refine g_iload_n F dX10_remove_77 rfl ?_
    refine g_isub F dX10_remove_78 ?_
    obtain ⟨now_2, hnow_2, hf⟩ := Lt_el hf
    refine g_iast (Lw' := [sModel E aM anow aaside anames anamesAside atext aspelled acost afewestFrom afirst afresh aways aundo aslots aisSaved M_thrown_1 M_length M_textSize M_start M_next M_token M_value M_error M_errorAt M_number M_many M_freshMany M_undos_1, sArrI E anow 365 now_2, sArrI E aundo 3650 undo_1]) F 1 0 8 (by decide) rfl rfl (by decide) dX10_remove_79 (by subst hnow_2; rfl) ?_
    refine g_aload_n F dX10_remove_80 rfl ?_
    refine g_get (C := RX10) (T := TX10) (N := 27) F 0 0 1 rfl rfl rfl iX10_remove_X10 (by decide) (by decide +kernel) rfl dX10_remove_81 ?_
    refine g_bipush F 17 dX10_remove_84 rfl ?_
    refine g_iload_n F dX10_remove_86 rfl ?_
    refine g_iadd F dX10_remove_87 ?_
    refine g_dup2 F dX10_remove_88 rfl rfl ?_
    obtain ⟨hb_1, hf⟩ := gb_in hf
    refine g_iald F 1 0 ((17 + r_2).toNatClampNeg) rfl rfl rfl hb_1 dX10_remove_89 ?_
    refine g_iload_n F dX10_remove_90 rfl ?_
    refine g_iadd F dX10_remove_91 ?_
    obtain ⟨hb_2, hf⟩ := gb_in hf
    obtain ⟨now_3, hnow_3, hf⟩ := Lt_el hf
    refine g_iast (Lw' := [sModel E aM anow aaside anames anamesAside atext aspelled acost afewestFrom afirst afresh aways aundo aslots aisSaved M_thrown_1 M_length M_textSize M_start M_next M_token M_value M_error M_errorAt M_number M_many M_freshMany M_undos_1, sArrI E anow 365 now_3, sArrI E aundo 3650 undo_1]) F 1 0 ((17 + r_2).toNatClampNeg) rfl rfl rfl hb_2 dX10_remove_92 (by subst hnow_3; rfl) ?_
    refine g_aload_n F dX10_remove_93 rfl ?_
    refine g_get (C := RX10) (T := TX10) (N := 27) F 0 0 1 rfl rfl rfl iX10_remove_X10 (by decide) (by decide +kernel) rfl dX10_remove_94 ?_
    refine g_bipush F 14 dX10_remove_97 rfl ?_
    refine g_dup2 F dX10_remove_99 rfl rfl ?_
    refine g_iald F 1 0 14 (by decide) rfl rfl (by decide) dX10_remove_100 ?_
    refine g_iload_n F dX10_remove_101 rfl ?_
    refine g_iadd F dX10_remove_102 ?_
    obtain ⟨now_4, hnow_4, hf⟩ := Lt_el hf
    refine g_iast (Lw' := [sModel E aM anow aaside anames anamesAside atext aspelled acost afewestFrom afirst afresh aways aundo aslots aisSaved M_thrown_1 M_length M_textSize M_start M_next M_token M_value M_error M_errorAt M_number M_many M_freshMany M_undos_1, sArrI E anow 365 now_4, sArrI E aundo 3650 undo_1]) F 1 0 14 (by decide) rfl rfl (by decide) dX10_remove_103 (by subst hnow_4; rfl) ?_
    refine g_aload_n F dX10_remove_104 rfl ?_
    refine g_get (C := RX10) (T := TX10) (N := 27) F 0 0 1 rfl rfl rfl iX10_remove_X10 (by decide) (by decide +kernel) rfl dX10_remove_105 ?_
    refine g_bipush F 10 dX10_remove_108 rfl ?_
    refine g_dup2 F dX10_remove_110 rfl rfl ?_
    refine g_iald F 1 0 10 (by decide) rfl rfl (by decide) dX10_remove_111 ?_
    refine g_iconst F 1 dX10_remove_112 rfl ?_
    refine g_isub F dX10_remove_113 ?_
    obtain ⟨now_5, hnow_5, hf⟩ := Lt_el hf
    refine g_iast (Lw' := [sModel E aM anow aaside anames anamesAside atext aspelled acost afewestFrom afirst afresh aways aundo aslots aisSaved M_thrown_1 M_length M_textSize M_start M_next M_token M_value M_error M_errorAt M_number M_many M_freshMany M_undos_1, sArrI E anow 365 now_5, sArrI E aundo 3650 undo_1]) F 1 0 10 (by decide) rfl rfl (by decide) dX10_remove_114 (by subst hnow_5; rfl) ?_
    refine g_sipush F 141 dX10_remove_115 rfl ?_
    refine g_bipush F 14 dX10_remove_118 rfl ?_
    refine g_iload_n F dX10_remove_120 rfl ?_
    refine g_imul F dX10_remove_121 ?_
    refine g_iadd F dX10_remove_122 ?_
    refine g_istore (lv' := [some (.ref (aM 0)), some (.int x1), some (.int r_2), some (.int ((now 2) * r_3)), some (.int (141 + (14 * x1)))]) F dX10_remove_123 (Nat.le_of_ble_eq_true rfl) rfl rfl ?_
    refine g_mask [true, false, true, false, true] rfl ?_
    refine ktX10_remove_L125 F aM anow aaside anames anamesAside atext aspelled acost afewestFrom afirst afresh aways aundo aslots aisSaved r_2 M_thrown_1 M_length M_textSize M_start M_next M_token M_value M_error M_errorAt M_number M_many M_freshMany M_undos_1 undo_1 r M_thrown' M_undos' now' undo' (fun now_6 hf => ?_) FU (141 + (14 * x1)) now_5 hf
    refine g_aload_n F dX10_remove_167 rfl ?_
    refine g_get (C := RX10) (T := TX10) (N := 27) F 0 0 1 rfl rfl rfl iX10_remove_X10 (by decide) (by decide +kernel) rfl dX10_remove_168 ?_
    refine g_bipush F 17 dX10_remove_171 rfl ?_
    refine g_iload_n F dX10_remove_173 rfl ?_
    refine g_iadd F dX10_remove_174 ?_
    obtain ⟨hb_3, hf⟩ := gb_in hf
    refine g_iald F 1 0 ((17 + r_2).toNatClampNeg) rfl rfl rfl hb_3 dX10_remove_175 ?_
    cases hf
    exact g_iret F rfl ⟨rfl, rfl⟩ dX10_remove_176
  · replace hf := gi_f hc_1 hf
    refine g_iconst F 0 dX10_remove_8 rfl ?_
    cases hf
    exact g_iret F rfl ⟨rfl, rfl⟩ dX10_remove_9
set_option maxHeartbeats 4000000 in
set_option maxRecDepth 100000 in
theorem ctX10_recut (l : Launch) (E : gE) (aM anow aaside anames anamesAside atext aspelled acost afewestFrom afirst afresh aways aundo aslots aisSaved : Nat → Nat) (x1 : Int32) (M_thrown : Int32) (M_length : Int32) (M_textSize : Int32) (M_start : Int32) (M_next : Int32) (M_token : Int32) (M_value : Int32) (M_error : Int32) (M_errorAt : Int32) (M_number : Int32) (M_many : Int32) (M_freshMany : Int32) (M_undos : Int32) (now : (Nat → Int32)) (spelled : (Nat → Int32)) (cost : (Nat → Int32)) (fewestFrom : (Nat → Int32)) (first : (Nat → Int32)) (undo : (Nat → Int32)) (r : Int32) (M_thrown' : Int32) (M_many' : Int32) (M_undos' : Int32) (now' : (Nat → Int32)) (spelled' : (Nat → Int32)) (cost' : (Nat → Int32)) (fewestFrom' : (Nat → Int32)) (first' : (Nat → Int32)) (undo' : (Nat → Int32)) (hf : fX10_recut x1 M_thrown M_many M_undos now spelled cost fewestFrom first undo = some (r, M_thrown', M_many', M_undos', now', spelled', cost', fewestFrom', first', undo')) : gMet l yX10_recut wsX10_recut rmX10_recut vwCl E [.ref (aM 0), .int x1] [sModel E aM anow aaside anames anamesAside atext aspelled acost afewestFrom afirst afresh aways aundo aslots aisSaved M_thrown M_length M_textSize M_start M_next M_token M_value M_error M_errorAt M_number M_many M_freshMany M_undos, sArrI E anow 365 now, sArrI E aspelled 12 spelled, sArrI E acost 13 cost, sArrI E afewestFrom 13 fewestFrom, sArrI E afirst 13 first, sArrI E aundo 3650 undo] (fun v w => v = some (.int r) ∧ w = [sModel E aM anow aaside anames anamesAside atext aspelled acost afewestFrom afirst afresh aways aundo aslots aisSaved M_thrown' M_length M_textSize M_start M_next M_token M_value M_error M_errorAt M_number M_many' M_freshMany M_undos', sArrI E anow 365 now', sArrI E aspelled 12 spelled', sArrI E acost 13 cost', sArrI E afewestFrom 13 fewestFrom', sArrI E afirst 13 first', sArrI E aundo 3650 undo']) 0 0 := by
  refine g_entry [some (.ref (aM 0)), some (.int x1)] (by decide) rfl (Nat.le_of_ble_eq_true rfl) rfl ?_
  intro p e s m below meth c A F hnm
  unfold fX10_recut at hf
  refine g_aload_n F dX10_recut_0 rfl ?_
  refine g_iload_n F dX10_recut_1 rfl ?_
  obtain ⟨r_1, M_thrown_1, hg_1, hf⟩ := gb2_el hf
  refine g_callV (C := RX10) (T := TX10) (N := 27) (Lr := [sArrI E aspelled 12 spelled, sArrI E acost 13 cost, sArrI E afewestFrom 13 fewestFrom, sArrI E afirst 13 first, sArrI E aundo 3650 undo]) (As := [.int x1]) (rest := []) F 0 0 1 (ctX10_noWord l E aM anow aaside anames anamesAside atext aspelled acost afewestFrom afirst afresh aways aundo aslots aisSaved x1 M_thrown M_length M_textSize M_start M_next M_token M_value M_error M_errorAt M_number M_many M_freshMany M_undos now r_1 M_thrown_1 hg_1) gX10_recut_X10_noWord rfl rfl rfl h0X10_noWord ⟨Nat.le_of_ble_eq_true rfl, Nat.le_of_ble_eq_true rfl⟩ rfl rfl rfl [0, 1] [2, 3, 4, 5, 6] rfl rfl rfl rfl rfl rfl (Nat.le_of_ble_eq_true rfl) dX10_recut_2 ⟨Nat.le_of_ble_eq_true rfl, Nat.le_of_ble_eq_true rfl⟩ ?_
  rintro v w ⟨rfl, rfl, hz_1⟩
  refine g_norm (Lw' := [sModel E aM anow aaside anames anamesAside atext aspelled acost afewestFrom afirst afresh aways aundo aslots aisSaved M_thrown_1 M_length M_textSize M_start M_next M_token M_value M_error M_errorAt M_number M_many M_freshMany M_undos, sArrI E anow 365 now, sArrI E aspelled 12 spelled, sArrI E acost 13 cost, sArrI E afewestFrom 13 fewestFrom, sArrI E afirst 13 first, sArrI E aundo 3650 undo]) (st' := [.int r_1]) (pc' := 5) [0, 1, 2, 3, 4, 5, 6] rfl rfl rfl rfl ?_
  refine g_ifeq F 10 dX10_recut_5 (by decide) (fun hc_1 => ?_) (fun hc_1 => ?_)
  · replace hf := gi_t hc_1 hf
    refine g_aload_n F dX10_recut_10 rfl ?_
    obtain ⟨M_undos_1, undo_1, hg_2, hf⟩ := gb2_el hf
    refine g_callV (C := RX10) (T := TX10) (N := 27) (Lr := [sArrI E aspelled 12 spelled, sArrI E acost 13 cost, sArrI E afewestFrom 13 fewestFrom, sArrI E afirst 13 first]) (As := []) (rest := []) F 0 0 0 (ctX10_keeps l E aM anow aaside anames anamesAside atext aspelled acost afewestFrom afirst afresh aways aundo aslots aisSaved M_thrown_1 M_length M_textSize M_start M_next M_token M_value M_error M_errorAt M_number M_many M_freshMany M_undos now undo M_undos_1 undo_1 hg_2) gX10_recut_X10_keeps rfl rfl rfl h0X10_keeps ⟨Nat.le_of_ble_eq_true rfl, Nat.le_of_ble_eq_true rfl⟩ rfl rfl rfl [0, 1, 6] [2, 3, 4, 5] rfl rfl rfl rfl rfl rfl (Nat.le_of_ble_eq_true rfl) dX10_recut_11 ⟨Nat.le_of_ble_eq_true rfl, Nat.le_of_ble_eq_true rfl⟩ ?_
    rintro v w ⟨rfl, rfl⟩
    refine g_norm (Lw' := [sModel E aM anow aaside anames anamesAside atext aspelled acost afewestFrom afirst afresh aways aundo aslots aisSaved M_thrown_1 M_length M_textSize M_start M_next M_token M_value M_error M_errorAt M_number M_many M_freshMany M_undos_1, sArrI E anow 365 now, sArrI E aspelled 12 spelled, sArrI E acost 13 cost, sArrI E afewestFrom 13 fewestFrom, sArrI E afirst 13 first, sArrI E aundo 3650 undo_1]) (st' := []) (pc' := 14) [0, 1, 3, 4, 5, 6, 2] rfl rfl rfl rfl ?_
    refine g_aload_n F dX10_recut_14 rfl ?_
    refine g_iload_n F dX10_recut_15 rfl ?_
    obtain ⟨r_2, M_many_1, now_1, spelled_1, cost_1, fewestFrom_1, first_1, hg_3, hf⟩ := gb7_el hf
    refine g_callV (C := RX10) (T := TX10) (N := 27) (Lr := [sArrI E aundo 3650 undo_1]) (As := [.int x1]) (rest := []) F 0 0 1 (ctX10_recuts l E aM anow aaside anames anamesAside atext aspelled acost afewestFrom afirst afresh aways aundo aslots aisSaved x1 M_thrown_1 M_length M_textSize M_start M_next M_token M_value M_error M_errorAt M_number M_many M_freshMany M_undos_1 now spelled cost fewestFrom first r_2 M_many_1 now_1 spelled_1 cost_1 fewestFrom_1 first_1 hg_3) gX10_recut_X10_recuts rfl rfl rfl h0X10_recuts ⟨Nat.le_of_ble_eq_true rfl, Nat.le_of_ble_eq_true rfl⟩ rfl rfl rfl [0, 1, 2, 3, 4, 5] [6] rfl rfl rfl rfl rfl rfl (Nat.le_of_ble_eq_true rfl) dX10_recut_16 ⟨Nat.le_of_ble_eq_true rfl, Nat.le_of_ble_eq_true rfl⟩ ?_
    rintro v w ⟨rfl, rfl⟩
    refine g_norm (Lw' := [sModel E aM anow aaside anames anamesAside atext aspelled acost afewestFrom afirst afresh aways aundo aslots aisSaved M_thrown_1 M_length M_textSize M_start M_next M_token M_value M_error M_errorAt M_number M_many_1 M_freshMany M_undos_1, sArrI E anow 365 now_1, sArrI E aspelled 12 spelled_1, sArrI E acost 13 cost_1, sArrI E afewestFrom 13 fewestFrom_1, sArrI E afirst 13 first_1, sArrI E aundo 3650 undo_1]) (st' := [.int r_2]) (pc' := 19) [0, 1, 2, 3, 4, 5, 6] rfl rfl rfl rfl ?_
    cases hf
    exact g_iret F rfl ⟨rfl, rfl⟩ dX10_recut_19
  · replace hf := gi_f hc_1 hf
    refine g_iconst F 0 dX10_recut_8 rfl ?_
    cases hf
    exact g_iret F rfl ⟨rfl, rfl⟩ dX10_recut_9
set_option maxHeartbeats 4000000 in
set_option maxRecDepth 100000 in
theorem ktX10_recutAll_L13 {p : Program} {l : Launch} {e : Env} {s : State} {m : MethodId} {args : Array Value} {below : List Frame} {meth : Method} {c : Code} {E : gE} {A : Nat → Prop} (F : gFx p s m args meth c RX10 wsX10_recutAll cX10_recutAll 3 (some .int) vwCl E A) (aM anow aaside anames anamesAside atext aspelled acost afewestFrom afirst afresh aways aundo aslots aisSaved : Nat → Nat) (M_thrown : Int32) (M_length : Int32) (M_textSize : Int32) (M_start : Int32) (M_next : Int32) (M_token : Int32) (M_value : Int32) (M_error : Int32) (M_errorAt : Int32) (M_number : Int32) (M_freshMany : Int32) (M_undos : Int32) (undo : (Nat → Int32)) (r : Int32) (M_thrown' : Int32) (M_many' : Int32) (M_undos' : Int32) (now' : (Nat → Int32)) (spelled' : (Nat → Int32)) (cost' : (Nat → Int32)) (fewestFrom' : (Nat → Int32)) (first' : (Nat → Int32)) (undo' : (Nat → Int32)) {k : Int32 → Int32 → (Nat → Int32) → (Nat → Int32) → (Nat → Int32) → (Nat → Int32) → (Nat → Int32) → Option (Int32 × Int32 × Int32 × Int32 × (Nat → Int32) × (Nat → Int32) × (Nat → Int32) × (Nat → Int32) × (Nat → Int32) × (Nat → Int32))} (hk : ∀ (x1 : Int32) (M_many : Int32) (now : (Nat → Int32)) (spelled : (Nat → Int32)) (cost : (Nat → Int32)) (fewestFrom : (Nat → Int32)) (first : (Nat → Int32)), k x1 M_many now spelled cost fewestFrom first = some (r, M_thrown', M_many', M_undos', now', spelled', cost', fewestFrom', first', undo') → Gj p l e rmX10_recutAll s m args below meth c 0 0 (MQ below (gQ vwCl E A (fun v w => v = some (.int r) ∧ w = [sModel E aM anow aaside anames anamesAside atext aspelled acost afewestFrom afirst afresh aways aundo aslots aisSaved M_thrown' M_length M_textSize M_start M_next M_token M_value M_error M_errorAt M_number M_many' M_freshMany M_undos', sArrI E anow 365 now', sArrI E aspelled 12 spelled', sArrI E acost 13 cost', sArrI E afewestFrom 13 fewestFrom', sArrI E afirst 13 first', sArrI E aundo 3650 undo'])) args s 0 0 A) vwCl E A [sModel E aM anow aaside anames anamesAside atext aspelled acost afewestFrom afirst afresh aways aundo aslots aisSaved M_thrown M_length M_textSize M_start M_next M_token M_value M_error M_errorAt M_number M_many M_freshMany M_undos, sArrI E anow 365 now, sArrI E aspelled 12 spelled, sArrI E acost 13 cost, sArrI E afewestFrom 13 fewestFrom, sArrI E afirst 13 first, sArrI E aundo 3650 undo] [none, some (.int x1), none] [] 38) : ∀ (n : Nat) (x1 : Int32) (x2 : Int32) (M_many : Int32) (now : (Nat → Int32)) (spelled : (Nat → Int32)) (cost : (Nat → Int32)) (fewestFrom : (Nat → Int32)) (first : (Nat → Int32)), fX10_recutAll_L13 k n x1 x2 M_many now spelled cost fewestFrom first = some (r, M_thrown', M_many', M_undos', now', spelled', cost', fewestFrom', first', undo') → Gj p l e rmX10_recutAll s m args below meth c 0 0 (MQ below (gQ vwCl E A (fun v w => v = some (.int r) ∧ w = [sModel E aM anow aaside anames anamesAside atext aspelled acost afewestFrom afirst afresh aways aundo aslots aisSaved M_thrown' M_length M_textSize M_start M_next M_token M_value M_error M_errorAt M_number M_many' M_freshMany M_undos', sArrI E anow 365 now', sArrI E aspelled 12 spelled', sArrI E acost 13 cost', sArrI E afewestFrom 13 fewestFrom', sArrI E afirst 13 first', sArrI E aundo 3650 undo'])) args s 0 0 A) vwCl E A [sModel E aM anow aaside anames anamesAside atext aspelled acost afewestFrom afirst afresh aways aundo aslots aisSaved M_thrown M_length M_textSize M_start M_next M_token M_value M_error M_errorAt M_number M_many M_freshMany M_undos, sArrI E anow 365 now, sArrI E aspelled 12 spelled, sArrI E acost 13 cost, sArrI E afewestFrom 13 fewestFrom, sArrI E afirst 13 first, sArrI E aundo 3650 undo] [some (.ref (aM 0)), some (.int x1), some (.int x2)] [] 13
  | 0, _, _, _, _, _, _, _, _, hf => by cases hf
  | n + 1, x1, x2, M_many, now, spelled, cost, fewestFrom, first, hf => by
    have ih := ktX10_recutAll_L13 F aM anow aaside anames anamesAside atext aspelled acost afewestFrom afirst afresh aways aundo aslots aisSaved M_thrown M_length M_textSize M_start M_next M_token M_value M_error M_errorAt M_number M_freshMany M_undos undo r M_thrown' M_many' M_undos' now' spelled' cost' fewestFrom' first' undo' hk n
    rw [fX10_recutAll_L13] at hf
    refine g_iload_n F dX10_recutAll_13 rfl ?_
    refine g_aload_n F dX10_recutAll_14 rfl ?_
    refine g_get (C := RX10) (T := TX10) (N := 27) F 0 0 1 rfl rfl rfl iX10_recutAll_X10 (by decide) (by decide +kernel) rfl dX10_recutAll_15 ?_
    refine g_bipush F 10 dX10_recutAll_18 rfl ?_
    refine g_iald F 1 0 10 (by decide) rfl rfl (by decide) dX10_recutAll_20 ?_
    refine g_icmp_ge F 38 dX10_recutAll_21 (by decide) (fun hc_1 => ?_) (fun hc_1 => ?_)
    · replace hf := gi_t hc_1 hf
      refine g_mask [false, true, false] rfl ?_
      exact hk x1 M_many now spelled cost fewestFrom first hf
    · replace hf := gi_f hc_1 hf
      refine g_iload_n F dX10_recutAll_24 rfl ?_
      refine g_aload_n F dX10_recutAll_25 rfl ?_
      refine g_iload_n F dX10_recutAll_26 rfl ?_
      obtain ⟨r_1, M_many_1, now_1, spelled_1, cost_1, fewestFrom_1, first_1, hg_1, hf⟩ := gb7_el hf
      refine g_callV (C := RX10) (T := TX10) (N := 27) (Lr := [sArrI E aundo 3650 undo]) (As := [.int x2]) (rest := [.int x1]) F 0 0 1 (ctX10_recuts l E aM anow aaside anames anamesAside atext aspelled acost afewestFrom afirst afresh aways aundo aslots aisSaved x2 M_thrown M_length M_textSize M_start M_next M_token M_value M_error M_errorAt M_number M_many M_freshMany M_undos now spelled cost fewestFrom first r_1 M_many_1 now_1 spelled_1 cost_1 fewestFrom_1 first_1 hg_1) gX10_recutAll_X10_recuts rfl rfl rfl h0X10_recuts ⟨Nat.le_of_ble_eq_true rfl, Nat.le_of_ble_eq_true rfl⟩ rfl rfl rfl [0, 1, 2, 3, 4, 5] [6] rfl rfl rfl rfl rfl rfl (Nat.le_of_ble_eq_true rfl) dX10_recutAll_27 ⟨Nat.le_of_ble_eq_true rfl, Nat.le_of_ble_eq_true rfl⟩ ?_
      rintro v w ⟨rfl, rfl⟩
      refine g_norm (Lw' := [sModel E aM anow aaside anames anamesAside atext aspelled acost afewestFrom afirst afresh aways aundo aslots aisSaved M_thrown M_length M_textSize M_start M_next M_token M_value M_error M_errorAt M_number M_many_1 M_freshMany M_undos, sArrI E anow 365 now_1, sArrI E aspelled 12 spelled_1, sArrI E acost 13 cost_1, sArrI E afewestFrom 13 fewestFrom_1, sArrI E afirst 13 first_1, sArrI E aundo 3650 undo]) (st' := [.int r_1, .int x1]) (pc' := 30) [0, 1, 2, 3, 4, 5, 6] rfl rfl rfl rfl ?_
      refine g_iadd F dX10_recutAll_30 ?_
      refine g_istore_n (lv' := [some (.ref (aM 0)), some (.int (x1 + r_1)), some (.int x2)]) F dX10_recutAll_31 (Nat.le_of_ble_eq_true rfl) rfl rfl ?_
      refine g_iinc (lv' := [some (.ref (aM 0)), some (.int (x1 + r_1)), some (.int (x2 + 1))]) F (x2 + 1) dX10_recutAll_32 rfl rfl rfl rfl ?_
      refine g_goto F 13 dX10_recutAll_35 (by decide) ?_
      exact ih (x1 + r_1) (x2 + 1) M_many_1 now_1 spelled_1 cost_1 fewestFrom_1 first_1 hf
set_option maxHeartbeats 4000000 in
set_option maxRecDepth 100000 in
theorem ctX10_recutAll (l : Launch) (E : gE) (aM anow aaside anames anamesAside atext aspelled acost afewestFrom afirst afresh aways aundo aslots aisSaved : Nat → Nat) (M_thrown : Int32) (M_length : Int32) (M_textSize : Int32) (M_start : Int32) (M_next : Int32) (M_token : Int32) (M_value : Int32) (M_error : Int32) (M_errorAt : Int32) (M_number : Int32) (M_many : Int32) (M_freshMany : Int32) (M_undos : Int32) (now : (Nat → Int32)) (spelled : (Nat → Int32)) (cost : (Nat → Int32)) (fewestFrom : (Nat → Int32)) (first : (Nat → Int32)) (undo : (Nat → Int32)) (r : Int32) (M_thrown' : Int32) (M_many' : Int32) (M_undos' : Int32) (now' : (Nat → Int32)) (spelled' : (Nat → Int32)) (cost' : (Nat → Int32)) (fewestFrom' : (Nat → Int32)) (first' : (Nat → Int32)) (undo' : (Nat → Int32)) (hf : fX10_recutAll M_thrown M_many M_undos now spelled cost fewestFrom first undo = some (r, M_thrown', M_many', M_undos', now', spelled', cost', fewestFrom', first', undo')) : gMet l yX10_recutAll wsX10_recutAll rmX10_recutAll vwCl E [.ref (aM 0)] [sModel E aM anow aaside anames anamesAside atext aspelled acost afewestFrom afirst afresh aways aundo aslots aisSaved M_thrown M_length M_textSize M_start M_next M_token M_value M_error M_errorAt M_number M_many M_freshMany M_undos, sArrI E anow 365 now, sArrI E aspelled 12 spelled, sArrI E acost 13 cost, sArrI E afewestFrom 13 fewestFrom, sArrI E afirst 13 first, sArrI E aundo 3650 undo] (fun v w => v = some (.int r) ∧ w = [sModel E aM anow aaside anames anamesAside atext aspelled acost afewestFrom afirst afresh aways aundo aslots aisSaved M_thrown' M_length M_textSize M_start M_next M_token M_value M_error M_errorAt M_number M_many' M_freshMany M_undos', sArrI E anow 365 now', sArrI E aspelled 12 spelled', sArrI E acost 13 cost', sArrI E afewestFrom 13 fewestFrom', sArrI E afirst 13 first', sArrI E aundo 3650 undo']) 0 0 := by
  refine g_entry [some (.ref (aM 0)), none, none] (by decide) rfl (Nat.le_of_ble_eq_true rfl) rfl ?_
  intro p e s m below meth c A F hnm
  unfold fX10_recutAll at hf
  refine g_aload_n F dX10_recutAll_0 rfl ?_
  refine g_iconst F 0 dX10_recutAll_1 rfl ?_
  refine g_put (C := RX10) (T := TX10) (N := 27) (tys := tyX10) (Lw' := [sModel E aM anow aaside anames anamesAside atext aspelled acost afewestFrom afirst afresh aways aundo aslots aisSaved 0 M_length M_textSize M_start M_next M_token M_value M_error M_errorAt M_number M_many M_freshMany M_undos, sArrI E anow 365 now, sArrI E aspelled 12 spelled, sArrI E acost 13 cost, sArrI E afewestFrom 13 fewestFrom, sArrI E afirst 13 first, sArrI E aundo 3650 undo]) F 0 0 0 rfl rfl rfl iX10_recutAll_X10 tyX10_ok nmX10 (by decide) (by decide +kernel) rfl rfl rfl rfl (Nat.le_of_ble_eq_true rfl) dX10_recutAll_2 rfl ?_
  refine g_aload_n F dX10_recutAll_5 rfl ?_
  obtain ⟨M_undos_1, undo_1, hg_1, hf⟩ := gb2_el hf
  refine g_callV (C := RX10) (T := TX10) (N := 27) (Lr := [sArrI E aspelled 12 spelled, sArrI E acost 13 cost, sArrI E afewestFrom 13 fewestFrom, sArrI E afirst 13 first]) (As := []) (rest := []) F 0 0 0 (ctX10_keeps l E aM anow aaside anames anamesAside atext aspelled acost afewestFrom afirst afresh aways aundo aslots aisSaved 0 M_length M_textSize M_start M_next M_token M_value M_error M_errorAt M_number M_many M_freshMany M_undos now undo M_undos_1 undo_1 hg_1) gX10_recutAll_X10_keeps rfl rfl rfl h0X10_keeps ⟨Nat.le_of_ble_eq_true rfl, Nat.le_of_ble_eq_true rfl⟩ rfl rfl rfl [0, 1, 6] [2, 3, 4, 5] rfl rfl rfl rfl rfl rfl (Nat.le_of_ble_eq_true rfl) dX10_recutAll_6 ⟨Nat.le_of_ble_eq_true rfl, Nat.le_of_ble_eq_true rfl⟩ ?_
  rintro v w ⟨rfl, rfl⟩
  refine g_norm (Lw' := [sModel E aM anow aaside anames anamesAside atext aspelled acost afewestFrom afirst afresh aways aundo aslots aisSaved 0 M_length M_textSize M_start M_next M_token M_value M_error M_errorAt M_number M_many M_freshMany M_undos_1, sArrI E anow 365 now, sArrI E aspelled 12 spelled, sArrI E acost 13 cost, sArrI E afewestFrom 13 fewestFrom, sArrI E afirst 13 first, sArrI E aundo 3650 undo_1]) (st' := []) (pc' := 9) [0, 1, 3, 4, 5, 6, 2] rfl rfl rfl rfl ?_
  refine g_iconst F 0 dX10_recutAll_9 rfl ?_
  refine g_istore_n (lv' := [some (.ref (aM 0)), some (.int 0), none]) F dX10_recutAll_10 (Nat.le_of_ble_eq_true rfl) rfl rfl ?_
  refine g_iconst F 0 dX10_recutAll_11 rfl ?_
  refine g_istore_n (lv' := [some (.ref (aM 0)), some (.int 0), some (.int 0)]) F dX10_recutAll_12 (Nat.le_of_ble_eq_true rfl) rfl rfl ?_
  refine ktX10_recutAll_L13 F aM anow aaside anames anamesAside atext aspelled acost afewestFrom afirst afresh aways aundo aslots aisSaved 0 M_length M_textSize M_start M_next M_token M_value M_error M_errorAt M_number M_freshMany M_undos_1 undo_1 r M_thrown' M_many' M_undos' now' spelled' cost' fewestFrom' first' undo' (fun x1_1 M_many_1 now_1 spelled_1 cost_1 fewestFrom_1 first_1 hf => ?_) FU 0 0 M_many now spelled cost fewestFrom first hf
  refine g_iload_n F dX10_recutAll_38 rfl ?_
  cases hf
  exact g_iret F rfl ⟨rfl, rfl⟩ dX10_recutAll_39
set_option maxHeartbeats 4000000 in
set_option maxRecDepth 100000 in
theorem ctX10_bring (l : Launch) (E : gE) (aM anow aaside anames anamesAside atext aspelled acost afewestFrom afirst afresh aways aundo aslots aisSaved : Nat → Nat) (x1 : Int32) (M_thrown : Int32) (M_length : Int32) (M_textSize : Int32) (M_start : Int32) (M_next : Int32) (M_token : Int32) (M_value : Int32) (M_error : Int32) (M_errorAt : Int32) (M_number : Int32) (M_many : Int32) (M_freshMany : Int32) (M_undos : Int32) (now : (Nat → Int32)) (text : (Nat → Int32)) (spelled : (Nat → Int32)) (undo : (Nat → Int32)) (r : Int32) (M_thrown' : Int32) (M_length' : Int32) (M_textSize' : Int32) (M_start' : Int32) (M_next' : Int32) (M_many' : Int32) (M_undos' : Int32) (now' : (Nat → Int32)) (spelled' : (Nat → Int32)) (undo' : (Nat → Int32)) (hf : fX10_bring x1 M_thrown M_length M_textSize M_start M_next M_many M_undos now text spelled undo = some (r, M_thrown', M_length', M_textSize', M_start', M_next', M_many', M_undos', now', spelled', undo')) : gMet l yX10_bring wsX10_bring rmX10_bring vwCl E [.ref (aM 0), .int x1] [sModel E aM anow aaside anames anamesAside atext aspelled acost afewestFrom afirst afresh aways aundo aslots aisSaved M_thrown M_length M_textSize M_start M_next M_token M_value M_error M_errorAt M_number M_many M_freshMany M_undos, sArrI E anow 365 now, sArrB E atext 600 text, sArrI E aspelled 12 spelled, sArrI E aundo 3650 undo] (fun v w => v = some (.int r) ∧ w = [sModel E aM anow aaside anames anamesAside atext aspelled acost afewestFrom afirst afresh aways aundo aslots aisSaved M_thrown' M_length' M_textSize' M_start' M_next' M_token M_value M_error M_errorAt M_number M_many' M_freshMany M_undos', sArrI E anow 365 now', sArrB E atext 600 text, sArrI E aspelled 12 spelled', sArrI E aundo 3650 undo']) 0 0 := by
  refine g_entry [some (.ref (aM 0)), some (.int x1), none, none] (by decide) rfl (Nat.le_of_ble_eq_true rfl) rfl ?_
  intro p e s m below meth c A F hnm
  unfold fX10_bring at hf
  refine g_aload_n F dX10_bring_0 rfl ?_
  obtain ⟨r_1, M_length_1, M_textSize_1, M_start_1, M_next_1, M_many_1, spelled_1, hg_1, hf⟩ := gb7_el hf
  refine g_callV (C := RX10) (T := TX10) (N := 27) (Lr := [sArrI E anow 365 now, sArrI E aundo 3650 undo]) (As := []) (rest := []) F 0 0 0 (ctX10_reads l E aM anow aaside anames anamesAside atext aspelled acost afewestFrom afirst afresh aways aundo aslots aisSaved M_thrown M_length M_textSize M_start M_next M_token M_value M_error M_errorAt M_number M_many M_freshMany M_undos text spelled r_1 M_length_1 M_textSize_1 M_start_1 M_next_1 M_many_1 spelled_1 hg_1) gX10_bring_X10_reads rfl rfl rfl h0X10_reads ⟨Nat.le_of_ble_eq_true rfl, Nat.le_of_ble_eq_true rfl⟩ rfl rfl rfl [0, 2, 3] [1, 4] rfl rfl rfl rfl rfl rfl (Nat.le_of_ble_eq_true rfl) dX10_bring_1 ⟨Nat.le_of_ble_eq_true rfl, Nat.le_of_ble_eq_true rfl⟩ ?_
  rintro v w ⟨rfl, rfl, hz_1⟩
  refine g_norm (Lw' := [sModel E aM anow aaside anames anamesAside atext aspelled acost afewestFrom afirst afresh aways aundo aslots aisSaved M_thrown M_length_1 M_textSize_1 M_start_1 M_next_1 M_token M_value M_error M_errorAt M_number M_many_1 M_freshMany M_undos, sArrI E anow 365 now, sArrB E atext 600 text, sArrI E aspelled 12 spelled_1, sArrI E aundo 3650 undo]) (st' := [.int r_1]) (pc' := 4) [0, 3, 1, 2, 4] rfl rfl rfl rfl ?_
  refine g_istore_n (lv' := [some (.ref (aM 0)), some (.int x1), some (.int r_1), none]) F dX10_bring_4 (Nat.le_of_ble_eq_true rfl) rfl rfl ?_
  refine g_aload_n F dX10_bring_5 rfl ?_
  refine g_iload_n F dX10_bring_6 rfl ?_
  obtain ⟨r_2, M_thrown_1, hg_2, hf⟩ := gb2_el hf
  refine g_callV (C := RX10) (T := TX10) (N := 27) (Lr := [sArrB E atext 600 text, sArrI E aspelled 12 spelled_1, sArrI E aundo 3650 undo]) (As := [.int x1]) (rest := []) F 0 0 1 (ctX10_noUser l E aM anow aaside anames anamesAside atext aspelled acost afewestFrom afirst afresh aways aundo aslots aisSaved x1 M_thrown M_length_1 M_textSize_1 M_start_1 M_next_1 M_token M_value M_error M_errorAt M_number M_many_1 M_freshMany M_undos now r_2 M_thrown_1 hg_2) gX10_bring_X10_noUser rfl rfl rfl h0X10_noUser ⟨Nat.le_of_ble_eq_true rfl, Nat.le_of_ble_eq_true rfl⟩ rfl rfl rfl [0, 1] [2, 3, 4] rfl rfl rfl rfl rfl rfl (Nat.le_of_ble_eq_true rfl) dX10_bring_7 ⟨Nat.le_of_ble_eq_true rfl, Nat.le_of_ble_eq_true rfl⟩ ?_
  rintro v w ⟨rfl, rfl, hz_2⟩
  refine g_norm (Lw' := [sModel E aM anow aaside anames anamesAside atext aspelled acost afewestFrom afirst afresh aways aundo aslots aisSaved M_thrown_1 M_length_1 M_textSize_1 M_start_1 M_next_1 M_token M_value M_error M_errorAt M_number M_many_1 M_freshMany M_undos, sArrI E anow 365 now, sArrB E atext 600 text, sArrI E aspelled 12 spelled_1, sArrI E aundo 3650 undo]) (st' := [.int r_2]) (pc' := 10) [0, 1, 2, 3, 4] rfl rfl rfl rfl ?_
  refine g_ifeq F 15 dX10_bring_10 (by decide) (fun hc_9 => ?_) (fun hc_9 => ?_)
  · replace hf := gi_t hc_9 hf
    refine g_iload_n F dX10_bring_15 rfl ?_
    obtain ⟨j_1, hj_1, hf⟩ := Lt_el hf
    have hj_1 : ∀ (t0_1 : Int32), j_1 t0_1 = some (r, M_thrown', M_length', M_textSize', M_start', M_next', M_many', M_undos', now', spelled', undo') → Gj p l e rmX10_bring s m ([.ref (aM 0), .int x1] : List Value).toArray below meth c 0 0 (MQ below (gQ vwCl E A (fun v w => v = some (.int r) ∧ w = [sModel E aM anow aaside anames anamesAside atext aspelled acost afewestFrom afirst afresh aways aundo aslots aisSaved M_thrown' M_length' M_textSize' M_start' M_next' M_token M_value M_error M_errorAt M_number M_many' M_freshMany M_undos', sArrI E anow 365 now', sArrB E atext 600 text, sArrI E aspelled 12 spelled', sArrI E aundo 3650 undo'])) ([.ref (aM 0), .int x1] : List Value).toArray s 0 0 A) vwCl E A [sModel E aM anow aaside anames anamesAside atext aspelled acost afewestFrom afirst afresh aways aundo aslots aisSaved M_thrown_1 M_length_1 M_textSize_1 M_start_1 M_next_1 M_token M_value M_error M_errorAt M_number M_many_1 M_freshMany M_undos, sArrI E anow 365 now, sArrB E atext 600 text, sArrI E aspelled 12 spelled_1, sArrI E aundo 3650 undo] [some (.ref (aM 0)), some (.int x1), none, none] [.int t0_1] 41 := by
      intro t0_1 hf
      rw [hj_1] at hf
      refine g_istore_n (lv' := [some (.ref (aM 0)), some (.int x1), none, some (.int t0_1)]) F dX10_bring_41 (Nat.le_of_ble_eq_true rfl) rfl rfl ?_
      refine g_aload_n F dX10_bring_42 rfl ?_
      refine g_iload_n F dX10_bring_43 rfl ?_
      obtain ⟨j_2, hj_2, hf⟩ := Lt_el hf
      have hj_2 : ∀ (t0_2 : Int32), j_2 t0_2 = some (r, M_thrown', M_length', M_textSize', M_start', M_next', M_many', M_undos', now', spelled', undo') → Gj p l e rmX10_bring s m ([.ref (aM 0), .int x1] : List Value).toArray below meth c 0 0 (MQ below (gQ vwCl E A (fun v w => v = some (.int r) ∧ w = [sModel E aM anow aaside anames anamesAside atext aspelled acost afewestFrom afirst afresh aways aundo aslots aisSaved M_thrown' M_length' M_textSize' M_start' M_next' M_token M_value M_error M_errorAt M_number M_many' M_freshMany M_undos', sArrI E anow 365 now', sArrB E atext 600 text, sArrI E aspelled 12 spelled', sArrI E aundo 3650 undo'])) ([.ref (aM 0), .int x1] : List Value).toArray s 0 0 A) vwCl E A [sModel E aM anow aaside anames anamesAside atext aspelled acost afewestFrom afirst afresh aways aundo aslots aisSaved M_thrown_1 M_length_1 M_textSize_1 M_start_1 M_next_1 M_token M_value M_error M_errorAt M_number M_many_1 M_freshMany M_undos, sArrI E anow 365 now, sArrB E atext 600 text, sArrI E aspelled 12 spelled_1, sArrI E aundo 3650 undo] [some (.ref (aM 0)), some (.int x1), none, some (.int t0_1)] [.int t0_2, .ref (aM 0)] 61 := by
        intro t0_2 hf
        rw [hj_2] at hf
        refine g_iconst F 2 dX10_bring_61 rfl ?_
        obtain ⟨r_3, M_thrown_2, hg_3, hf⟩ := gb2_el hf
        refine g_callV (C := RX10) (T := TX10) (N := 27) (Lr := [sArrI E anow 365 now, sArrB E atext 600 text, sArrI E aspelled 12 spelled_1, sArrI E aundo 3650 undo]) (As := [.int t0_2, .int 2]) (rest := []) F 0 0 2 (ctX10_throwsIf l E aM anow aaside anames anamesAside atext aspelled acost afewestFrom afirst afresh aways aundo aslots aisSaved t0_2 2 M_thrown_1 M_length_1 M_textSize_1 M_start_1 M_next_1 M_token M_value M_error M_errorAt M_number M_many_1 M_freshMany M_undos r_3 M_thrown_2 hg_3) gX10_bring_X10_throwsIf rfl rfl rfl h0X10_throwsIf ⟨Nat.le_of_ble_eq_true rfl, Nat.le_of_ble_eq_true rfl⟩ rfl rfl rfl [0] [1, 2, 3, 4] rfl rfl rfl rfl rfl rfl (Nat.le_of_ble_eq_true rfl) dX10_bring_62 ⟨Nat.le_of_ble_eq_true rfl, Nat.le_of_ble_eq_true rfl⟩ ?_
        rintro v w ⟨rfl, rfl, hz_3⟩
        refine g_norm (Lw' := [sModel E aM anow aaside anames anamesAside atext aspelled acost afewestFrom afirst afresh aways aundo aslots aisSaved M_thrown_2 M_length_1 M_textSize_1 M_start_1 M_next_1 M_token M_value M_error M_errorAt M_number M_many_1 M_freshMany M_undos, sArrI E anow 365 now, sArrB E atext 600 text, sArrI E aspelled 12 spelled_1, sArrI E aundo 3650 undo]) (st' := [.int r_3]) (pc' := 65) [0, 1, 2, 3, 4] rfl rfl rfl rfl ?_
        refine g_ifne F 110 dX10_bring_65 (by decide) (fun hc_4 => ?_) (fun hc_4 => ?_)
        · replace hf := gi_f hc_4 hf
          refine g_iconst F 0 dX10_bring_110 rfl ?_
          cases hf
          exact g_iret F rfl ⟨rfl, rfl⟩ dX10_bring_111
        · replace hf := gi_t hc_4 hf
          refine g_aload_n F dX10_bring_68 rfl ?_
          refine g_aload_n F dX10_bring_69 rfl ?_
          refine g_get (C := RX10) (T := TX10) (N := 27) F 0 0 1 rfl rfl rfl iX10_bring_X10 (by decide) (by decide +kernel) rfl dX10_bring_70 ?_
          refine g_bipush F 9 dX10_bring_73 rfl ?_
          refine g_iald F 1 0 9 (by decide) rfl rfl (by decide) dX10_bring_75 ?_
          refine g_bipush F 24 dX10_bring_76 rfl ?_
          obtain ⟨j_3, hj_3, hf⟩ := Lt_el hf
          have hj_3 : ∀ (t0_3 : Int32), j_3 t0_3 = some (r, M_thrown', M_length', M_textSize', M_start', M_next', M_many', M_undos', now', spelled', undo') → Gj p l e rmX10_bring s m ([.ref (aM 0), .int x1] : List Value).toArray below meth c 0 0 (MQ below (gQ vwCl E A (fun v w => v = some (.int r) ∧ w = [sModel E aM anow aaside anames anamesAside atext aspelled acost afewestFrom afirst afresh aways aundo aslots aisSaved M_thrown' M_length' M_textSize' M_start' M_next' M_token M_value M_error M_errorAt M_number M_many' M_freshMany M_undos', sArrI E anow 365 now', sArrB E atext 600 text, sArrI E aspelled 12 spelled', sArrI E aundo 3650 undo'])) ([.ref (aM 0), .int x1] : List Value).toArray s 0 0 A) vwCl E A [sModel E aM anow aaside anames anamesAside atext aspelled acost afewestFrom afirst afresh aways aundo aslots aisSaved M_thrown_2 M_length_1 M_textSize_1 M_start_1 M_next_1 M_token M_value M_error M_errorAt M_number M_many_1 M_freshMany M_undos, sArrI E anow 365 now, sArrB E atext 600 text, sArrI E aspelled 12 spelled_1, sArrI E aundo 3650 undo] [some (.ref (aM 0)), some (.int x1), none, some (.int t0_1)] [.int t0_3, .ref (aM 0)] 103 := by
            intro t0_3 hf
            rw [hj_3] at hf
            refine g_iconst F 3 dX10_bring_103 rfl ?_
            obtain ⟨r_4, M_thrown_3, hg_4, hf⟩ := gb2_el hf
            refine g_callV (C := RX10) (T := TX10) (N := 27) (Lr := [sArrI E anow 365 now, sArrB E atext 600 text, sArrI E aspelled 12 spelled_1, sArrI E aundo 3650 undo]) (As := [.int t0_3, .int 3]) (rest := []) F 0 0 2 (ctX10_throwsIf l E aM anow aaside anames anamesAside atext aspelled acost afewestFrom afirst afresh aways aundo aslots aisSaved t0_3 3 M_thrown_2 M_length_1 M_textSize_1 M_start_1 M_next_1 M_token M_value M_error M_errorAt M_number M_many_1 M_freshMany M_undos r_4 M_thrown_3 hg_4) gX10_bring_X10_throwsIf rfl rfl rfl h0X10_throwsIf ⟨Nat.le_of_ble_eq_true rfl, Nat.le_of_ble_eq_true rfl⟩ rfl rfl rfl [0] [1, 2, 3, 4] rfl rfl rfl rfl rfl rfl (Nat.le_of_ble_eq_true rfl) dX10_bring_104 ⟨Nat.le_of_ble_eq_true rfl, Nat.le_of_ble_eq_true rfl⟩ ?_
            rintro v w ⟨rfl, rfl, hz_4⟩
            refine g_norm (Lw' := [sModel E aM anow aaside anames anamesAside atext aspelled acost afewestFrom afirst afresh aways aundo aslots aisSaved M_thrown_3 M_length_1 M_textSize_1 M_start_1 M_next_1 M_token M_value M_error M_errorAt M_number M_many_1 M_freshMany M_undos, sArrI E anow 365 now, sArrB E atext 600 text, sArrI E aspelled 12 spelled_1, sArrI E aundo 3650 undo]) (st' := [.int r_4]) (pc' := 107) [0, 1, 2, 3, 4] rfl rfl rfl rfl ?_
            refine g_ifeq F 112 dX10_bring_107 (by decide) (fun hc_1 => ?_) (fun hc_1 => ?_)
            · replace hf := gi_t hc_1 hf
              refine g_aload_n F dX10_bring_112 rfl ?_
              obtain ⟨M_undos_1, undo_1, hg_5, hf⟩ := gb2_el hf
              refine g_callV (C := RX10) (T := TX10) (N := 27) (Lr := [sArrB E atext 600 text, sArrI E aspelled 12 spelled_1]) (As := []) (rest := []) F 0 0 0 (ctX10_keeps l E aM anow aaside anames anamesAside atext aspelled acost afewestFrom afirst afresh aways aundo aslots aisSaved M_thrown_3 M_length_1 M_textSize_1 M_start_1 M_next_1 M_token M_value M_error M_errorAt M_number M_many_1 M_freshMany M_undos now undo M_undos_1 undo_1 hg_5) gX10_bring_X10_keeps rfl rfl rfl h0X10_keeps ⟨Nat.le_of_ble_eq_true rfl, Nat.le_of_ble_eq_true rfl⟩ rfl rfl rfl [0, 1, 4] [2, 3] rfl rfl rfl rfl rfl rfl (Nat.le_of_ble_eq_true rfl) dX10_bring_113 ⟨Nat.le_of_ble_eq_true rfl, Nat.le_of_ble_eq_true rfl⟩ ?_
              rintro v w ⟨rfl, rfl⟩
              refine g_norm (Lw' := [sModel E aM anow aaside anames anamesAside atext aspelled acost afewestFrom afirst afresh aways aundo aslots aisSaved M_thrown_3 M_length_1 M_textSize_1 M_start_1 M_next_1 M_token M_value M_error M_errorAt M_number M_many_1 M_freshMany M_undos_1, sArrI E anow 365 now, sArrB E atext 600 text, sArrI E aspelled 12 spelled_1, sArrI E aundo 3650 undo_1]) (st' := []) (pc' := 116) [0, 1, 3, 4, 2] rfl rfl rfl rfl ?_
              refine g_aload_n F dX10_bring_116 rfl ?_
              refine g_iload_n F dX10_bring_117 rfl ?_
              refine g_iload_n F dX10_bring_118 rfl ?_
              obtain ⟨r_5, now_1, hg_6, hf⟩ := gb2_el hf
              refine g_callV (C := RX10) (T := TX10) (N := 27) (Lr := [sArrB E atext 600 text, sArrI E aspelled 12 spelled_1, sArrI E aundo 3650 undo_1]) (As := [.int t0_1, .int x1]) (rest := []) F 0 0 2 (ctX10_buys l E aM anow aaside anames anamesAside atext aspelled acost afewestFrom afirst afresh aways aundo aslots aisSaved t0_1 x1 M_thrown_3 M_length_1 M_textSize_1 M_start_1 M_next_1 M_token M_value M_error M_errorAt M_number M_many_1 M_freshMany M_undos_1 now r_5 now_1 hg_6) gX10_bring_X10_buys rfl rfl rfl h0X10_buys ⟨Nat.le_of_ble_eq_true rfl, Nat.le_of_ble_eq_true rfl⟩ rfl rfl rfl [0, 1] [2, 3, 4] rfl rfl rfl rfl rfl rfl (Nat.le_of_ble_eq_true rfl) dX10_bring_119 ⟨Nat.le_of_ble_eq_true rfl, Nat.le_of_ble_eq_true rfl⟩ ?_
              rintro v w ⟨rfl, rfl⟩
              refine g_norm (Lw' := [sModel E aM anow aaside anames anamesAside atext aspelled acost afewestFrom afirst afresh aways aundo aslots aisSaved M_thrown_3 M_length_1 M_textSize_1 M_start_1 M_next_1 M_token M_value M_error M_errorAt M_number M_many_1 M_freshMany M_undos_1, sArrI E anow 365 now_1, sArrB E atext 600 text, sArrI E aspelled 12 spelled_1, sArrI E aundo 3650 undo_1]) (st' := [.int r_5]) (pc' := 122) [0, 1, 2, 3, 4] rfl rfl rfl rfl ?_
              cases hf
              exact g_iret F rfl ⟨rfl, rfl⟩ dX10_bring_122
            · replace hf := gi_f hc_1 hf
              refine g_iconst F 0 dX10_bring_110 rfl ?_
              cases hf
              exact g_iret F rfl ⟨rfl, rfl⟩ dX10_bring_111
          obtain ⟨j_4, hj_4, hf⟩ := Lt_el hf
          have hj_4 : j_4 = some (r, M_thrown', M_length', M_textSize', M_start', M_next', M_many', M_undos', now', spelled', undo') → Gj p l e rmX10_bring s m ([.ref (aM 0), .int x1] : List Value).toArray below meth c 0 0 (MQ below (gQ vwCl E A (fun v w => v = some (.int r) ∧ w = [sModel E aM anow aaside anames anamesAside atext aspelled acost afewestFrom afirst afresh aways aundo aslots aisSaved M_thrown' M_length' M_textSize' M_start' M_next' M_token M_value M_error M_errorAt M_number M_many' M_freshMany M_undos', sArrI E anow 365 now', sArrB E atext 600 text, sArrI E aspelled 12 spelled', sArrI E aundo 3650 undo'])) ([.ref (aM 0), .int x1] : List Value).toArray s 0 0 A) vwCl E A [sModel E aM anow aaside anames anamesAside atext aspelled acost afewestFrom afirst afresh aways aundo aslots aisSaved M_thrown_2 M_length_1 M_textSize_1 M_start_1 M_next_1 M_token M_value M_error M_errorAt M_number M_many_1 M_freshMany M_undos, sArrI E anow 365 now, sArrB E atext 600 text, sArrI E aspelled 12 spelled_1, sArrI E aundo 3650 undo] [some (.ref (aM 0)), some (.int x1), none, some (.int t0_1)] [.ref (aM 0)] 98 := by
            intro hf
            rw [hj_4] at hf
            refine g_iconst F 1 dX10_bring_98 rfl ?_
            refine g_goto F 103 dX10_bring_99 (by decide) ?_
            exact hj_3 1 hf
          refine g_icmp_eq F 98 dX10_bring_78 (by decide) (fun hc_3 => ?_) (fun hc_3 => ?_)
          · replace hf := gi_t hc_3 hf
            exact hj_4 hf
          · replace hf := gi_f hc_3 hf
            refine g_aload_n F dX10_bring_81 rfl ?_
            refine g_get (C := RX10) (T := TX10) (N := 27) F 0 0 1 rfl rfl rfl iX10_bring_X10 (by decide) (by decide +kernel) rfl dX10_bring_82 ?_
            refine g_bipush F 17 dX10_bring_85 rfl ?_
            refine g_iload_n F dX10_bring_87 rfl ?_
            refine g_iadd F dX10_bring_88 ?_
            obtain ⟨hb_1, hf⟩ := gb_in hf
            refine g_iald F 1 0 ((17 + x1).toNatClampNeg) rfl rfl rfl hb_1 dX10_bring_89 ?_
            refine g_aload_n F dX10_bring_90 rfl ?_
            refine g_iload_n F dX10_bring_91 rfl ?_
            obtain ⟨r_6, hg_7, hf⟩ := gb1_el hf
            refine g_callV (C := RX10) (T := TX10) (N := 27) (Lr := [sArrB E atext 600 text, sArrI E aspelled 12 spelled_1, sArrI E aundo 3650 undo]) (As := [.int t0_1]) (rest := [.int (now ((17 + x1).toNatClampNeg)), .ref (aM 0)]) F 0 0 1 (ctX10_priceOf l E aM anow aaside anames anamesAside atext aspelled acost afewestFrom afirst afresh aways aundo aslots aisSaved t0_1 M_thrown_2 M_length_1 M_textSize_1 M_start_1 M_next_1 M_token M_value M_error M_errorAt M_number M_many_1 M_freshMany M_undos now r_6 hg_7) gX10_bring_X10_priceOf rfl rfl rfl h0X10_priceOf ⟨Nat.le_of_ble_eq_true rfl, Nat.le_of_ble_eq_true rfl⟩ rfl rfl rfl [0, 1] [2, 3, 4] rfl rfl rfl rfl rfl rfl (Nat.le_of_ble_eq_true rfl) dX10_bring_92 ⟨Nat.le_of_ble_eq_true rfl, Nat.le_of_ble_eq_true rfl⟩ ?_
            rintro v w ⟨rfl, rfl⟩
            refine g_norm (Lw' := [sModel E aM anow aaside anames anamesAside atext aspelled acost afewestFrom afirst afresh aways aundo aslots aisSaved M_thrown_2 M_length_1 M_textSize_1 M_start_1 M_next_1 M_token M_value M_error M_errorAt M_number M_many_1 M_freshMany M_undos, sArrI E anow 365 now, sArrB E atext 600 text, sArrI E aspelled 12 spelled_1, sArrI E aundo 3650 undo]) (st' := [.int r_6, .int (now ((17 + x1).toNatClampNeg)), .ref (aM 0)]) (pc' := 95) [0, 1, 2, 3, 4] rfl rfl rfl rfl ?_
            refine g_icmp_ge F 102 dX10_bring_95 (by decide) (fun hc_2 => ?_) (fun hc_2 => ?_)
            · replace hf := gi_t hc_2 hf
              refine g_iconst F 0 dX10_bring_102 rfl ?_
              exact hj_3 0 hf
            · replace hf := gi_f hc_2 hf
              exact hj_4 hf
      obtain ⟨j_5, hj_5, hf⟩ := Lt_el hf
      have hj_5 : j_5 = some (r, M_thrown', M_length', M_textSize', M_start', M_next', M_many', M_undos', now', spelled', undo') → Gj p l e rmX10_bring s m ([.ref (aM 0), .int x1] : List Value).toArray below meth c 0 0 (MQ below (gQ vwCl E A (fun v w => v = some (.int r) ∧ w = [sModel E aM anow aaside anames anamesAside atext aspelled acost afewestFrom afirst afresh aways aundo aslots aisSaved M_thrown' M_length' M_textSize' M_start' M_next' M_token M_value M_error M_errorAt M_number M_many' M_freshMany M_undos', sArrI E anow 365 now', sArrB E atext 600 text, sArrI E aspelled 12 spelled', sArrI E aundo 3650 undo'])) ([.ref (aM 0), .int x1] : List Value).toArray s 0 0 A) vwCl E A [sModel E aM anow aaside anames anamesAside atext aspelled acost afewestFrom afirst afresh aways aundo aslots aisSaved M_thrown_1 M_length_1 M_textSize_1 M_start_1 M_next_1 M_token M_value M_error M_errorAt M_number M_many_1 M_freshMany M_undos, sArrI E anow 365 now, sArrB E atext 600 text, sArrI E aspelled 12 spelled_1, sArrI E aundo 3650 undo] [some (.ref (aM 0)), some (.int x1), none, some (.int t0_1)] [.ref (aM 0)] 56 := by
        intro hf
        rw [hj_5] at hf
        refine g_iconst F 1 dX10_bring_56 rfl ?_
        refine g_goto F 61 dX10_bring_57 (by decide) ?_
        exact hj_2 1 hf
      refine g_ifeq F 56 dX10_bring_44 (by decide) (fun hc_6 => ?_) (fun hc_6 => ?_)
      · replace hf := gi_t hc_6 hf
        exact hj_5 hf
      · replace hf := gi_f hc_6 hf
        refine g_aload_n F dX10_bring_47 rfl ?_
        refine g_iload_n F dX10_bring_48 rfl ?_
        obtain ⟨r_7, hg_8, hf⟩ := gb1_el hf
        refine g_callV (C := RX10) (T := TX10) (N := 27) (Lr := [sArrB E atext 600 text, sArrI E aspelled 12 spelled_1, sArrI E aundo 3650 undo]) (As := [.int t0_1]) (rest := [.ref (aM 0)]) F 0 0 1 (ctX10_pieceOf l E aM anow aaside anames anamesAside atext aspelled acost afewestFrom afirst afresh aways aundo aslots aisSaved t0_1 M_thrown_1 M_length_1 M_textSize_1 M_start_1 M_next_1 M_token M_value M_error M_errorAt M_number M_many_1 M_freshMany M_undos now r_7 hg_8) gX10_bring_X10_pieceOf rfl rfl rfl h0X10_pieceOf ⟨Nat.le_of_ble_eq_true rfl, Nat.le_of_ble_eq_true rfl⟩ rfl rfl rfl [0, 1] [2, 3, 4] rfl rfl rfl rfl rfl rfl (Nat.le_of_ble_eq_true rfl) dX10_bring_49 ⟨Nat.le_of_ble_eq_true rfl, Nat.le_of_ble_eq_true rfl⟩ ?_
        rintro v w ⟨rfl, rfl⟩
        refine g_norm (Lw' := [sModel E aM anow aaside anames anamesAside atext aspelled acost afewestFrom afirst afresh aways aundo aslots aisSaved M_thrown_1 M_length_1 M_textSize_1 M_start_1 M_next_1 M_token M_value M_error M_errorAt M_number M_many_1 M_freshMany M_undos, sArrI E anow 365 now, sArrB E atext 600 text, sArrI E aspelled 12 spelled_1, sArrI E aundo 3650 undo]) (st' := [.int r_7, .ref (aM 0)]) (pc' := 52) [0, 1, 2, 3, 4] rfl rfl rfl rfl ?_
        refine g_iconst F (-1) dX10_bring_52 rfl ?_
        refine g_icmp_eq F 60 dX10_bring_53 (by decide) (fun hc_5 => ?_) (fun hc_5 => ?_)
        · replace hf := gi_t hc_5 hf
          refine g_iconst F 0 dX10_bring_60 rfl ?_
          exact hj_2 0 hf
        · replace hf := gi_f hc_5 hf
          exact hj_5 hf
    obtain ⟨j_6, hj_6, hf⟩ := Lt_el hf
    have hj_6 : j_6 = some (r, M_thrown', M_length', M_textSize', M_start', M_next', M_many', M_undos', now', spelled', undo') → Gj p l e rmX10_bring s m ([.ref (aM 0), .int x1] : List Value).toArray below meth c 0 0 (MQ below (gQ vwCl E A (fun v w => v = some (.int r) ∧ w = [sModel E aM anow aaside anames anamesAside atext aspelled acost afewestFrom afirst afresh aways aundo aslots aisSaved M_thrown' M_length' M_textSize' M_start' M_next' M_token M_value M_error M_errorAt M_number M_many' M_freshMany M_undos', sArrI E anow 365 now', sArrB E atext 600 text, sArrI E aspelled 12 spelled', sArrI E aundo 3650 undo'])) ([.ref (aM 0), .int x1] : List Value).toArray s 0 0 A) vwCl E A [sModel E aM anow aaside anames anamesAside atext aspelled acost afewestFrom afirst afresh aways aundo aslots aisSaved M_thrown_1 M_length_1 M_textSize_1 M_start_1 M_next_1 M_token M_value M_error M_errorAt M_number M_many_1 M_freshMany M_undos, sArrI E anow 365 now, sArrB E atext 600 text, sArrI E aspelled 12 spelled_1, sArrI E aundo 3650 undo] [some (.ref (aM 0)), some (.int x1), none, none] [] 40 := by
      intro hf
      rw [hj_6] at hf
      refine g_iconst F 0 dX10_bring_40 rfl ?_
      exact hj_1 0 hf
    refine g_ifeq F 40 dX10_bring_16 (by decide) (fun hc_8 => ?_) (fun hc_8 => ?_)
    · replace hf := gi_t hc_8 hf
      refine g_mask [true, true, false, true] rfl ?_
      exact hj_6 hf
    · replace hf := gi_f hc_8 hf
      refine g_aload_n F dX10_bring_19 rfl ?_
      refine g_get (C := RX10) (T := TX10) (N := 27) F 0 0 16 rfl rfl rfl iX10_bring_X10 (by decide) (by decide +kernel) rfl dX10_bring_20 ?_
      refine g_bipush F 6 dX10_bring_23 rfl ?_
      refine g_icmp_gt F 40 dX10_bring_25 (by decide) (fun hc_7 => ?_) (fun hc_7 => ?_)
      · replace hf := gi_t hc_7 hf
        refine g_mask [true, true, false, true] rfl ?_
        exact hj_6 hf
      · replace hf := gi_f hc_7 hf
        refine g_aload_n F dX10_bring_28 rfl ?_
        refine g_iconst F 0 dX10_bring_29 rfl ?_
        refine g_aload_n F dX10_bring_30 rfl ?_
        refine g_get (C := RX10) (T := TX10) (N := 27) F 0 0 16 rfl rfl rfl iX10_bring_X10 (by decide) (by decide +kernel) rfl dX10_bring_31 ?_
        obtain ⟨r_8, hg_9, hf⟩ := gb1_el hf
        refine g_callV (C := RX10) (T := TX10) (N := 27) (Lr := [sArrI E anow 365 now, sArrB E atext 600 text, sArrI E aundo 3650 undo]) (As := [.int 0, .int M_many_1]) (rest := []) F 0 0 2 (ctX10_code l E aM anow aaside anames anamesAside atext aspelled acost afewestFrom afirst afresh aways aundo aslots aisSaved 0 M_many_1 M_thrown_1 M_length_1 M_textSize_1 M_start_1 M_next_1 M_token M_value M_error M_errorAt M_number M_many_1 M_freshMany M_undos spelled_1 r_8 hg_9) gX10_bring_X10_code rfl rfl rfl h0X10_code ⟨Nat.le_of_ble_eq_true rfl, Nat.le_of_ble_eq_true rfl⟩ rfl rfl rfl [0, 3] [1, 2, 4] rfl rfl rfl rfl rfl rfl (Nat.le_of_ble_eq_true rfl) dX10_bring_34 ⟨Nat.le_of_ble_eq_true rfl, Nat.le_of_ble_eq_true rfl⟩ ?_
        rintro v w ⟨rfl, rfl⟩
        refine g_norm (Lw' := [sModel E aM anow aaside anames anamesAside atext aspelled acost afewestFrom afirst afresh aways aundo aslots aisSaved M_thrown_1 M_length_1 M_textSize_1 M_start_1 M_next_1 M_token M_value M_error M_errorAt M_number M_many_1 M_freshMany M_undos, sArrI E anow 365 now, sArrB E atext 600 text, sArrI E aspelled 12 spelled_1, sArrI E aundo 3650 undo]) (st' := [.int r_8]) (pc' := 37) [0, 2, 3, 1, 4] rfl rfl rfl rfl ?_
        refine g_goto F 41 dX10_bring_37 (by decide) ?_
        refine g_mask [true, true, false, true] rfl ?_
        exact hj_1 r_8 hf
  · replace hf := gi_f hc_9 hf
    refine g_iconst F 0 dX10_bring_13 rfl ?_
    cases hf
    exact g_iret F rfl ⟨rfl, rfl⟩ dX10_bring_14
set_option maxHeartbeats 4000000 in
set_option maxRecDepth 100000 in
theorem ktX10_tick_L38 {p : Program} {l : Launch} {e : Env} {s : State} {m : MethodId} {args : Array Value} {below : List Frame} {meth : Method} {c : Code} {E : gE} {A : Nat → Prop} (F : gFx p s m args meth c RX10 wsX10_tick cX10_tick 4 (some .int) vwCl E A) (aM anow aaside anames anamesAside atext aspelled acost afewestFrom afirst afresh aways aundo aslots aisSaved : Nat → Nat) (x1 : Int32) (M_thrown : Int32) (M_length : Int32) (M_textSize : Int32) (M_start : Int32) (M_next : Int32) (M_token : Int32) (M_value : Int32) (M_error : Int32) (M_errorAt : Int32) (M_number : Int32) (M_many : Int32) (M_freshMany : Int32) (M_undos : Int32) (undo : (Nat → Int32)) (r : Int32) (M_thrown' : Int32) (M_undos' : Int32) (now' : (Nat → Int32)) (undo' : (Nat → Int32)) {k : Int32 → (Nat → Int32) → Option (Int32 × Int32 × Int32 × (Nat → Int32) × (Nat → Int32))} (hk : ∀ (x2 : Int32) (now : (Nat → Int32)), k x2 now = some (r, M_thrown', M_undos', now', undo') → Gj p l e rmX10_tick s m args below meth c 0 0 (MQ below (gQ vwCl E A (fun v w => v = some (.int r) ∧ w = [sModel E aM anow aaside anames anamesAside atext aspelled acost afewestFrom afirst afresh aways aundo aslots aisSaved M_thrown' M_length M_textSize M_start M_next M_token M_value M_error M_errorAt M_number M_many M_freshMany M_undos', sArrI E anow 365 now', sArrI E aundo 3650 undo'])) args s 0 0 A) vwCl E A [sModel E aM anow aaside anames anamesAside atext aspelled acost afewestFrom afirst afresh aways aundo aslots aisSaved M_thrown M_length M_textSize M_start M_next M_token M_value M_error M_errorAt M_number M_many M_freshMany M_undos, sArrI E anow 365 now, sArrI E aundo 3650 undo] [none, none, some (.int x2), none] [] 56) : ∀ (n : Nat) (x2 : Int32) (x3 : Int32) (now : (Nat → Int32)), fX10_tick_L38 x1 k n x2 x3 now = some (r, M_thrown', M_undos', now', undo') → Gj p l e rmX10_tick s m args below meth c 0 0 (MQ below (gQ vwCl E A (fun v w => v = some (.int r) ∧ w = [sModel E aM anow aaside anames anamesAside atext aspelled acost afewestFrom afirst afresh aways aundo aslots aisSaved M_thrown' M_length M_textSize M_start M_next M_token M_value M_error M_errorAt M_number M_many M_freshMany M_undos', sArrI E anow 365 now', sArrI E aundo 3650 undo'])) args s 0 0 A) vwCl E A [sModel E aM anow aaside anames anamesAside atext aspelled acost afewestFrom afirst afresh aways aundo aslots aisSaved M_thrown M_length M_textSize M_start M_next M_token M_value M_error M_errorAt M_number M_many M_freshMany M_undos, sArrI E anow 365 now, sArrI E aundo 3650 undo] [some (.ref (aM 0)), some (.int x1), some (.int x2), some (.int x3)] [] 38
  | 0, _, _, _, hf => by cases hf
  | n + 1, x2, x3, now, hf => by
    have ih := ktX10_tick_L38 F aM anow aaside anames anamesAside atext aspelled acost afewestFrom afirst afresh aways aundo aslots aisSaved x1 M_thrown M_length M_textSize M_start M_next M_token M_value M_error M_errorAt M_number M_many M_freshMany M_undos undo r M_thrown' M_undos' now' undo' hk n
    rw [fX10_tick_L38] at hf
    refine g_iload_n F dX10_tick_38 rfl ?_
    refine g_iload_n F dX10_tick_39 rfl ?_
    refine g_icmp_ge F 56 dX10_tick_40 (by decide) (fun hc_1 => ?_) (fun hc_1 => ?_)
    · replace hf := gi_t hc_1 hf
      refine g_mask [false, false, true, false] rfl ?_
      exact hk x2 now hf
    · replace hf := gi_f hc_1 hf
      refine g_iload_n F dX10_tick_43 rfl ?_
      refine g_aload_n F dX10_tick_44 rfl ?_
      obtain ⟨r_1, now_1, hg_1, hf⟩ := gb2_el hf
      refine g_callV (C := RX10) (T := TX10) (N := 27) (Lr := [sArrI E aundo 3650 undo]) (As := []) (rest := [.int x2]) F 0 0 0 (ctX10_ticks l E aM anow aaside anames anamesAside atext aspelled acost afewestFrom afirst afresh aways aundo aslots aisSaved M_thrown M_length M_textSize M_start M_next M_token M_value M_error M_errorAt M_number M_many M_freshMany M_undos now r_1 now_1 hg_1) gX10_tick_X10_ticks rfl rfl rfl h0X10_ticks ⟨Nat.le_of_ble_eq_true rfl, Nat.le_of_ble_eq_true rfl⟩ rfl rfl rfl [0, 1] [2] rfl rfl rfl rfl rfl rfl (Nat.le_of_ble_eq_true rfl) dX10_tick_45 ⟨Nat.le_of_ble_eq_true rfl, Nat.le_of_ble_eq_true rfl⟩ ?_
      rintro v w ⟨rfl, rfl⟩
      refine g_norm (Lw' := [sModel E aM anow aaside anames anamesAside atext aspelled acost afewestFrom afirst afresh aways aundo aslots aisSaved M_thrown M_length M_textSize M_start M_next M_token M_value M_error M_errorAt M_number M_many M_freshMany M_undos, sArrI E anow 365 now_1, sArrI E aundo 3650 undo]) (st' := [.int r_1, .int x2]) (pc' := 48) [0, 1, 2] rfl rfl rfl rfl ?_
      refine g_iadd F dX10_tick_48 ?_
      refine g_istore_n (lv' := [some (.ref (aM 0)), some (.int x1), some (.int (x2 + r_1)), some (.int x3)]) F dX10_tick_49 (Nat.le_of_ble_eq_true rfl) rfl rfl ?_
      refine g_iinc (lv' := [some (.ref (aM 0)), some (.int x1), some (.int (x2 + r_1)), some (.int (x3 + 1))]) F (x3 + 1) dX10_tick_50 rfl rfl rfl rfl ?_
      refine g_goto F 38 dX10_tick_53 (by decide) ?_
      exact ih (x2 + r_1) (x3 + 1) now_1 hf
set_option maxHeartbeats 4000000 in
set_option maxRecDepth 100000 in
theorem ctX10_tick (l : Launch) (E : gE) (aM anow aaside anames anamesAside atext aspelled acost afewestFrom afirst afresh aways aundo aslots aisSaved : Nat → Nat) (x1 : Int32) (M_thrown : Int32) (M_length : Int32) (M_textSize : Int32) (M_start : Int32) (M_next : Int32) (M_token : Int32) (M_value : Int32) (M_error : Int32) (M_errorAt : Int32) (M_number : Int32) (M_many : Int32) (M_freshMany : Int32) (M_undos : Int32) (now : (Nat → Int32)) (undo : (Nat → Int32)) (r : Int32) (M_thrown' : Int32) (M_undos' : Int32) (now' : (Nat → Int32)) (undo' : (Nat → Int32)) (hf : fX10_tick x1 M_thrown M_undos now undo = some (r, M_thrown', M_undos', now', undo')) : gMet l yX10_tick wsX10_tick rmX10_tick vwCl E [.ref (aM 0), .int x1] [sModel E aM anow aaside anames anamesAside atext aspelled acost afewestFrom afirst afresh aways aundo aslots aisSaved M_thrown M_length M_textSize M_start M_next M_token M_value M_error M_errorAt M_number M_many M_freshMany M_undos, sArrI E anow 365 now, sArrI E aundo 3650 undo] (fun v w => v = some (.int r) ∧ w = [sModel E aM anow aaside anames anamesAside atext aspelled acost afewestFrom afirst afresh aways aundo aslots aisSaved M_thrown' M_length M_textSize M_start M_next M_token M_value M_error M_errorAt M_number M_many M_freshMany M_undos', sArrI E anow 365 now', sArrI E aundo 3650 undo']) 0 0 := by
  refine g_entry [some (.ref (aM 0)), some (.int x1), none, none] (by decide) rfl (Nat.le_of_ble_eq_true rfl) rfl ?_
  intro p e s m below meth c A F hnm
  unfold fX10_tick at hf
  refine g_aload_n F dX10_tick_0 rfl ?_
  refine g_iconst F 0 dX10_tick_1 rfl ?_
  refine g_put (C := RX10) (T := TX10) (N := 27) (tys := tyX10) (Lw' := [sModel E aM anow aaside anames anamesAside atext aspelled acost afewestFrom afirst afresh aways aundo aslots aisSaved 0 M_length M_textSize M_start M_next M_token M_value M_error M_errorAt M_number M_many M_freshMany M_undos, sArrI E anow 365 now, sArrI E aundo 3650 undo]) F 0 0 0 rfl rfl rfl iX10_tick_X10 tyX10_ok nmX10 (by decide) (by decide +kernel) rfl rfl rfl rfl (Nat.le_of_ble_eq_true rfl) dX10_tick_2 rfl ?_
  refine g_aload_n F dX10_tick_5 rfl ?_
  refine g_iload_n F dX10_tick_6 rfl ?_
  refine g_iconst F 1 dX10_tick_7 rfl ?_
  refine g_bipush F 30 dX10_tick_8 rfl ?_
  obtain ⟨r_1, hg_1, hf⟩ := gb1_el hf
  refine g_callS (Lr := [sModel E aM anow aaside anames anamesAside atext aspelled acost afewestFrom afirst afresh aways aundo aslots aisSaved 0 M_length M_textSize M_start M_next M_token M_value M_error M_errorAt M_number M_many M_freshMany M_undos, sArrI E anow 365 now, sArrI E aundo 3650 undo]) (As := [.int x1, .int 1, .int 30]) (rest := [.ref (aM 0)]) F 3 (ctX10_within l E x1 1 30 r_1 hg_1) (va_cwS 3 F.2.2.2.2.2.1 gX10_tick_X10_within rfl rfl rfl h0X10_within ⟨Nat.le_of_ble_eq_true rfl, Nat.le_of_ble_eq_true rfl⟩) [] [0, 1, 2] rfl rfl rfl rfl rfl rfl (Nat.le_of_ble_eq_true rfl) dX10_tick_10 ⟨Nat.le_of_ble_eq_true rfl, Nat.le_of_ble_eq_true rfl⟩ ?_
  rintro v w ⟨rfl, rfl, hz_1⟩
  refine g_norm (Lw' := [sModel E aM anow aaside anames anamesAside atext aspelled acost afewestFrom afirst afresh aways aundo aslots aisSaved 0 M_length M_textSize M_start M_next M_token M_value M_error M_errorAt M_number M_many M_freshMany M_undos, sArrI E anow 365 now, sArrI E aundo 3650 undo]) (st' := [.int r_1, .ref (aM 0)]) (pc' := 13) [0, 1, 2] rfl rfl rfl rfl ?_
  obtain ⟨j_1, hj_1, hf⟩ := Lt_el hf
  have hj_1 : ∀ (t0_1 : Int32), j_1 t0_1 = some (r, M_thrown', M_undos', now', undo') → Gj p l e rmX10_tick s m ([.ref (aM 0), .int x1] : List Value).toArray below meth c 0 0 (MQ below (gQ vwCl E A (fun v w => v = some (.int r) ∧ w = [sModel E aM anow aaside anames anamesAside atext aspelled acost afewestFrom afirst afresh aways aundo aslots aisSaved M_thrown' M_length M_textSize M_start M_next M_token M_value M_error M_errorAt M_number M_many M_freshMany M_undos', sArrI E anow 365 now', sArrI E aundo 3650 undo'])) ([.ref (aM 0), .int x1] : List Value).toArray s 0 0 A) vwCl E A [sModel E aM anow aaside anames anamesAside atext aspelled acost afewestFrom afirst afresh aways aundo aslots aisSaved 0 M_length M_textSize M_start M_next M_token M_value M_error M_errorAt M_number M_many M_freshMany M_undos, sArrI E anow 365 now, sArrI E aundo 3650 undo] [some (.ref (aM 0)), some (.int x1), none, none] [.int t0_1, .ref (aM 0)] 21 := by
    intro t0_1 hf
    rw [hj_1] at hf
    refine g_iconst F 1 dX10_tick_21 rfl ?_
    obtain ⟨r_2, M_thrown_1, hg_2, hf⟩ := gb2_el hf
    refine g_callV (C := RX10) (T := TX10) (N := 27) (Lr := [sArrI E anow 365 now, sArrI E aundo 3650 undo]) (As := [.int t0_1, .int 1]) (rest := []) F 0 0 2 (ctX10_throwsIf l E aM anow aaside anames anamesAside atext aspelled acost afewestFrom afirst afresh aways aundo aslots aisSaved t0_1 1 0 M_length M_textSize M_start M_next M_token M_value M_error M_errorAt M_number M_many M_freshMany M_undos r_2 M_thrown_1 hg_2) gX10_tick_X10_throwsIf rfl rfl rfl h0X10_throwsIf ⟨Nat.le_of_ble_eq_true rfl, Nat.le_of_ble_eq_true rfl⟩ rfl rfl rfl [0] [1, 2] rfl rfl rfl rfl rfl rfl (Nat.le_of_ble_eq_true rfl) dX10_tick_22 ⟨Nat.le_of_ble_eq_true rfl, Nat.le_of_ble_eq_true rfl⟩ ?_
    rintro v w ⟨rfl, rfl, hz_2⟩
    refine g_norm (Lw' := [sModel E aM anow aaside anames anamesAside atext aspelled acost afewestFrom afirst afresh aways aundo aslots aisSaved M_thrown_1 M_length M_textSize M_start M_next M_token M_value M_error M_errorAt M_number M_many M_freshMany M_undos, sArrI E anow 365 now, sArrI E aundo 3650 undo]) (st' := [.int r_2]) (pc' := 25) [0, 1, 2] rfl rfl rfl rfl ?_
    refine g_ifeq F 30 dX10_tick_25 (by decide) (fun hc_1 => ?_) (fun hc_1 => ?_)
    · replace hf := gi_t hc_1 hf
      refine g_aload_n F dX10_tick_30 rfl ?_
      obtain ⟨M_undos_1, undo_1, hg_3, hf⟩ := gb2_el hf
      refine g_callV (C := RX10) (T := TX10) (N := 27) (Lr := []) (As := []) (rest := []) F 0 0 0 (ctX10_keeps l E aM anow aaside anames anamesAside atext aspelled acost afewestFrom afirst afresh aways aundo aslots aisSaved M_thrown_1 M_length M_textSize M_start M_next M_token M_value M_error M_errorAt M_number M_many M_freshMany M_undos now undo M_undos_1 undo_1 hg_3) gX10_tick_X10_keeps rfl rfl rfl h0X10_keeps ⟨Nat.le_of_ble_eq_true rfl, Nat.le_of_ble_eq_true rfl⟩ rfl rfl rfl [0, 1, 2] [] rfl rfl rfl rfl rfl rfl (Nat.le_of_ble_eq_true rfl) dX10_tick_31 ⟨Nat.le_of_ble_eq_true rfl, Nat.le_of_ble_eq_true rfl⟩ ?_
      rintro v w ⟨rfl, rfl⟩
      refine g_norm (Lw' := [sModel E aM anow aaside anames anamesAside atext aspelled acost afewestFrom afirst afresh aways aundo aslots aisSaved M_thrown_1 M_length M_textSize M_start M_next M_token M_value M_error M_errorAt M_number M_many M_freshMany M_undos_1, sArrI E anow 365 now, sArrI E aundo 3650 undo_1]) (st' := []) (pc' := 34) [0, 1, 2] rfl rfl rfl rfl ?_
      refine g_iconst F 0 dX10_tick_34 rfl ?_
      refine g_istore_n (lv' := [some (.ref (aM 0)), some (.int x1), some (.int 0), none]) F dX10_tick_35 (Nat.le_of_ble_eq_true rfl) rfl rfl ?_
      refine g_iconst F 0 dX10_tick_36 rfl ?_
      refine g_istore_n (lv' := [some (.ref (aM 0)), some (.int x1), some (.int 0), some (.int 0)]) F dX10_tick_37 (Nat.le_of_ble_eq_true rfl) rfl rfl ?_
      refine ktX10_tick_L38 F aM anow aaside anames anamesAside atext aspelled acost afewestFrom afirst afresh aways aundo aslots aisSaved x1 M_thrown_1 M_length M_textSize M_start M_next M_token M_value M_error M_errorAt M_number M_many M_freshMany M_undos_1 undo_1 r M_thrown' M_undos' now' undo' (fun x2_1 now_1 hf => ?_) FU 0 0 now hf
      refine g_iload_n F dX10_tick_56 rfl ?_
      cases hf
      exact g_iret F rfl ⟨rfl, rfl⟩ dX10_tick_57
    · replace hf := gi_f hc_1 hf
      refine g_iconst F 0 dX10_tick_28 rfl ?_
      cases hf
      exact g_iret F rfl ⟨rfl, rfl⟩ dX10_tick_29
  refine g_ifne F 20 dX10_tick_13 (by decide) (fun hc_2 => ?_) (fun hc_2 => ?_)
  · replace hf := gi_f hc_2 hf
    refine g_iconst F 0 dX10_tick_20 rfl ?_
    exact hj_1 0 hf
  · replace hf := gi_t hc_2 hf
    refine g_iconst F 1 dX10_tick_16 rfl ?_
    refine g_goto F 21 dX10_tick_17 (by decide) ?_
    exact hj_1 1 hf
set_option maxHeartbeats 4000000 in
set_option maxRecDepth 100000 in
theorem ctX10_pay (l : Launch) (E : gE) (aM anow aaside anames anamesAside atext aspelled acost afewestFrom afirst afresh aways aundo aslots aisSaved : Nat → Nat) (x1 : Int32) (x2 : Int32) (x3 : Int32) (M_thrown : Int32) (M_length : Int32) (M_textSize : Int32) (M_start : Int32) (M_next : Int32) (M_token : Int32) (M_value : Int32) (M_error : Int32) (M_errorAt : Int32) (M_number : Int32) (M_many : Int32) (M_freshMany : Int32) (M_undos : Int32) (now : (Nat → Int32)) (undo : (Nat → Int32)) (r : Int32) (M_thrown' : Int32) (M_undos' : Int32) (now' : (Nat → Int32)) (undo' : (Nat → Int32)) (hf : fX10_pay x1 x2 x3 M_thrown M_undos now undo = some (r, M_thrown', M_undos', now', undo')) : gMet l yX10_pay wsX10_pay rmX10_pay vwCl E [.ref (aM 0), .int x1, .int x2, .int x3] [sModel E aM anow aaside anames anamesAside atext aspelled acost afewestFrom afirst afresh aways aundo aslots aisSaved M_thrown M_length M_textSize M_start M_next M_token M_value M_error M_errorAt M_number M_many M_freshMany M_undos, sArrI E anow 365 now, sArrI E aundo 3650 undo] (fun v w => v = some (.int r) ∧ w = [sModel E aM anow aaside anames anamesAside atext aspelled acost afewestFrom afirst afresh aways aundo aslots aisSaved M_thrown' M_length M_textSize M_start M_next M_token M_value M_error M_errorAt M_number M_many M_freshMany M_undos', sArrI E anow 365 now', sArrI E aundo 3650 undo']) 0 0 := by
  refine g_entry [some (.ref (aM 0)), some (.int x1), some (.int x2), some (.int x3)] (by decide) rfl (Nat.le_of_ble_eq_true rfl) rfl ?_
  intro p e s m below meth c A F hnm
  unfold fX10_pay at hf
  refine g_aload_n F dX10_pay_0 rfl ?_
  refine g_iload_n F dX10_pay_1 rfl ?_
  obtain ⟨r_1, M_thrown_1, hg_1, hf⟩ := gb2_el hf
  refine g_callV (C := RX10) (T := TX10) (N := 27) (Lr := [sArrI E aundo 3650 undo]) (As := [.int x1]) (rest := []) F 0 0 1 (ctX10_noUser l E aM anow aaside anames anamesAside atext aspelled acost afewestFrom afirst afresh aways aundo aslots aisSaved x1 M_thrown M_length M_textSize M_start M_next M_token M_value M_error M_errorAt M_number M_many M_freshMany M_undos now r_1 M_thrown_1 hg_1) gX10_pay_X10_noUser rfl rfl rfl h0X10_noUser ⟨Nat.le_of_ble_eq_true rfl, Nat.le_of_ble_eq_true rfl⟩ rfl rfl rfl [0, 1] [2] rfl rfl rfl rfl rfl rfl (Nat.le_of_ble_eq_true rfl) dX10_pay_2 ⟨Nat.le_of_ble_eq_true rfl, Nat.le_of_ble_eq_true rfl⟩ ?_
  rintro v w ⟨rfl, rfl, hz_1⟩
  refine g_norm (Lw' := [sModel E aM anow aaside anames anamesAside atext aspelled acost afewestFrom afirst afresh aways aundo aslots aisSaved M_thrown_1 M_length M_textSize M_start M_next M_token M_value M_error M_errorAt M_number M_many M_freshMany M_undos, sArrI E anow 365 now, sArrI E aundo 3650 undo]) (st' := [.int r_1]) (pc' := 5) [0, 1, 2] rfl rfl rfl rfl ?_
  refine g_ifne F 72 dX10_pay_5 (by decide) (fun hc_6 => ?_) (fun hc_6 => ?_)
  · replace hf := gi_f hc_6 hf
    refine g_iconst F 0 dX10_pay_72 rfl ?_
    cases hf
    exact g_iret F rfl ⟨rfl, rfl⟩ dX10_pay_73
  · replace hf := gi_t hc_6 hf
    refine g_aload_n F dX10_pay_8 rfl ?_
    refine g_iload_n F dX10_pay_9 rfl ?_
    refine g_aload_n F dX10_pay_10 rfl ?_
    refine g_get (C := RX10) (T := TX10) (N := 27) F 0 0 1 rfl rfl rfl iX10_pay_X10 (by decide) (by decide +kernel) rfl dX10_pay_11 ?_
    refine g_iconst F 5 dX10_pay_14 rfl ?_
    refine g_iald F 1 0 5 (by decide) rfl rfl (by decide) dX10_pay_15 ?_
    obtain ⟨r_2, M_thrown_2, hg_2, hf⟩ := gb2_el hf
    refine g_callV (C := RX10) (T := TX10) (N := 27) (Lr := [sArrI E anow 365 now, sArrI E aundo 3650 undo]) (As := [.int x2, .int (now 5)]) (rest := []) F 0 0 2 (ctX10_no l E aM anow aaside anames anamesAside atext aspelled acost afewestFrom afirst afresh aways aundo aslots aisSaved x2 (now 5) M_thrown_1 M_length M_textSize M_start M_next M_token M_value M_error M_errorAt M_number M_many M_freshMany M_undos r_2 M_thrown_2 hg_2) gX10_pay_X10_no rfl rfl rfl h0X10_no ⟨Nat.le_of_ble_eq_true rfl, Nat.le_of_ble_eq_true rfl⟩ rfl rfl rfl [0] [1, 2] rfl rfl rfl rfl rfl rfl (Nat.le_of_ble_eq_true rfl) dX10_pay_16 ⟨Nat.le_of_ble_eq_true rfl, Nat.le_of_ble_eq_true rfl⟩ ?_
    rintro v w ⟨rfl, rfl, hz_2⟩
    refine g_norm (Lw' := [sModel E aM anow aaside anames anamesAside atext aspelled acost afewestFrom afirst afresh aways aundo aslots aisSaved M_thrown_2 M_length M_textSize M_start M_next M_token M_value M_error M_errorAt M_number M_many M_freshMany M_undos, sArrI E anow 365 now, sArrI E aundo 3650 undo]) (st' := [.int r_2]) (pc' := 19) [0, 1, 2] rfl rfl rfl rfl ?_
    refine g_ifne F 72 dX10_pay_19 (by decide) (fun hc_5 => ?_) (fun hc_5 => ?_)
    · replace hf := gi_f hc_5 hf
      refine g_iconst F 0 dX10_pay_72 rfl ?_
      cases hf
      exact g_iret F rfl ⟨rfl, rfl⟩ dX10_pay_73
    · replace hf := gi_t hc_5 hf
      refine g_aload_n F dX10_pay_22 rfl ?_
      refine g_iload_n F dX10_pay_23 rfl ?_
      refine g_iconst F 0 dX10_pay_24 rfl ?_
      refine g_sipush F 9999 dX10_pay_25 rfl ?_
      obtain ⟨r_3, hg_3, hf⟩ := gb1_el hf
      refine g_callS (Lr := [sModel E aM anow aaside anames anamesAside atext aspelled acost afewestFrom afirst afresh aways aundo aslots aisSaved M_thrown_2 M_length M_textSize M_start M_next M_token M_value M_error M_errorAt M_number M_many M_freshMany M_undos, sArrI E anow 365 now, sArrI E aundo 3650 undo]) (As := [.int x3, .int 0, .int 9999]) (rest := [.ref (aM 0)]) F 3 (ctX10_within l E x3 0 9999 r_3 hg_3) (va_cwS 3 F.2.2.2.2.2.1 gX10_pay_X10_within rfl rfl rfl h0X10_within ⟨Nat.le_of_ble_eq_true rfl, Nat.le_of_ble_eq_true rfl⟩) [] [0, 1, 2] rfl rfl rfl rfl rfl rfl (Nat.le_of_ble_eq_true rfl) dX10_pay_28 ⟨Nat.le_of_ble_eq_true rfl, Nat.le_of_ble_eq_true rfl⟩ ?_
      rintro v w ⟨rfl, rfl, hz_3⟩
      refine g_norm (Lw' := [sModel E aM anow aaside anames anamesAside atext aspelled acost afewestFrom afirst afresh aways aundo aslots aisSaved M_thrown_2 M_length M_textSize M_start M_next M_token M_value M_error M_errorAt M_number M_many M_freshMany M_undos, sArrI E anow 365 now, sArrI E aundo 3650 undo]) (st' := [.int r_3, .ref (aM 0)]) (pc' := 31) [0, 1, 2] rfl rfl rfl rfl ?_
      obtain ⟨j_1, hj_1, hf⟩ := Lt_el hf
      have hj_1 : ∀ (t0_1 : Int32), j_1 t0_1 = some (r, M_thrown', M_undos', now', undo') → Gj p l e rmX10_pay s m ([.ref (aM 0), .int x1, .int x2, .int x3] : List Value).toArray below meth c 0 0 (MQ below (gQ vwCl E A (fun v w => v = some (.int r) ∧ w = [sModel E aM anow aaside anames anamesAside atext aspelled acost afewestFrom afirst afresh aways aundo aslots aisSaved M_thrown' M_length M_textSize M_start M_next M_token M_value M_error M_errorAt M_number M_many M_freshMany M_undos', sArrI E anow 365 now', sArrI E aundo 3650 undo'])) ([.ref (aM 0), .int x1, .int x2, .int x3] : List Value).toArray s 0 0 A) vwCl E A [sModel E aM anow aaside anames anamesAside atext aspelled acost afewestFrom afirst afresh aways aundo aslots aisSaved M_thrown_2 M_length M_textSize M_start M_next M_token M_value M_error M_errorAt M_number M_many M_freshMany M_undos, sArrI E anow 365 now, sArrI E aundo 3650 undo] [some (.ref (aM 0)), some (.int x1), some (.int x2), some (.int x3)] [.int t0_1, .ref (aM 0)] 39 := by
        intro t0_1 hf
        rw [hj_1] at hf
        refine g_iconst F 2 dX10_pay_39 rfl ?_
        obtain ⟨r_4, M_thrown_3, hg_4, hf⟩ := gb2_el hf
        refine g_callV (C := RX10) (T := TX10) (N := 27) (Lr := [sArrI E anow 365 now, sArrI E aundo 3650 undo]) (As := [.int t0_1, .int 2]) (rest := []) F 0 0 2 (ctX10_throwsIf l E aM anow aaside anames anamesAside atext aspelled acost afewestFrom afirst afresh aways aundo aslots aisSaved t0_1 2 M_thrown_2 M_length M_textSize M_start M_next M_token M_value M_error M_errorAt M_number M_many M_freshMany M_undos r_4 M_thrown_3 hg_4) gX10_pay_X10_throwsIf rfl rfl rfl h0X10_throwsIf ⟨Nat.le_of_ble_eq_true rfl, Nat.le_of_ble_eq_true rfl⟩ rfl rfl rfl [0] [1, 2] rfl rfl rfl rfl rfl rfl (Nat.le_of_ble_eq_true rfl) dX10_pay_40 ⟨Nat.le_of_ble_eq_true rfl, Nat.le_of_ble_eq_true rfl⟩ ?_
        rintro v w ⟨rfl, rfl, hz_4⟩
        refine g_norm (Lw' := [sModel E aM anow aaside anames anamesAside atext aspelled acost afewestFrom afirst afresh aways aundo aslots aisSaved M_thrown_3 M_length M_textSize M_start M_next M_token M_value M_error M_errorAt M_number M_many M_freshMany M_undos, sArrI E anow 365 now, sArrI E aundo 3650 undo]) (st' := [.int r_4]) (pc' := 43) [0, 1, 2] rfl rfl rfl rfl ?_
        refine g_ifne F 72 dX10_pay_43 (by decide) (fun hc_3 => ?_) (fun hc_3 => ?_)
        · replace hf := gi_f hc_3 hf
          refine g_iconst F 0 dX10_pay_72 rfl ?_
          cases hf
          exact g_iret F rfl ⟨rfl, rfl⟩ dX10_pay_73
        · replace hf := gi_t hc_3 hf
          refine g_aload_n F dX10_pay_46 rfl ?_
          refine g_aload_n F dX10_pay_47 rfl ?_
          refine g_get (C := RX10) (T := TX10) (N := 27) F 0 0 1 rfl rfl rfl iX10_pay_X10 (by decide) (by decide +kernel) rfl dX10_pay_48 ?_
          refine g_bipush F 17 dX10_pay_51 rfl ?_
          refine g_iload_n F dX10_pay_53 rfl ?_
          refine g_iadd F dX10_pay_54 ?_
          obtain ⟨hb_1, hf⟩ := gb_in hf
          refine g_iald F 1 0 ((17 + x1).toNatClampNeg) rfl rfl rfl hb_1 dX10_pay_55 ?_
          refine g_iload_n F dX10_pay_56 rfl ?_
          obtain ⟨j_2, hj_2, hf⟩ := Lt_el hf
          have hj_2 : ∀ (t0_2 : Int32), j_2 t0_2 = some (r, M_thrown', M_undos', now', undo') → Gj p l e rmX10_pay s m ([.ref (aM 0), .int x1, .int x2, .int x3] : List Value).toArray below meth c 0 0 (MQ below (gQ vwCl E A (fun v w => v = some (.int r) ∧ w = [sModel E aM anow aaside anames anamesAside atext aspelled acost afewestFrom afirst afresh aways aundo aslots aisSaved M_thrown' M_length M_textSize M_start M_next M_token M_value M_error M_errorAt M_number M_many M_freshMany M_undos', sArrI E anow 365 now', sArrI E aundo 3650 undo'])) ([.ref (aM 0), .int x1, .int x2, .int x3] : List Value).toArray s 0 0 A) vwCl E A [sModel E aM anow aaside anames anamesAside atext aspelled acost afewestFrom afirst afresh aways aundo aslots aisSaved M_thrown_3 M_length M_textSize M_start M_next M_token M_value M_error M_errorAt M_number M_many M_freshMany M_undos, sArrI E anow 365 now, sArrI E aundo 3650 undo] [some (.ref (aM 0)), some (.int x1), some (.int x2), some (.int x3)] [.int t0_2, .ref (aM 0)] 65 := by
            intro t0_2 hf
            rw [hj_2] at hf
            refine g_iconst F 3 dX10_pay_65 rfl ?_
            obtain ⟨r_5, M_thrown_4, hg_5, hf⟩ := gb2_el hf
            refine g_callV (C := RX10) (T := TX10) (N := 27) (Lr := [sArrI E anow 365 now, sArrI E aundo 3650 undo]) (As := [.int t0_2, .int 3]) (rest := []) F 0 0 2 (ctX10_throwsIf l E aM anow aaside anames anamesAside atext aspelled acost afewestFrom afirst afresh aways aundo aslots aisSaved t0_2 3 M_thrown_3 M_length M_textSize M_start M_next M_token M_value M_error M_errorAt M_number M_many M_freshMany M_undos r_5 M_thrown_4 hg_5) gX10_pay_X10_throwsIf rfl rfl rfl h0X10_throwsIf ⟨Nat.le_of_ble_eq_true rfl, Nat.le_of_ble_eq_true rfl⟩ rfl rfl rfl [0] [1, 2] rfl rfl rfl rfl rfl rfl (Nat.le_of_ble_eq_true rfl) dX10_pay_66 ⟨Nat.le_of_ble_eq_true rfl, Nat.le_of_ble_eq_true rfl⟩ ?_
            rintro v w ⟨rfl, rfl, hz_5⟩
            refine g_norm (Lw' := [sModel E aM anow aaside anames anamesAside atext aspelled acost afewestFrom afirst afresh aways aundo aslots aisSaved M_thrown_4 M_length M_textSize M_start M_next M_token M_value M_error M_errorAt M_number M_many M_freshMany M_undos, sArrI E anow 365 now, sArrI E aundo 3650 undo]) (st' := [.int r_5]) (pc' := 69) [0, 1, 2] rfl rfl rfl rfl ?_
            refine g_ifeq F 74 dX10_pay_69 (by decide) (fun hc_1 => ?_) (fun hc_1 => ?_)
            · replace hf := gi_t hc_1 hf
              refine g_aload_n F dX10_pay_74 rfl ?_
              obtain ⟨M_undos_1, undo_1, hg_6, hf⟩ := gb2_el hf
              refine g_callV (C := RX10) (T := TX10) (N := 27) (Lr := []) (As := []) (rest := []) F 0 0 0 (ctX10_keeps l E aM anow aaside anames anamesAside atext aspelled acost afewestFrom afirst afresh aways aundo aslots aisSaved M_thrown_4 M_length M_textSize M_start M_next M_token M_value M_error M_errorAt M_number M_many M_freshMany M_undos now undo M_undos_1 undo_1 hg_6) gX10_pay_X10_keeps rfl rfl rfl h0X10_keeps ⟨Nat.le_of_ble_eq_true rfl, Nat.le_of_ble_eq_true rfl⟩ rfl rfl rfl [0, 1, 2] [] rfl rfl rfl rfl rfl rfl (Nat.le_of_ble_eq_true rfl) dX10_pay_75 ⟨Nat.le_of_ble_eq_true rfl, Nat.le_of_ble_eq_true rfl⟩ ?_
              rintro v w ⟨rfl, rfl⟩
              refine g_norm (Lw' := [sModel E aM anow aaside anames anamesAside atext aspelled acost afewestFrom afirst afresh aways aundo aslots aisSaved M_thrown_4 M_length M_textSize M_start M_next M_token M_value M_error M_errorAt M_number M_many M_freshMany M_undos_1, sArrI E anow 365 now, sArrI E aundo 3650 undo_1]) (st' := []) (pc' := 78) [0, 1, 2] rfl rfl rfl rfl ?_
              refine g_aload_n F dX10_pay_78 rfl ?_
              refine g_get (C := RX10) (T := TX10) (N := 27) F 0 0 1 rfl rfl rfl iX10_pay_X10 (by decide) (by decide +kernel) rfl dX10_pay_79 ?_
              refine g_bipush F 17 dX10_pay_82 rfl ?_
              refine g_iload_n F dX10_pay_84 rfl ?_
              refine g_iadd F dX10_pay_85 ?_
              refine g_dup2 F dX10_pay_86 rfl rfl ?_
              obtain ⟨hb_2, hf⟩ := gb_in hf
              refine g_iald F 1 0 ((17 + x1).toNatClampNeg) rfl rfl rfl hb_2 dX10_pay_87 ?_
              refine g_iload_n F dX10_pay_88 rfl ?_
              refine g_isub F dX10_pay_89 ?_
              obtain ⟨hb_3, hf⟩ := gb_in hf
              obtain ⟨now_1, hnow_1, hf⟩ := Lt_el hf
              refine g_iast (Lw' := [sModel E aM anow aaside anames anamesAside atext aspelled acost afewestFrom afirst afresh aways aundo aslots aisSaved M_thrown_4 M_length M_textSize M_start M_next M_token M_value M_error M_errorAt M_number M_many M_freshMany M_undos_1, sArrI E anow 365 now_1, sArrI E aundo 3650 undo_1]) F 1 0 ((17 + x1).toNatClampNeg) rfl rfl rfl hb_3 dX10_pay_90 (by subst hnow_1; rfl) ?_
              refine g_aload_n F dX10_pay_91 rfl ?_
              refine g_get (C := RX10) (T := TX10) (N := 27) F 0 0 1 rfl rfl rfl iX10_pay_X10 (by decide) (by decide +kernel) rfl dX10_pay_92 ?_
              refine g_bipush F 17 dX10_pay_95 rfl ?_
              refine g_iload_n F dX10_pay_97 rfl ?_
              refine g_iadd F dX10_pay_98 ?_
              refine g_dup2 F dX10_pay_99 rfl rfl ?_
              obtain ⟨hb_4, hf⟩ := gb_in hf
              refine g_iald F 1 0 ((17 + x2).toNatClampNeg) rfl rfl rfl hb_4 dX10_pay_100 ?_
              refine g_iload_n F dX10_pay_101 rfl ?_
              refine g_iadd F dX10_pay_102 ?_
              obtain ⟨hb_5, hf⟩ := gb_in hf
              obtain ⟨now_2, hnow_2, hf⟩ := Lt_el hf
              refine g_iast (Lw' := [sModel E aM anow aaside anames anamesAside atext aspelled acost afewestFrom afirst afresh aways aundo aslots aisSaved M_thrown_4 M_length M_textSize M_start M_next M_token M_value M_error M_errorAt M_number M_many M_freshMany M_undos_1, sArrI E anow 365 now_2, sArrI E aundo 3650 undo_1]) F 1 0 ((17 + x2).toNatClampNeg) rfl rfl rfl hb_5 dX10_pay_103 (by subst hnow_2; rfl) ?_
              refine g_aload_n F dX10_pay_104 rfl ?_
              refine g_get (C := RX10) (T := TX10) (N := 27) F 0 0 1 rfl rfl rfl iX10_pay_X10 (by decide) (by decide +kernel) rfl dX10_pay_105 ?_
              refine g_bipush F 17 dX10_pay_108 rfl ?_
              refine g_iload_n F dX10_pay_110 rfl ?_
              refine g_iadd F dX10_pay_111 ?_
              obtain ⟨hb_6, hf⟩ := gb_in hf
              refine g_iald F 1 0 ((17 + x2).toNatClampNeg) rfl rfl rfl hb_6 dX10_pay_112 ?_
              cases hf
              exact g_iret F rfl ⟨rfl, rfl⟩ dX10_pay_113
            · replace hf := gi_f hc_1 hf
              refine g_iconst F 0 dX10_pay_72 rfl ?_
              cases hf
              exact g_iret F rfl ⟨rfl, rfl⟩ dX10_pay_73
          refine g_icmp_ge F 64 dX10_pay_57 (by decide) (fun hc_2 => ?_) (fun hc_2 => ?_)
          · replace hf := gi_t hc_2 hf
            refine g_iconst F 0 dX10_pay_64 rfl ?_
            exact hj_2 0 hf
          · replace hf := gi_f hc_2 hf
            refine g_iconst F 1 dX10_pay_60 rfl ?_
            refine g_goto F 65 dX10_pay_61 (by decide) ?_
            exact hj_2 1 hf
      refine g_ifne F 38 dX10_pay_31 (by decide) (fun hc_4 => ?_) (fun hc_4 => ?_)
      · replace hf := gi_f hc_4 hf
        refine g_iconst F 0 dX10_pay_38 rfl ?_
        exact hj_1 0 hf
      · replace hf := gi_t hc_4 hf
        refine g_iconst F 1 dX10_pay_34 rfl ?_
        refine g_goto F 39 dX10_pay_35 (by decide) ?_
        exact hj_1 1 hf
set_option maxHeartbeats 4000000 in
set_option maxRecDepth 100000 in
theorem ctX10_undo (l : Launch) (E : gE) (aM anow aaside anames anamesAside atext aspelled acost afewestFrom afirst afresh aways aundo aslots aisSaved : Nat → Nat) (M_thrown : Int32) (M_length : Int32) (M_textSize : Int32) (M_start : Int32) (M_next : Int32) (M_token : Int32) (M_value : Int32) (M_error : Int32) (M_errorAt : Int32) (M_number : Int32) (M_many : Int32) (M_freshMany : Int32) (M_undos : Int32) (now : (Nat → Int32)) (undo : (Nat → Int32)) (r : Int32) (M_thrown' : Int32) (M_undos' : Int32) (now' : (Nat → Int32)) (hf : fX10_undo M_thrown M_undos now undo = some (r, M_thrown', M_undos', now')) : gMet l yX10_undo wsX10_undo rmX10_undo vwCl E [.ref (aM 0)] [sModel E aM anow aaside anames anamesAside atext aspelled acost afewestFrom afirst afresh aways aundo aslots aisSaved M_thrown M_length M_textSize M_start M_next M_token M_value M_error M_errorAt M_number M_many M_freshMany M_undos, sArrI E anow 365 now, sArrI E aundo 3650 undo] (fun v w => v = some (.int r) ∧ w = [sModel E aM anow aaside anames anamesAside atext aspelled acost afewestFrom afirst afresh aways aundo aslots aisSaved M_thrown' M_length M_textSize M_start M_next M_token M_value M_error M_errorAt M_number M_many M_freshMany M_undos', sArrI E anow 365 now', sArrI E aundo 3650 undo]) 0 0 := by
  refine g_entry [some (.ref (aM 0))] (by decide) rfl (Nat.le_of_ble_eq_true rfl) rfl ?_
  intro p e s m below meth c A F hnm
  unfold fX10_undo at hf
  refine g_aload_n F dX10_undo_0 rfl ?_
  refine g_iconst F 0 dX10_undo_1 rfl ?_
  refine g_put (C := RX10) (T := TX10) (N := 27) (tys := tyX10) (Lw' := [sModel E aM anow aaside anames anamesAside atext aspelled acost afewestFrom afirst afresh aways aundo aslots aisSaved 0 M_length M_textSize M_start M_next M_token M_value M_error M_errorAt M_number M_many M_freshMany M_undos, sArrI E anow 365 now, sArrI E aundo 3650 undo]) F 0 0 0 rfl rfl rfl iX10_undo_X10 tyX10_ok nmX10 (by decide) (by decide +kernel) rfl rfl rfl rfl (Nat.le_of_ble_eq_true rfl) dX10_undo_2 rfl ?_
  refine g_aload_n F dX10_undo_5 rfl ?_
  refine g_get (C := RX10) (T := TX10) (N := 27) F 0 0 23 rfl rfl rfl iX10_undo_X10 (by decide) (by decide +kernel) rfl dX10_undo_6 ?_
  refine g_ifne F 14 dX10_undo_9 (by decide) (fun hc_1 => ?_) (fun hc_1 => ?_)
  · replace hf := gi_f hc_1 hf
    refine g_aload_n F dX10_undo_14 rfl ?_
    refine g_dup F dX10_undo_15 rfl ?_
    refine g_get (C := RX10) (T := TX10) (N := 27) F 0 0 23 rfl rfl rfl iX10_undo_X10 (by decide) (by decide +kernel) rfl dX10_undo_16 ?_
    refine g_iconst F 1 dX10_undo_19 rfl ?_
    refine g_isub F dX10_undo_20 ?_
    refine g_put (C := RX10) (T := TX10) (N := 27) (tys := tyX10) (Lw' := [sModel E aM anow aaside anames anamesAside atext aspelled acost afewestFrom afirst afresh aways aundo aslots aisSaved 0 M_length M_textSize M_start M_next M_token M_value M_error M_errorAt M_number M_many M_freshMany (M_undos - 1), sArrI E anow 365 now, sArrI E aundo 3650 undo]) F 0 0 23 rfl rfl rfl iX10_undo_X10 tyX10_ok nmX10 (by decide) (by decide +kernel) rfl rfl rfl rfl (Nat.le_of_ble_eq_true rfl) dX10_undo_21 rfl ?_
    refine g_aload_n F dX10_undo_24 rfl ?_
    refine g_get (C := RX10) (T := TX10) (N := 27) F 0 0 24 rfl rfl rfl iX10_undo_X10 (by decide) (by decide +kernel) rfl dX10_undo_25 ?_
    refine g_sipush F 365 dX10_undo_28 rfl ?_
    refine g_aload_n F dX10_undo_31 rfl ?_
    refine g_get (C := RX10) (T := TX10) (N := 27) F 0 0 23 rfl rfl rfl iX10_undo_X10 (by decide) (by decide +kernel) rfl dX10_undo_32 ?_
    refine g_imul F dX10_undo_35 ?_
    refine g_aload_n F dX10_undo_36 rfl ?_
    refine g_get (C := RX10) (T := TX10) (N := 27) F 0 0 1 rfl rfl rfl iX10_undo_X10 (by decide) (by decide +kernel) rfl dX10_undo_37 ?_
    refine g_iconst F 0 dX10_undo_40 rfl ?_
    obtain ⟨now_1, hg_1, hf⟩ := gb1_el hf
    refine g_callS (Lr := [sModel E aM anow aaside anames anamesAside atext aspelled acost afewestFrom afirst afresh aways aundo aslots aisSaved 0 M_length M_textSize M_start M_next M_token M_value M_error M_errorAt M_number M_many M_freshMany (M_undos - 1)]) (As := [.ref (aundo 0), .int (365 * (M_undos - 1)), .ref (anow 0), .int 0]) (rest := []) F 4 (ctX10_copies l E aundo anow 3650 365 (365 * (M_undos - 1)) 0 undo now now_1 hg_1) (va_cwS 4 F.2.2.2.2.2.1 gX10_undo_X10_copies rfl rfl rfl h0X10_copies ⟨Nat.le_of_ble_eq_true rfl, Nat.le_of_ble_eq_true rfl⟩) [2, 1] [0] rfl rfl rfl rfl rfl rfl (Nat.le_of_ble_eq_true rfl) dX10_undo_41 ⟨Nat.le_of_ble_eq_true rfl, Nat.le_of_ble_eq_true rfl⟩ ?_
    rintro v w ⟨rfl, rfl⟩
    refine g_norm (Lw' := [sModel E aM anow aaside anames anamesAside atext aspelled acost afewestFrom afirst afresh aways aundo aslots aisSaved 0 M_length M_textSize M_start M_next M_token M_value M_error M_errorAt M_number M_many M_freshMany (M_undos - 1), sArrI E anow 365 now_1, sArrI E aundo 3650 undo]) (st' := []) (pc' := 44) [2, 1, 0] rfl rfl rfl rfl ?_
    refine g_aload_n F dX10_undo_44 rfl ?_
    refine g_get (C := RX10) (T := TX10) (N := 27) F 0 0 23 rfl rfl rfl iX10_undo_X10 (by decide) (by decide +kernel) rfl dX10_undo_45 ?_
    cases hf
    exact g_iret F rfl ⟨rfl, rfl⟩ dX10_undo_48
  · replace hf := gi_t hc_1 hf
    refine g_iconst F (-1) dX10_undo_12 rfl ?_
    cases hf
    exact g_iret F rfl ⟨rfl, rfl⟩ dX10_undo_13
set_option maxHeartbeats 4000000 in
set_option maxRecDepth 100000 in
theorem ctX10_noSlot (l : Launch) (E : gE) (aM anow aaside anames anamesAside atext aspelled acost afewestFrom afirst afresh aways aundo aslots aisSaved : Nat → Nat) (x1 : Int32) (M_thrown : Int32) (M_length : Int32) (M_textSize : Int32) (M_start : Int32) (M_next : Int32) (M_token : Int32) (M_value : Int32) (M_error : Int32) (M_errorAt : Int32) (M_number : Int32) (M_many : Int32) (M_freshMany : Int32) (M_undos : Int32) (r : Int32) (M_thrown' : Int32) (hf : fX10_noSlot x1 M_thrown = some (r, M_thrown')) : gMet l yX10_noSlot wsX10_noSlot rmX10_noSlot vwCl E [.ref (aM 0), .int x1] [sModel E aM anow aaside anames anamesAside atext aspelled acost afewestFrom afirst afresh aways aundo aslots aisSaved M_thrown M_length M_textSize M_start M_next M_token M_value M_error M_errorAt M_number M_many M_freshMany M_undos] (fun v w => v = some (.int r) ∧ w = [sModel E aM anow aaside anames anamesAside atext aspelled acost afewestFrom afirst afresh aways aundo aslots aisSaved M_thrown' M_length M_textSize M_start M_next M_token M_value M_error M_errorAt M_number M_many M_freshMany M_undos] ∧ narrow .boolean (.int r) = .int r) 0 0 := by
  refine g_entry [some (.ref (aM 0)), some (.int x1)] (by decide) rfl (Nat.le_of_ble_eq_true rfl) rfl ?_
  intro p e s m below meth c A F hnm
  unfold fX10_noSlot at hf
  refine g_aload_n F dX10_noSlot_0 rfl ?_
  refine g_iconst F 0 dX10_noSlot_1 rfl ?_
  refine g_put (C := RX10) (T := TX10) (N := 27) (tys := tyX10) (Lw' := [sModel E aM anow aaside anames anamesAside atext aspelled acost afewestFrom afirst afresh aways aundo aslots aisSaved 0 M_length M_textSize M_start M_next M_token M_value M_error M_errorAt M_number M_many M_freshMany M_undos]) F 0 0 0 rfl rfl rfl iX10_noSlot_X10 tyX10_ok nmX10 (by decide) (by decide +kernel) rfl rfl rfl rfl (Nat.le_of_ble_eq_true rfl) dX10_noSlot_2 rfl ?_
  refine g_aload_n F dX10_noSlot_5 rfl ?_
  refine g_iload_n F dX10_noSlot_6 rfl ?_
  refine g_iconst F 2 dX10_noSlot_7 rfl ?_
  obtain ⟨r_1, M_thrown_1, hg_1, hf⟩ := gb2_el hf
  refine g_callV (C := RX10) (T := TX10) (N := 27) (Lr := []) (As := [.int x1, .int 2]) (rest := []) F 0 0 2 (ctX10_no l E aM anow aaside anames anamesAside atext aspelled acost afewestFrom afirst afresh aways aundo aslots aisSaved x1 2 0 M_length M_textSize M_start M_next M_token M_value M_error M_errorAt M_number M_many M_freshMany M_undos r_1 M_thrown_1 hg_1) gX10_noSlot_X10_no rfl rfl rfl h0X10_no ⟨Nat.le_of_ble_eq_true rfl, Nat.le_of_ble_eq_true rfl⟩ rfl rfl rfl [0] [] rfl rfl rfl rfl rfl rfl (Nat.le_of_ble_eq_true rfl) dX10_noSlot_8 ⟨Nat.le_of_ble_eq_true rfl, Nat.le_of_ble_eq_true rfl⟩ ?_
  rintro v w ⟨rfl, rfl, hz_1⟩
  refine g_norm (Lw' := [sModel E aM anow aaside anames anamesAside atext aspelled acost afewestFrom afirst afresh aways aundo aslots aisSaved M_thrown_1 M_length M_textSize M_start M_next M_token M_value M_error M_errorAt M_number M_many M_freshMany M_undos]) (st' := [.int r_1]) (pc' := 11) [0] rfl rfl rfl rfl ?_
  cases hf
  exact g_zret (ty := .boolean) F rfl hz_1 ⟨rfl, rfl, hz_1⟩ dX10_noSlot_11
set_option maxHeartbeats 4000000 in
set_option maxRecDepth 100000 in
theorem ctX10_saveSnapshot (l : Launch) (E : gE) (aM anow aaside anames anamesAside atext aspelled acost afewestFrom afirst afresh aways aundo aslots aisSaved : Nat → Nat) (x1 : Int32) (M_thrown : Int32) (M_length : Int32) (M_textSize : Int32) (M_start : Int32) (M_next : Int32) (M_token : Int32) (M_value : Int32) (M_error : Int32) (M_errorAt : Int32) (M_number : Int32) (M_many : Int32) (M_freshMany : Int32) (M_undos : Int32) (now : (Nat → Int32)) (slots : (Nat → Int32)) (isSaved : (Nat → Int32)) (r : Int32) (M_thrown' : Int32) (slots' : (Nat → Int32)) (isSaved' : (Nat → Int32)) (hf : fX10_saveSnapshot x1 M_thrown now slots isSaved = some (r, M_thrown', slots', isSaved')) : gMet l yX10_saveSnapshot wsX10_saveSnapshot rmX10_saveSnapshot vwCl E [.ref (aM 0), .int x1] [sModel E aM anow aaside anames anamesAside atext aspelled acost afewestFrom afirst afresh aways aundo aslots aisSaved M_thrown M_length M_textSize M_start M_next M_token M_value M_error M_errorAt M_number M_many M_freshMany M_undos, sArrI E anow 365 now, sArrI E aslots 730 slots, sArrZ E aisSaved 2 isSaved] (fun v w => v = some (.int r) ∧ w = [sModel E aM anow aaside anames anamesAside atext aspelled acost afewestFrom afirst afresh aways aundo aslots aisSaved M_thrown' M_length M_textSize M_start M_next M_token M_value M_error M_errorAt M_number M_many M_freshMany M_undos, sArrI E anow 365 now, sArrI E aslots 730 slots', sArrZ E aisSaved 2 isSaved'] ∧ narrow .boolean (.int r) = .int r) 0 0 := by
  refine g_entry [some (.ref (aM 0)), some (.int x1), none] (by decide) rfl (Nat.le_of_ble_eq_true rfl) rfl ?_
  intro p e s m below meth c A F hnm
  unfold fX10_saveSnapshot at hf
  refine g_aload_n F dX10_saveSnapshot_0 rfl ?_
  refine g_iload_n F dX10_saveSnapshot_1 rfl ?_
  obtain ⟨r_1, M_thrown_1, hg_1, hf⟩ := gb2_el hf
  refine g_callV (C := RX10) (T := TX10) (N := 27) (Lr := [sArrI E anow 365 now, sArrI E aslots 730 slots, sArrZ E aisSaved 2 isSaved]) (As := [.int x1]) (rest := []) F 0 0 1 (ctX10_noSlot l E aM anow aaside anames anamesAside atext aspelled acost afewestFrom afirst afresh aways aundo aslots aisSaved x1 M_thrown M_length M_textSize M_start M_next M_token M_value M_error M_errorAt M_number M_many M_freshMany M_undos r_1 M_thrown_1 hg_1) gX10_saveSnapshot_X10_noSlot rfl rfl rfl h0X10_noSlot ⟨Nat.le_of_ble_eq_true rfl, Nat.le_of_ble_eq_true rfl⟩ rfl rfl rfl [0] [1, 2, 3] rfl rfl rfl rfl rfl rfl (Nat.le_of_ble_eq_true rfl) dX10_saveSnapshot_2 ⟨Nat.le_of_ble_eq_true rfl, Nat.le_of_ble_eq_true rfl⟩ ?_
  rintro v w ⟨rfl, rfl, hz_1⟩
  refine g_norm (Lw' := [sModel E aM anow aaside anames anamesAside atext aspelled acost afewestFrom afirst afresh aways aundo aslots aisSaved M_thrown_1 M_length M_textSize M_start M_next M_token M_value M_error M_errorAt M_number M_many M_freshMany M_undos, sArrI E anow 365 now, sArrI E aslots 730 slots, sArrZ E aisSaved 2 isSaved]) (st' := [.int r_1]) (pc' := 5) [0, 1, 2, 3] rfl rfl rfl rfl ?_
  refine g_ifeq F 10 dX10_saveSnapshot_5 (by decide) (fun hc_1 => ?_) (fun hc_1 => ?_)
  · replace hf := gi_t hc_1 hf
    refine g_aload_n F dX10_saveSnapshot_10 rfl ?_
    refine g_get (C := RX10) (T := TX10) (N := 27) F 0 0 26 rfl rfl rfl iX10_saveSnapshot_X10 (by decide) (by decide +kernel) rfl dX10_saveSnapshot_11 ?_
    refine g_iload_n F dX10_saveSnapshot_14 rfl ?_
    obtain ⟨hb_1, hf⟩ := gb_in hf
    refine g_zald F 3 0 (x1.toNatClampNeg) rfl rfl rfl hb_1 dX10_saveSnapshot_15 ?_
    refine g_istore_n (lv' := [some (.ref (aM 0)), some (.int x1), some (.int (isSaved (x1.toNatClampNeg)))]) F dX10_saveSnapshot_16 (Nat.le_of_ble_eq_true rfl) rfl rfl ?_
    refine g_aload_n F dX10_saveSnapshot_17 rfl ?_
    refine g_get (C := RX10) (T := TX10) (N := 27) F 0 0 1 rfl rfl rfl iX10_saveSnapshot_X10 (by decide) (by decide +kernel) rfl dX10_saveSnapshot_18 ?_
    refine g_iconst F 0 dX10_saveSnapshot_21 rfl ?_
    refine g_aload_n F dX10_saveSnapshot_22 rfl ?_
    refine g_get (C := RX10) (T := TX10) (N := 27) F 0 0 25 rfl rfl rfl iX10_saveSnapshot_X10 (by decide) (by decide +kernel) rfl dX10_saveSnapshot_23 ?_
    refine g_sipush F 365 dX10_saveSnapshot_26 rfl ?_
    refine g_iload_n F dX10_saveSnapshot_29 rfl ?_
    refine g_imul F dX10_saveSnapshot_30 ?_
    obtain ⟨slots_1, hg_2, hf⟩ := gb1_el hf
    refine g_callS (Lr := [sModel E aM anow aaside anames anamesAside atext aspelled acost afewestFrom afirst afresh aways aundo aslots aisSaved M_thrown_1 M_length M_textSize M_start M_next M_token M_value M_error M_errorAt M_number M_many M_freshMany M_undos, sArrZ E aisSaved 2 isSaved]) (As := [.ref (anow 0), .int 0, .ref (aslots 0), .int (365 * x1)]) (rest := []) F 4 (ctX10_copies l E anow aslots 365 730 0 (365 * x1) now slots slots_1 hg_2) (va_cwS 4 F.2.2.2.2.2.1 gX10_saveSnapshot_X10_copies rfl rfl rfl h0X10_copies ⟨Nat.le_of_ble_eq_true rfl, Nat.le_of_ble_eq_true rfl⟩) [1, 2] [0, 3] rfl rfl rfl rfl rfl rfl (Nat.le_of_ble_eq_true rfl) dX10_saveSnapshot_31 ⟨Nat.le_of_ble_eq_true rfl, Nat.le_of_ble_eq_true rfl⟩ ?_
    rintro v w ⟨rfl, rfl⟩
    refine g_norm (Lw' := [sModel E aM anow aaside anames anamesAside atext aspelled acost afewestFrom afirst afresh aways aundo aslots aisSaved M_thrown_1 M_length M_textSize M_start M_next M_token M_value M_error M_errorAt M_number M_many M_freshMany M_undos, sArrI E anow 365 now, sArrI E aslots 730 slots_1, sArrZ E aisSaved 2 isSaved]) (st' := []) (pc' := 34) [2, 0, 1, 3] rfl rfl rfl rfl ?_
    refine g_aload_n F dX10_saveSnapshot_34 rfl ?_
    refine g_get (C := RX10) (T := TX10) (N := 27) F 0 0 26 rfl rfl rfl iX10_saveSnapshot_X10 (by decide) (by decide +kernel) rfl dX10_saveSnapshot_35 ?_
    refine g_iload_n F dX10_saveSnapshot_38 rfl ?_
    refine g_iconst F 1 dX10_saveSnapshot_39 rfl ?_
    obtain ⟨hb_2, hf⟩ := gb_in hf
    obtain ⟨isSaved_1, hisSaved_1, hf⟩ := Lt_el hf
    refine g_zast (Lw' := [sModel E aM anow aaside anames anamesAside atext aspelled acost afewestFrom afirst afresh aways aundo aslots aisSaved M_thrown_1 M_length M_textSize M_start M_next M_token M_value M_error M_errorAt M_number M_many M_freshMany M_undos, sArrI E anow 365 now, sArrI E aslots 730 slots_1, sArrZ E aisSaved 2 isSaved_1]) F 3 0 (x1.toNatClampNeg) rfl rfl rfl hb_2 dX10_saveSnapshot_40 (by subst hisSaved_1; rfl) ?_
    refine g_iload_n F dX10_saveSnapshot_41 rfl ?_
    obtain ⟨hz_2, hf⟩ := gb_if hf
    cases hf
    exact g_zret (ty := .boolean) F rfl (congrArg Value.int hz_2) ⟨rfl, rfl, (congrArg Value.int hz_2)⟩ dX10_saveSnapshot_42
  · replace hf := gi_f hc_1 hf
    refine g_iconst F 0 dX10_saveSnapshot_8 rfl ?_
    cases hf
    exact g_zret (ty := .boolean) F rfl rfl ⟨rfl, rfl, rfl⟩ dX10_saveSnapshot_9
set_option maxHeartbeats 4000000 in
set_option maxRecDepth 100000 in
theorem ctX10_restoreSnapshot (l : Launch) (E : gE) (aM anow aaside anames anamesAside atext aspelled acost afewestFrom afirst afresh aways aundo aslots aisSaved : Nat → Nat) (x1 : Int32) (M_thrown : Int32) (M_length : Int32) (M_textSize : Int32) (M_start : Int32) (M_next : Int32) (M_token : Int32) (M_value : Int32) (M_error : Int32) (M_errorAt : Int32) (M_number : Int32) (M_many : Int32) (M_freshMany : Int32) (M_undos : Int32) (now : (Nat → Int32)) (slots : (Nat → Int32)) (isSaved : (Nat → Int32)) (r : Int32) (M_thrown' : Int32) (M_undos' : Int32) (now' : (Nat → Int32)) (hf : fX10_restoreSnapshot x1 M_thrown M_undos now slots isSaved = some (r, M_thrown', M_undos', now')) : gMet l yX10_restoreSnapshot wsX10_restoreSnapshot rmX10_restoreSnapshot vwCl E [.ref (aM 0), .int x1] [sModel E aM anow aaside anames anamesAside atext aspelled acost afewestFrom afirst afresh aways aundo aslots aisSaved M_thrown M_length M_textSize M_start M_next M_token M_value M_error M_errorAt M_number M_many M_freshMany M_undos, sArrI E anow 365 now, sArrI E aslots 730 slots, sArrZ E aisSaved 2 isSaved] (fun v w => v = some (.int r) ∧ w = [sModel E aM anow aaside anames anamesAside atext aspelled acost afewestFrom afirst afresh aways aundo aslots aisSaved M_thrown' M_length M_textSize M_start M_next M_token M_value M_error M_errorAt M_number M_many M_freshMany M_undos', sArrI E anow 365 now', sArrI E aslots 730 slots, sArrZ E aisSaved 2 isSaved]) 0 0 := by
  refine g_entry [some (.ref (aM 0)), some (.int x1)] (by decide) rfl (Nat.le_of_ble_eq_true rfl) rfl ?_
  intro p e s m below meth c A F hnm
  unfold fX10_restoreSnapshot at hf
  refine g_aload_n F dX10_restoreSnapshot_0 rfl ?_
  refine g_iload_n F dX10_restoreSnapshot_1 rfl ?_
  obtain ⟨r_1, M_thrown_1, hg_1, hf⟩ := gb2_el hf
  refine g_callV (C := RX10) (T := TX10) (N := 27) (Lr := [sArrI E anow 365 now, sArrI E aslots 730 slots, sArrZ E aisSaved 2 isSaved]) (As := [.int x1]) (rest := []) F 0 0 1 (ctX10_noSlot l E aM anow aaside anames anamesAside atext aspelled acost afewestFrom afirst afresh aways aundo aslots aisSaved x1 M_thrown M_length M_textSize M_start M_next M_token M_value M_error M_errorAt M_number M_many M_freshMany M_undos r_1 M_thrown_1 hg_1) gX10_restoreSnapshot_X10_noSlot rfl rfl rfl h0X10_noSlot ⟨Nat.le_of_ble_eq_true rfl, Nat.le_of_ble_eq_true rfl⟩ rfl rfl rfl [0] [1, 2, 3] rfl rfl rfl rfl rfl rfl (Nat.le_of_ble_eq_true rfl) dX10_restoreSnapshot_2 ⟨Nat.le_of_ble_eq_true rfl, Nat.le_of_ble_eq_true rfl⟩ ?_
  rintro v w ⟨rfl, rfl, hz_1⟩
  refine g_norm (Lw' := [sModel E aM anow aaside anames anamesAside atext aspelled acost afewestFrom afirst afresh aways aundo aslots aisSaved M_thrown_1 M_length M_textSize M_start M_next M_token M_value M_error M_errorAt M_number M_many M_freshMany M_undos, sArrI E anow 365 now, sArrI E aslots 730 slots, sArrZ E aisSaved 2 isSaved]) (st' := [.int r_1]) (pc' := 5) [0, 1, 2, 3] rfl rfl rfl rfl ?_
  refine g_ifne F 30 dX10_restoreSnapshot_5 (by decide) (fun hc_3 => ?_) (fun hc_3 => ?_)
  · replace hf := gi_f hc_3 hf
    refine g_iconst F 0 dX10_restoreSnapshot_30 rfl ?_
    cases hf
    exact g_iret F rfl ⟨rfl, rfl⟩ dX10_restoreSnapshot_31
  · replace hf := gi_t hc_3 hf
    refine g_aload_n F dX10_restoreSnapshot_8 rfl ?_
    refine g_aload_n F dX10_restoreSnapshot_9 rfl ?_
    refine g_get (C := RX10) (T := TX10) (N := 27) F 0 0 26 rfl rfl rfl iX10_restoreSnapshot_X10 (by decide) (by decide +kernel) rfl dX10_restoreSnapshot_10 ?_
    refine g_iload_n F dX10_restoreSnapshot_13 rfl ?_
    obtain ⟨hb_1, hf⟩ := gb_in hf
    refine g_zald F 3 0 (x1.toNatClampNeg) rfl rfl rfl hb_1 dX10_restoreSnapshot_14 ?_
    obtain ⟨j_1, hj_1, hf⟩ := Lt_el hf
    have hj_1 : ∀ (t0_1 : Int32), j_1 t0_1 = some (r, M_thrown', M_undos', now') → Gj p l e rmX10_restoreSnapshot s m ([.ref (aM 0), .int x1] : List Value).toArray below meth c 0 0 (MQ below (gQ vwCl E A (fun v w => v = some (.int r) ∧ w = [sModel E aM anow aaside anames anamesAside atext aspelled acost afewestFrom afirst afresh aways aundo aslots aisSaved M_thrown' M_length M_textSize M_start M_next M_token M_value M_error M_errorAt M_number M_many M_freshMany M_undos', sArrI E anow 365 now', sArrI E aslots 730 slots, sArrZ E aisSaved 2 isSaved])) ([.ref (aM 0), .int x1] : List Value).toArray s 0 0 A) vwCl E A [sModel E aM anow aaside anames anamesAside atext aspelled acost afewestFrom afirst afresh aways aundo aslots aisSaved M_thrown_1 M_length M_textSize M_start M_next M_token M_value M_error M_errorAt M_number M_many M_freshMany M_undos, sArrI E anow 365 now, sArrI E aslots 730 slots, sArrZ E aisSaved 2 isSaved] [some (.ref (aM 0)), some (.int x1)] [.int t0_1, .ref (aM 0)] 23 := by
      intro t0_1 hf
      rw [hj_1] at hf
      refine g_iconst F 2 dX10_restoreSnapshot_23 rfl ?_
      obtain ⟨r_2, M_thrown_2, hg_2, hf⟩ := gb2_el hf
      refine g_callV (C := RX10) (T := TX10) (N := 27) (Lr := [sArrI E anow 365 now, sArrI E aslots 730 slots, sArrZ E aisSaved 2 isSaved]) (As := [.int t0_1, .int 2]) (rest := []) F 0 0 2 (ctX10_throwsIf l E aM anow aaside anames anamesAside atext aspelled acost afewestFrom afirst afresh aways aundo aslots aisSaved t0_1 2 M_thrown_1 M_length M_textSize M_start M_next M_token M_value M_error M_errorAt M_number M_many M_freshMany M_undos r_2 M_thrown_2 hg_2) gX10_restoreSnapshot_X10_throwsIf rfl rfl rfl h0X10_throwsIf ⟨Nat.le_of_ble_eq_true rfl, Nat.le_of_ble_eq_true rfl⟩ rfl rfl rfl [0] [1, 2, 3] rfl rfl rfl rfl rfl rfl (Nat.le_of_ble_eq_true rfl) dX10_restoreSnapshot_24 ⟨Nat.le_of_ble_eq_true rfl, Nat.le_of_ble_eq_true rfl⟩ ?_
      rintro v w ⟨rfl, rfl, hz_2⟩
      refine g_norm (Lw' := [sModel E aM anow aaside anames anamesAside atext aspelled acost afewestFrom afirst afresh aways aundo aslots aisSaved M_thrown_2 M_length M_textSize M_start M_next M_token M_value M_error M_errorAt M_number M_many M_freshMany M_undos, sArrI E anow 365 now, sArrI E aslots 730 slots, sArrZ E aisSaved 2 isSaved]) (st' := [.int r_2]) (pc' := 27) [0, 1, 2, 3] rfl rfl rfl rfl ?_
      refine g_ifeq F 32 dX10_restoreSnapshot_27 (by decide) (fun hc_1 => ?_) (fun hc_1 => ?_)
      · replace hf := gi_t hc_1 hf
        refine g_aload_n F dX10_restoreSnapshot_32 rfl ?_
        refine g_get (C := RX10) (T := TX10) (N := 27) F 0 0 25 rfl rfl rfl iX10_restoreSnapshot_X10 (by decide) (by decide +kernel) rfl dX10_restoreSnapshot_33 ?_
        refine g_sipush F 365 dX10_restoreSnapshot_36 rfl ?_
        refine g_iload_n F dX10_restoreSnapshot_39 rfl ?_
        refine g_imul F dX10_restoreSnapshot_40 ?_
        refine g_aload_n F dX10_restoreSnapshot_41 rfl ?_
        refine g_get (C := RX10) (T := TX10) (N := 27) F 0 0 1 rfl rfl rfl iX10_restoreSnapshot_X10 (by decide) (by decide +kernel) rfl dX10_restoreSnapshot_42 ?_
        refine g_iconst F 0 dX10_restoreSnapshot_45 rfl ?_
        obtain ⟨now_1, hg_3, hf⟩ := gb1_el hf
        refine g_callS (Lr := [sModel E aM anow aaside anames anamesAside atext aspelled acost afewestFrom afirst afresh aways aundo aslots aisSaved M_thrown_2 M_length M_textSize M_start M_next M_token M_value M_error M_errorAt M_number M_many M_freshMany M_undos, sArrZ E aisSaved 2 isSaved]) (As := [.ref (aslots 0), .int (365 * x1), .ref (anow 0), .int 0]) (rest := []) F 4 (ctX10_copies l E aslots anow 730 365 (365 * x1) 0 slots now now_1 hg_3) (va_cwS 4 F.2.2.2.2.2.1 gX10_restoreSnapshot_X10_copies rfl rfl rfl h0X10_copies ⟨Nat.le_of_ble_eq_true rfl, Nat.le_of_ble_eq_true rfl⟩) [2, 1] [0, 3] rfl rfl rfl rfl rfl rfl (Nat.le_of_ble_eq_true rfl) dX10_restoreSnapshot_46 ⟨Nat.le_of_ble_eq_true rfl, Nat.le_of_ble_eq_true rfl⟩ ?_
        rintro v w ⟨rfl, rfl⟩
        refine g_norm (Lw' := [sModel E aM anow aaside anames anamesAside atext aspelled acost afewestFrom afirst afresh aways aundo aslots aisSaved M_thrown_2 M_length M_textSize M_start M_next M_token M_value M_error M_errorAt M_number M_many M_freshMany M_undos, sArrI E anow 365 now_1, sArrI E aslots 730 slots, sArrZ E aisSaved 2 isSaved]) (st' := []) (pc' := 49) [2, 1, 0, 3] rfl rfl rfl rfl ?_
        refine g_aload_n F dX10_restoreSnapshot_49 rfl ?_
        refine g_iconst F 0 dX10_restoreSnapshot_50 rfl ?_
        refine g_put (C := RX10) (T := TX10) (N := 27) (tys := tyX10) (Lw' := [sModel E aM anow aaside anames anamesAside atext aspelled acost afewestFrom afirst afresh aways aundo aslots aisSaved M_thrown_2 M_length M_textSize M_start M_next M_token M_value M_error M_errorAt M_number M_many M_freshMany 0, sArrI E anow 365 now_1, sArrI E aslots 730 slots, sArrZ E aisSaved 2 isSaved]) F 0 0 23 rfl rfl rfl iX10_restoreSnapshot_X10 tyX10_ok nmX10 (by decide) (by decide +kernel) rfl rfl rfl rfl (Nat.le_of_ble_eq_true rfl) dX10_restoreSnapshot_51 rfl ?_
        refine g_aload_n F dX10_restoreSnapshot_54 rfl ?_
        refine g_get (C := RX10) (T := TX10) (N := 27) F 0 0 1 rfl rfl rfl iX10_restoreSnapshot_X10 (by decide) (by decide +kernel) rfl dX10_restoreSnapshot_55 ?_
        refine g_bipush F 10 dX10_restoreSnapshot_58 rfl ?_
        refine g_iald F 1 0 10 (by decide) rfl rfl (by decide) dX10_restoreSnapshot_60 ?_
        cases hf
        exact g_iret F rfl ⟨rfl, rfl⟩ dX10_restoreSnapshot_61
      · replace hf := gi_f hc_1 hf
        refine g_iconst F 0 dX10_restoreSnapshot_30 rfl ?_
        cases hf
        exact g_iret F rfl ⟨rfl, rfl⟩ dX10_restoreSnapshot_31
    refine g_ifne F 22 dX10_restoreSnapshot_15 (by decide) (fun hc_2 => ?_) (fun hc_2 => ?_)
    · replace hf := gi_f hc_2 hf
      refine g_iconst F 0 dX10_restoreSnapshot_22 rfl ?_
      exact hj_1 0 hf
    · replace hf := gi_t hc_2 hf
      refine g_iconst F 1 dX10_restoreSnapshot_18 rfl ?_
      refine g_goto F 23 dX10_restoreSnapshot_19 (by decide) ?_
      exact hj_1 1 hf
