set_option maxRecDepth 20000
abbrev rmL_draw : Room := { frames := 0, cells := 0, slots := 0, locals := 0 }
theorem h0L_draw : yL_draw.cls ≠ "java/lang/invoke/MethodHandle" ∧ yL_draw.cls ≠ "java/lang/invoke/VarHandle" ∧ (parseMethodDescriptor yL_draw.desc).map (fun d => d.parameters.length) = some 2 := by decide +kernel
abbrev rmL_letters : Room := { frames := 1, cells := 0, slots := 0, locals := 21 }
theorem h0L_letters : yL_letters.cls ≠ "java/lang/invoke/MethodHandle" ∧ yL_letters.cls ≠ "java/lang/invoke/VarHandle" ∧ (parseMethodDescriptor yL_letters.desc).map (fun d => d.parameters.length) = some 2 := by decide +kernel
abbrev rmL_add : Room := { frames := 6, cells := 10, slots := 10020, locals := 142 }
theorem h0L_add : yL_add.cls ≠ "java/lang/invoke/MethodHandle" ∧ yL_add.cls ≠ "java/lang/invoke/VarHandle" ∧ (parseMethodDescriptor yL_add.desc).map (fun d => d.parameters.length) = some 2 := by decide +kernel
abbrev rmL_feeds : Room := { frames := 4, cells := 26, slots := 130, locals := 85 }
theorem h0L_feeds : yL_feeds.cls ≠ "java/lang/invoke/MethodHandle" ∧ yL_feeds.cls ≠ "java/lang/invoke/VarHandle" ∧ (parseMethodDescriptor yL_feeds.desc).map (fun d => d.parameters.length) = some 2 := by decide +kernel
abbrev rmL_feedsCode : Room := { frames := 7, cells := 40, slots := 10700, locals := 164 }
theorem iL_feedsCode_J4 : ∀ w ∈ u_ws RJ4 TJ4 4, w ∈ wsL_feedsCode := by decide +kernel
theorem h0L_feedsCode : yL_feedsCode.cls ≠ "java/lang/invoke/MethodHandle" ∧ yL_feedsCode.cls ≠ "java/lang/invoke/VarHandle" ∧ (parseMethodDescriptor yL_feedsCode.desc).map (fun d => d.parameters.length) = some 2 := by decide +kernel
abbrev rmL_has : Room := { frames := 4, cells := 0, slots := 0, locals := 89 }
theorem iL_has_X10 : ∀ w ∈ u_ws RX10 TX10 21, w ∈ wsL_has := by decide +kernel
theorem h0L_has : yL_has.cls ≠ "java/lang/invoke/MethodHandle" ∧ yL_has.cls ≠ "java/lang/invoke/VarHandle" ∧ (parseMethodDescriptor yL_has.desc).map (fun d => d.parameters.length) = some 3 := by decide +kernel
abbrev rmL_sum : Room := { frames := 6, cells := 0, slots := 0, locals := 142 }
theorem iL_sum_X10 : ∀ w ∈ u_ws RX10 TX10 21, w ∈ wsL_sum := by decide +kernel
theorem h0L_sum : yL_sum.cls ≠ "java/lang/invoke/MethodHandle" ∧ yL_sum.cls ≠ "java/lang/invoke/VarHandle" ∧ (parseMethodDescriptor yL_sum.desc).map (fun d => d.parameters.length) = some 2 := by decide +kernel
def fL_draw (x1 : Int32) (p0 : (Nat → Int32)) : Option (Int32 × (Nat → Int32)) := Lt (upd p0 0 (((p0 0) * 1664525) + 1013904223)) fun (p0_1 : (Nat → Int32)) => if x1 = 0 then none else some ((gush (p0_1 0) 8) - (gush (p0_1 0) 8) / x1 * x1, p0_1)
def fL_letters (x1 : Int32) (p0 : (Nat → Int32)) : Option (Int32 × (Nat → Int32)) := gb2 (fL_draw x1 p0) fun (r_1 : Int32) (p0_1 : (Nat → Int32)) => gb2 (fL_draw ((1 : Int32) <<< ((1 + r_1) &&& 31)) p0_1) fun (r_2 : Int32) (p0_2 : (Nat → Int32)) => some (((1 : Int32) <<< ((1 + r_1) &&& 31)) ||| r_2, p0_2)
def fL_add_L7 (x1 : Int32) (k : (List Nat) → Nat → Nat → Option ((List Nat))) : Nat → Int32 → (List Nat) → Nat → Nat → Option ((List Nat))
  | 0, _, _, _, _ => none
  | n + 1, x2, T, nc, ns => if x2 < 0 then (k T nc ns) else (Lt (fun (t0_1 : Int32) => (if t0_1 < 0 ∨ 128 ≤ t0_1.toNatClampNeg then none else if 500 < (T ++ [t0_1.toNatClampNeg]).length then none else if 10 < nc + 1 ∨ 10020 < ns + 1002 then none else Lt (T ++ [t0_1.toNatClampNeg]) fun (T_1 : List Nat) => fL_add_L7 x1 k n (x2 + (-1)) T_1 (nc + 1) (ns + 1002))) fun (j_1 : Int32 → Option ((List Nat))) => if ((x1 >>> (x2 &&& 31)) &&& 1) = 0 then (j_1 97) else (j_1 98))
def fL_add (x1 : Int32) (T : List Nat) : Option ((List Nat)) := gb1 (fX10_size x1) fun (r_1 : Int32) => fL_add_L7 x1 (fun (T_1 : List Nat) (nc_1 : Nat) (ns_1 : Nat) => (if 10 < nc_1 ∨ 10020 < ns_1 then none else some T_1)) FU (r_1 - 1) T 0 0
def fL_feeds_L20 (x2 : Int32) (x3 : Int32) (X : List Nat) (nc : Nat) (ns : Nat) (k : (Nat → Int32) → Option (Int32 × Int32 × (Nat → Int32))) : Nat → Int32 → (Nat → Int32) → Option (Int32 × Int32 × (Nat → Int32))
  | 0, _, _ => none
  | n + 1, x5, n13 => if 20 ≤ x5 then (k n13) else (if (x5 / 4) < 0 ∨ 5 ≤ (x5 / 4).toNatClampNeg then none else if 26 < nc ∨ 130 < ns then none else Lt (fun (t0_1 : Int32) => (if (x5 / 4) < 0 ∨ 5 ≤ (x5 / 4).toNatClampNeg then none else Lt (upd n13 ((x5 / 4).toNatClampNeg) (((n13 ((x5 / 4).toNatClampNeg)) <<< ((8 : Int32) &&& 31)) ||| t0_1)) fun (n13_1 : (Nat → Int32)) => fL_feeds_L20 x2 x3 X nc ns k n (x5 + 1) n13_1)) fun (j_1 : Int32 → Option (Int32 × Int32 × (Nat → Int32))) => if (Int32.ofNat X.length) ≤ (x3 + x5) then (j_1 32) else (if (x3 + x5) < 0 ∨ X.length ≤ (x3 + x5).toNatClampNeg then none else j_1 (Int32.ofNat (X.getD (x3 + x5).toNatClampNeg 0))))
def fL_feeds_L4 (X : List Nat) (k : Int32 → (Nat → Int32) → Nat → Nat → Option (Int32 × Int32 × (Nat → Int32))) : Nat → Int32 → Int32 → Int32 → (Nat → Int32) → Nat → Nat → Option (Int32 × Int32 × (Nat → Int32))
  | 0, _, _, _, _, _, _ => none
  | n + 1, x2, x3, D_buffered, buffer, nc, ns => if 26 < nc ∨ 130 < ns then none else if (Int32.ofNat X.length) ≤ x3 then (k D_buffered buffer nc ns) else (if 26 < nc + 1 ∨ 130 < ns + 5 then none else fL_feeds_L20 x2 x3 X (nc + 1) (ns + 5) (fun (n13_1 : (Nat → Int32)) => (gb3 (fX9_append (n13_1 0) (n13_1 1) (n13_1 2) (n13_1 3) (n13_1 4) D_buffered buffer) fun (r_1 : Int32) (D_buffered_1 : Int32) (buffer_1 : (Nat → Int32)) => if r_1 = (x2 + 20) then (fL_feeds_L4 X k n (x2 + 20) (x3 + 20) D_buffered_1 buffer_1 (nc + 1) (ns + 5)) else (some (0, D_buffered_1, buffer_1)))) FU 0 (fun _ => 0))
def fL_feeds (D_buffered : Int32) (buffer : (Nat → Int32)) (X : List Nat) : Option (Int32 × Int32 × (Nat → Int32)) := fL_feeds_L4 X (fun (D_buffered_1 : Int32) (buffer_1 : (Nat → Int32)) (nc_1 : Nat) (ns_1 : Nat) => (if 26 < nc_1 ∨ 130 < ns_1 then none else some (1, D_buffered_1, buffer_1))) FU 0 0 D_buffered buffer 0 0
def fL_feedsCode (x1 : Int32) (D_buffered : Int32) (buffer : (Nat → Int32)) : Option (Int32 × Int32 × (Nat → Int32)) := gb1 (fL_add x1 ([] : List Nat)) fun (T_1 : List Nat) => gb3 (fL_feeds D_buffered buffer T_1) fun (r_1 : Int32) (D_buffered_1 : Int32) (buffer_1 : (Nat → Int32)) => some (r_1, D_buffered_1, buffer_1)
def fL_has_L2 (x1 : Int32) (x2 : Int32) (word : (Nat → Int32)) (cut : (Nat → Int32)) (k : Option (Int32)) : Nat → Int32 → Option (Int32)
  | 0, _ => none
  | n + 1, x3 => if x1 < 0 ∨ 17 ≤ x1.toNatClampNeg then none else gb1 (fJ6_bitCount_0f7a4 (cut (x1.toNatClampNeg))) fun (r_1 : Int32) => if r_1 < x3 then (k) else (if x1 < 0 ∨ 17 ≤ x1.toNatClampNeg then none else if x1 < 0 ∨ 17 ≤ x1.toNatClampNeg then none else gb1 (fX10_piece (word (x1.toNatClampNeg)) (cut (x1.toNatClampNeg)) x3) fun (r_2 : Int32) => if r_2 = x2 then (some 1) else (fL_has_L2 x1 x2 word cut k n (x3 + 1)))
def fL_has (x1 : Int32) (x2 : Int32) (word : (Nat → Int32)) (cut : (Nat → Int32)) : Option (Int32) := fL_has_L2 x1 x2 word cut (some 0) FU 0
def fL_sum_L4 (x1 : Int32) (L_price : Int32) (L_letter : Int32) (L_deposit : Int32) (L_pieces : Int32) (L_words : Int32) (code : (Nat → Int32)) (word : (Nat → Int32)) (k : Int32 → Option (Int32)) : Nat → Int32 → Int32 → Option (Int32)
  | 0, _, _ => none
  | n + 1, x2, x3 => if L_words ≤ x3 then (k x2) else (gb1 (fX10_fewest x3 x1 L_price L_letter L_deposit L_pieces code word) fun (r_1 : Int32) => fL_sum_L4 x1 L_price L_letter L_deposit L_pieces L_words code word k n (x2 + r_1) (x3 + 1))
def fL_sum (x1 : Int32) (L_price : Int32) (L_letter : Int32) (L_deposit : Int32) (L_pieces : Int32) (L_words : Int32) (code : (Nat → Int32)) (word : (Nat → Int32)) : Option (Int32) := fL_sum_L4 x1 L_price L_letter L_deposit L_pieces L_words code word (fun (x2_1 : Int32) => (some x2_1)) FU 0 0
set_option maxHeartbeats 4000000 in
set_option maxRecDepth 100000 in
theorem ctL_draw (l : Launch) (E : gE) (ap0 : Nat → Nat) (x1 : Int32) (p0 : (Nat → Int32)) (r : Int32) (p0' : (Nat → Int32)) (hf : fL_draw x1 p0 = some (r, p0')) : gMet l yL_draw wsL_draw rmL_draw vwCl E [.ref (ap0 0), .int x1] [sArrI E ap0 1 p0] (fun v w => v = some (.int r) ∧ w = [sArrI E ap0 1 p0']) 0 0 := by
  refine g_entry [some (.ref (ap0 0)), some (.int x1)] (by decide) rfl (Nat.le_of_ble_eq_true rfl) rfl ?_
  intro p e s m below meth c A F hnm
  unfold fL_draw at hf
  refine g_aload_n F dL_draw_0 rfl ?_
  refine g_iconst F 0 dL_draw_1 rfl ?_
  refine g_aload_n F dL_draw_2 rfl ?_
  refine g_iconst F 0 dL_draw_3 rfl ?_
  refine g_iald F 0 0 0 (by decide) rfl rfl (by decide) dL_draw_4 ?_
  refine g_ldc F 1664525 (by decide +kernel) dL_draw_5 ?_
  refine g_imul F dL_draw_7 ?_
  refine g_ldc F 1013904223 (by decide +kernel) dL_draw_8 ?_
  refine g_iadd F dL_draw_10 ?_
  obtain ⟨p0_1, hp0_1, hf⟩ := Lt_el hf
  refine g_iast (Lw' := [sArrI E ap0 1 p0_1]) F 0 0 0 (by decide) rfl rfl (by decide) dL_draw_11 (by subst hp0_1; rfl) ?_
  refine g_aload_n F dL_draw_12 rfl ?_
  refine g_iconst F 0 dL_draw_13 rfl ?_
  refine g_iald F 0 0 0 (by decide) rfl rfl (by decide) dL_draw_14 ?_
  refine g_bipush F 8 dL_draw_15 rfl ?_
  refine g_iushr F dL_draw_17 ?_
  refine g_iload_n F dL_draw_18 rfl ?_
  obtain ⟨hz_1, hf⟩ := gb_in hf
  refine g_irem F dL_draw_19 hz_1 ?_
  cases hf
  exact g_iret F rfl ⟨rfl, rfl⟩ dL_draw_20
set_option maxHeartbeats 4000000 in
set_option maxRecDepth 100000 in
theorem ctL_letters (l : Launch) (E : gE) (ap0 : Nat → Nat) (x1 : Int32) (p0 : (Nat → Int32)) (r : Int32) (p0' : (Nat → Int32)) (hf : fL_letters x1 p0 = some (r, p0')) : gMet l yL_letters wsL_letters rmL_letters vwCl E [.ref (ap0 0), .int x1] [sArrI E ap0 1 p0] (fun v w => v = some (.int r) ∧ w = [sArrI E ap0 1 p0']) 0 0 := by
  refine g_entry [some (.ref (ap0 0)), some (.int x1), none] (by decide) rfl (Nat.le_of_ble_eq_true rfl) rfl ?_
  intro p e s m below meth c A F hnm
  unfold fL_letters at hf
  refine g_iconst F 1 dL_letters_0 rfl ?_
  refine g_aload_n F dL_letters_1 rfl ?_
  refine g_iload_n F dL_letters_2 rfl ?_
  obtain ⟨r_1, p0_1, hg_1, hf⟩ := gb2_el hf
  refine g_callS (Lr := []) (As := [.ref (ap0 0), .int x1]) (rest := [.int 1]) F 2 (ctL_draw l E ap0 x1 p0 r_1 p0_1 hg_1) (va_cwS 2 F.2.2.2.2.2.1 gL_letters_L_draw rfl rfl rfl h0L_draw ⟨Nat.le_of_ble_eq_true rfl, Nat.le_of_ble_eq_true rfl⟩) [0] [] rfl rfl rfl rfl rfl rfl (Nat.le_of_ble_eq_true rfl) dL_letters_3 ⟨(Nat.le_of_ble_eq_true rfl), (Nat.le_of_ble_eq_true rfl)⟩ ?_
  rintro v w ⟨rfl, rfl⟩
  refine g_norm (Lw' := [sArrI E ap0 1 p0_1]) (st' := [.int r_1, .int 1]) (pc' := 6) [0] rfl rfl rfl rfl ?_
  refine g_iadd F dL_letters_6 ?_
  refine g_istore_n (lv' := [some (.ref (ap0 0)), some (.int x1), some (.int (1 + r_1))]) F dL_letters_7 (Nat.le_of_ble_eq_true rfl) rfl rfl ?_
  refine g_iconst F 1 dL_letters_8 rfl ?_
  refine g_iload_n F dL_letters_9 rfl ?_
  refine g_ishl F dL_letters_10 ?_
  refine g_aload_n F dL_letters_11 rfl ?_
  refine g_iconst F 1 dL_letters_12 rfl ?_
  refine g_iload_n F dL_letters_13 rfl ?_
  refine g_ishl F dL_letters_14 ?_
  obtain ⟨r_2, p0_2, hg_2, hf⟩ := gb2_el hf
  refine g_callS (Lr := []) (As := [.ref (ap0 0), .int ((1 : Int32) <<< ((1 + r_1) &&& 31))]) (rest := [.int ((1 : Int32) <<< ((1 + r_1) &&& 31))]) F 2 (ctL_draw l E ap0 ((1 : Int32) <<< ((1 + r_1) &&& 31)) p0_1 r_2 p0_2 hg_2) (va_cwS 2 F.2.2.2.2.2.1 gL_letters_L_draw rfl rfl rfl h0L_draw ⟨Nat.le_of_ble_eq_true rfl, Nat.le_of_ble_eq_true rfl⟩) [0] [] rfl rfl rfl rfl rfl rfl (Nat.le_of_ble_eq_true rfl) dL_letters_15 ⟨(Nat.le_of_ble_eq_true rfl), (Nat.le_of_ble_eq_true rfl)⟩ ?_
  rintro v w ⟨rfl, rfl⟩
  refine g_norm (Lw' := [sArrI E ap0 1 p0_2]) (st' := [.int r_2, .int ((1 : Int32) <<< ((1 + r_1) &&& 31))]) (pc' := 18) [0] rfl rfl rfl rfl ?_
  refine g_ior F dL_letters_18 ?_
  cases hf
  exact g_iret F rfl ⟨rfl, rfl⟩ dL_letters_19
set_option maxHeartbeats 4000000 in
set_option maxRecDepth 100000 in
theorem ktL_add_L7 {p : Program} {l : Launch} {e : Env} {s : State} {m : MethodId} {args : Array Value} {below : List Frame} {meth : Method} {c : Code} {E : gE} {A : Nat → Prop} (F : gFx p s m args meth c RL wsL_add cL_add 3 none vwCl E A) (aT : Nat → Nat) (x1 : Int32) (T' : List Nat) {k : (List Nat) → Nat → Nat → Option ((List Nat))} (hk : ∀ (T : List Nat) (nc : Nat) (ns : Nat), k T nc ns = some T' → ∀ (vT : Nat → Nat) (cT : Nat) (yT : Nat → Int32), okSB T cT yT → Gj p l e rmL_add s m args below meth c nc ns (MQ below (gQ vwCl E A (fun v w => ∃ (vT' : Nat → Nat) (cT' : Nat) (yT' : Nat → Int32), okSB T' cT' yT' ∧ v = none ∧ w = [sSB E aT vT' cT' T' yT'])) args s 10 10020 A) vwCl E A [sSB E aT vT cT T yT] [none, none, none] [] 37) : ∀ (n : Nat) (x2 : Int32) (T : List Nat) (nc : Nat) (ns : Nat), fL_add_L7 x1 k n x2 T nc ns = some T' → ∀ (vT : Nat → Nat) (cT : Nat) (yT : Nat → Int32), okSB T cT yT → Gj p l e rmL_add s m args below meth c nc ns (MQ below (gQ vwCl E A (fun v w => ∃ (vT' : Nat → Nat) (cT' : Nat) (yT' : Nat → Int32), okSB T' cT' yT' ∧ v = none ∧ w = [sSB E aT vT' cT' T' yT'])) args s 10 10020 A) vwCl E A [sSB E aT vT cT T yT] [some (.ref (aT 0)), some (.int x1), some (.int x2)] [] 7
  | 0, _, _, _, _, hf => by cases hf
  | n + 1, x2, T, nc, ns, hf => by
    intro vT cT yT kT
    have ih := ktL_add_L7 F aT x1 T' hk n
    rw [fL_add_L7] at hf
    refine g_iload_n F dL_add_7 rfl ?_
    refine g_iflt F 37 dL_add_8 (by decide) (fun hc_2 => ?_) (fun hc_2 => ?_)
    · replace hf := gi_t hc_2 hf
      refine g_mask [false, false, false] rfl ?_
      exact hk T nc ns hf vT cT yT kT
    · replace hf := gi_f hc_2 hf
      refine g_aload_n F dL_add_11 rfl ?_
      refine g_iload_n F dL_add_12 rfl ?_
      refine g_iload_n F dL_add_13 rfl ?_
      refine g_ishr F dL_add_14 ?_
      refine g_iconst F 1 dL_add_15 rfl ?_
      refine g_iand F dL_add_16 ?_
      obtain ⟨j_1, hj_1, hf⟩ := Lt_el hf
      have hj_1 : ∀ (t0_1 : Int32), j_1 t0_1 = some T' → Gj p l e rmL_add s m args below meth c nc ns (MQ below (gQ vwCl E A (fun v w => ∃ (vT' : Nat → Nat) (cT' : Nat) (yT' : Nat → Int32), okSB T' cT' yT' ∧ v = none ∧ w = [sSB E aT vT' cT' T' yT'])) args s 10 10020 A) vwCl E A [sSB E aT vT cT T yT] [some (.ref (aT 0)), some (.int x1), some (.int x2)] [.int t0_1, .ref (aT 0)] 27 := by
        intro t0_1 hf
        rw [hj_1] at hf
        obtain ⟨hb_1, hf⟩ := gb_in hf
        obtain ⟨hb_2, hf⟩ := gb_in hf
        obtain ⟨hb_3, hf⟩ := gb_in hf
        refine g_callV (C := RJ4) (T := TJ4) (N := 4) (Lr := []) (As := [.int t0_1]) (rest := []) F 0 0 1 (ctSB_appC l E aT vT cT T yT t0_1 hb_1 kT (Nat.le_of_not_lt hb_2)) gL_add_J4_append_cf468 rfl rfl rfl h0J4_append_cf468 ⟨Nat.le_of_ble_eq_true rfl, Nat.le_of_ble_eq_true rfl⟩ rfl rfl rfl [0] [] rfl rfl rfl rfl rfl rfl (Nat.le_of_ble_eq_true rfl) dL_add_27 ⟨(gle1 hb_3), (gle2 hb_3)⟩ ?_
        rintro v w ⟨vT_1, cT_1, yT_1, kT_1, rfl, rfl⟩
        refine g_norm (Lw' := [sSB E aT vT_1 cT_1 (T ++ [t0_1.toNatClampNeg]) yT_1]) (st' := [.ref (aT 0)]) (pc' := 30) [0] rfl rfl rfl rfl ?_
        obtain ⟨T_1, hT_1, hf⟩ := Lt_el hf
        rw [← hT_1] at kT_1
        rw [← hT_1]
        refine g_pop F dL_add_30 rfl ?_
        refine g_iinc (lv' := [some (.ref (aT 0)), some (.int x1), some (.int (x2 + (-1)))]) F (x2 + (-1)) dL_add_31 rfl rfl rfl rfl ?_
        refine g_goto F 7 dL_add_34 (by decide) ?_
        exact ih (x2 + (-1)) T_1 (nc + 1) (ns + 1002) hf vT_1 cT_1 yT_1 kT_1
      refine g_ifne F 25 dL_add_17 (by decide) (fun hc_1 => ?_) (fun hc_1 => ?_)
      · replace hf := gi_f hc_1 hf
        refine g_bipush F 98 dL_add_25 rfl ?_
        exact hj_1 98 hf
      · replace hf := gi_t hc_1 hf
        refine g_bipush F 97 dL_add_20 rfl ?_
        refine g_goto F 27 dL_add_22 (by decide) ?_
        exact hj_1 97 hf
set_option maxHeartbeats 4000000 in
set_option maxRecDepth 100000 in
theorem ctL_add (l : Launch) (E : gE) (aT : Nat → Nat) (x1 : Int32) (T : List Nat) (vT : Nat → Nat) (cT : Nat) (yT : Nat → Int32) (kT : okSB T cT yT) (T' : List Nat) (hf : fL_add x1 T = some T') : gMet l yL_add wsL_add rmL_add vwCl E [.ref (aT 0), .int x1] [sSB E aT vT cT T yT] (fun v w => ∃ (vT' : Nat → Nat) (cT' : Nat) (yT' : Nat → Int32), okSB T' cT' yT' ∧ v = none ∧ w = [sSB E aT vT' cT' T' yT']) 10 10020 := by
  refine g_entry [some (.ref (aT 0)), some (.int x1), none] (by decide) rfl (Nat.le_of_ble_eq_true rfl) rfl ?_
  intro p e s m below meth c A F hnm
  unfold fL_add at hf
  refine g_iload_n F dL_add_0 rfl ?_
  obtain ⟨r_1, hg_1, hf⟩ := gb1_el hf
  refine g_callS (Lr := [sSB E aT vT cT T yT]) (As := [.int x1]) (rest := []) F 1 (ctX10_size l E x1 r_1 hg_1) (va_cwS 1 F.2.2.2.2.2.1 gL_add_X10_size rfl rfl rfl h0X10_size ⟨Nat.le_of_ble_eq_true rfl, Nat.le_of_ble_eq_true rfl⟩) [] [0] rfl rfl rfl rfl rfl rfl (Nat.le_of_ble_eq_true rfl) dL_add_1 ⟨(Nat.le_of_ble_eq_true rfl), (Nat.le_of_ble_eq_true rfl)⟩ ?_
  rintro v w ⟨rfl, rfl⟩
  refine g_norm (Lw' := [sSB E aT vT cT T yT]) (st' := [.int r_1]) (pc' := 4) [0] rfl rfl rfl rfl ?_
  refine g_iconst F 1 dL_add_4 rfl ?_
  refine g_isub F dL_add_5 ?_
  refine g_istore_n (lv' := [some (.ref (aT 0)), some (.int x1), some (.int (r_1 - 1))]) F dL_add_6 (Nat.le_of_ble_eq_true rfl) rfl rfl ?_
  refine ktL_add_L7 F aT x1 T' (fun T_1 nc_1 ns_1 hf vT_1 cT_1 yT_1 kT_1 => ?_) FU (r_1 - 1) T 0 0 hf vT cT yT kT
  obtain ⟨hb_1, hf⟩ := gb_in hf
  refine g_widen (k := 10) (n := 10020) (gle1 hb_1) (gle2 hb_1) ?_
  cases hf
  exact g_vret F rfl ⟨vT_1, cT_1, yT_1, kT_1, rfl, rfl⟩ dL_add_37
set_option maxHeartbeats 4000000 in
set_option maxRecDepth 100000 in
theorem ktL_feeds_L20 {p : Program} {l : Launch} {e : Env} {s : State} {m : MethodId} {args : Array Value} {below : List Frame} {meth : Method} {c : Code} {E : gE} {A : Nat → Prop} (F : gFx p s m args meth c RL wsL_feeds cL_feeds 6 (some .boolean) vwCl E A) (aD abuffer aB aPr aC2 aV aHs aSl afilled aX an13 : Nat → Nat) (x2 : Int32) (x3 : Int32) (X : List Nat) (nc : Nat) (ns : Nat) (D_buffered : Int32) (D_lastErrorAt : Int32) (buffer : (Nat → Int32)) (yX : Nat → Int32) (kX : okS X yX) (r : Int32) (D_buffered' : Int32) (buffer' : (Nat → Int32)) {k : (Nat → Int32) → Option (Int32 × Int32 × (Nat → Int32))} (hk : ∀ (n13 : (Nat → Int32)), k n13 = some (r, D_buffered', buffer') → Gj p l e rmL_feeds s m args below meth c nc ns (MQ below (gQ vwCl E A (fun v w => v = some (.int r) ∧ w = [sPD E aD abuffer aB aPr aC2 aV aHs aSl afilled D_buffered' D_lastErrorAt, sArrB E abuffer 600 buffer', sStr E aX X yX] ∧ narrow .boolean (.int r) = .int r)) args s 26 130 A) vwCl E A [sPD E aD abuffer aB aPr aC2 aV aHs aSl afilled D_buffered D_lastErrorAt, sArrB E abuffer 600 buffer, sStr E aX X yX, sArrI E an13 5 n13] [some (.ref (aD 0)), some (.ref (aX 0)), some (.int x2), some (.int x3), some (.ref (an13 0)), none] [] 75) : ∀ (n : Nat) (x5 : Int32) (n13 : (Nat → Int32)), fL_feeds_L20 x2 x3 X nc ns k n x5 n13 = some (r, D_buffered', buffer') → Gj p l e rmL_feeds s m args below meth c nc ns (MQ below (gQ vwCl E A (fun v w => v = some (.int r) ∧ w = [sPD E aD abuffer aB aPr aC2 aV aHs aSl afilled D_buffered' D_lastErrorAt, sArrB E abuffer 600 buffer', sStr E aX X yX] ∧ narrow .boolean (.int r) = .int r)) args s 26 130 A) vwCl E A [sPD E aD abuffer aB aPr aC2 aV aHs aSl afilled D_buffered D_lastErrorAt, sArrB E abuffer 600 buffer, sStr E aX X yX, sArrI E an13 5 n13] [some (.ref (aD 0)), some (.ref (aX 0)), some (.int x2), some (.int x3), some (.ref (an13 0)), some (.int x5)] [] 20
  | 0, _, _, hf => by cases hf
  | n + 1, x5, n13, hf => by
    have ih := ktL_feeds_L20 F aD abuffer aB aPr aC2 aV aHs aSl afilled aX an13 x2 x3 X nc ns D_buffered D_lastErrorAt buffer yX kX r D_buffered' buffer' hk n
    rw [fL_feeds_L20] at hf
    refine g_iload F dL_feeds_20 rfl ?_
    refine g_bipush F 20 dL_feeds_22 rfl ?_
    refine g_icmp_ge F 75 dL_feeds_24 (by decide) (fun hc_2 => ?_) (fun hc_2 => ?_)
    · replace hf := gi_t hc_2 hf
      refine g_mask [true, true, true, true, true, false] rfl ?_
      exact hk n13 hf
    · replace hf := gi_f hc_2 hf
      refine g_aload F dL_feeds_27 rfl ?_
      refine g_iload F dL_feeds_29 rfl ?_
      refine g_iconst F 4 dL_feeds_31 rfl ?_
      refine g_idiv F dL_feeds_32 (by decide) ?_
      refine g_aload F dL_feeds_33 rfl ?_
      refine g_iload F dL_feeds_35 rfl ?_
      refine g_iconst F 4 dL_feeds_37 rfl ?_
      refine g_idiv F dL_feeds_38 (by decide) ?_
      obtain ⟨hb_1, hf⟩ := gb_in hf
      refine g_iald F 3 0 ((x5 / 4).toNatClampNeg) rfl rfl rfl hb_1 dL_feeds_39 ?_
      refine g_bipush F 8 dL_feeds_40 rfl ?_
      refine g_ishl F dL_feeds_42 ?_
      refine g_iload_n F dL_feeds_43 rfl ?_
      refine g_iload F dL_feeds_44 rfl ?_
      refine g_iadd F dL_feeds_46 ?_
      refine g_aload_n F dL_feeds_47 rfl ?_
      obtain ⟨hb_2, hf⟩ := gb_in hf
      refine g_callV (C := RJ0) (T := TJ0) (N := 4) (Lr := [sPD E aD abuffer aB aPr aC2 aV aHs aSl afilled D_buffered D_lastErrorAt, sArrB E abuffer 600 buffer, sArrI E an13 5 n13]) (As := []) (rest := [.int (x3 + x5), .int ((n13 ((x5 / 4).toNatClampNeg)) <<< ((8 : Int32) &&& 31)), .int (x5 / 4), .ref (an13 0)]) F 2 0 0 (ctS_len l E aX X yX kX) gL_feeds_J0_length_8abf5 rfl rfl rfl h0J0_length_8abf5 ⟨Nat.le_of_ble_eq_true rfl, Nat.le_of_ble_eq_true rfl⟩ rfl rfl rfl [2] [0, 1, 3] rfl rfl rfl rfl rfl rfl (Nat.le_of_ble_eq_true rfl) dL_feeds_48 ⟨(gle1 hb_2), (gle2 hb_2)⟩ ?_
      rintro v w ⟨rfl, rfl⟩
      refine g_norm (Lw' := [sPD E aD abuffer aB aPr aC2 aV aHs aSl afilled D_buffered D_lastErrorAt, sArrB E abuffer 600 buffer, sStr E aX X yX, sArrI E an13 5 n13]) (st' := [.int (Int32.ofNat X.length), .int (x3 + x5), .int ((n13 ((x5 / 4).toNatClampNeg)) <<< ((8 : Int32) &&& 31)), .int (x5 / 4), .ref (an13 0)]) (pc' := 51) [1, 2, 0, 3] rfl rfl rfl rfl ?_
      obtain ⟨j_1, hj_1, hf⟩ := Lt_el hf
      have hj_1 : ∀ (t0_1 : Int32), j_1 t0_1 = some (r, D_buffered', buffer') → Gj p l e rmL_feeds s m args below meth c nc ns (MQ below (gQ vwCl E A (fun v w => v = some (.int r) ∧ w = [sPD E aD abuffer aB aPr aC2 aV aHs aSl afilled D_buffered' D_lastErrorAt, sArrB E abuffer 600 buffer', sStr E aX X yX] ∧ narrow .boolean (.int r) = .int r)) args s 26 130 A) vwCl E A [sPD E aD abuffer aB aPr aC2 aV aHs aSl afilled D_buffered D_lastErrorAt, sArrB E abuffer 600 buffer, sStr E aX X yX, sArrI E an13 5 n13] [some (.ref (aD 0)), some (.ref (aX 0)), some (.int x2), some (.int x3), some (.ref (an13 0)), some (.int x5)] [.int t0_1, .int ((n13 ((x5 / 4).toNatClampNeg)) <<< ((8 : Int32) &&& 31)), .int (x5 / 4), .ref (an13 0)] 67 := by
        intro t0_1 hf
        rw [hj_1] at hf
        refine g_ior F dL_feeds_67 ?_
        obtain ⟨hb_3, hf⟩ := gb_in hf
        obtain ⟨n13_1, hn13_1, hf⟩ := Lt_el hf
        refine g_iast (Lw' := [sPD E aD abuffer aB aPr aC2 aV aHs aSl afilled D_buffered D_lastErrorAt, sArrB E abuffer 600 buffer, sStr E aX X yX, sArrI E an13 5 n13_1]) F 3 0 ((x5 / 4).toNatClampNeg) rfl rfl rfl hb_3 dL_feeds_68 (by subst hn13_1; rfl) ?_
        refine g_iinc (lv' := [some (.ref (aD 0)), some (.ref (aX 0)), some (.int x2), some (.int x3), some (.ref (an13 0)), some (.int (x5 + 1))]) F (x5 + 1) dL_feeds_69 rfl rfl rfl rfl ?_
        refine g_goto F 20 dL_feeds_72 (by decide) ?_
        exact ih (x5 + 1) n13_1 hf
      refine g_icmp_ge F 65 dL_feeds_51 (by decide) (fun hc_1 => ?_) (fun hc_1 => ?_)
      · replace hf := gi_t hc_1 hf
        refine g_bipush F 32 dL_feeds_65 rfl ?_
        exact hj_1 32 hf
      · replace hf := gi_f hc_1 hf
        refine g_aload_n F dL_feeds_54 rfl ?_
        refine g_iload_n F dL_feeds_55 rfl ?_
        refine g_iload F dL_feeds_56 rfl ?_
        refine g_iadd F dL_feeds_58 ?_
        obtain ⟨hb_4, hf⟩ := gb_in hf
        refine g_callV (C := RJ0) (T := TJ0) (N := 4) (Lr := [sPD E aD abuffer aB aPr aC2 aV aHs aSl afilled D_buffered D_lastErrorAt, sArrB E abuffer 600 buffer, sArrI E an13 5 n13]) (As := [.int (x3 + x5)]) (rest := [.int ((n13 ((x5 / 4).toNatClampNeg)) <<< ((8 : Int32) &&& 31)), .int (x5 / 4), .ref (an13 0)]) F 2 0 1 (ctS_at l E aX X yX kX (x3 + x5) hb_4) gL_feeds_J0_charAt_5068e rfl rfl rfl h0J0_charAt_5068e ⟨Nat.le_of_ble_eq_true rfl, Nat.le_of_ble_eq_true rfl⟩ rfl rfl rfl [2] [0, 1, 3] rfl rfl rfl rfl rfl rfl (Nat.le_of_ble_eq_true rfl) dL_feeds_59 ⟨(gle1 hb_2), (gle2 hb_2)⟩ ?_
        rintro v w ⟨rfl, rfl⟩
        refine g_norm (Lw' := [sPD E aD abuffer aB aPr aC2 aV aHs aSl afilled D_buffered D_lastErrorAt, sArrB E abuffer 600 buffer, sStr E aX X yX, sArrI E an13 5 n13]) (st' := [.int (Int32.ofNat (X.getD (x3 + x5).toNatClampNeg 0)), .int ((n13 ((x5 / 4).toNatClampNeg)) <<< ((8 : Int32) &&& 31)), .int (x5 / 4), .ref (an13 0)]) (pc' := 62) [1, 2, 0, 3] rfl rfl rfl rfl ?_
        refine g_goto F 67 dL_feeds_62 (by decide) ?_
        exact hj_1 (Int32.ofNat (X.getD (x3 + x5).toNatClampNeg 0)) hf
set_option maxHeartbeats 4000000 in
set_option maxRecDepth 100000 in
theorem ktL_feeds_L4 {p : Program} {l : Launch} {e : Env} {s : State} {m : MethodId} {args : Array Value} {below : List Frame} {meth : Method} {c : Code} {E : gE} {A : Nat → Prop} (F : gFx p s m args meth c RL wsL_feeds cL_feeds 6 (some .boolean) vwCl E A) (aD abuffer aB aPr aC2 aV aHs aSl afilled aX : Nat → Nat) (X : List Nat) (D_lastErrorAt : Int32) (yX : Nat → Int32) (kX : okS X yX) (r : Int32) (D_buffered' : Int32) (buffer' : (Nat → Int32)) {k : Int32 → (Nat → Int32) → Nat → Nat → Option (Int32 × Int32 × (Nat → Int32))} (hk : ∀ (D_buffered : Int32) (buffer : (Nat → Int32)) (nc : Nat) (ns : Nat), k D_buffered buffer nc ns = some (r, D_buffered', buffer') → Gj p l e rmL_feeds s m args below meth c nc ns (MQ below (gQ vwCl E A (fun v w => v = some (.int r) ∧ w = [sPD E aD abuffer aB aPr aC2 aV aHs aSl afilled D_buffered' D_lastErrorAt, sArrB E abuffer 600 buffer', sStr E aX X yX] ∧ narrow .boolean (.int r) = .int r)) args s 26 130 A) vwCl E A [sPD E aD abuffer aB aPr aC2 aV aHs aSl afilled D_buffered D_lastErrorAt, sArrB E abuffer 600 buffer, sStr E aX X yX] [none, none, none, none, none, none] [] 114) : ∀ (n : Nat) (x2 : Int32) (x3 : Int32) (D_buffered : Int32) (buffer : (Nat → Int32)) (nc : Nat) (ns : Nat), fL_feeds_L4 X k n x2 x3 D_buffered buffer nc ns = some (r, D_buffered', buffer') → Gj p l e rmL_feeds s m args below meth c nc ns (MQ below (gQ vwCl E A (fun v w => v = some (.int r) ∧ w = [sPD E aD abuffer aB aPr aC2 aV aHs aSl afilled D_buffered' D_lastErrorAt, sArrB E abuffer 600 buffer', sStr E aX X yX] ∧ narrow .boolean (.int r) = .int r)) args s 26 130 A) vwCl E A [sPD E aD abuffer aB aPr aC2 aV aHs aSl afilled D_buffered D_lastErrorAt, sArrB E abuffer 600 buffer, sStr E aX X yX] [some (.ref (aD 0)), some (.ref (aX 0)), some (.int x2), some (.int x3), none, none] [] 4
  | 0, _, _, _, _, _, _, hf => by cases hf
  | n + 1, x2, x3, D_buffered, buffer, nc, ns, hf => by
    have ih := ktL_feeds_L4 F aD abuffer aB aPr aC2 aV aHs aSl afilled aX X D_lastErrorAt yX kX r D_buffered' buffer' hk n
    rw [fL_feeds_L4] at hf
    refine g_iload_n F dL_feeds_4 rfl ?_
    refine g_aload_n F dL_feeds_5 rfl ?_
    obtain ⟨hb_1, hf⟩ := gb_in hf
    refine g_callV (C := RJ0) (T := TJ0) (N := 4) (Lr := [sPD E aD abuffer aB aPr aC2 aV aHs aSl afilled D_buffered D_lastErrorAt, sArrB E abuffer 600 buffer]) (As := []) (rest := [.int x3]) F 2 0 0 (ctS_len l E aX X yX kX) gL_feeds_J0_length_8abf5 rfl rfl rfl h0J0_length_8abf5 ⟨Nat.le_of_ble_eq_true rfl, Nat.le_of_ble_eq_true rfl⟩ rfl rfl rfl [2] [0, 1] rfl rfl rfl rfl rfl rfl (Nat.le_of_ble_eq_true rfl) dL_feeds_6 ⟨(gle1 hb_1), (gle2 hb_1)⟩ ?_
    rintro v w ⟨rfl, rfl⟩
    refine g_norm (Lw' := [sPD E aD abuffer aB aPr aC2 aV aHs aSl afilled D_buffered D_lastErrorAt, sArrB E abuffer 600 buffer, sStr E aX X yX]) (st' := [.int (Int32.ofNat X.length), .int x3]) (pc' := 9) [1, 2, 0] rfl rfl rfl rfl ?_
    refine g_icmp_ge F 114 dL_feeds_9 (by decide) (fun hc_2 => ?_) (fun hc_2 => ?_)
    · replace hf := gi_t hc_2 hf
      refine g_mask [false, false, false, false, true, true] rfl ?_
      exact hk D_buffered buffer nc ns hf
    · replace hf := gi_f hc_2 hf
      refine g_iconst F 5 dL_feeds_12 rfl ?_
      obtain ⟨hb_2, hf⟩ := gb_in hf
      refine g_newI (N' := 5) F (by decide +kernel) (by decide) (by decide) (by decide) (gle1 hb_2) (gle2 hb_2) dL_feeds_13 (fun an13 => ?_)
      refine g_norm (Lw' := [sPD E aD abuffer aB aPr aC2 aV aHs aSl afilled D_buffered D_lastErrorAt, sArrB E abuffer 600 buffer, sStr E aX X yX, sArrI E an13 5 (fun _ => 0)]) (st' := [.ref (an13 0)]) (pc' := 15) [0, 1, 2, 3] rfl rfl rfl rfl ?_
      refine g_astore (lv' := [some (.ref (aD 0)), some (.ref (aX 0)), some (.int x2), some (.int x3), some (.ref (an13 0)), none]) F dL_feeds_15 (Nat.le_of_ble_eq_true rfl) rfl rfl ?_
      refine g_iconst F 0 dL_feeds_17 rfl ?_
      refine g_istore (lv' := [some (.ref (aD 0)), some (.ref (aX 0)), some (.int x2), some (.int x3), some (.ref (an13 0)), some (.int 0)]) F dL_feeds_18 (Nat.le_of_ble_eq_true rfl) rfl rfl ?_
      refine ktL_feeds_L20 F aD abuffer aB aPr aC2 aV aHs aSl afilled aX an13 x2 x3 X (nc + 1) (ns + 5) D_buffered D_lastErrorAt buffer yX kX r D_buffered' buffer' (fun n13_1 hf => ?_) FU 0 (fun _ => 0) hf
      refine g_iinc (lv' := [some (.ref (aD 0)), some (.ref (aX 0)), some (.int (x2 + 20)), some (.int x3), some (.ref (an13 0)), none]) F (x2 + 20) dL_feeds_75 rfl rfl rfl rfl ?_
      refine g_aload_n F dL_feeds_78 rfl ?_
      refine g_aload F dL_feeds_79 rfl ?_
      refine g_iconst F 0 dL_feeds_81 rfl ?_
      refine g_iald F 3 0 0 (by decide) rfl rfl (by decide) dL_feeds_82 ?_
      refine g_aload F dL_feeds_83 rfl ?_
      refine g_iconst F 1 dL_feeds_85 rfl ?_
      refine g_iald F 3 0 1 (by decide) rfl rfl (by decide) dL_feeds_86 ?_
      refine g_aload F dL_feeds_87 rfl ?_
      refine g_iconst F 2 dL_feeds_89 rfl ?_
      refine g_iald F 3 0 2 (by decide) rfl rfl (by decide) dL_feeds_90 ?_
      refine g_aload F dL_feeds_91 rfl ?_
      refine g_iconst F 3 dL_feeds_93 rfl ?_
      refine g_iald F 3 0 3 (by decide) rfl rfl (by decide) dL_feeds_94 ?_
      refine g_aload F dL_feeds_95 rfl ?_
      refine g_iconst F 4 dL_feeds_97 rfl ?_
      refine g_iald F 3 0 4 (by decide) rfl rfl (by decide) dL_feeds_98 ?_
      obtain ⟨r_1, D_buffered_1, buffer_1, hg_1, hf⟩ := gb3_el hf
      refine g_callV (C := RX9) (T := TX9) (N := 10) (Lr := [sStr E aX X yX, sArrI E an13 5 n13_1]) (As := [.int (n13_1 0), .int (n13_1 1), .int (n13_1 2), .int (n13_1 3), .int (n13_1 4)]) (rest := []) F 0 0 5 (ctX9_append l E aD abuffer aB aPr aC2 aV aHs aSl afilled (n13_1 0) (n13_1 1) (n13_1 2) (n13_1 3) (n13_1 4) D_buffered D_lastErrorAt buffer r_1 D_buffered_1 buffer_1 hg_1) gL_feeds_X9_append rfl rfl rfl h0X9_append ⟨Nat.le_of_ble_eq_true rfl, Nat.le_of_ble_eq_true rfl⟩ rfl rfl rfl [0, 1] [2, 3] rfl rfl rfl rfl rfl rfl (Nat.le_of_ble_eq_true rfl) dL_feeds_99 ⟨(gle1 hb_2), (gle2 hb_2)⟩ ?_
      rintro v w ⟨rfl, rfl⟩
      refine g_norm (Lw' := [sPD E aD abuffer aB aPr aC2 aV aHs aSl afilled D_buffered_1 D_lastErrorAt, sArrB E abuffer 600 buffer_1, sStr E aX X yX, sArrI E an13 5 n13_1]) (st' := [.int r_1]) (pc' := 102) [0, 1, 2, 3] rfl rfl rfl rfl ?_
      refine g_iload_n F dL_feeds_102 rfl ?_
      refine g_icmp_eq F 108 dL_feeds_103 (by decide) (fun hc_1 => ?_) (fun hc_1 => ?_)
      · replace hf := gi_t hc_1 hf
        refine g_iinc (lv' := [some (.ref (aD 0)), some (.ref (aX 0)), some (.int (x2 + 20)), some (.int (x3 + 20)), some (.ref (an13 0)), none]) F (x3 + 20) dL_feeds_108 rfl rfl rfl rfl ?_
        refine g_goto F 4 dL_feeds_111 (by decide) ?_
        refine g_mask [true, true, true, true, false, true] rfl ?_
        refine g_norm (Lw' := [sPD E aD abuffer aB aPr aC2 aV aHs aSl afilled D_buffered_1 D_lastErrorAt, sArrB E abuffer 600 buffer_1, sStr E aX X yX]) (st' := []) (pc' := 4) [0, 1, 2] rfl rfl rfl rfl ?_
        exact ih (x2 + 20) (x3 + 20) D_buffered_1 buffer_1 (nc + 1) (ns + 5) hf
      · replace hf := gi_f hc_1 hf
        refine g_iconst F 0 dL_feeds_106 rfl ?_
        refine g_norm (Lw' := [sPD E aD abuffer aB aPr aC2 aV aHs aSl afilled D_buffered_1 D_lastErrorAt, sArrB E abuffer 600 buffer_1, sStr E aX X yX]) (st' := [.int 0]) (pc' := 107) [0, 1, 2] rfl rfl rfl rfl ?_
        refine g_widen (k := 26) (n := 130) (gle1 hb_2) (gle2 hb_2) ?_
        cases hf
        exact g_zret (ty := .boolean) F rfl rfl ⟨rfl, rfl, rfl⟩ dL_feeds_107
set_option maxHeartbeats 4000000 in
set_option maxRecDepth 100000 in
theorem ctL_feeds (l : Launch) (E : gE) (aD abuffer aB aPr aC2 aV aHs aSl afilled aX : Nat → Nat) (D_buffered : Int32) (D_lastErrorAt : Int32) (buffer : (Nat → Int32)) (X : List Nat) (yX : Nat → Int32) (kX : okS X yX) (r : Int32) (D_buffered' : Int32) (buffer' : (Nat → Int32)) (hf : fL_feeds D_buffered buffer X = some (r, D_buffered', buffer')) : gMet l yL_feeds wsL_feeds rmL_feeds vwCl E [.ref (aD 0), .ref (aX 0)] [sPD E aD abuffer aB aPr aC2 aV aHs aSl afilled D_buffered D_lastErrorAt, sArrB E abuffer 600 buffer, sStr E aX X yX] (fun v w => v = some (.int r) ∧ w = [sPD E aD abuffer aB aPr aC2 aV aHs aSl afilled D_buffered' D_lastErrorAt, sArrB E abuffer 600 buffer', sStr E aX X yX] ∧ narrow .boolean (.int r) = .int r) 26 130 := by
  refine g_entry [some (.ref (aD 0)), some (.ref (aX 0)), none, none, none, none] (by decide) rfl (Nat.le_of_ble_eq_true rfl) rfl ?_
  intro p e s m below meth c A F hnm
  unfold fL_feeds at hf
  refine g_iconst F 0 dL_feeds_0 rfl ?_
  refine g_istore_n (lv' := [some (.ref (aD 0)), some (.ref (aX 0)), some (.int 0), none, none, none]) F dL_feeds_1 (Nat.le_of_ble_eq_true rfl) rfl rfl ?_
  refine g_iconst F 0 dL_feeds_2 rfl ?_
  refine g_istore_n (lv' := [some (.ref (aD 0)), some (.ref (aX 0)), some (.int 0), some (.int 0), none, none]) F dL_feeds_3 (Nat.le_of_ble_eq_true rfl) rfl rfl ?_
  refine ktL_feeds_L4 F aD abuffer aB aPr aC2 aV aHs aSl afilled aX X D_lastErrorAt yX kX r D_buffered' buffer' (fun D_buffered_1 buffer_1 nc_1 ns_1 hf => ?_) FU 0 0 D_buffered buffer 0 0 hf
  refine g_iconst F 1 dL_feeds_114 rfl ?_
  obtain ⟨hb_1, hf⟩ := gb_in hf
  refine g_widen (k := 26) (n := 130) (gle1 hb_1) (gle2 hb_1) ?_
  cases hf
  exact g_zret (ty := .boolean) F rfl rfl ⟨rfl, rfl, rfl⟩ dL_feeds_115
set_option maxHeartbeats 4000000 in
set_option maxRecDepth 100000 in
theorem ctL_feedsCode (l : Launch) (E : gE) (aD abuffer aB aPr aC2 aV aHs aSl afilled : Nat → Nat) (x1 : Int32) (D_buffered : Int32) (D_lastErrorAt : Int32) (buffer : (Nat → Int32)) (r : Int32) (D_buffered' : Int32) (buffer' : (Nat → Int32)) (hf : fL_feedsCode x1 D_buffered buffer = some (r, D_buffered', buffer')) : gMet l yL_feedsCode wsL_feedsCode rmL_feedsCode vwCl E [.ref (aD 0), .int x1] [sPD E aD abuffer aB aPr aC2 aV aHs aSl afilled D_buffered D_lastErrorAt, sArrB E abuffer 600 buffer] (fun v w => v = some (.int r) ∧ w = [sPD E aD abuffer aB aPr aC2 aV aHs aSl afilled D_buffered' D_lastErrorAt, sArrB E abuffer 600 buffer'] ∧ narrow .boolean (.int r) = .int r) 40 10700 := by
  refine g_entry [some (.ref (aD 0)), some (.int x1), none] (by decide) rfl (Nat.le_of_ble_eq_true rfl) rfl ?_
  intro p e s m below meth c A F hnm
  unfold fL_feedsCode at hf
  refine g_new (ci := 1) (C := RJ4) (T := TJ4) (N := 4) (tys := tyJ4) F [.null, .int 0, .int 0, .int 0] iL_feedsCode_J4 tyJ4_ok (by decide +kernel) (by decide +kernel) (by decide +kernel) rfl (fun j hj => by rcases (show j = 0 ∨ j = 1 ∨ j = 2 ∨ j = 3 by omega) with rfl | rfl | rfl | rfl <;> rfl) (Nat.le_of_ble_eq_true rfl) (Nat.le_of_ble_eq_true rfl) dL_feedsCode_0 (fun q_1 => ?_)
  refine g_dup F dL_feedsCode_3 rfl ?_
  refine g_callI (Lr := [sPD E aD abuffer aB aPr aC2 aV aHs aSl afilled D_buffered D_lastErrorAt, sArrB E abuffer 600 buffer]) (As := []) (rest := [.ref (q_1)]) F 0 (ctSB_init l E q_1) (cwI 0 F.2.2.2.2.2.1 gL_feedsCode_J4_init_da8c8 rfl rfl rfl (F.2.2.2.2.2.1 _ (by decide +kernel)) (F.2.2.2.2.2.1 _ (by decide +kernel)) (F.2.2.2.2.2.1 _ (by decide +kernel)) rfl (by decide +kernel) ⟨Nat.le_of_ble_eq_true rfl, Nat.le_of_ble_eq_true rfl⟩) [2] [0, 1] rfl rfl rfl rfl rfl rfl (Nat.le_of_ble_eq_true rfl) dL_feedsCode_4 ⟨(Nat.le_of_ble_eq_true rfl), (Nat.le_of_ble_eq_true rfl)⟩ ?_
  rintro v w ⟨rfl, aT, vT, yT, rfl, kT, rfl⟩
  refine g_norm (Lw' := [sPD E aD abuffer aB aPr aC2 aV aHs aSl afilled D_buffered D_lastErrorAt, sArrB E abuffer 600 buffer, sSB E aT vT 16 ([] : List Nat) yT]) (st' := [.ref (aT 0)]) (pc' := 7) [1, 2, 0] rfl rfl rfl rfl ?_
  refine g_astore_n (lv' := [some (.ref (aD 0)), some (.int x1), some (.ref (aT 0))]) F dL_feedsCode_7 (Nat.le_of_ble_eq_true rfl) rfl rfl ?_
  refine g_aload_n F dL_feedsCode_8 rfl ?_
  refine g_iload_n F dL_feedsCode_9 rfl ?_
  obtain ⟨T_1, hg_1, hf⟩ := gb1_el hf
  refine g_callS (Lr := [sPD E aD abuffer aB aPr aC2 aV aHs aSl afilled D_buffered D_lastErrorAt, sArrB E abuffer 600 buffer]) (As := [.ref (aT 0), .int x1]) (rest := []) F 2 (ctL_add l E aT x1 ([] : List Nat) vT 16 yT kT T_1 hg_1) (va_cwS 2 F.2.2.2.2.2.1 gL_feedsCode_L_add rfl rfl rfl h0L_add ⟨Nat.le_of_ble_eq_true rfl, Nat.le_of_ble_eq_true rfl⟩) [2] [0, 1] rfl rfl rfl rfl rfl rfl (Nat.le_of_ble_eq_true rfl) dL_feedsCode_10 ⟨(Nat.le_of_ble_eq_true rfl), (Nat.le_of_ble_eq_true rfl)⟩ ?_
  rintro v w ⟨vT_1, cT_1, yT_1, kT_1, rfl, rfl⟩
  refine g_norm (Lw' := [sPD E aD abuffer aB aPr aC2 aV aHs aSl afilled D_buffered D_lastErrorAt, sArrB E abuffer 600 buffer, sSB E aT vT_1 cT_1 T_1 yT_1]) (st' := []) (pc' := 13) [1, 2, 0] rfl rfl rfl rfl ?_
  refine g_aload_n F dL_feedsCode_13 rfl ?_
  refine g_aload_n F dL_feedsCode_14 rfl ?_
  refine g_callV (C := RJ4) (T := TJ4) (N := 4) (Lr := [sPD E aD abuffer aB aPr aC2 aV aHs aSl afilled D_buffered D_lastErrorAt, sArrB E abuffer 600 buffer]) (As := []) (rest := [.ref (aD 0)]) F 2 0 0 (ctSB_str l E aT vT_1 cT_1 T_1 yT_1 kT_1) gL_feedsCode_J4_toString_0e30d rfl rfl rfl h0J4_toString_0e30d ⟨Nat.le_of_ble_eq_true rfl, Nat.le_of_ble_eq_true rfl⟩ rfl rfl rfl [2] [0, 1] rfl rfl rfl rfl rfl rfl (Nat.le_of_ble_eq_true rfl) dL_feedsCode_15 ⟨(Nat.le_of_ble_eq_true rfl), (Nat.le_of_ble_eq_true rfl)⟩ ?_
  rintro v w ⟨aX, yX, kX, rfl, rfl⟩
  refine g_norm (Lw' := [sPD E aD abuffer aB aPr aC2 aV aHs aSl afilled D_buffered D_lastErrorAt, sArrB E abuffer 600 buffer, sSB E aT vT_1 cT_1 T_1 yT_1, sStr E aX T_1 yX]) (st' := [.ref (aX 0), .ref (aD 0)]) (pc' := 18) [2, 3, 0, 1] rfl rfl rfl rfl ?_
  obtain ⟨r_1, D_buffered_1, buffer_1, hg_2, hf⟩ := gb3_el hf
  refine g_callS (Lr := [sSB E aT vT_1 cT_1 T_1 yT_1]) (As := [.ref (aD 0), .ref (aX 0)]) (rest := []) F 2 (ctL_feeds l E aD abuffer aB aPr aC2 aV aHs aSl afilled aX D_buffered D_lastErrorAt buffer T_1 yX kX r_1 D_buffered_1 buffer_1 hg_2) (va_cwS 2 F.2.2.2.2.2.1 gL_feedsCode_L_feeds rfl rfl rfl h0L_feeds ⟨Nat.le_of_ble_eq_true rfl, Nat.le_of_ble_eq_true rfl⟩) [0, 1, 3] [2] rfl rfl rfl rfl rfl rfl (Nat.le_of_ble_eq_true rfl) dL_feedsCode_18 ⟨(Nat.le_of_ble_eq_true rfl), (Nat.le_of_ble_eq_true rfl)⟩ ?_
  rintro v w ⟨rfl, rfl, hz_1⟩
  refine g_norm (Lw' := [sPD E aD abuffer aB aPr aC2 aV aHs aSl afilled D_buffered_1 D_lastErrorAt, sArrB E abuffer 600 buffer_1, sSB E aT vT_1 cT_1 T_1 yT_1, sStr E aX T_1 yX]) (st' := [.int r_1]) (pc' := 21) [0, 1, 3, 2] rfl rfl rfl rfl ?_
  refine g_norm (Lw' := [sPD E aD abuffer aB aPr aC2 aV aHs aSl afilled D_buffered_1 D_lastErrorAt, sArrB E abuffer 600 buffer_1]) (st' := [.int r_1]) (pc' := 21) [0, 1] rfl rfl rfl rfl ?_
  refine g_widen (k := 40) (n := 10700) (Nat.le_of_ble_eq_true rfl) (Nat.le_of_ble_eq_true rfl) ?_
  cases hf
  exact g_zret (ty := .boolean) F rfl hz_1 ⟨rfl, rfl, hz_1⟩ dL_feedsCode_21
set_option maxHeartbeats 4000000 in
set_option maxRecDepth 100000 in
theorem ktL_has_L2 {p : Program} {l : Launch} {e : Env} {s : State} {m : MethodId} {args : Array Value} {below : List Frame} {meth : Method} {c : Code} {E : gE} {A : Nat → Prop} (F : gFx p s m args meth c RL wsL_has cL_has 4 (some .boolean) vwCl E A) (aL acoins aaccounts acode apaid aowner auses aidle auser aword acut : Nat → Nat) (x1 : Int32) (x2 : Int32) (word : (Nat → Int32)) (cut : (Nat → Int32)) (L_price : Int32) (L_letter : Int32) (L_deposit : Int32) (L_keep : Int32) (L_refund : Int32) (L_users : Int32) (L_pieces : Int32) (L_words : Int32) (L_time : Int32) (L_chest : Int32) (L_fund : Int32) (r : Int32) {k : Option (Int32)} (hk : k = some r → Gj p l e rmL_has s m args below meth c 0 0 (MQ below (gQ vwCl E A (fun v w => v = some (.int r) ∧ w = [sLB E aL acoins aaccounts acode apaid aowner auses aidle auser aword acut L_price L_letter L_deposit L_keep L_refund L_users L_pieces L_words L_time L_chest L_fund, sArrI E aword 17 word, sArrI E acut 17 cut] ∧ narrow .boolean (.int r) = .int r)) args s 0 0 A) vwCl E A [sLB E aL acoins aaccounts acode apaid aowner auses aidle auser aword acut L_price L_letter L_deposit L_keep L_refund L_users L_pieces L_words L_time L_chest L_fund, sArrI E aword 17 word, sArrI E acut 17 cut] [none, none, none, none] [] 44) : ∀ (n : Nat) (x3 : Int32), fL_has_L2 x1 x2 word cut k n x3 = some r → Gj p l e rmL_has s m args below meth c 0 0 (MQ below (gQ vwCl E A (fun v w => v = some (.int r) ∧ w = [sLB E aL acoins aaccounts acode apaid aowner auses aidle auser aword acut L_price L_letter L_deposit L_keep L_refund L_users L_pieces L_words L_time L_chest L_fund, sArrI E aword 17 word, sArrI E acut 17 cut] ∧ narrow .boolean (.int r) = .int r)) args s 0 0 A) vwCl E A [sLB E aL acoins aaccounts acode apaid aowner auses aidle auser aword acut L_price L_letter L_deposit L_keep L_refund L_users L_pieces L_words L_time L_chest L_fund, sArrI E aword 17 word, sArrI E acut 17 cut] [some (.ref (aL 0)), some (.int x1), some (.int x2), some (.int x3)] [] 2
  | 0, _, hf => by cases hf
  | n + 1, x3, hf => by
    have ih := ktL_has_L2 F aL acoins aaccounts acode apaid aowner auses aidle auser aword acut x1 x2 word cut L_price L_letter L_deposit L_keep L_refund L_users L_pieces L_words L_time L_chest L_fund r hk n
    rw [fL_has_L2] at hf
    refine g_iload_n F dL_has_2 rfl ?_
    refine g_aload_n F dL_has_3 rfl ?_
    refine g_getN (C := RX10) (T := TX10) (N := 21) F 0 0 20 rfl rfl rfl iL_has_X10 (by decide) (host := "PieceDepositsLaw") (by decide +kernel) rfl dL_has_4 ?_
    refine g_iload_n F dL_has_7 rfl ?_
    obtain ⟨hb_1, hf⟩ := gb_in hf
    refine g_iald F 2 0 (x1.toNatClampNeg) rfl rfl rfl hb_1 dL_has_8 ?_
    obtain ⟨r_1, hg_1, hf⟩ := gb1_el hf
    refine g_callS (Lr := [sLB E aL acoins aaccounts acode apaid aowner auses aidle auser aword acut L_price L_letter L_deposit L_keep L_refund L_users L_pieces L_words L_time L_chest L_fund, sArrI E aword 17 word, sArrI E acut 17 cut]) (As := [.int (cut (x1.toNatClampNeg))]) (rest := [.int x3]) F 1 (ctJ6_bitCount_0f7a4 l E (cut (x1.toNatClampNeg)) r_1 hg_1) (va_cwS 1 F.2.2.2.2.2.1 gL_has_J6_bitCount_0f7a4 rfl rfl rfl h0J6_bitCount_0f7a4 ⟨Nat.le_of_ble_eq_true rfl, Nat.le_of_ble_eq_true rfl⟩) [] [0, 1, 2] rfl rfl rfl rfl rfl rfl (Nat.le_of_ble_eq_true rfl) dL_has_9 ⟨(Nat.le_of_ble_eq_true rfl), (Nat.le_of_ble_eq_true rfl)⟩ ?_
    rintro v w ⟨rfl, rfl⟩
    refine g_norm (Lw' := [sLB E aL acoins aaccounts acode apaid aowner auses aidle auser aword acut L_price L_letter L_deposit L_keep L_refund L_users L_pieces L_words L_time L_chest L_fund, sArrI E aword 17 word, sArrI E acut 17 cut]) (st' := [.int r_1, .int x3]) (pc' := 12) [0, 1, 2] rfl rfl rfl rfl ?_
    refine g_icmp_gt F 44 dL_has_12 (by decide) (fun hc_2 => ?_) (fun hc_2 => ?_)
    · replace hf := gi_t hc_2 hf
      refine g_mask [false, false, false, false] rfl ?_
      exact hk hf
    · replace hf := gi_f hc_2 hf
      refine g_aload_n F dL_has_15 rfl ?_
      refine g_aload_n F dL_has_16 rfl ?_
      refine g_getN (C := RX10) (T := TX10) (N := 21) F 0 0 19 rfl rfl rfl iL_has_X10 (by decide) (host := "PieceDepositsLaw") (by decide +kernel) rfl dL_has_17 ?_
      refine g_iload_n F dL_has_20 rfl ?_
      obtain ⟨hb_2, hf⟩ := gb_in hf
      refine g_iald F 1 0 (x1.toNatClampNeg) rfl rfl rfl hb_2 dL_has_21 ?_
      refine g_aload_n F dL_has_22 rfl ?_
      refine g_getN (C := RX10) (T := TX10) (N := 21) F 0 0 20 rfl rfl rfl iL_has_X10 (by decide) (host := "PieceDepositsLaw") (by decide +kernel) rfl dL_has_23 ?_
      refine g_iload_n F dL_has_26 rfl ?_
      obtain ⟨hb_3, hf⟩ := gb_in hf
      refine g_iald F 2 0 (x1.toNatClampNeg) rfl rfl rfl hb_3 dL_has_27 ?_
      refine g_iload_n F dL_has_28 rfl ?_
      obtain ⟨r_2, hg_2, hf⟩ := gb1_el hf
      refine g_callV (C := RX10) (T := TX10) (N := 21) (Lr := [sLB E aL acoins aaccounts acode apaid aowner auses aidle auser aword acut L_price L_letter L_deposit L_keep L_refund L_users L_pieces L_words L_time L_chest L_fund, sArrI E aword 17 word, sArrI E acut 17 cut]) (As := [.int (word (x1.toNatClampNeg)), .int (cut (x1.toNatClampNeg)), .int x3]) (rest := []) F 0 0 3 (ctX10_piece l E aL (word (x1.toNatClampNeg)) (cut (x1.toNatClampNeg)) x3 r_2 hg_2) gL_has_X10_piece rfl rfl rfl h0X10_piece ⟨Nat.le_of_ble_eq_true rfl, Nat.le_of_ble_eq_true rfl⟩ rfl rfl rfl [] [0, 1, 2] rfl rfl rfl rfl rfl rfl (Nat.le_of_ble_eq_true rfl) dL_has_29 ⟨(Nat.le_of_ble_eq_true rfl), (Nat.le_of_ble_eq_true rfl)⟩ ?_
      rintro v w ⟨rfl, rfl⟩
      refine g_norm (Lw' := [sLB E aL acoins aaccounts acode apaid aowner auses aidle auser aword acut L_price L_letter L_deposit L_keep L_refund L_users L_pieces L_words L_time L_chest L_fund, sArrI E aword 17 word, sArrI E acut 17 cut]) (st' := [.int r_2]) (pc' := 32) [0, 1, 2] rfl rfl rfl rfl ?_
      refine g_iload_n F dL_has_32 rfl ?_
      refine g_icmp_ne F 38 dL_has_33 (by decide) (fun hc_1 => ?_) (fun hc_1 => ?_)
      · replace hf := gi_f hc_1 hf
        refine g_iinc (lv' := [some (.ref (aL 0)), some (.int x1), some (.int x2), some (.int (x3 + 1))]) F (x3 + 1) dL_has_38 rfl rfl rfl rfl ?_
        refine g_goto F 2 dL_has_41 (by decide) ?_
        exact ih (x3 + 1) hf
      · replace hf := gi_t hc_1 hf
        refine g_iconst F 1 dL_has_36 rfl ?_
        cases hf
        exact g_zret (ty := .boolean) F rfl rfl ⟨rfl, rfl, rfl⟩ dL_has_37
set_option maxHeartbeats 4000000 in
set_option maxRecDepth 100000 in
theorem ctL_has (l : Launch) (E : gE) (aL acoins aaccounts acode apaid aowner auses aidle auser aword acut : Nat → Nat) (x1 : Int32) (x2 : Int32) (L_price : Int32) (L_letter : Int32) (L_deposit : Int32) (L_keep : Int32) (L_refund : Int32) (L_users : Int32) (L_pieces : Int32) (L_words : Int32) (L_time : Int32) (L_chest : Int32) (L_fund : Int32) (word : (Nat → Int32)) (cut : (Nat → Int32)) (r : Int32) (hf : fL_has x1 x2 word cut = some r) : gMet l yL_has wsL_has rmL_has vwCl E [.ref (aL 0), .int x1, .int x2] [sLB E aL acoins aaccounts acode apaid aowner auses aidle auser aword acut L_price L_letter L_deposit L_keep L_refund L_users L_pieces L_words L_time L_chest L_fund, sArrI E aword 17 word, sArrI E acut 17 cut] (fun v w => v = some (.int r) ∧ w = [sLB E aL acoins aaccounts acode apaid aowner auses aidle auser aword acut L_price L_letter L_deposit L_keep L_refund L_users L_pieces L_words L_time L_chest L_fund, sArrI E aword 17 word, sArrI E acut 17 cut] ∧ narrow .boolean (.int r) = .int r) 0 0 := by
  refine g_entry [some (.ref (aL 0)), some (.int x1), some (.int x2), none] (by decide) rfl (Nat.le_of_ble_eq_true rfl) rfl ?_
  intro p e s m below meth c A F hnm
  unfold fL_has at hf
  refine g_iconst F 0 dL_has_0 rfl ?_
  refine g_istore_n (lv' := [some (.ref (aL 0)), some (.int x1), some (.int x2), some (.int 0)]) F dL_has_1 (Nat.le_of_ble_eq_true rfl) rfl rfl ?_
  refine ktL_has_L2 F aL acoins aaccounts acode apaid aowner auses aidle auser aword acut x1 x2 word cut L_price L_letter L_deposit L_keep L_refund L_users L_pieces L_words L_time L_chest L_fund r (fun hf => ?_) FU 0 hf
  refine g_iconst F 0 dL_has_44 rfl ?_
  cases hf
  exact g_zret (ty := .boolean) F rfl rfl ⟨rfl, rfl, rfl⟩ dL_has_45
set_option maxHeartbeats 4000000 in
set_option maxRecDepth 100000 in
theorem ktL_sum_L4 {p : Program} {l : Launch} {e : Env} {s : State} {m : MethodId} {args : Array Value} {below : List Frame} {meth : Method} {c : Code} {E : gE} {A : Nat → Prop} (F : gFx p s m args meth c RL wsL_sum cL_sum 4 (some .int) vwCl E A) (aL acoins aaccounts acode apaid aowner auses aidle auser aword acut : Nat → Nat) (x1 : Int32) (L_price : Int32) (L_letter : Int32) (L_deposit : Int32) (L_pieces : Int32) (L_words : Int32) (code : (Nat → Int32)) (word : (Nat → Int32)) (L_keep : Int32) (L_refund : Int32) (L_users : Int32) (L_time : Int32) (L_chest : Int32) (L_fund : Int32) (r : Int32) {k : Int32 → Option (Int32)} (hk : ∀ (x2 : Int32), k x2 = some r → Gj p l e rmL_sum s m args below meth c 0 0 (MQ below (gQ vwCl E A (fun v w => v = some (.int r) ∧ w = [sLB E aL acoins aaccounts acode apaid aowner auses aidle auser aword acut L_price L_letter L_deposit L_keep L_refund L_users L_pieces L_words L_time L_chest L_fund, sArrI E acode 25 code, sArrI E aword 17 word])) args s 0 0 A) vwCl E A [sLB E aL acoins aaccounts acode apaid aowner auses aidle auser aword acut L_price L_letter L_deposit L_keep L_refund L_users L_pieces L_words L_time L_chest L_fund, sArrI E acode 25 code, sArrI E aword 17 word] [none, none, some (.int x2), none] [] 27) : ∀ (n : Nat) (x2 : Int32) (x3 : Int32), fL_sum_L4 x1 L_price L_letter L_deposit L_pieces L_words code word k n x2 x3 = some r → Gj p l e rmL_sum s m args below meth c 0 0 (MQ below (gQ vwCl E A (fun v w => v = some (.int r) ∧ w = [sLB E aL acoins aaccounts acode apaid aowner auses aidle auser aword acut L_price L_letter L_deposit L_keep L_refund L_users L_pieces L_words L_time L_chest L_fund, sArrI E acode 25 code, sArrI E aword 17 word])) args s 0 0 A) vwCl E A [sLB E aL acoins aaccounts acode apaid aowner auses aidle auser aword acut L_price L_letter L_deposit L_keep L_refund L_users L_pieces L_words L_time L_chest L_fund, sArrI E acode 25 code, sArrI E aword 17 word] [some (.ref (aL 0)), some (.int x1), some (.int x2), some (.int x3)] [] 4
  | 0, _, _, hf => by cases hf
  | n + 1, x2, x3, hf => by
    have ih := ktL_sum_L4 F aL acoins aaccounts acode apaid aowner auses aidle auser aword acut x1 L_price L_letter L_deposit L_pieces L_words code word L_keep L_refund L_users L_time L_chest L_fund r hk n
    rw [fL_sum_L4] at hf
    refine g_iload_n F dL_sum_4 rfl ?_
    refine g_aload_n F dL_sum_5 rfl ?_
    refine g_getN (C := RX10) (T := TX10) (N := 21) F 0 0 7 rfl rfl rfl iL_sum_X10 (by decide) (host := "PieceDepositsLaw") (by decide +kernel) rfl dL_sum_6 ?_
    refine g_icmp_ge F 27 dL_sum_9 (by decide) (fun hc_1 => ?_) (fun hc_1 => ?_)
    · replace hf := gi_t hc_1 hf
      refine g_mask [false, false, true, false] rfl ?_
      exact hk x2 hf
    · replace hf := gi_f hc_1 hf
      refine g_iload_n F dL_sum_12 rfl ?_
      refine g_aload_n F dL_sum_13 rfl ?_
      refine g_iload_n F dL_sum_14 rfl ?_
      refine g_iload_n F dL_sum_15 rfl ?_
      obtain ⟨r_1, hg_1, hf⟩ := gb1_el hf
      refine g_callV (C := RX10) (T := TX10) (N := 21) (Lr := []) (As := [.int x3, .int x1]) (rest := [.int x2]) F 0 0 2 (ctX10_fewest l E aL acoins aaccounts acode apaid aowner auses aidle auser aword acut x3 x1 L_price L_letter L_deposit L_keep L_refund L_users L_pieces L_words L_time L_chest L_fund code word r_1 hg_1) gL_sum_X10_fewest rfl rfl rfl h0X10_fewest ⟨Nat.le_of_ble_eq_true rfl, Nat.le_of_ble_eq_true rfl⟩ rfl rfl rfl [0, 1, 2] [] rfl rfl rfl rfl rfl rfl (Nat.le_of_ble_eq_true rfl) dL_sum_16 ⟨(Nat.le_of_ble_eq_true rfl), (Nat.le_of_ble_eq_true rfl)⟩ ?_
      rintro v w ⟨rfl, rfl⟩
      refine g_norm (Lw' := [sLB E aL acoins aaccounts acode apaid aowner auses aidle auser aword acut L_price L_letter L_deposit L_keep L_refund L_users L_pieces L_words L_time L_chest L_fund, sArrI E acode 25 code, sArrI E aword 17 word]) (st' := [.int r_1, .int x2]) (pc' := 19) [0, 1, 2] rfl rfl rfl rfl ?_
      refine g_iadd F dL_sum_19 ?_
      refine g_istore_n (lv' := [some (.ref (aL 0)), some (.int x1), some (.int (x2 + r_1)), some (.int x3)]) F dL_sum_20 (Nat.le_of_ble_eq_true rfl) rfl rfl ?_
      refine g_iinc (lv' := [some (.ref (aL 0)), some (.int x1), some (.int (x2 + r_1)), some (.int (x3 + 1))]) F (x3 + 1) dL_sum_21 rfl rfl rfl rfl ?_
      refine g_goto F 4 dL_sum_24 (by decide) ?_
      exact ih (x2 + r_1) (x3 + 1) hf
set_option maxHeartbeats 4000000 in
set_option maxRecDepth 100000 in
theorem ctL_sum (l : Launch) (E : gE) (aL acoins aaccounts acode apaid aowner auses aidle auser aword acut : Nat → Nat) (x1 : Int32) (L_price : Int32) (L_letter : Int32) (L_deposit : Int32) (L_keep : Int32) (L_refund : Int32) (L_users : Int32) (L_pieces : Int32) (L_words : Int32) (L_time : Int32) (L_chest : Int32) (L_fund : Int32) (code : (Nat → Int32)) (word : (Nat → Int32)) (r : Int32) (hf : fL_sum x1 L_price L_letter L_deposit L_pieces L_words code word = some r) : gMet l yL_sum wsL_sum rmL_sum vwCl E [.ref (aL 0), .int x1] [sLB E aL acoins aaccounts acode apaid aowner auses aidle auser aword acut L_price L_letter L_deposit L_keep L_refund L_users L_pieces L_words L_time L_chest L_fund, sArrI E acode 25 code, sArrI E aword 17 word] (fun v w => v = some (.int r) ∧ w = [sLB E aL acoins aaccounts acode apaid aowner auses aidle auser aword acut L_price L_letter L_deposit L_keep L_refund L_users L_pieces L_words L_time L_chest L_fund, sArrI E acode 25 code, sArrI E aword 17 word]) 0 0 := by
  refine g_entry [some (.ref (aL 0)), some (.int x1), none, none] (by decide) rfl (Nat.le_of_ble_eq_true rfl) rfl ?_
  intro p e s m below meth c A F hnm
  unfold fL_sum at hf
  refine g_iconst F 0 dL_sum_0 rfl ?_
  refine g_istore_n (lv' := [some (.ref (aL 0)), some (.int x1), some (.int 0), none]) F dL_sum_1 (Nat.le_of_ble_eq_true rfl) rfl rfl ?_
  refine g_iconst F 0 dL_sum_2 rfl ?_
  refine g_istore_n (lv' := [some (.ref (aL 0)), some (.int x1), some (.int 0), some (.int 0)]) F dL_sum_3 (Nat.le_of_ble_eq_true rfl) rfl rfl ?_
  refine ktL_sum_L4 F aL acoins aaccounts acode apaid aowner auses aidle auser aword acut x1 L_price L_letter L_deposit L_pieces L_words code word L_keep L_refund L_users L_time L_chest L_fund r (fun x2_1 hf => ?_) FU 0 0 hf
  refine g_iload_n F dL_sum_27 rfl ?_
  cases hf
  exact g_iret F rfl ⟨rfl, rfl⟩ dL_sum_28
