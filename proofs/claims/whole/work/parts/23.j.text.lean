abbrev rmJ0_coder_7d493 : Room := { frames := 0, cells := 0, slots := 0, locals := 0 }
theorem h0J0_coder_7d493 : yJ0_coder_7d493.cls = RJ0 ∧ yJ0_coder_7d493.cls ≠ "java/lang/invoke/MethodHandle" ∧ yJ0_coder_7d493.cls ≠ "java/lang/invoke/VarHandle" ∧ (parseMethodDescriptor yJ0_coder_7d493.desc).map (fun d => d.parameters.length) = some 0 := by decide +kernel
abbrev rmJ0_length_8abf5 : Room := { frames := 1, cells := 0, slots := 0, locals := 20 }
theorem h0J0_length_8abf5 : yJ0_length_8abf5.cls = RJ0 ∧ yJ0_length_8abf5.cls ≠ "java/lang/invoke/MethodHandle" ∧ yJ0_length_8abf5.cls ≠ "java/lang/invoke/VarHandle" ∧ (parseMethodDescriptor yJ0_length_8abf5.desc).map (fun d => d.parameters.length) = some 0 := by decide +kernel
abbrev rmJ0_isLatin1_aae02 : Room := { frames := 0, cells := 0, slots := 0, locals := 0 }
theorem h0J0_isLatin1_aae02 : yJ0_isLatin1_aae02.cls = RJ0 ∧ yJ0_isLatin1_aae02.cls ≠ "java/lang/invoke/MethodHandle" ∧ yJ0_isLatin1_aae02.cls ≠ "java/lang/invoke/VarHandle" ∧ (parseMethodDescriptor yJ0_isLatin1_aae02.desc).map (fun d => d.parameters.length) = some 0 := by decide +kernel
abbrev rmJ3_checkIndex_8e157 : Room := { frames := 1, cells := 0, slots := 0, locals := 30 }
theorem h0J3_checkIndex_8e157 : yJ3_checkIndex_8e157.cls ≠ "java/lang/invoke/MethodHandle" ∧ yJ3_checkIndex_8e157.cls ≠ "java/lang/invoke/VarHandle" ∧ (parseMethodDescriptor yJ3_checkIndex_8e157.desc).map (fun d => d.parameters.length) = some 3 := by decide +kernel
abbrev rmJ0_checkIndex_df160 : Room := { frames := 2, cells := 0, slots := 0, locals := 52 }
theorem h0J0_checkIndex_df160 : yJ0_checkIndex_df160.cls ≠ "java/lang/invoke/MethodHandle" ∧ yJ0_checkIndex_df160.cls ≠ "java/lang/invoke/VarHandle" ∧ (parseMethodDescriptor yJ0_checkIndex_df160.desc).map (fun d => d.parameters.length) = some 2 := by decide +kernel
abbrev rmJ1_charAt_3b067 : Room := { frames := 3, cells := 0, slots := 0, locals := 73 }
theorem h0J1_charAt_3b067 : yJ1_charAt_3b067.cls ≠ "java/lang/invoke/MethodHandle" ∧ yJ1_charAt_3b067.cls ≠ "java/lang/invoke/VarHandle" ∧ (parseMethodDescriptor yJ1_charAt_3b067.desc).map (fun d => d.parameters.length) = some 2 := by decide +kernel
abbrev rmJ0_charAt_5068e : Room := { frames := 4, cells := 0, slots := 0, locals := 94 }
theorem h0J0_charAt_5068e : yJ0_charAt_5068e.cls = RJ0 ∧ yJ0_charAt_5068e.cls ≠ "java/lang/invoke/MethodHandle" ∧ yJ0_charAt_5068e.cls ≠ "java/lang/invoke/VarHandle" ∧ (parseMethodDescriptor yJ0_charAt_5068e.desc).map (fun d => d.parameters.length) = some 1 := by decide +kernel
abbrev rmX4_spell : Room := { frames := 5, cells := 0, slots := 0, locals := 115 }
theorem h0X4_spell : yX4_spell.cls ≠ "java/lang/invoke/MethodHandle" ∧ yX4_spell.cls ≠ "java/lang/invoke/VarHandle" ∧ (parseMethodDescriptor yX4_spell.desc).map (fun d => d.parameters.length) = some 2 := by decide +kernel
def fJ0_coder_7d493 (i0 : Nat) : Option (Int32) := if (1 : Int32) = 0 then (some 1) else (some 0)
def fJ0_length_8abf5 (i0 : Nat) : Option (Int32) := gb1 (fJ0_coder_7d493 i0) fun (r_1 : Int32) => some ((Int32.ofNat (gBy i0).length) >>> (r_1 &&& 31))
def fJ0_isLatin1_aae02 (i0 : Nat) : Option (Int32) := if (1 : Int32) = 0 then (some 0) else (if (0 : Int32) = 0 then (some 1) else (some 0))
def fJ3_checkIndex_8e157 (x0 : Int32) (x1 : Int32) : Option (Int32) := Lt ((none) : Option (Int32)) fun (j_1 : Option (Int32)) => if x0 < 0 then (j_1) else (if x0 < x1 then (some x0) else (j_1))
def fJ0_checkIndex_df160 (x0 : Int32) (x1 : Int32) : Option (Unit) := gb1 (fJ3_checkIndex_8e157 x0 x1) fun (r_1 : Int32) => some ()
def fJ1_charAt_3b067 (i0 : Nat) (x1 : Int32) : Option (Int32) := gb0 (fJ0_checkIndex_df160 x1 (Int32.ofNat (gBy i0).length)) <| if x1 < 0 ∨ (gBy i0).length ≤ x1.toNatClampNeg then none else some (((((gBy i0).getD x1.toNatClampNeg 0) &&& 255).toUInt32 % 65536).toInt32)
def fJ0_charAt_5068e (i0 : Nat) (x1 : Int32) : Option (Int32) := gb1 (fJ0_isLatin1_aae02 i0) fun (r_1 : Int32) => if r_1 = 0 then (none) else (gb1 (fJ1_charAt_3b067 i0 x1) fun (r_2 : Int32) => some r_2)
def fX4_spell_L2 (i2 : Nat) (x0 : Int64) (k : Option (Int32)) : Nat → Int32 → Option (Int32)
  | 0, _ => none
  | n + 1, x3 => gb1 (fJ0_length_8abf5 i2) fun (r_1 : Int32) => if r_1 ≤ x3 then (k) else (gb1 (fX4_letterAt x0 x3) fun (r_2 : Int32) => gb1 (fJ0_charAt_5068e i2 x3) fun (r_3 : Int32) => if r_2 = (r_3 - 97) then (fX4_spell_L2 i2 x0 k n (x3 + 1)) else (some 0))
def fX4_spell (i2 : Nat) (x0 : Int64) : Option (Int32) := fX4_spell_L2 i2 x0 (gb1 (fX4_lengthOf x0) fun (r_1 : Int32) => gb1 (fJ0_length_8abf5 i2) fun (r_2 : Int32) => if r_1 = r_2 then (some 1) else (some 0)) FU 0
set_option maxHeartbeats 4000000 in
set_option maxRecDepth 100000 in
theorem ctJ0_coder_7d493 (l : Launch) (E : gE) (i0 : Nat) (hi0 : i0 < 4) (r : Int32) (hf : fJ0_coder_7d493 i0 = some r) : gMet l yJ0_coder_7d493 wsJ0_coder_7d493 rmJ0_coder_7d493 vwCl E [.ref (E.2.2 i0)] [] (fun v w => v = some (.int r) ∧ w = [] ∧ narrow .byte (.int r) = .int r) 0 0 := by
  refine g_entry [some (.ref (E.2.2 i0))] (by decide) rfl (Nat.le_of_ble_eq_true rfl) rfl ?_
  intro p e s m below meth c A F hnm
  unfold fJ0_coder_7d493 at hf
  refine g_gets0 F (by decide +kernel) dJ0_coder_7d493_0 ?_
  refine g_ifeq F 13 dJ0_coder_7d493_3 (by decide) (fun hc_1 => ?_) (fun hc_1 => ?_)
  · replace hf := gi_t hc_1 hf
    refine g_iconst F 1 dJ0_coder_7d493_13 rfl ?_
    cases hf
    exact g_zret (ty := .byte) F rfl rfl ⟨rfl, rfl, rfl⟩ dJ0_coder_7d493_14
  · replace hf := gi_f hc_1 hf
    refine g_aload_n F dJ0_coder_7d493_6 rfl ?_
    refine g_strc F hi0 (by decide +kernel) dJ0_coder_7d493_7 ?_
    refine g_goto F 14 dJ0_coder_7d493_10 (by decide) ?_
    cases hf
    exact g_zret (ty := .byte) F rfl rfl ⟨rfl, rfl, rfl⟩ dJ0_coder_7d493_14
set_option maxHeartbeats 4000000 in
set_option maxRecDepth 100000 in
theorem ctJ0_length_8abf5 (l : Launch) (E : gE) (i0 : Nat) (hi0 : i0 < 4) (r : Int32) (hf : fJ0_length_8abf5 i0 = some r) : gMet l yJ0_length_8abf5 wsJ0_length_8abf5 rmJ0_length_8abf5 vwCl E [.ref (E.2.2 i0)] [] (fun v w => v = some (.int r) ∧ w = []) 0 0 := by
  refine g_entry [some (.ref (E.2.2 i0))] (by decide) rfl (Nat.le_of_ble_eq_true rfl) rfl ?_
  intro p e s m below meth c A F hnm
  unfold fJ0_length_8abf5 at hf
  refine g_aload_n F dJ0_length_8abf5_0 rfl ?_
  refine g_strv F hi0 (by decide +kernel) dJ0_length_8abf5_1 ?_
  refine g_strl F hi0 dJ0_length_8abf5_4 ?_
  refine g_aload_n F dJ0_length_8abf5_5 rfl ?_
  obtain ⟨r_1, hg_1, hf⟩ := gb1_el hf
  refine g_callVs (Lr := []) (As := []) (rest := [.int (Int32.ofNat (gBy i0).length)]) F 0 hi0 (ctJ0_coder_7d493 l E i0 hi0 r_1 hg_1) gJ0_length_8abf5_J0_coder_7d493 rfl rfl rfl h0J0_coder_7d493 ⟨Nat.le_of_ble_eq_true rfl, Nat.le_of_ble_eq_true rfl⟩ [] [] rfl rfl rfl rfl rfl rfl (Nat.le_of_ble_eq_true rfl) dJ0_length_8abf5_6 ⟨Nat.le_of_ble_eq_true rfl, Nat.le_of_ble_eq_true rfl⟩ ?_
  rintro v w ⟨rfl, rfl, hz_1⟩
  refine g_norm (Lw' := []) (st' := [.int r_1, .int (Int32.ofNat (gBy i0).length)]) (pc' := 9) [] rfl rfl rfl rfl ?_
  refine g_ishr F dJ0_length_8abf5_9 ?_
  cases hf
  exact g_iret F rfl ⟨rfl, rfl⟩ dJ0_length_8abf5_10
set_option maxHeartbeats 4000000 in
set_option maxRecDepth 100000 in
theorem ctJ0_isLatin1_aae02 (l : Launch) (E : gE) (i0 : Nat) (hi0 : i0 < 4) (r : Int32) (hf : fJ0_isLatin1_aae02 i0 = some r) : gMet l yJ0_isLatin1_aae02 wsJ0_isLatin1_aae02 rmJ0_isLatin1_aae02 vwCl E [.ref (E.2.2 i0)] [] (fun v w => v = some (.int r) ∧ w = [] ∧ narrow .boolean (.int r) = .int r) 0 0 := by
  refine g_entry [some (.ref (E.2.2 i0))] (by decide) rfl (Nat.le_of_ble_eq_true rfl) rfl ?_
  intro p e s m below meth c A F hnm
  unfold fJ0_isLatin1_aae02 at hf
  refine g_gets0 F (by decide +kernel) dJ0_isLatin1_aae02_0 ?_
  refine g_ifeq F 17 dJ0_isLatin1_aae02_3 (by decide) (fun hc_2 => ?_) (fun hc_2 => ?_)
  · replace hf := gi_t hc_2 hf
    refine g_iconst F 0 dJ0_isLatin1_aae02_17 rfl ?_
    cases hf
    exact g_zret (ty := .boolean) F rfl rfl ⟨rfl, rfl, rfl⟩ dJ0_isLatin1_aae02_18
  · replace hf := gi_f hc_2 hf
    refine g_aload_n F dJ0_isLatin1_aae02_6 rfl ?_
    refine g_strc F hi0 (by decide +kernel) dJ0_isLatin1_aae02_7 ?_
    refine g_ifne F 17 dJ0_isLatin1_aae02_10 (by decide) (fun hc_1 => ?_) (fun hc_1 => ?_)
    · replace hf := gi_f hc_1 hf
      refine g_iconst F 0 dJ0_isLatin1_aae02_17 rfl ?_
      cases hf
      exact g_zret (ty := .boolean) F rfl rfl ⟨rfl, rfl, rfl⟩ dJ0_isLatin1_aae02_18
    · replace hf := gi_t hc_1 hf
      refine g_iconst F 1 dJ0_isLatin1_aae02_13 rfl ?_
      refine g_goto F 18 dJ0_isLatin1_aae02_14 (by decide) ?_
      cases hf
      exact g_zret (ty := .boolean) F rfl rfl ⟨rfl, rfl, rfl⟩ dJ0_isLatin1_aae02_18
set_option maxHeartbeats 4000000 in
set_option maxRecDepth 100000 in
theorem ctJ3_checkIndex_8e157 (l : Launch) (E : gE) (x0 : Int32) (x1 : Int32) (q2 : Option Nat) (r : Int32) (hf : fJ3_checkIndex_8e157 x0 x1 = some r) : gMet l yJ3_checkIndex_8e157 wsJ3_checkIndex_8e157 rmJ3_checkIndex_8e157 vwCl E [.int x0, .int x1, va_rf q2] [] (fun v w => v = some (.int r) ∧ w = []) 0 0 := by
  refine g_entry [some (.int x0), some (.int x1), some (va_rf q2)] (by decide) rfl (by cases q2 <;> exact Nat.le_of_ble_eq_true rfl) (by cases q2 <;> rfl) ?_
  intro p e s m below meth c A F hnm
  unfold fJ3_checkIndex_8e157 at hf
  refine g_iload_n F dJ3_checkIndex_8e157_0 rfl ?_
  obtain ⟨j_1, hj_1, hf⟩ := Lt_el hf
  have hj_1 : j_1 = some r → Gj p l e rmJ3_checkIndex_8e157 s m ([.int x0, .int x1, va_rf q2] : List Value).toArray below meth c 0 0 (MQ below (gQ vwCl E A (fun v w => v = some (.int r) ∧ w = [])) ([.int x0, .int x1, va_rf q2] : List Value).toArray s 0 0 A) vwCl E A [] [some (.int x0), some (.int x1), some (va_rf q2)] [] 9 := by
    intro hf
    rw [hj_1] at hf
    cases hf
  refine g_iflt F 9 dJ3_checkIndex_8e157_1 (by decide) (fun hc_2 => ?_) (fun hc_2 => ?_)
  · replace hf := gi_t hc_2 hf
    exact hj_1 hf
  · replace hf := gi_f hc_2 hf
    refine g_iload_n F dJ3_checkIndex_8e157_4 rfl ?_
    refine g_iload_n F dJ3_checkIndex_8e157_5 rfl ?_
    refine g_icmp_lt F 16 dJ3_checkIndex_8e157_6 (by decide) (fun hc_1 => ?_) (fun hc_1 => ?_)
    · replace hf := gi_t hc_1 hf
      refine g_iload_n F dJ3_checkIndex_8e157_16 rfl ?_
      cases hf
      exact g_iret F rfl ⟨rfl, rfl⟩ dJ3_checkIndex_8e157_17
    · replace hf := gi_f hc_1 hf
      exact hj_1 hf
set_option maxHeartbeats 4000000 in
set_option maxRecDepth 100000 in
theorem ctJ0_checkIndex_df160 (l : Launch) (E : gE) (x0 : Int32) (x1 : Int32) (hf : fJ0_checkIndex_df160 x0 x1 = some ()) : gMet l yJ0_checkIndex_df160 wsJ0_checkIndex_df160 rmJ0_checkIndex_df160 vwCl E [.int x0, .int x1] [] (fun v w => v = none ∧ w = []) 0 0 := by
  refine g_entry [some (.int x0), some (.int x1)] (by decide) rfl (Nat.le_of_ble_eq_true rfl) rfl ?_
  intro p e s m below meth c A F hnm
  unfold fJ0_checkIndex_df160 at hf
  refine g_iload_n F dJ0_checkIndex_df160_0 rfl ?_
  refine g_iload_n F dJ0_checkIndex_df160_1 rfl ?_
  refine g_getsQ F (by decide +kernel) dJ0_checkIndex_df160_2 (fun q_1 => ?_)
  obtain ⟨r_1, hg_1, hf⟩ := gb1_el hf
  refine g_callS (Lr := []) (As := [.int x0, .int x1, va_rf q_1]) (rest := []) F 3 (ctJ3_checkIndex_8e157 l E x0 x1 q_1 r_1 hg_1) (va_cwS 3 F.2.2.2.2.2.1 gJ0_checkIndex_df160_J3_checkIndex_8e157 rfl rfl rfl h0J3_checkIndex_8e157 ⟨Nat.le_of_ble_eq_true rfl, Nat.le_of_ble_eq_true rfl⟩) [] [] rfl rfl rfl rfl rfl rfl (Nat.le_of_ble_eq_true rfl) dJ0_checkIndex_df160_5 ⟨Nat.le_of_ble_eq_true rfl, Nat.le_of_ble_eq_true rfl⟩ ?_
  rintro v w ⟨rfl, rfl⟩
  refine g_norm (Lw' := []) (st' := [.int r_1]) (pc' := 8) [] rfl rfl rfl rfl ?_
  refine g_pop F dJ0_checkIndex_df160_8 rfl ?_
  cases hf
  exact g_vret F rfl ⟨rfl, rfl⟩ dJ0_checkIndex_df160_9
set_option maxHeartbeats 4000000 in
set_option maxRecDepth 100000 in
theorem ctJ1_charAt_3b067 (l : Launch) (E : gE) (i0 : Nat) (x1 : Int32) (hi0 : i0 < 4) (r : Int32) (hf : fJ1_charAt_3b067 i0 x1 = some r) : gMet l yJ1_charAt_3b067 wsJ1_charAt_3b067 rmJ1_charAt_3b067 vwCl E [.ref (E.2.2 (4 + i0)), .int x1] [] (fun v w => v = some (.int r) ∧ w = [] ∧ narrow .char (.int r) = .int r) 0 0 := by
  refine g_entry [some (.ref (E.2.2 (4 + i0))), some (.int x1)] (by decide) rfl (Nat.le_of_ble_eq_true rfl) rfl ?_
  intro p e s m below meth c A F hnm
  unfold fJ1_charAt_3b067 at hf
  refine g_iload_n F dJ1_charAt_3b067_0 rfl ?_
  refine g_aload_n F dJ1_charAt_3b067_1 rfl ?_
  refine g_strl F hi0 dJ1_charAt_3b067_2 ?_
  obtain ⟨hg_1, hf⟩ := gb0_el hf
  refine g_callS (Lr := []) (As := [.int x1, .int (Int32.ofNat (gBy i0).length)]) (rest := []) F 2 (ctJ0_checkIndex_df160 l E x1 (Int32.ofNat (gBy i0).length) hg_1) (va_cwS 2 F.2.2.2.2.2.1 gJ1_charAt_3b067_J0_checkIndex_df160 rfl rfl rfl h0J0_checkIndex_df160 ⟨Nat.le_of_ble_eq_true rfl, Nat.le_of_ble_eq_true rfl⟩) [] [] rfl rfl rfl rfl rfl rfl (Nat.le_of_ble_eq_true rfl) dJ1_charAt_3b067_3 ⟨Nat.le_of_ble_eq_true rfl, Nat.le_of_ble_eq_true rfl⟩ ?_
  rintro v w ⟨rfl, rfl⟩
  refine g_norm (Lw' := []) (st' := []) (pc' := 6) [] rfl rfl rfl rfl ?_
  refine g_aload_n F dJ1_charAt_3b067_6 rfl ?_
  refine g_iload_n F dJ1_charAt_3b067_7 rfl ?_
  obtain ⟨hb_1, hf⟩ := gb_in hf
  refine g_strb F hi0 hb_1 dJ1_charAt_3b067_8 ?_
  refine g_sipush F 255 dJ1_charAt_3b067_9 rfl ?_
  refine g_iand F dJ1_charAt_3b067_12 ?_
  refine g_i2c F dJ1_charAt_3b067_13 ?_
  cases hf
  exact g_zret (ty := .char) F rfl (pk_nc _) ⟨rfl, rfl, (pk_nc _)⟩ dJ1_charAt_3b067_14
set_option maxHeartbeats 4000000 in
set_option maxRecDepth 100000 in
theorem ctJ0_charAt_5068e (l : Launch) (E : gE) (i0 : Nat) (x1 : Int32) (hi0 : i0 < 4) (r : Int32) (hf : fJ0_charAt_5068e i0 x1 = some r) : gMet l yJ0_charAt_5068e wsJ0_charAt_5068e rmJ0_charAt_5068e vwCl E [.ref (E.2.2 i0), .int x1] [] (fun v w => v = some (.int r) ∧ w = [] ∧ narrow .char (.int r) = .int r) 0 0 := by
  refine g_entry [some (.ref (E.2.2 i0)), some (.int x1)] (by decide) rfl (Nat.le_of_ble_eq_true rfl) rfl ?_
  intro p e s m below meth c A F hnm
  unfold fJ0_charAt_5068e at hf
  refine g_aload_n F dJ0_charAt_5068e_0 rfl ?_
  obtain ⟨r_1, hg_1, hf⟩ := gb1_el hf
  refine g_callVs (Lr := []) (As := []) (rest := []) F 0 hi0 (ctJ0_isLatin1_aae02 l E i0 hi0 r_1 hg_1) gJ0_charAt_5068e_J0_isLatin1_aae02 rfl rfl rfl h0J0_isLatin1_aae02 ⟨Nat.le_of_ble_eq_true rfl, Nat.le_of_ble_eq_true rfl⟩ [] [] rfl rfl rfl rfl rfl rfl (Nat.le_of_ble_eq_true rfl) dJ0_charAt_5068e_1 ⟨Nat.le_of_ble_eq_true rfl, Nat.le_of_ble_eq_true rfl⟩ ?_
  rintro v w ⟨rfl, rfl, hz_1⟩
  refine g_norm (Lw' := []) (st' := [.int r_1]) (pc' := 4) [] rfl rfl rfl rfl ?_
  refine g_ifeq F 16 dJ0_charAt_5068e_4 (by decide) (fun hc_1 => ?_) (fun hc_1 => ?_)
  · replace hf := gi_t hc_1 hf
    cases hf
  · replace hf := gi_f hc_1 hf
    refine g_aload_n F dJ0_charAt_5068e_7 rfl ?_
    refine g_strv F hi0 (by decide +kernel) dJ0_charAt_5068e_8 ?_
    refine g_iload_n F dJ0_charAt_5068e_11 rfl ?_
    obtain ⟨r_2, hg_2, hf⟩ := gb1_el hf
    refine g_callS (Lr := []) (As := [.ref (E.2.2 (4 + i0)), .int x1]) (rest := []) F 2 (ctJ1_charAt_3b067 l E i0 x1 hi0 r_2 hg_2) (va_cwS 2 F.2.2.2.2.2.1 gJ0_charAt_5068e_J1_charAt_3b067 rfl rfl rfl h0J1_charAt_3b067 ⟨Nat.le_of_ble_eq_true rfl, Nat.le_of_ble_eq_true rfl⟩) [] [] rfl rfl rfl rfl rfl rfl (Nat.le_of_ble_eq_true rfl) dJ0_charAt_5068e_12 ⟨Nat.le_of_ble_eq_true rfl, Nat.le_of_ble_eq_true rfl⟩ ?_
    rintro v w ⟨rfl, rfl, hz_2⟩
    refine g_norm (Lw' := []) (st' := [.int r_2]) (pc' := 15) [] rfl rfl rfl rfl ?_
    cases hf
    exact g_zret (ty := .char) F rfl hz_2 ⟨rfl, rfl, hz_2⟩ dJ0_charAt_5068e_15
set_option maxHeartbeats 4000000 in
set_option maxRecDepth 100000 in
theorem ktX4_spell_L2 {p : Program} {l : Launch} {e : Env} {s : State} {m : MethodId} {args : Array Value} {below : List Frame} {meth : Method} {c : Code} {E : gE} {A : Nat → Prop} (F : gFx p s m args meth c RX4 wsX4_spell cX4_spell 4 (some .boolean) vwCl E A) (i2 : Nat) (hi2 : i2 < 4) (x0 : Int64) (r : Int32) {k : Option (Int32)} (hk : k = some r → Gj p l e rmX4_spell s m args below meth c 0 0 (MQ below (gQ vwCl E A (fun v w => v = some (.int r) ∧ w = [] ∧ narrow .boolean (.int r) = .int r)) args s 0 0 A) vwCl E A [] [some (.long x0), none, some (.ref (E.2.2 i2)), none] [] 34) : ∀ (n : Nat) (x3 : Int32), fX4_spell_L2 i2 x0 k n x3 = some r → Gj p l e rmX4_spell s m args below meth c 0 0 (MQ below (gQ vwCl E A (fun v w => v = some (.int r) ∧ w = [] ∧ narrow .boolean (.int r) = .int r)) args s 0 0 A) vwCl E A [] [some (.long x0), none, some (.ref (E.2.2 i2)), some (.int x3)] [] 2
  | 0, _, hf => by cases hf
  | n + 1, x3, hf => by
    have ih := ktX4_spell_L2 F  i2 hi2 x0 r hk n
    rw [fX4_spell_L2] at hf
    refine g_iload_n F dX4_spell_2 rfl ?_
    refine g_aload_n F dX4_spell_3 rfl ?_
    obtain ⟨r_1, hg_1, hf⟩ := gb1_el hf
    refine g_callVs (Lr := []) (As := []) (rest := [.int x3]) F 0 hi2 (ctJ0_length_8abf5 l E i2 hi2 r_1 hg_1) gX4_spell_J0_length_8abf5 rfl rfl rfl h0J0_length_8abf5 ⟨Nat.le_of_ble_eq_true rfl, Nat.le_of_ble_eq_true rfl⟩ [] [] rfl rfl rfl rfl rfl rfl (Nat.le_of_ble_eq_true rfl) dX4_spell_4 ⟨Nat.le_of_ble_eq_true rfl, Nat.le_of_ble_eq_true rfl⟩ ?_
    rintro v w ⟨rfl, rfl⟩
    refine g_norm (Lw' := []) (st' := [.int r_1, .int x3]) (pc' := 7) [] rfl rfl rfl rfl ?_
    refine g_icmp_ge F 34 dX4_spell_7 (by decide) (fun hc_2 => ?_) (fun hc_2 => ?_)
    · replace hf := gi_t hc_2 hf
      refine g_mask [true, true, true, false] rfl ?_
      exact hk hf
    · replace hf := gi_f hc_2 hf
      refine g_lload_n F dX4_spell_10 rfl ?_
      refine g_iload_n F dX4_spell_11 rfl ?_
      obtain ⟨r_2, hg_2, hf⟩ := gb1_el hf
      refine g_callS (Lr := []) (As := [.long x0, .int x3]) (rest := []) F 2 (ctX4_letterAt l E x0 x3 r_2 hg_2) (va_cwS 2 F.2.2.2.2.2.1 gX4_spell_X4_letterAt rfl rfl rfl h0X4_letterAt ⟨Nat.le_of_ble_eq_true rfl, Nat.le_of_ble_eq_true rfl⟩) [] [] rfl rfl rfl rfl rfl rfl (Nat.le_of_ble_eq_true rfl) dX4_spell_12 ⟨Nat.le_of_ble_eq_true rfl, Nat.le_of_ble_eq_true rfl⟩ ?_
      rintro v w ⟨rfl, rfl⟩
      refine g_norm (Lw' := []) (st' := [.int r_2]) (pc' := 15) [] rfl rfl rfl rfl ?_
      refine g_aload_n F dX4_spell_15 rfl ?_
      refine g_iload_n F dX4_spell_16 rfl ?_
      obtain ⟨r_3, hg_3, hf⟩ := gb1_el hf
      refine g_callVs (Lr := []) (As := [.int x3]) (rest := [.int r_2]) F 1 hi2 (ctJ0_charAt_5068e l E i2 x3 hi2 r_3 hg_3) gX4_spell_J0_charAt_5068e rfl rfl rfl h0J0_charAt_5068e ⟨Nat.le_of_ble_eq_true rfl, Nat.le_of_ble_eq_true rfl⟩ [] [] rfl rfl rfl rfl rfl rfl (Nat.le_of_ble_eq_true rfl) dX4_spell_17 ⟨Nat.le_of_ble_eq_true rfl, Nat.le_of_ble_eq_true rfl⟩ ?_
      rintro v w ⟨rfl, rfl, hz_1⟩
      refine g_norm (Lw' := []) (st' := [.int r_3, .int r_2]) (pc' := 20) [] rfl rfl rfl rfl ?_
      refine g_bipush F 97 dX4_spell_20 rfl ?_
      refine g_isub F dX4_spell_22 ?_
      refine g_icmp_eq F 28 dX4_spell_23 (by decide) (fun hc_1 => ?_) (fun hc_1 => ?_)
      · replace hf := gi_t hc_1 hf
        refine g_iinc (lv' := [some (.long x0), none, some (.ref (E.2.2 i2)), some (.int (x3 + 1))]) F (x3 + 1) dX4_spell_28 rfl rfl rfl rfl ?_
        refine g_goto F 2 dX4_spell_31 (by decide) ?_
        exact ih (x3 + 1) hf
      · replace hf := gi_f hc_1 hf
        refine g_iconst F 0 dX4_spell_26 rfl ?_
        cases hf
        exact g_zret (ty := .boolean) F rfl rfl ⟨rfl, rfl, rfl⟩ dX4_spell_27
set_option maxHeartbeats 4000000 in
set_option maxRecDepth 100000 in
theorem ctX4_spell (l : Launch) (E : gE) (i2 : Nat) (x0 : Int64) (hi2 : i2 < 4) (r : Int32) (hf : fX4_spell i2 x0 = some r) : gMet l yX4_spell wsX4_spell rmX4_spell vwCl E [.long x0, .ref (E.2.2 i2)] [] (fun v w => v = some (.int r) ∧ w = [] ∧ narrow .boolean (.int r) = .int r) 0 0 := by
  refine g_entry [some (.long x0), none, some (.ref (E.2.2 i2)), none] (by decide) rfl (Nat.le_of_ble_eq_true rfl) rfl ?_
  intro p e s m below meth c A F hnm
  unfold fX4_spell at hf
  refine g_iconst F 0 dX4_spell_0 rfl ?_
  refine g_istore_n (lv' := [some (.long x0), none, some (.ref (E.2.2 i2)), some (.int 0)]) F dX4_spell_1 (Nat.le_of_ble_eq_true rfl) rfl rfl ?_
  refine ktX4_spell_L2 F  i2 hi2 x0 r (fun hf => ?_) FU 0 hf
  refine g_lload_n F dX4_spell_34 rfl ?_
  obtain ⟨r_1, hg_1, hf⟩ := gb1_el hf
  refine g_callS (Lr := []) (As := [.long x0]) (rest := []) F 1 (ctX4_lengthOf l E x0 r_1 hg_1) (va_cwS 1 F.2.2.2.2.2.1 gX4_spell_X4_lengthOf rfl rfl rfl h0X4_lengthOf ⟨Nat.le_of_ble_eq_true rfl, Nat.le_of_ble_eq_true rfl⟩) [] [] rfl rfl rfl rfl rfl rfl (Nat.le_of_ble_eq_true rfl) dX4_spell_35 ⟨Nat.le_of_ble_eq_true rfl, Nat.le_of_ble_eq_true rfl⟩ ?_
  rintro v w ⟨rfl, rfl⟩
  refine g_norm (Lw' := []) (st' := [.int r_1]) (pc' := 38) [] rfl rfl rfl rfl ?_
  refine g_aload_n F dX4_spell_38 rfl ?_
  obtain ⟨r_2, hg_2, hf⟩ := gb1_el hf
  refine g_callVs (Lr := []) (As := []) (rest := [.int r_1]) F 0 hi2 (ctJ0_length_8abf5 l E i2 hi2 r_2 hg_2) gX4_spell_J0_length_8abf5 rfl rfl rfl h0J0_length_8abf5 ⟨Nat.le_of_ble_eq_true rfl, Nat.le_of_ble_eq_true rfl⟩ [] [] rfl rfl rfl rfl rfl rfl (Nat.le_of_ble_eq_true rfl) dX4_spell_39 ⟨Nat.le_of_ble_eq_true rfl, Nat.le_of_ble_eq_true rfl⟩ ?_
  rintro v w ⟨rfl, rfl⟩
  refine g_norm (Lw' := []) (st' := [.int r_2, .int r_1]) (pc' := 42) [] rfl rfl rfl rfl ?_
  refine g_icmp_ne F 49 dX4_spell_42 (by decide) (fun hc_1 => ?_) (fun hc_1 => ?_)
  · replace hf := gi_f hc_1 hf
    refine g_iconst F 0 dX4_spell_49 rfl ?_
    cases hf
    exact g_zret (ty := .boolean) F rfl rfl ⟨rfl, rfl, rfl⟩ dX4_spell_50
  · replace hf := gi_t hc_1 hf
    refine g_iconst F 1 dX4_spell_45 rfl ?_
    refine g_goto F 50 dX4_spell_46 (by decide) ?_
    cases hf
    exact g_zret (ty := .boolean) F rfl rfl ⟨rfl, rfl, rfl⟩ dX4_spell_50
