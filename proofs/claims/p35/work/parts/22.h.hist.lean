def sHk (E : gE) (a : Nat → Nat) (c : Int32) (g : Nat → Option Nat) : va_W := [(a 0, .inr (5, [.int c, .ref (a 1)])), (a 1, .inl (E.2.1 4, 10, .inr (.inr (.inr (.inr g)))))]
def hRk (kb : Nat → Nat → Nat → Nat) (k : Nat) : Nat → Option Nat := fun i => if i < 10 then some (if i < k then kb (i + 1) 0 0 else kb i 0 0) else none
def hRot {α : Type} (f : Nat → α) : Nat → α := fun i => if i < 9 then f (i + 1) else if i = 9 then f 0 else f i
theorem hRk_up {kb : Nat → Nat → Nat → Nat} {k : Nat} (h : k < 9) : va_up (hRk kb k) k (some (kb (k + 1) 0 0)) = hRk kb (k + 1) := by
  funext i
  unfold va_up hRk
  by_cases e : i = k
  · subst e
    rw [if_pos rfl, if_pos (by omega), if_pos (by omega)]
  · rw [if_neg e]
    by_cases h1 : i < 10
    · rw [if_pos h1, if_pos h1]
      by_cases h2 : i < k
      · rw [if_pos h2, if_pos (by omega)]
      · rw [if_neg h2, if_neg (by omega)]
    · rw [if_neg h1, if_neg h1]
theorem hRk_at {kb : Nat → Nat → Nat → Nat} {k : Nat} (h : k < 9) : hRk kb k (k + 1) = some (kb (k + 1) 0 0) := by
  unfold hRk
  rw [if_pos (by omega), if_neg (by omega)]
theorem hRk_0 {kb : Nat → Nat → Nat → Nat} : (fun i => if i < 10 then some (kb i 0 0) else none) = hRk kb 0 := by
  funext i
  unfold hRk
  by_cases h1 : i < 10
  · rw [if_pos h1, if_pos h1, if_neg (by omega)]
  · rw [if_neg h1, if_neg h1]
theorem hRk_9 {kb : Nat → Nat → Nat → Nat} : va_up (hRk kb 9) 9 (some (kb 0 0 0)) = (fun i => if i < 10 then some (hRot kb i 0 0) else none) := by
  funext i
  unfold va_up hRk hRot
  by_cases e : i = 9
  · subst e
    simp
  · rw [if_neg e]
    by_cases h1 : i < 10
    · rw [if_pos h1, if_pos h1, if_pos (by omega), if_pos (by omega)]
    · rw [if_neg h1, if_neg h1]
theorem bkAll_rot {E : gE} {kb : Nat → Nat → Nat → Nat} {K : Nat → tBk} : (bkAll E (hRot kb) (hRot K) (List.range 10)).Perm (bkAll E kb K (List.range 10)) := by
  have e1 : bkAll E kb K (List.range 10) = bkC E (kb 0) (K 0) ++ bkAll E kb K [1, 2, 3, 4, 5, 6, 7, 8, 9] := rfl
  have e2 : bkAll E (hRot kb) (hRot K) (List.range 10) = bkAll E kb K [1, 2, 3, 4, 5, 6, 7, 8, 9] ++ bkC E (kb 0) (K 0) := by
    have : bkAll E (hRot kb) (hRot K) (List.range 10) = bkC E (kb 1) (K 1) ++ (bkC E (kb 2) (K 2) ++ (bkC E (kb 3) (K 3) ++ (bkC E (kb 4) (K 4) ++ (bkC E (kb 5) (K 5) ++ (bkC E (kb 6) (K 6) ++ (bkC E (kb 7) (K 7) ++ (bkC E (kb 8) (K 8) ++ (bkC E (kb 9) (K 9) ++ (bkC E (kb 0) (K 0) ++ []))))))))) := rfl
    rw [this]
    show _ = (bkC E (kb 1) (K 1) ++ (bkC E (kb 2) (K 2) ++ (bkC E (kb 3) (K 3) ++ (bkC E (kb 4) (K 4) ++ (bkC E (kb 5) (K 5) ++ (bkC E (kb 6) (K 6) ++ (bkC E (kb 7) (K 7) ++ (bkC E (kb 8) (K 8) ++ (bkC E (kb 9) (K 9) ++ []))))))))) ++ bkC E (kb 0) (K 0)
    simp only [List.append_assoc, List.append_nil, List.nil_append]
  rw [e1, e2]
  exact List.perm_append_comm
theorem bkAll_obj {E : gE} {kb : Nat → Nat → Nat → Nat} {K : Nat → tBk} {L : List Nat} {i : Nat} (h : i ∈ L) : ∃ (j : Nat) (vs : List Value), (bkAll E kb K L)[j]? = some (kb i 0 0, .inr (3, vs)) := by
  have hm : ∃ vs : List Value, (kb i 0 0, (.inr (3, vs) : va_E)) ∈ bkAll E kb K L := by
    refine ⟨[.ref (kb i 1 0), .ref (kb i 2 0), .ref (kb i 3 0), .ref (kb i 4 0), .ref (kb i 5 0), .int (K i).1, .int (K i).2.1, .int (K i).2.2.1], List.mem_flatMap.mpr ⟨i, h, ?_⟩⟩
    unfold bkC bkS
    rw [List.flatten_cons]
    exact List.mem_append_left _ List.mem_cons_self
  obtain ⟨vs, hm⟩ := hm
  obtain ⟨j, hj⟩ := List.getElem?_of_mem hm
  exact ⟨j, vs, hj⟩
abbrev rmX3_forgetOldest : Room := { frames := 0, cells := 0, slots := 0, locals := 0 }
theorem iX3_forgetOldest_X3 : ∀ w ∈ u_ws RX3 TX3 2, w ∈ wsX3_forgetOldest := by decide +kernel
theorem h0X3_forgetOldest : yX3_forgetOldest.cls = RX3 ∧ yX3_forgetOldest.cls ≠ "java/lang/invoke/MethodHandle" ∧ yX3_forgetOldest.cls ≠ "java/lang/invoke/VarHandle" ∧ (parseMethodDescriptor yX3_forgetOldest.desc).map (fun d => d.parameters.length) = some 0 := by decide +kernel
def fX3_forgetOldest (Hs : tHist) : Option tHist := some (Hs.1 - 1, hRot Hs.2.1, hRot Hs.2.2)
set_option maxHeartbeats 4000000 in
set_option maxRecDepth 100000 in
theorem ctX3_forgetOldest (l : Launch) (E : gE) (aHs : Nat → Nat) (Hs : tHist) (Hs' : tHist) (hf : fX3_forgetOldest Hs = some Hs') : gMet l yX3_forgetOldest wsX3_forgetOldest rmX3_forgetOldest vwCl E [.ref (aHs 0)] [sHist E aHs Hs] (fun v w => v = none ∧ w = [sHist E aHs Hs']) 0 0 := by
  refine g_entry [some (.ref (aHs 0)), none, none] (by decide) rfl (Nat.le_of_ble_eq_true rfl) rfl ?_
  intro p e s m below meth c A F hnm
  unfold fX3_forgetOldest at hf
  cases hf
  refine g_split (seg1 := sHk E aHs Hs.1 (hRk Hs.2.1 0)) (Lb := [bkAll E Hs.2.1 Hs.2.2 (List.range 10)]) (Lw' := [sHk E aHs Hs.1 (hRk Hs.2.1 0), bkAll E Hs.2.1 Hs.2.2 (List.range 10)]) 0 rfl (by rw [← hRk_0]; exact List.Perm.of_eq (by simp [sHist, sHk, bkAll])) rfl ?_
  refine g_aload_n F dX3_forgetOldest_0 rfl ?_
  refine g_get (C := RX3) (T := TX3) (N := 2) F 0 0 1 rfl rfl rfl iX3_forgetOldest_X3 (by decide) (by decide +kernel) rfl dX3_forgetOldest_1 ?_
  refine g_iconst F 0 dX3_forgetOldest_4 rfl ?_
  refine g_aald (b := Hs.2.1 0 0 0) F 0 1 4 rfl rfl rfl (by decide) rfl rfl dX3_forgetOldest_5 ?_
  refine g_astore_n (lv' := [some (.ref (aHs 0)), some (.ref (Hs.2.1 0 0 0)), none]) F dX3_forgetOldest_6 (Nat.le_of_ble_eq_true rfl) rfl rfl ?_
  refine g_iconst F 1 dX3_forgetOldest_7 rfl ?_
  refine g_istore_n (lv' := [some (.ref (aHs 0)), some (.ref (Hs.2.1 0 0 0)), some (.int 1)]) F dX3_forgetOldest_8 (Nat.le_of_ble_eq_true rfl) rfl rfl ?_
  refine g_iload_n F dX3_forgetOldest_9 rfl ?_
  refine g_bipush F 10 dX3_forgetOldest_10 rfl ?_
  refine g_icmp_ge F 35 dX3_forgetOldest_12 (by decide) (fun h9 => absurd h9 (by decide)) (fun _ => ?_)
  refine g_aload_n F dX3_forgetOldest_15 rfl ?_
  refine g_get (C := RX3) (T := TX3) (N := 2) F 0 0 1 rfl rfl rfl iX3_forgetOldest_X3 (by decide) (by decide +kernel) rfl dX3_forgetOldest_16 ?_
  refine g_iload_n F dX3_forgetOldest_19 rfl ?_
  refine g_iconst F 1 dX3_forgetOldest_20 rfl ?_
  refine g_isub F dX3_forgetOldest_21 ?_
  refine g_aload_n F dX3_forgetOldest_22 rfl ?_
  refine g_get (C := RX3) (T := TX3) (N := 2) F 0 0 1 rfl rfl rfl iX3_forgetOldest_X3 (by decide) (by decide +kernel) rfl dX3_forgetOldest_23 ?_
  refine g_iload_n F dX3_forgetOldest_26 rfl ?_
  refine g_aald (b := Hs.2.1 1 0 0) F 0 1 4 rfl rfl rfl (by decide) (hRk_at (k := 0) (by decide)) rfl dX3_forgetOldest_27 ?_
  refine g_aast (Lw' := [sHk E aHs Hs.1 (hRk Hs.2.1 1), bkAll E Hs.2.1 Hs.2.2 (List.range 10)]) (ci := 3) (r := (RX1, TX1, 8)) F 0 1 0 (by decide) 4 rfl rfl rfl 1 rfl (bkAll_obj (i := 1) (by decide)) rfl (by decide) dX3_forgetOldest_28 (by rw [← hRk_up (k := 0) (by decide)]; rfl) ?_
  refine g_iinc (lv' := [some (.ref (aHs 0)), some (.ref (Hs.2.1 0 0 0)), some (.int 2)]) F 2 dX3_forgetOldest_29 rfl rfl rfl rfl ?_
  refine g_goto F 9 dX3_forgetOldest_32 (by decide) ?_
  refine g_iload_n F dX3_forgetOldest_9 rfl ?_
  refine g_bipush F 10 dX3_forgetOldest_10 rfl ?_
  refine g_icmp_ge F 35 dX3_forgetOldest_12 (by decide) (fun h9 => absurd h9 (by decide)) (fun _ => ?_)
  refine g_aload_n F dX3_forgetOldest_15 rfl ?_
  refine g_get (C := RX3) (T := TX3) (N := 2) F 0 0 1 rfl rfl rfl iX3_forgetOldest_X3 (by decide) (by decide +kernel) rfl dX3_forgetOldest_16 ?_
  refine g_iload_n F dX3_forgetOldest_19 rfl ?_
  refine g_iconst F 1 dX3_forgetOldest_20 rfl ?_
  refine g_isub F dX3_forgetOldest_21 ?_
  refine g_aload_n F dX3_forgetOldest_22 rfl ?_
  refine g_get (C := RX3) (T := TX3) (N := 2) F 0 0 1 rfl rfl rfl iX3_forgetOldest_X3 (by decide) (by decide +kernel) rfl dX3_forgetOldest_23 ?_
  refine g_iload_n F dX3_forgetOldest_26 rfl ?_
  refine g_aald (b := Hs.2.1 2 0 0) F 0 1 4 rfl rfl rfl (by decide) (hRk_at (k := 1) (by decide)) rfl dX3_forgetOldest_27 ?_
  refine g_aast (Lw' := [sHk E aHs Hs.1 (hRk Hs.2.1 2), bkAll E Hs.2.1 Hs.2.2 (List.range 10)]) (ci := 3) (r := (RX1, TX1, 8)) F 0 1 1 (by decide) 4 rfl rfl rfl 1 rfl (bkAll_obj (i := 2) (by decide)) rfl (by decide) dX3_forgetOldest_28 (by rw [← hRk_up (k := 1) (by decide)]; rfl) ?_
  refine g_iinc (lv' := [some (.ref (aHs 0)), some (.ref (Hs.2.1 0 0 0)), some (.int 3)]) F 3 dX3_forgetOldest_29 rfl rfl rfl rfl ?_
  refine g_goto F 9 dX3_forgetOldest_32 (by decide) ?_
  refine g_iload_n F dX3_forgetOldest_9 rfl ?_
  refine g_bipush F 10 dX3_forgetOldest_10 rfl ?_
  refine g_icmp_ge F 35 dX3_forgetOldest_12 (by decide) (fun h9 => absurd h9 (by decide)) (fun _ => ?_)
  refine g_aload_n F dX3_forgetOldest_15 rfl ?_
  refine g_get (C := RX3) (T := TX3) (N := 2) F 0 0 1 rfl rfl rfl iX3_forgetOldest_X3 (by decide) (by decide +kernel) rfl dX3_forgetOldest_16 ?_
  refine g_iload_n F dX3_forgetOldest_19 rfl ?_
  refine g_iconst F 1 dX3_forgetOldest_20 rfl ?_
  refine g_isub F dX3_forgetOldest_21 ?_
  refine g_aload_n F dX3_forgetOldest_22 rfl ?_
  refine g_get (C := RX3) (T := TX3) (N := 2) F 0 0 1 rfl rfl rfl iX3_forgetOldest_X3 (by decide) (by decide +kernel) rfl dX3_forgetOldest_23 ?_
  refine g_iload_n F dX3_forgetOldest_26 rfl ?_
  refine g_aald (b := Hs.2.1 3 0 0) F 0 1 4 rfl rfl rfl (by decide) (hRk_at (k := 2) (by decide)) rfl dX3_forgetOldest_27 ?_
  refine g_aast (Lw' := [sHk E aHs Hs.1 (hRk Hs.2.1 3), bkAll E Hs.2.1 Hs.2.2 (List.range 10)]) (ci := 3) (r := (RX1, TX1, 8)) F 0 1 2 (by decide) 4 rfl rfl rfl 1 rfl (bkAll_obj (i := 3) (by decide)) rfl (by decide) dX3_forgetOldest_28 (by rw [← hRk_up (k := 2) (by decide)]; rfl) ?_
  refine g_iinc (lv' := [some (.ref (aHs 0)), some (.ref (Hs.2.1 0 0 0)), some (.int 4)]) F 4 dX3_forgetOldest_29 rfl rfl rfl rfl ?_
  refine g_goto F 9 dX3_forgetOldest_32 (by decide) ?_
  refine g_iload_n F dX3_forgetOldest_9 rfl ?_
  refine g_bipush F 10 dX3_forgetOldest_10 rfl ?_
  refine g_icmp_ge F 35 dX3_forgetOldest_12 (by decide) (fun h9 => absurd h9 (by decide)) (fun _ => ?_)
  refine g_aload_n F dX3_forgetOldest_15 rfl ?_
  refine g_get (C := RX3) (T := TX3) (N := 2) F 0 0 1 rfl rfl rfl iX3_forgetOldest_X3 (by decide) (by decide +kernel) rfl dX3_forgetOldest_16 ?_
  refine g_iload_n F dX3_forgetOldest_19 rfl ?_
  refine g_iconst F 1 dX3_forgetOldest_20 rfl ?_
  refine g_isub F dX3_forgetOldest_21 ?_
  refine g_aload_n F dX3_forgetOldest_22 rfl ?_
  refine g_get (C := RX3) (T := TX3) (N := 2) F 0 0 1 rfl rfl rfl iX3_forgetOldest_X3 (by decide) (by decide +kernel) rfl dX3_forgetOldest_23 ?_
  refine g_iload_n F dX3_forgetOldest_26 rfl ?_
  refine g_aald (b := Hs.2.1 4 0 0) F 0 1 4 rfl rfl rfl (by decide) (hRk_at (k := 3) (by decide)) rfl dX3_forgetOldest_27 ?_
  refine g_aast (Lw' := [sHk E aHs Hs.1 (hRk Hs.2.1 4), bkAll E Hs.2.1 Hs.2.2 (List.range 10)]) (ci := 3) (r := (RX1, TX1, 8)) F 0 1 3 (by decide) 4 rfl rfl rfl 1 rfl (bkAll_obj (i := 4) (by decide)) rfl (by decide) dX3_forgetOldest_28 (by rw [← hRk_up (k := 3) (by decide)]; rfl) ?_
  refine g_iinc (lv' := [some (.ref (aHs 0)), some (.ref (Hs.2.1 0 0 0)), some (.int 5)]) F 5 dX3_forgetOldest_29 rfl rfl rfl rfl ?_
  refine g_goto F 9 dX3_forgetOldest_32 (by decide) ?_
  refine g_iload_n F dX3_forgetOldest_9 rfl ?_
  refine g_bipush F 10 dX3_forgetOldest_10 rfl ?_
  refine g_icmp_ge F 35 dX3_forgetOldest_12 (by decide) (fun h9 => absurd h9 (by decide)) (fun _ => ?_)
  refine g_aload_n F dX3_forgetOldest_15 rfl ?_
  refine g_get (C := RX3) (T := TX3) (N := 2) F 0 0 1 rfl rfl rfl iX3_forgetOldest_X3 (by decide) (by decide +kernel) rfl dX3_forgetOldest_16 ?_
  refine g_iload_n F dX3_forgetOldest_19 rfl ?_
  refine g_iconst F 1 dX3_forgetOldest_20 rfl ?_
  refine g_isub F dX3_forgetOldest_21 ?_
  refine g_aload_n F dX3_forgetOldest_22 rfl ?_
  refine g_get (C := RX3) (T := TX3) (N := 2) F 0 0 1 rfl rfl rfl iX3_forgetOldest_X3 (by decide) (by decide +kernel) rfl dX3_forgetOldest_23 ?_
  refine g_iload_n F dX3_forgetOldest_26 rfl ?_
  refine g_aald (b := Hs.2.1 5 0 0) F 0 1 4 rfl rfl rfl (by decide) (hRk_at (k := 4) (by decide)) rfl dX3_forgetOldest_27 ?_
  refine g_aast (Lw' := [sHk E aHs Hs.1 (hRk Hs.2.1 5), bkAll E Hs.2.1 Hs.2.2 (List.range 10)]) (ci := 3) (r := (RX1, TX1, 8)) F 0 1 4 (by decide) 4 rfl rfl rfl 1 rfl (bkAll_obj (i := 5) (by decide)) rfl (by decide) dX3_forgetOldest_28 (by rw [← hRk_up (k := 4) (by decide)]; rfl) ?_
  refine g_iinc (lv' := [some (.ref (aHs 0)), some (.ref (Hs.2.1 0 0 0)), some (.int 6)]) F 6 dX3_forgetOldest_29 rfl rfl rfl rfl ?_
  refine g_goto F 9 dX3_forgetOldest_32 (by decide) ?_
  refine g_iload_n F dX3_forgetOldest_9 rfl ?_
  refine g_bipush F 10 dX3_forgetOldest_10 rfl ?_
  refine g_icmp_ge F 35 dX3_forgetOldest_12 (by decide) (fun h9 => absurd h9 (by decide)) (fun _ => ?_)
  refine g_aload_n F dX3_forgetOldest_15 rfl ?_
  refine g_get (C := RX3) (T := TX3) (N := 2) F 0 0 1 rfl rfl rfl iX3_forgetOldest_X3 (by decide) (by decide +kernel) rfl dX3_forgetOldest_16 ?_
  refine g_iload_n F dX3_forgetOldest_19 rfl ?_
  refine g_iconst F 1 dX3_forgetOldest_20 rfl ?_
  refine g_isub F dX3_forgetOldest_21 ?_
  refine g_aload_n F dX3_forgetOldest_22 rfl ?_
  refine g_get (C := RX3) (T := TX3) (N := 2) F 0 0 1 rfl rfl rfl iX3_forgetOldest_X3 (by decide) (by decide +kernel) rfl dX3_forgetOldest_23 ?_
  refine g_iload_n F dX3_forgetOldest_26 rfl ?_
  refine g_aald (b := Hs.2.1 6 0 0) F 0 1 4 rfl rfl rfl (by decide) (hRk_at (k := 5) (by decide)) rfl dX3_forgetOldest_27 ?_
  refine g_aast (Lw' := [sHk E aHs Hs.1 (hRk Hs.2.1 6), bkAll E Hs.2.1 Hs.2.2 (List.range 10)]) (ci := 3) (r := (RX1, TX1, 8)) F 0 1 5 (by decide) 4 rfl rfl rfl 1 rfl (bkAll_obj (i := 6) (by decide)) rfl (by decide) dX3_forgetOldest_28 (by rw [← hRk_up (k := 5) (by decide)]; rfl) ?_
  refine g_iinc (lv' := [some (.ref (aHs 0)), some (.ref (Hs.2.1 0 0 0)), some (.int 7)]) F 7 dX3_forgetOldest_29 rfl rfl rfl rfl ?_
  refine g_goto F 9 dX3_forgetOldest_32 (by decide) ?_
  refine g_iload_n F dX3_forgetOldest_9 rfl ?_
  refine g_bipush F 10 dX3_forgetOldest_10 rfl ?_
  refine g_icmp_ge F 35 dX3_forgetOldest_12 (by decide) (fun h9 => absurd h9 (by decide)) (fun _ => ?_)
  refine g_aload_n F dX3_forgetOldest_15 rfl ?_
  refine g_get (C := RX3) (T := TX3) (N := 2) F 0 0 1 rfl rfl rfl iX3_forgetOldest_X3 (by decide) (by decide +kernel) rfl dX3_forgetOldest_16 ?_
  refine g_iload_n F dX3_forgetOldest_19 rfl ?_
  refine g_iconst F 1 dX3_forgetOldest_20 rfl ?_
  refine g_isub F dX3_forgetOldest_21 ?_
  refine g_aload_n F dX3_forgetOldest_22 rfl ?_
  refine g_get (C := RX3) (T := TX3) (N := 2) F 0 0 1 rfl rfl rfl iX3_forgetOldest_X3 (by decide) (by decide +kernel) rfl dX3_forgetOldest_23 ?_
  refine g_iload_n F dX3_forgetOldest_26 rfl ?_
  refine g_aald (b := Hs.2.1 7 0 0) F 0 1 4 rfl rfl rfl (by decide) (hRk_at (k := 6) (by decide)) rfl dX3_forgetOldest_27 ?_
  refine g_aast (Lw' := [sHk E aHs Hs.1 (hRk Hs.2.1 7), bkAll E Hs.2.1 Hs.2.2 (List.range 10)]) (ci := 3) (r := (RX1, TX1, 8)) F 0 1 6 (by decide) 4 rfl rfl rfl 1 rfl (bkAll_obj (i := 7) (by decide)) rfl (by decide) dX3_forgetOldest_28 (by rw [← hRk_up (k := 6) (by decide)]; rfl) ?_
  refine g_iinc (lv' := [some (.ref (aHs 0)), some (.ref (Hs.2.1 0 0 0)), some (.int 8)]) F 8 dX3_forgetOldest_29 rfl rfl rfl rfl ?_
  refine g_goto F 9 dX3_forgetOldest_32 (by decide) ?_
  refine g_iload_n F dX3_forgetOldest_9 rfl ?_
  refine g_bipush F 10 dX3_forgetOldest_10 rfl ?_
  refine g_icmp_ge F 35 dX3_forgetOldest_12 (by decide) (fun h9 => absurd h9 (by decide)) (fun _ => ?_)
  refine g_aload_n F dX3_forgetOldest_15 rfl ?_
  refine g_get (C := RX3) (T := TX3) (N := 2) F 0 0 1 rfl rfl rfl iX3_forgetOldest_X3 (by decide) (by decide +kernel) rfl dX3_forgetOldest_16 ?_
  refine g_iload_n F dX3_forgetOldest_19 rfl ?_
  refine g_iconst F 1 dX3_forgetOldest_20 rfl ?_
  refine g_isub F dX3_forgetOldest_21 ?_
  refine g_aload_n F dX3_forgetOldest_22 rfl ?_
  refine g_get (C := RX3) (T := TX3) (N := 2) F 0 0 1 rfl rfl rfl iX3_forgetOldest_X3 (by decide) (by decide +kernel) rfl dX3_forgetOldest_23 ?_
  refine g_iload_n F dX3_forgetOldest_26 rfl ?_
  refine g_aald (b := Hs.2.1 8 0 0) F 0 1 4 rfl rfl rfl (by decide) (hRk_at (k := 7) (by decide)) rfl dX3_forgetOldest_27 ?_
  refine g_aast (Lw' := [sHk E aHs Hs.1 (hRk Hs.2.1 8), bkAll E Hs.2.1 Hs.2.2 (List.range 10)]) (ci := 3) (r := (RX1, TX1, 8)) F 0 1 7 (by decide) 4 rfl rfl rfl 1 rfl (bkAll_obj (i := 8) (by decide)) rfl (by decide) dX3_forgetOldest_28 (by rw [← hRk_up (k := 7) (by decide)]; rfl) ?_
  refine g_iinc (lv' := [some (.ref (aHs 0)), some (.ref (Hs.2.1 0 0 0)), some (.int 9)]) F 9 dX3_forgetOldest_29 rfl rfl rfl rfl ?_
  refine g_goto F 9 dX3_forgetOldest_32 (by decide) ?_
  refine g_iload_n F dX3_forgetOldest_9 rfl ?_
  refine g_bipush F 10 dX3_forgetOldest_10 rfl ?_
  refine g_icmp_ge F 35 dX3_forgetOldest_12 (by decide) (fun h9 => absurd h9 (by decide)) (fun _ => ?_)
  refine g_aload_n F dX3_forgetOldest_15 rfl ?_
  refine g_get (C := RX3) (T := TX3) (N := 2) F 0 0 1 rfl rfl rfl iX3_forgetOldest_X3 (by decide) (by decide +kernel) rfl dX3_forgetOldest_16 ?_
  refine g_iload_n F dX3_forgetOldest_19 rfl ?_
  refine g_iconst F 1 dX3_forgetOldest_20 rfl ?_
  refine g_isub F dX3_forgetOldest_21 ?_
  refine g_aload_n F dX3_forgetOldest_22 rfl ?_
  refine g_get (C := RX3) (T := TX3) (N := 2) F 0 0 1 rfl rfl rfl iX3_forgetOldest_X3 (by decide) (by decide +kernel) rfl dX3_forgetOldest_23 ?_
  refine g_iload_n F dX3_forgetOldest_26 rfl ?_
  refine g_aald (b := Hs.2.1 9 0 0) F 0 1 4 rfl rfl rfl (by decide) (hRk_at (k := 8) (by decide)) rfl dX3_forgetOldest_27 ?_
  refine g_aast (Lw' := [sHk E aHs Hs.1 (hRk Hs.2.1 9), bkAll E Hs.2.1 Hs.2.2 (List.range 10)]) (ci := 3) (r := (RX1, TX1, 8)) F 0 1 8 (by decide) 4 rfl rfl rfl 1 rfl (bkAll_obj (i := 9) (by decide)) rfl (by decide) dX3_forgetOldest_28 (by rw [← hRk_up (k := 8) (by decide)]; rfl) ?_
  refine g_iinc (lv' := [some (.ref (aHs 0)), some (.ref (Hs.2.1 0 0 0)), some (.int 10)]) F 10 dX3_forgetOldest_29 rfl rfl rfl rfl ?_
  refine g_goto F 9 dX3_forgetOldest_32 (by decide) ?_
  refine g_iload_n F dX3_forgetOldest_9 rfl ?_
  refine g_bipush F 10 dX3_forgetOldest_10 rfl ?_
  refine g_icmp_ge F 35 dX3_forgetOldest_12 (by decide) (fun _ => ?_) (fun h9 => absurd (by decide) h9)
  refine g_aload_n F dX3_forgetOldest_35 rfl ?_
  refine g_get (C := RX3) (T := TX3) (N := 2) F 0 0 1 rfl rfl rfl iX3_forgetOldest_X3 (by decide) (by decide +kernel) rfl dX3_forgetOldest_36 ?_
  refine g_bipush F 9 dX3_forgetOldest_39 rfl ?_
  refine g_aload_n F dX3_forgetOldest_41 rfl ?_
  refine g_aast (Lw' := [sHk E aHs Hs.1 (fun i => if i < 10 then some (hRot Hs.2.1 i 0 0) else none), bkAll E Hs.2.1 Hs.2.2 (List.range 10)]) (ci := 3) (r := (RX1, TX1, 8)) F 0 1 9 (by decide) 4 rfl rfl rfl 1 rfl (bkAll_obj (i := 0) (by decide)) rfl (by decide) dX3_forgetOldest_42 (by rw [← hRk_9]; rfl) ?_
  refine g_aload_n F dX3_forgetOldest_43 rfl ?_
  refine g_dup F dX3_forgetOldest_44 rfl ?_
  refine g_get (C := RX3) (T := TX3) (N := 2) F 0 0 0 rfl rfl rfl iX3_forgetOldest_X3 (by decide) (by decide +kernel) rfl dX3_forgetOldest_45 ?_
  refine g_iconst F 1 dX3_forgetOldest_48 rfl ?_
  refine g_isub F dX3_forgetOldest_49 ?_
  refine g_put (C := RX3) (T := TX3) (N := 2) (tys := tyX3) (Lw' := [sHk E aHs (Hs.1 - 1) (fun i => if i < 10 then some (hRot Hs.2.1 i 0 0) else none)] ++ [bkAll E Hs.2.1 Hs.2.2 (List.range 10)]) F 0 0 0 rfl rfl rfl iX3_forgetOldest_X3 tyX3_ok nmX3 (by decide) (by decide +kernel) rfl rfl rfl rfl (Nat.le_of_ble_eq_true rfl) dX3_forgetOldest_50 rfl ?_
  refine g_merge (seg1 := sHk E aHs (Hs.1 - 1) (fun i => if i < 10 then some (hRot Hs.2.1 i 0 0) else none)) (seg' := sHist E aHs (Hs.1 - 1, hRot Hs.2.1, hRot Hs.2.2)) (Lw' := [sHist E aHs (Hs.1 - 1, hRot Hs.2.1, hRot Hs.2.2)]) 0 rfl (by show List.Perm _ (_ ++ (bkAll E Hs.2.1 Hs.2.2 (List.range 10) ++ [])); rw [List.append_nil]; exact List.Perm.cons _ (List.Perm.cons _ bkAll_rot)) rfl ?_
  exact g_vret F rfl ⟨rfl, rfl⟩ dX3_forgetOldest_53
abbrev rmX3_keep : Room := { frames := 3, cells := 0, slots := 0, locals := 72 }
theorem iX3_keep_X3 : ∀ w ∈ u_ws RX3 TX3 2, w ∈ wsX3_keep := by decide +kernel
theorem h0X3_keep : yX3_keep.cls = RX3 ∧ yX3_keep.cls ≠ "java/lang/invoke/MethodHandle" ∧ yX3_keep.cls ≠ "java/lang/invoke/VarHandle" ∧ (parseMethodDescriptor yX3_keep.desc).map (fun d => d.parameters.length) = some 1 := by decide +kernel
abbrev rmX3_forget : Room := { frames := 0, cells := 0, slots := 0, locals := 0 }
theorem iX3_forget_X3 : ∀ w ∈ u_ws RX3 TX3 2, w ∈ wsX3_forget := by decide +kernel
theorem h0X3_forget : yX3_forget.cls = RX3 ∧ yX3_forget.cls ≠ "java/lang/invoke/MethodHandle" ∧ yX3_forget.cls ≠ "java/lang/invoke/VarHandle" ∧ (parseMethodDescriptor yX3_forget.desc).map (fun d => d.parameters.length) = some 0 := by decide +kernel
def fX3_keep (Hs : tHist) (B_time : Int32) (B_chest : Int32) (B_fund : Int32) (settings : (Nat → Int32)) (sums : (Nat → Int32)) (U : tUsers) (P : tPieces) (W : tWords) : Option (tHist) := Lt (fun (Hs_1 : tHist) => (if Hs_1.1 < 0 ∨ 10 ≤ Hs_1.1.toNatClampNeg then none else gb8 (fX1_copyFrom (Hs_1.2.2 (Hs_1.1.toNatClampNeg)).1 (Hs_1.2.2 (Hs_1.1.toNatClampNeg)).2.1 (Hs_1.2.2 (Hs_1.1.toNatClampNeg)).2.2.1 (Hs_1.2.2 (Hs_1.1.toNatClampNeg)).2.2.2.1 (Hs_1.2.2 (Hs_1.1.toNatClampNeg)).2.2.2.2.1 (Hs_1.2.2 (Hs_1.1.toNatClampNeg)).2.2.2.2.2.1 (Hs_1.2.2 (Hs_1.1.toNatClampNeg)).2.2.2.2.2.2.1 (Hs_1.2.2 (Hs_1.1.toNatClampNeg)).2.2.2.2.2.2.2 B_time B_chest B_fund settings sums U P W) fun (B_time_1 : Int32) (B_chest_1 : Int32) (B_fund_1 : Int32) (settings_1 : (Nat → Int32)) (sums_1 : (Nat → Int32)) (U_1 : tUsers) (P_1 : tPieces) (W_1 : tWords) => Lt (Hs_1.1, Hs_1.2.1, va_up Hs_1.2.2 (Hs_1.1.toNatClampNeg) (B_time_1, B_chest_1, B_fund_1, settings_1, sums_1, U_1, P_1, W_1)) fun (Hs_2 : tHist) => some (Hs_2.1 + 1, Hs_2.2.1, Hs_2.2.2))) fun (j_1 : tHist → Option (tHist)) => if Hs.1 = 10 then (gb1 (fX3_forgetOldest Hs) fun (Hs_3 : tHist) => j_1 Hs_3) else (j_1 Hs)
def fX3_forget (Hs : tHist) : Option (tHist) := some (0, Hs.2.1, Hs.2.2)
set_option maxHeartbeats 4000000 in
set_option maxRecDepth 100000 in
theorem ctX3_keep (l : Launch) (E : gE) (aHs aB asettings asums aU aP aW : Nat → Nat) (Hs : tHist) (B_time : Int32) (B_chest : Int32) (B_fund : Int32) (settings : (Nat → Int32)) (sums : (Nat → Int32)) (U : tUsers) (P : tPieces) (W : tWords) (Hs' : tHist) (hf : fX3_keep Hs B_time B_chest B_fund settings sums U P W = some Hs') : gMet l yX3_keep wsX3_keep rmX3_keep vwCl E [.ref (aHs 0), .ref (aB 0)] [sHist E aHs Hs, sBook E aB asettings asums aU aP aW B_time B_chest B_fund, sArrI E asettings 5 settings, sArrI E asums 6 sums, sUsers E aU U, sPieces E aP P, sWords E aW W] (fun v w => v = none ∧ w = [sHist E aHs Hs', sBook E aB asettings asums aU aP aW B_time B_chest B_fund, sArrI E asettings 5 settings, sArrI E asums 6 sums, sUsers E aU U, sPieces E aP P, sWords E aW W]) 0 0 := by
  refine g_entry [some (.ref (aHs 0)), some (.ref (aB 0))] (by decide) rfl (Nat.le_of_ble_eq_true rfl) rfl ?_
  intro p e s m below meth c A F hnm
  unfold fX3_keep at hf
  refine g_aload_n F dX3_keep_0 rfl ?_
  refine g_get (C := RX3) (T := TX3) (N := 2) F 0 0 0 rfl rfl rfl iX3_keep_X3 (by decide) (by decide +kernel) rfl dX3_keep_1 ?_
  refine g_bipush F 10 dX3_keep_4 rfl ?_
  obtain ⟨j_1, hj_1, hf⟩ := Lt_el hf
  have hj_1 : ∀ (Hs_1 : tHist), j_1 Hs_1 = some Hs' → Gj p l e rmX3_keep s m ([.ref (aHs 0), .ref (aB 0)] : List Value).toArray below meth c 0 0 (MQ below (gQ vwCl E A (fun v w => v = none ∧ w = [sHist E aHs Hs', sBook E aB asettings asums aU aP aW B_time B_chest B_fund, sArrI E asettings 5 settings, sArrI E asums 6 sums, sUsers E aU U, sPieces E aP P, sWords E aW W])) ([.ref (aHs 0), .ref (aB 0)] : List Value).toArray s 0 0 A) vwCl E A [sHist E aHs Hs_1, sBook E aB asettings asums aU aP aW B_time B_chest B_fund, sArrI E asettings 5 settings, sArrI E asums 6 sums, sUsers E aU U, sPieces E aP P, sWords E aW W] [some (.ref (aHs 0)), some (.ref (aB 0))] [] 13 := by
    intro Hs_1 hf
    rw [hj_1] at hf
    refine g_aload_n F dX3_keep_13 rfl ?_
    refine g_get (C := RX3) (T := TX3) (N := 2) F 0 0 1 rfl rfl rfl iX3_keep_X3 (by decide) (by decide +kernel) rfl dX3_keep_14 ?_
    refine g_aload_n F dX3_keep_17 rfl ?_
    refine g_get (C := RX3) (T := TX3) (N := 2) F 0 0 0 rfl rfl rfl iX3_keep_X3 (by decide) (by decide +kernel) rfl dX3_keep_18 ?_
    obtain ⟨hb_1, hf⟩ := gb_in hf
    have hlt_1 := Nat.not_le.mp (fun z9 => hb_1 (Or.inr z9))
    refine g_aald (b := Hs_1.2.1 (Hs_1.1.toNatClampNeg) 0 0) F 0 1 4 rfl rfl rfl hb_1 (if_pos hlt_1) rfl dX3_keep_21 ?_
    refine g_aload_n F dX3_keep_22 rfl ?_
    obtain ⟨B_time_1, B_chest_1, B_fund_1, settings_1, sums_1, U_1, P_1, W_1, hg_1, hf⟩ := gb8_el hf
    refine g_split (seg1 := bkR10 E aHs Hs_1 (Hs_1.1.toNatClampNeg)) (Lb := [sBook E ((Hs_1.2.1 (Hs_1.1.toNatClampNeg)) 0) ((Hs_1.2.1 (Hs_1.1.toNatClampNeg)) 1) ((Hs_1.2.1 (Hs_1.1.toNatClampNeg)) 2) ((Hs_1.2.1 (Hs_1.1.toNatClampNeg)) 3) ((Hs_1.2.1 (Hs_1.1.toNatClampNeg)) 4) ((Hs_1.2.1 (Hs_1.1.toNatClampNeg)) 5) ((Hs_1.2.2 (Hs_1.1.toNatClampNeg)).1) ((Hs_1.2.2 (Hs_1.1.toNatClampNeg)).2.1) ((Hs_1.2.2 (Hs_1.1.toNatClampNeg)).2.2.1), sArrI E ((Hs_1.2.1 (Hs_1.1.toNatClampNeg)) 1) 5 ((Hs_1.2.2 (Hs_1.1.toNatClampNeg)).2.2.2.1), sArrI E ((Hs_1.2.1 (Hs_1.1.toNatClampNeg)) 2) 6 ((Hs_1.2.2 (Hs_1.1.toNatClampNeg)).2.2.2.2.1), sUsers E ((Hs_1.2.1 (Hs_1.1.toNatClampNeg)) 3) ((Hs_1.2.2 (Hs_1.1.toNatClampNeg)).2.2.2.2.2.1), sPieces E ((Hs_1.2.1 (Hs_1.1.toNatClampNeg)) 4) ((Hs_1.2.2 (Hs_1.1.toNatClampNeg)).2.2.2.2.2.2.1), sWords E ((Hs_1.2.1 (Hs_1.1.toNatClampNeg)) 5) ((Hs_1.2.2 (Hs_1.1.toNatClampNeg)).2.2.2.2.2.2.2)]) (Lw' := [bkR10 E aHs Hs_1 (Hs_1.1.toNatClampNeg), sBook E aB asettings asums aU aP aW B_time B_chest B_fund, sArrI E asettings 5 settings, sArrI E asums 6 sums, sUsers E aU U, sPieces E aP P, sWords E aW W] ++ [sBook E ((Hs_1.2.1 (Hs_1.1.toNatClampNeg)) 0) ((Hs_1.2.1 (Hs_1.1.toNatClampNeg)) 1) ((Hs_1.2.1 (Hs_1.1.toNatClampNeg)) 2) ((Hs_1.2.1 (Hs_1.1.toNatClampNeg)) 3) ((Hs_1.2.1 (Hs_1.1.toNatClampNeg)) 4) ((Hs_1.2.1 (Hs_1.1.toNatClampNeg)) 5) ((Hs_1.2.2 (Hs_1.1.toNatClampNeg)).1) ((Hs_1.2.2 (Hs_1.1.toNatClampNeg)).2.1) ((Hs_1.2.2 (Hs_1.1.toNatClampNeg)).2.2.1), sArrI E ((Hs_1.2.1 (Hs_1.1.toNatClampNeg)) 1) 5 ((Hs_1.2.2 (Hs_1.1.toNatClampNeg)).2.2.2.1), sArrI E ((Hs_1.2.1 (Hs_1.1.toNatClampNeg)) 2) 6 ((Hs_1.2.2 (Hs_1.1.toNatClampNeg)).2.2.2.2.1), sUsers E ((Hs_1.2.1 (Hs_1.1.toNatClampNeg)) 3) ((Hs_1.2.2 (Hs_1.1.toNatClampNeg)).2.2.2.2.2.1), sPieces E ((Hs_1.2.1 (Hs_1.1.toNatClampNeg)) 4) ((Hs_1.2.2 (Hs_1.1.toNatClampNeg)).2.2.2.2.2.2.1), sWords E ((Hs_1.2.1 (Hs_1.1.toNatClampNeg)) 5) ((Hs_1.2.2 (Hs_1.1.toNatClampNeg)).2.2.2.2.2.2.2)]) 0 rfl (sHist_split hlt_1) rfl ?_
    refine g_callV (C := RX1) (T := TX1) (N := 8) (Lr := [bkR10 E aHs Hs_1 (Hs_1.1.toNatClampNeg)]) (As := [.ref (aB 0)]) (rest := []) F 7 0 1 (ctX1_copyFrom l E ((Hs_1.2.1 (Hs_1.1.toNatClampNeg)) 0) ((Hs_1.2.1 (Hs_1.1.toNatClampNeg)) 1) ((Hs_1.2.1 (Hs_1.1.toNatClampNeg)) 2) ((Hs_1.2.1 (Hs_1.1.toNatClampNeg)) 3) ((Hs_1.2.1 (Hs_1.1.toNatClampNeg)) 4) ((Hs_1.2.1 (Hs_1.1.toNatClampNeg)) 5) aB asettings asums aU aP aW (Hs_1.2.2 (Hs_1.1.toNatClampNeg)).1 (Hs_1.2.2 (Hs_1.1.toNatClampNeg)).2.1 (Hs_1.2.2 (Hs_1.1.toNatClampNeg)).2.2.1 (Hs_1.2.2 (Hs_1.1.toNatClampNeg)).2.2.2.1 (Hs_1.2.2 (Hs_1.1.toNatClampNeg)).2.2.2.2.1 (Hs_1.2.2 (Hs_1.1.toNatClampNeg)).2.2.2.2.2.1 (Hs_1.2.2 (Hs_1.1.toNatClampNeg)).2.2.2.2.2.2.1 (Hs_1.2.2 (Hs_1.1.toNatClampNeg)).2.2.2.2.2.2.2 B_time B_chest B_fund settings sums U P W B_time_1 B_chest_1 B_fund_1 settings_1 sums_1 U_1 P_1 W_1 hg_1) gX3_keep_X1_copyFrom rfl rfl rfl h0X1_copyFrom ⟨Nat.le_of_ble_eq_true rfl, Nat.le_of_ble_eq_true rfl⟩ rfl rfl rfl [7, 8, 9, 10, 11, 12, 1, 2, 3, 4, 5, 6] [0] rfl rfl rfl rfl rfl rfl (Nat.le_of_ble_eq_true rfl) dX3_keep_23 ⟨Nat.le_of_ble_eq_true rfl, Nat.le_of_ble_eq_true rfl⟩ ?_
    rintro v w ⟨rfl, rfl⟩
    refine g_norm (Lw' := [bkR10 E aHs Hs_1 (Hs_1.1.toNatClampNeg), sBook E aB asettings asums aU aP aW B_time B_chest B_fund, sArrI E asettings 5 settings, sArrI E asums 6 sums, sUsers E aU U, sPieces E aP P, sWords E aW W] ++ [sBook E ((Hs_1.2.1 (Hs_1.1.toNatClampNeg)) 0) ((Hs_1.2.1 (Hs_1.1.toNatClampNeg)) 1) ((Hs_1.2.1 (Hs_1.1.toNatClampNeg)) 2) ((Hs_1.2.1 (Hs_1.1.toNatClampNeg)) 3) ((Hs_1.2.1 (Hs_1.1.toNatClampNeg)) 4) ((Hs_1.2.1 (Hs_1.1.toNatClampNeg)) 5) B_time_1 B_chest_1 B_fund_1, sArrI E ((Hs_1.2.1 (Hs_1.1.toNatClampNeg)) 1) 5 settings_1, sArrI E ((Hs_1.2.1 (Hs_1.1.toNatClampNeg)) 2) 6 sums_1, sUsers E ((Hs_1.2.1 (Hs_1.1.toNatClampNeg)) 3) U_1, sPieces E ((Hs_1.2.1 (Hs_1.1.toNatClampNeg)) 4) P_1, sWords E ((Hs_1.2.1 (Hs_1.1.toNatClampNeg)) 5) W_1]) (st' := []) (pc' := 26) [12, 6, 7, 8, 9, 10, 11, 0, 1, 2, 3, 4, 5] rfl rfl rfl rfl ?_
    obtain ⟨Hs_2, hHs_2, hf⟩ := Lt_el hf
    refine g_merge (L0 := [bkR10 E aHs Hs_1 (Hs_1.1.toNatClampNeg), sBook E aB asettings asums aU aP aW B_time B_chest B_fund, sArrI E asettings 5 settings, sArrI E asums 6 sums, sUsers E aU U, sPieces E aP P, sWords E aW W]) (seg1 := bkR10 E aHs Hs_1 (Hs_1.1.toNatClampNeg)) (Lw' := [sHist E aHs Hs_2, sBook E aB asettings asums aU aP aW B_time B_chest B_fund, sArrI E asettings 5 settings, sArrI E asums 6 sums, sUsers E aU U, sPieces E aP P, sWords E aW W]) 0 rfl (sHist_join (v := (B_time_1, B_chest_1, B_fund_1, settings_1, sums_1, U_1, P_1, W_1)) hlt_1) (by subst hHs_2; rfl) ?_
    refine g_aload_n F dX3_keep_26 rfl ?_
    refine g_dup F dX3_keep_27 rfl ?_
    refine g_get (C := RX3) (T := TX3) (N := 2) F 0 0 0 rfl rfl rfl iX3_keep_X3 (by decide) (by decide +kernel) rfl dX3_keep_28 ?_
    refine g_iconst F 1 dX3_keep_31 rfl ?_
    refine g_iadd F dX3_keep_32 ?_
    refine g_put (C := RX3) (T := TX3) (N := 2) (tys := tyX3) (Lw' := [sHist E aHs (Hs_2.1 + 1, Hs_2.2.1, Hs_2.2.2), sBook E aB asettings asums aU aP aW B_time B_chest B_fund, sArrI E asettings 5 settings, sArrI E asums 6 sums, sUsers E aU U, sPieces E aP P, sWords E aW W]) F 0 0 0 rfl rfl rfl iX3_keep_X3 tyX3_ok nmX3 (by decide) (by decide +kernel) rfl rfl rfl rfl (Nat.le_of_ble_eq_true rfl) dX3_keep_33 rfl ?_
    cases hf
    exact g_vret F rfl ⟨rfl, rfl⟩ dX3_keep_36
  refine g_icmp_ne F 13 dX3_keep_6 (by decide) (fun hc_1 => ?_) (fun hc_1 => ?_)
  · replace hf := gi_f hc_1 hf
    exact hj_1 Hs hf
  · replace hf := gi_t hc_1 hf
    refine g_aload_n F dX3_keep_9 rfl ?_
    obtain ⟨Hs_3, hg_2, hf⟩ := gb1_el hf
    refine g_callV (C := RX3) (T := TX3) (N := 2) (Lr := [sBook E aB asettings asums aU aP aW B_time B_chest B_fund, sArrI E asettings 5 settings, sArrI E asums 6 sums, sUsers E aU U, sPieces E aP P, sWords E aW W]) (As := []) (rest := []) F 0 0 0 (ctX3_forgetOldest l E aHs Hs Hs_3 hg_2) gX3_keep_X3_forgetOldest rfl rfl rfl h0X3_forgetOldest ⟨Nat.le_of_ble_eq_true rfl, Nat.le_of_ble_eq_true rfl⟩ rfl rfl rfl [0] [1, 2, 3, 4, 5, 6] rfl rfl rfl rfl rfl rfl (Nat.le_of_ble_eq_true rfl) dX3_keep_10 ⟨(Nat.le_of_ble_eq_true rfl), (Nat.le_of_ble_eq_true rfl)⟩ ?_
    rintro v w ⟨rfl, rfl⟩
    refine g_norm (Lw' := [sHist E aHs Hs_3, sBook E aB asettings asums aU aP aW B_time B_chest B_fund, sArrI E asettings 5 settings, sArrI E asums 6 sums, sUsers E aU U, sPieces E aP P, sWords E aW W]) (st' := []) (pc' := 13) [0, 1, 2, 3, 4, 5, 6] rfl rfl rfl rfl ?_
    exact hj_1 Hs_3 hf
set_option maxHeartbeats 4000000 in
set_option maxRecDepth 100000 in
theorem ctX3_forget (l : Launch) (E : gE) (aHs : Nat → Nat) (Hs : tHist) (Hs' : tHist) (hf : fX3_forget Hs = some Hs') : gMet l yX3_forget wsX3_forget rmX3_forget vwCl E [.ref (aHs 0)] [sHist E aHs Hs] (fun v w => v = none ∧ w = [sHist E aHs Hs']) 0 0 := by
  refine g_entry [some (.ref (aHs 0))] (by decide) rfl (Nat.le_of_ble_eq_true rfl) rfl ?_
  intro p e s m below meth c A F hnm
  unfold fX3_forget at hf
  refine g_aload_n F dX3_forget_0 rfl ?_
  refine g_iconst F 0 dX3_forget_1 rfl ?_
  refine g_put (C := RX3) (T := TX3) (N := 2) (tys := tyX3) (Lw' := [sHist E aHs (0, Hs.2.1, Hs.2.2)]) F 0 0 0 rfl rfl rfl iX3_forget_X3 tyX3_ok nmX3 (by decide) (by decide +kernel) rfl rfl rfl rfl (Nat.le_of_ble_eq_true rfl) dX3_forget_2 rfl ?_
  cases hf
  exact g_vret F rfl ⟨rfl, rfl⟩ dX3_forget_5
