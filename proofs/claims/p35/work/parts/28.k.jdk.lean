set_option maxRecDepth 20000
/-! texts: what the walks of the JDK's own methods need -/
theorem jk_lt {n : Nat} (h : n < 2147483648) : ¬ Int32.ofNat n < 0 := nI_pos h
theorem jk_b {c q n : Nat} (h1 : n ≤ c) (h2 : n ≤ q) (h3 : n < 2147483648) : ¬ ((0 : Int32) < 0 ∨ (0 : Int32) < 0 ∨ Int32.ofNat n < 0 ∨ c < (0 : Int32).toNatClampNeg + (Int32.ofNat n).toNatClampNeg ∨ q < (0 : Int32).toNatClampNeg + (Int32.ofNat n).toNatClampNeg) := by
  have e1 : (Int32.ofNat n).toNatClampNeg = n := nI_clamp h3
  have e2 : (0 : Int32).toNatClampNeg = 0 := rfl
  rw [e1, e2]
  rintro (h | h | h | h | h)
  · exact absurd h (by decide)
  · exact absurd h (by decide)
  · exact nI_pos h3 h
  · omega
  · omega
theorem jk_nb : ∀ x, x < 128 → vp_nar .byte (Int32.ofNat x).toInt8.toInt32 = Int32.ofNat x ∧ fits .byte (.int (Int32.ofNat x)) = true := by decide +kernel
theorem jk_ce {x : Nat} (h : x < 128) : fJ1_canEncode_fc78d (Int32.ofNat x) = some 1 := by
  unfold fJ1_canEncode_fc78d
  rw [if_neg (show ¬ (255 : Int32) < Int32.ofNat x from nI_nlt (a := 255) (by omega) (by decide))]
theorem jk_cap {c q : Nat} (h : c < q) (hq : q ≤ 501) : fJ5_newCapacity_0f7a4 c (Int32.ofNat q) = some (Int32.ofNat (c + (if q - c < c + 2 then c + 2 else q - c))) := by
  have e1 : (2 : Int32) <<< ((0 : Int32) &&& 31) = Int32.ofNat 2 := sb_shl0 _
  have e2 : Int32.ofNat q - Int32.ofNat c = Int32.ofNat (q - c) := pk_sub (by omega)
  have e3 : Int32.ofNat c + Int32.ofNat 2 = Int32.ofNat (c + 2) := nI_add c 2
  unfold fJ5_newCapacity_0f7a4 fJ8_newLength_cabcc
  rw [sb_shl0, e1, e2, e3]
  have e4 : (if Int32.ofNat (q - c) < Int32.ofNat (c + 2) then Int32.ofNat (c + 2) else Int32.ofNat (q - c)) = Int32.ofNat (if q - c < c + 2 then c + 2 else q - c) := by
    by_cases h9 : q - c < c + 2
    · rw [if_pos h9, if_pos (show Int32.ofNat (q - c) < Int32.ofNat (c + 2) from nI_lt h9 (by omega))]
    · rw [if_neg h9, if_neg (show ¬ Int32.ofNat (q - c) < Int32.ofNat (c + 2) from nI_nlt (by omega) (by omega))]
  rw [e4]
  generalize hz : (if q - c < c + 2 then c + 2 else q - c) = z
  have hz1 : 0 < z := by rw [← hz]; split <;> omega
  have hz2 : z ≤ 502 + c := by rw [← hz]; split <;> omega
  have e5 : Int32.ofNat c + Int32.ofNat z = Int32.ofNat (c + z) := nI_add c z
  unfold Lt
  dsimp only
  rw [e5]
  rw [if_neg (show ¬ Int32.ofNat (c + z) ≤ 0 from nI_nle (by omega) (by omega)), if_neg (show ¬ (2147483639 : Int32) < Int32.ofNat (c + z) from nI_nlt (a := 2147483639) (by omega) (by decide))]
  show (if Int32.ofNat (c + z) = 2147483647 then none else some (Int32.ofNat (c + z) >>> ((0 : Int32) &&& 31))) = _
  rw [if_neg (fun h9 => by have := (nI_eq (a := c + z) (b := 2147483647) (by omega) (by decide)).mp h9; omega), sb_shr0]

abbrev rmJ7_copyOf_9075b : Room := { frames := 1, cells := 1, slots := 1002, locals := 40 }
set_option maxHeartbeats 4000000 in
set_option maxRecDepth 100000 in
theorem ctJ7_copyOf (l : Launch) (E : gE) (a : Nat → Nat) (c : Nat) (f : Nat → Int32) (q : Nat) (hq : c < q) (hq2 : q ≤ 1002) (hf : ∀ i, fits .byte (.int (f i)) = true) : gMet l yJ7_copyOf_9075b wsJ7_copyOf_9075b rmJ7_copyOf_9075b vwCl E [.ref (a 0), .int (Int32.ofNat q)] [sArrB E a c f] (fun v w => ∃ b : Nat → Nat, v = some (.ref (b 0)) ∧ w = [sArrB E a c f, sArrB E b q (va_cpy f (fun _ => 0) 0 0 c)]) 1 1002 := by
  refine g_entry [some (.ref (a 0)), some (.int (Int32.ofNat q)), none] (by decide) rfl (Nat.le_of_ble_eq_true rfl) rfl ?_
  intro p e s m below meth cM A F hnm
  refine g_iload_n F dJ7_copyOf_9075b_0 rfl ?_
  refine g_aload_n F dJ7_copyOf_9075b_1 rfl ?_
  refine g_alen F 0 0 0 rfl rfl rfl rfl dJ7_copyOf_9075b_2 ?_
  refine g_icmp_ne F 14 dJ7_copyOf_9075b_3 (by decide) (fun _ => ?_) (fun h9 => absurd ((nI_eq (by omega) (by omega)).mp h9) (by omega))
  refine g_iload_n F dJ7_copyOf_9075b_14 rfl ?_
  refine g_newB (N' := q) F (by decide +kernel) (jk_lt (by omega)) (nI_clamp (by omega)) (by show q * 1 ≤ 536870912; omega) (Nat.le_of_ble_eq_true rfl) (by show 0 + q ≤ 1002; omega) dJ7_copyOf_9075b_15 (fun b => ?_)
  refine g_norm (Lw' := [sArrB E a c f, sArrB E b q (fun _ => 0)]) (st' := [.ref (b 0)]) (pc' := 17) [0, 1] rfl rfl rfl rfl ?_
  refine g_astore_n (lv' := [some (.ref (a 0)), some (.int (Int32.ofNat q)), some (.ref (b 0))]) F dJ7_copyOf_9075b_17 (Nat.le_of_ble_eq_true rfl) rfl rfl ?_
  refine g_aload_n F dJ7_copyOf_9075b_18 rfl ?_
  refine g_iconst F 0 dJ7_copyOf_9075b_19 rfl ?_
  refine g_aload_n F dJ7_copyOf_9075b_20 rfl ?_
  refine g_iconst F 0 dJ7_copyOf_9075b_21 rfl ?_
  refine g_aload_n F dJ7_copyOf_9075b_22 rfl ?_
  refine g_alen F 0 0 0 rfl rfl rfl rfl dJ7_copyOf_9075b_23 ?_
  refine g_iload_n F dJ7_copyOf_9075b_24 rfl ?_
  refine g_mmin F (by decide +kernel) (by decide +kernel) (by decide +kernel) (by decide +kernel) rfl (Nat.le_of_ble_eq_true rfl) (Nat.le_of_ble_eq_true rfl) (Nat.le_of_ble_eq_true rfl) (by show 0 + q ≤ 1002; omega) dJ7_copyOf_9075b_25 ?_
  rw [if_neg (show ¬ Int32.ofNat q < Int32.ofNat c from nI_nlt (by omega) (by omega))]
  refine g_copyb (Lw' := [sArrB E a c f, sArrB E b q (va_cpy f (fun _ => 0) 0 0 c)]) F 0 0 1 0 rfl rfl rfl rfl (by decide +kernel) (by decide +kernel) (by decide +kernel) (by decide +kernel) (jk_b (Nat.le_refl c) (by omega) (by omega)) (fun i _ => hf _) rfl (Nat.le_of_ble_eq_true rfl) (Nat.le_of_ble_eq_true rfl) dJ7_copyOf_9075b_28 (by rw [show (Int32.ofNat c).toNatClampNeg = c from nI_clamp (by omega)]; rfl) ?_
  refine g_aload_n F dJ7_copyOf_9075b_31 rfl ?_
  refine g_widen (k := 1) (n := 1002) (Nat.le_of_ble_eq_true rfl) (by show 0 + q ≤ 1002; omega) ?_
  exact g_aret F rfl (Or.inr ⟨_, rfl⟩) ⟨b, rfl, rfl⟩ dJ7_copyOf_9075b_32
theorem jk_le0 {q c : Nat} (h : q ≤ c) (hc : c ≤ 1002) : Int32.ofNat q - Int32.ofNat c ≤ 0 := by
  rw [Int32.le_iff_toInt_le, show (Int32.ofNat q - Int32.ofNat c).toInt = (q : Int) - c from pk_sub_toInt (by omega) (by omega), Int32.toInt_zero]
  omega
theorem jk_nle0 {q c : Nat} (h : c < q) (hq : q ≤ 100000) : ¬ Int32.ofNat q - Int32.ofNat c ≤ 0 := by
  rw [Int32.le_iff_toInt_le, show (Int32.ofNat q - Int32.ofNat c).toInt = (q : Int) - c from pk_sub_toInt (by omega) (by omega), Int32.toInt_zero]
  omega
theorem iJ5_ensureCapacityInternal_d00df_J4 : ∀ w ∈ u_ws RJ4 TJ4 4, w ∈ wsJ5_ensureCapacityInternal_d00df := by decide +kernel
abbrev rmJ5_ensureCapacityInternal_d00df : Room := { frames := 3, cells := 1, slots := 1002, locals := 78 }
set_option maxHeartbeats 4000000 in
set_option maxRecDepth 100000 in
theorem ctJ5_ensure (l : Launch) (E : gE) (a v1 : Nat → Nat) (n : Int32) (c : Nat) (f : Nat → Int32) (q : Nat) (hq : q ≤ 501) (hc2 : c ≤ 1002) (hf : ∀ i, fits .byte (.int (f i)) = true) : gMet l yJ5_ensureCapacityInternal_d00df wsJ5_ensureCapacityInternal_d00df rmJ5_ensureCapacityInternal_d00df vwCl E [.ref (a 0), .int (Int32.ofNat q)] [sSBo E a v1 n, sArrB E v1 c f] (fun v w => ∃ (v' : Nat → Nat) (c' : Nat) (f' : Nat → Int32), q ≤ c' ∧ c' ≤ 1002 ∧ (∀ i, i < c → f' i = f i) ∧ (∀ i, fits .byte (.int (f' i)) = true) ∧ c ≤ c' ∧ v = none ∧ w = [sSBo E a v' n, sArrB E v' c' f']) 1 1002 := by
  refine g_entry [some (.ref (a 0)), some (.int (Int32.ofNat q)), none] (by decide) rfl (Nat.le_of_ble_eq_true rfl) rfl ?_
  intro p e s m below meth cM A F hnm
  refine g_aload_n F dJ5_ensureCapacityInternal_d00df_0 rfl ?_
  refine g_get (C := RJ4) (T := TJ4) (N := 4) F 0 0 0 rfl rfl rfl iJ5_ensureCapacityInternal_d00df_J4 (by decide) (by decide +kernel) rfl dJ5_ensureCapacityInternal_d00df_1 ?_
  refine g_alen F 1 0 0 rfl rfl rfl rfl dJ5_ensureCapacityInternal_d00df_4 ?_
  refine g_aload_n F dJ5_ensureCapacityInternal_d00df_5 rfl ?_
  refine g_get (C := RJ4) (T := TJ4) (N := 4) F 0 0 1 rfl rfl rfl iJ5_ensureCapacityInternal_d00df_J4 (by decide) (by decide +kernel) rfl dJ5_ensureCapacityInternal_d00df_6 ?_
  refine g_ishr F dJ5_ensureCapacityInternal_d00df_9 ?_
  rw [sb_shr0]
  refine g_istore_n (lv' := [some (.ref (a 0)), some (.int (Int32.ofNat q)), some (.int (Int32.ofNat c))]) F dJ5_ensureCapacityInternal_d00df_10 (Nat.le_of_ble_eq_true rfl) rfl rfl ?_
  refine g_iload_n F dJ5_ensureCapacityInternal_d00df_11 rfl ?_
  refine g_iload_n F dJ5_ensureCapacityInternal_d00df_12 rfl ?_
  refine g_isub F dJ5_ensureCapacityInternal_d00df_13 ?_
  by_cases hc : q ≤ c
  · refine g_ifle F 38 dJ5_ensureCapacityInternal_d00df_14 (by decide) (fun _ => ?_) (fun h9 => absurd (jk_le0 hc hc2) h9)
    refine g_widen (k := 1) (n := 1002) (Nat.le_of_ble_eq_true rfl) (Nat.le_of_ble_eq_true rfl) ?_
    exact g_vret F rfl ⟨v1, c, f, hc, hc2, fun _ _ => rfl, hf, Nat.le_refl c, rfl, rfl⟩ dJ5_ensureCapacityInternal_d00df_38
  refine g_ifle F 38 dJ5_ensureCapacityInternal_d00df_14 (by decide) (fun h9 => absurd h9 (jk_nle0 (by omega) (by omega))) (fun _ => ?_)
  have hQ : c + (if q - c < c + 2 then c + 2 else q - c) ≤ 1002 := by split <;> omega
  have hQ2 : q ≤ c + (if q - c < c + 2 then c + 2 else q - c) := by split <;> omega
  have hcap := jk_cap (c := c) (q := q) (by omega) hq
  generalize hz : c + (if q - c < c + 2 then c + 2 else q - c) = Q at hQ hQ2 hcap
  have hcQ : c < Q := by omega
  refine g_aload_n F dJ5_ensureCapacityInternal_d00df_17 rfl ?_
  refine g_aload_n F dJ5_ensureCapacityInternal_d00df_18 rfl ?_
  refine g_get (C := RJ4) (T := TJ4) (N := 4) F 0 0 0 rfl rfl rfl iJ5_ensureCapacityInternal_d00df_J4 (by decide) (by decide +kernel) rfl dJ5_ensureCapacityInternal_d00df_19 ?_
  refine g_aload_n F dJ5_ensureCapacityInternal_d00df_22 rfl ?_
  refine g_iload_n F dJ5_ensureCapacityInternal_d00df_23 rfl ?_
  refine g_callU (C := RJ4) (T := TJ4) (N := 4) (Lr := []) (As := [.int (Int32.ofNat q)]) (rest := [.ref (v1 0), .ref (a 0)]) F 0 0 1 (ctJ5_newCapacity_0f7a4 l E a v1 c (Int32.ofNat q) n f (Int32.ofNat Q) hcap) (va_cwU 1 F.2.2.2.2.2.1 gJ5_ensureCapacityInternal_d00df_J5_newCapacity_0f7a4_u104J4 rfl rfl rfl rfl (by decide +kernel) ⟨Nat.le_of_ble_eq_true rfl, Nat.le_of_ble_eq_true rfl⟩) rfl rfl rfl [0, 1] [] rfl rfl rfl rfl rfl rfl (Nat.le_of_ble_eq_true rfl) dJ5_ensureCapacityInternal_d00df_24 ⟨Nat.le_of_ble_eq_true rfl, Nat.le_of_ble_eq_true rfl⟩ ?_
  rintro v w ⟨rfl, rfl⟩
  refine g_norm (Lw' := [sSBo E a v1 n, sArrB E v1 c f]) (st' := [.int (Int32.ofNat Q), .ref (v1 0), .ref (a 0)]) (pc' := 27) [0, 1] rfl rfl rfl rfl ?_
  refine g_aload_n F dJ5_ensureCapacityInternal_d00df_27 rfl ?_
  refine g_get (C := RJ4) (T := TJ4) (N := 4) F 0 0 1 rfl rfl rfl iJ5_ensureCapacityInternal_d00df_J4 (by decide) (by decide +kernel) rfl dJ5_ensureCapacityInternal_d00df_28 ?_
  refine g_ishl F dJ5_ensureCapacityInternal_d00df_31 ?_
  rw [sb_shl0]
  refine g_callS (Lr := [sSBo E a v1 n]) (As := [.ref (v1 0), .int (Int32.ofNat Q)]) (rest := [.ref (a 0)]) F 2 (ctJ7_copyOf l E v1 c f Q hcQ hQ hf) (va_cwS 2 F.2.2.2.2.2.1 gJ5_ensureCapacityInternal_d00df_J7_copyOf_9075b rfl rfl rfl (by decide +kernel) ⟨Nat.le_of_ble_eq_true rfl, Nat.le_of_ble_eq_true rfl⟩) [1] [0] rfl rfl rfl rfl rfl rfl (Nat.le_of_ble_eq_true rfl) dJ5_ensureCapacityInternal_d00df_32 ⟨Nat.le_of_ble_eq_true rfl, Nat.le_of_ble_eq_true rfl⟩ ?_
  rintro v w ⟨b, rfl, rfl⟩
  refine g_norm (Lw' := [sSBo E a v1 n, sArrB E v1 c f, sArrB E b Q (va_cpy f (fun _ => 0) 0 0 c)]) (st' := [.ref (b 0), .ref (a 0)]) (pc' := 35) [2, 0, 1] rfl rfl rfl rfl ?_
  refine g_put (C := RJ4) (T := TJ4) (N := 4) (tys := tyJ4) (Lw' := [sSBo E a b n, sArrB E v1 c f, sArrB E b Q (va_cpy f (fun _ => 0) 0 0 c)]) F 0 0 0 rfl rfl rfl iJ5_ensureCapacityInternal_d00df_J4 tyJ4_ok nmJ4 (by decide) (by decide +kernel) rfl rfl rfl rfl (Nat.le_of_ble_eq_true rfl) dJ5_ensureCapacityInternal_d00df_35 rfl ?_
  refine g_norm (Lw' := [sSBo E a b n, sArrB E b Q (va_cpy f (fun _ => 0) 0 0 c)]) (st' := []) (pc' := 38) [0, 2] rfl rfl rfl rfl ?_
  exact g_vret F rfl ⟨b, Q, _, hQ2, hQ, fun i hi => sb_cpy0 hi, sb_fitC hf sb_fit0, by omega, rfl, rfl⟩ dJ5_ensureCapacityInternal_d00df_38
theorem upd_ne_ (f : Nat → Int32) {k i : Nat} {x : Int32} (h : i ≠ k) : upd f k x i = f i := by unfold upd; rw [if_neg h]
theorem upd_at_ (f : Nat → Int32) (k : Nat) {x : Int32} : upd f k x k = x := by unfold upd; rw [if_pos rfl]
theorem iJ5_append_3fe6f_J4 : ∀ w ∈ u_ws RJ4 TJ4 4, w ∈ wsJ5_append_3fe6f := by decide +kernel
abbrev rmJ5_append_3fe6f : Room := { frames := 4, cells := 1, slots := 1002, locals := 100 }
set_option maxHeartbeats 4000000 in
set_option maxRecDepth 100000 in
theorem ctJ5_appC (l : Launch) (E : gE) (a v1 : Nat → Nat) (t c : Nat) (f : Nat → Int32) (ht : t ≤ c) (hc2 : c ≤ 1002) (hf : ∀ i, fits .byte (.int (f i)) = true) (hq : t + 1 ≤ 501) (x : Nat) (hx : x < 128) : gMet l yJ5_append_3fe6f wsJ5_append_3fe6f rmJ5_append_3fe6f vwCl E [.ref (a 0), .int (Int32.ofNat x)] [sSBo E a v1 (Int32.ofNat t), sArrB E v1 c f] (fun v w => ∃ (v' : Nat → Nat) (c' : Nat) (f' : Nat → Int32), t + 1 ≤ c' ∧ c' ≤ 1002 ∧ (∀ i, i < t → f' i = f i) ∧ f' t = Int32.ofNat x ∧ (∀ i, fits .byte (.int (f' i)) = true) ∧ v = some (.ref (a 0)) ∧ w = [sSBo E a v' (Int32.ofNat (t + 1)), sArrB E v' c' f']) 1 1002 := by
  refine g_entry [some (.ref (a 0)), some (.int (Int32.ofNat x))] (by decide) rfl (Nat.le_of_ble_eq_true rfl) rfl ?_
  intro p e s m below meth cM A F hnm
  refine g_aload_n F dJ5_append_3fe6f_0 rfl ?_
  refine g_aload_n F dJ5_append_3fe6f_1 rfl ?_
  refine g_get (C := RJ4) (T := TJ4) (N := 4) F 0 0 3 rfl rfl rfl iJ5_append_3fe6f_J4 (by decide) (by decide +kernel) rfl dJ5_append_3fe6f_2 ?_
  refine g_iconst F 1 dJ5_append_3fe6f_5 rfl ?_
  refine g_iadd F dJ5_append_3fe6f_6 ?_
  rw [show Int32.ofNat t + 1 = Int32.ofNat (t + 1) from nI_1 t]
  refine g_callU (C := RJ4) (T := TJ4) (N := 4) (Lr := []) (As := [.int (Int32.ofNat (t + 1))]) (rest := []) F 0 0 1 (ctJ5_ensure l E a v1 (Int32.ofNat t) c f (t + 1) (by omega) hc2 hf) (va_cwU 1 F.2.2.2.2.2.1 gJ5_append_3fe6f_J5_ensureCapacityInternal_d00df_u100J4 rfl rfl rfl rfl (by decide +kernel) ⟨Nat.le_of_ble_eq_true rfl, Nat.le_of_ble_eq_true rfl⟩) rfl rfl rfl [0, 1] [] rfl rfl rfl rfl rfl rfl (Nat.le_of_ble_eq_true rfl) dJ5_append_3fe6f_7 ⟨Nat.le_of_ble_eq_true rfl, Nat.le_of_ble_eq_true rfl⟩ ?_
  rintro v w ⟨v2, c2, f2, g1, g2, g3, g4, g5, rfl, rfl⟩
  refine g_norm (Lw' := [sSBo E a v2 (Int32.ofNat t), sArrB E v2 c2 f2]) (st' := []) (pc' := 10) [0, 1] rfl rfl rfl rfl ?_
  refine g_aload_n F dJ5_append_3fe6f_10 rfl ?_
  refine g_callU (C := RJ4) (T := TJ4) (N := 4) (Lr := [sArrB E v2 c2 f2]) (As := []) (rest := []) F 0 0 0 (ctJ5_isLatin1_aae02 l E a v2 (Int32.ofNat t) 1 rfl) (va_cwU 0 F.2.2.2.2.2.1 gJ5_append_3fe6f_J5_isLatin1_aae02_u83J4 rfl rfl rfl rfl (by decide +kernel) ⟨Nat.le_of_ble_eq_true rfl, Nat.le_of_ble_eq_true rfl⟩) rfl rfl rfl [0] [1] rfl rfl rfl rfl rfl rfl (Nat.le_of_ble_eq_true rfl) dJ5_append_3fe6f_11 ⟨Nat.le_of_ble_eq_true rfl, Nat.le_of_ble_eq_true rfl⟩ ?_
  rintro v w ⟨rfl, rfl, -⟩
  refine g_norm (Lw' := [sSBo E a v2 (Int32.ofNat t), sArrB E v2 c2 f2]) (st' := [.int 1]) (pc' := 14) [0, 1] rfl rfl rfl rfl ?_
  refine g_ifeq F 45 dJ5_append_3fe6f_14 (by decide) (fun h9 => absurd h9 (by decide)) (fun _ => ?_)
  refine g_iload_n F dJ5_append_3fe6f_17 rfl ?_
  refine g_callS (Lr := [sSBo E a v2 (Int32.ofNat t), sArrB E v2 c2 f2]) (As := [.int (Int32.ofNat x)]) (rest := []) F 1 (ctJ1_canEncode_fc78d l E (Int32.ofNat x) 1 (jk_ce hx)) (va_cwS 1 F.2.2.2.2.2.1 gJ5_append_3fe6f_J1_canEncode_fc78d rfl rfl rfl (by decide +kernel) ⟨Nat.le_of_ble_eq_true rfl, Nat.le_of_ble_eq_true rfl⟩) [] [0, 1] rfl rfl rfl rfl rfl rfl (Nat.le_of_ble_eq_true rfl) dJ5_append_3fe6f_18 ⟨Nat.le_of_ble_eq_true rfl, Nat.le_of_ble_eq_true rfl⟩ ?_
  rintro v w ⟨rfl, rfl, -⟩
  refine g_norm (Lw' := [sSBo E a v2 (Int32.ofNat t), sArrB E v2 c2 f2]) (st' := [.int 1]) (pc' := 21) [0, 1] rfl rfl rfl rfl ?_
  refine g_ifeq F 45 dJ5_append_3fe6f_21 (by decide) (fun h9 => absurd h9 (by decide)) (fun _ => ?_)
  refine g_aload_n F dJ5_append_3fe6f_24 rfl ?_
  refine g_get (C := RJ4) (T := TJ4) (N := 4) F 0 0 0 rfl rfl rfl iJ5_append_3fe6f_J4 (by decide) (by decide +kernel) rfl dJ5_append_3fe6f_25 ?_
  refine g_aload_n F dJ5_append_3fe6f_28 rfl ?_
  refine g_dup F dJ5_append_3fe6f_29 rfl ?_
  refine g_get (C := RJ4) (T := TJ4) (N := 4) F 0 0 3 rfl rfl rfl iJ5_append_3fe6f_J4 (by decide) (by decide +kernel) rfl dJ5_append_3fe6f_30 ?_
  refine g_dup_x1 F dJ5_append_3fe6f_33 rfl rfl ?_
  refine g_iconst F 1 dJ5_append_3fe6f_34 rfl ?_
  refine g_iadd F dJ5_append_3fe6f_35 ?_
  rw [show Int32.ofNat t + 1 = Int32.ofNat (t + 1) from nI_1 t]
  refine g_put (C := RJ4) (T := TJ4) (N := 4) (tys := tyJ4) (Lw' := [sSBo E a v2 (Int32.ofNat (t + 1)), sArrB E v2 c2 f2]) F 0 0 3 rfl rfl rfl iJ5_append_3fe6f_J4 tyJ4_ok nmJ4 (by decide) (by decide +kernel) rfl rfl rfl rfl (Nat.le_of_ble_eq_true rfl) dJ5_append_3fe6f_36 rfl ?_
  refine g_iload_n F dJ5_append_3fe6f_39 rfl ?_
  refine g_i2b F dJ5_append_3fe6f_40 ?_
  refine g_bast (Lw' := [sSBo E a v2 (Int32.ofNat (t + 1)), sArrB E v2 c2 (upd f2 t (Int32.ofNat x))]) F 1 0 t (nI_clamp (by omega)) rfl rfl (nI_in (by omega) (by omega)) dJ5_append_3fe6f_41 (by rw [(jk_nb x hx).1]; rfl) ?_
  refine g_goto F 75 dJ5_append_3fe6f_42 (by decide) ?_
  refine g_aload_n F dJ5_append_3fe6f_75 rfl ?_
  exact g_aret F rfl (Or.inl ⟨_, rfl⟩) ⟨v2, c2, _, g1, g2, fun i hi => (upd_ne_ f2 (by omega)).trans (g3 i (by omega)), upd_at_ f2 t, sb_fitU g4 (jk_nb x hx).2, rfl, rfl⟩ dJ5_append_3fe6f_76
theorem iJ5_append_c97b9_J4 : ∀ w ∈ u_ws RJ4 TJ4 4, w ∈ wsJ5_append_c97b9 := by decide +kernel
abbrev rmJ5_append_c97b9 : Room := { frames := 4, cells := 1, slots := 1002, locals := 100 }
set_option maxHeartbeats 4000000 in
set_option maxRecDepth 100000 in
theorem ctJ5_appI (l : Launch) (E : gE) (a v1 : Nat → Nat) (t c : Nat) (f : Nat → Int32) (ht : t ≤ c) (hc2 : c ≤ 1002) (hf : ∀ i, fits .byte (.int (f i)) = true) (x : Int32) (n : Nat) (ds : Nat → Int32) (hq : t + n ≤ 501) (hs : fJ6_stringSize_0f7a4 x = some (Int32.ofNat n)) (hd : ∀ (c : Nat) (f : Nat → Int32), t + n ≤ c → c ≤ 1002 → (∀ i, fits .byte (.int (f i)) = true) → ∃ (r : Int32) (f' : Nat → Int32), fJ6_getChars_ba4f3 c x (Int32.ofNat (t + n)) f = some (r, f') ∧ (∀ i, i < t → f' i = f i) ∧ (∀ i, i < n → f' (t + i) = ds i) ∧ ∀ i, fits .byte (.int (f' i)) = true) : gMet l yJ5_append_c97b9 wsJ5_append_c97b9 rmJ5_append_c97b9 vwCl E [.ref (a 0), .int x] [sSBo E a v1 (Int32.ofNat t), sArrB E v1 c f] (fun v w => ∃ (v' : Nat → Nat) (c' : Nat) (f' : Nat → Int32), t + n ≤ c' ∧ c' ≤ 1002 ∧ (∀ i, i < t → f' i = f i) ∧ (∀ i, i < n → f' (t + i) = ds i) ∧ (∀ i, fits .byte (.int (f' i)) = true) ∧ v = some (.ref (a 0)) ∧ w = [sSBo E a v' (Int32.ofNat (t + n)), sArrB E v' c' f']) 1 1002 := by
  refine g_entry [some (.ref (a 0)), some (.int x), none, none] (by decide) rfl (Nat.le_of_ble_eq_true rfl) rfl ?_
  intro p e s m below meth cM A F hnm
  refine g_aload_n F dJ5_append_c97b9_0 rfl ?_
  refine g_get (C := RJ4) (T := TJ4) (N := 4) F 0 0 3 rfl rfl rfl iJ5_append_c97b9_J4 (by decide) (by decide +kernel) rfl dJ5_append_c97b9_1 ?_
  refine g_istore_n (lv' := [some (.ref (a 0)), some (.int x), some (.int (Int32.ofNat t)), none]) F dJ5_append_c97b9_4 (Nat.le_of_ble_eq_true rfl) rfl rfl ?_
  refine g_iload_n F dJ5_append_c97b9_5 rfl ?_
  refine g_iload_n F dJ5_append_c97b9_6 rfl ?_
  refine g_callS (Lr := [sSBo E a v1 (Int32.ofNat t), sArrB E v1 c f]) (As := [.int x]) (rest := [.int (Int32.ofNat t)]) F 1 (ctJ6_stringSize_0f7a4 l E x (Int32.ofNat n) hs) (va_cwS 1 F.2.2.2.2.2.1 gJ5_append_c97b9_J6_stringSize_0f7a4 rfl rfl rfl (by decide +kernel) ⟨Nat.le_of_ble_eq_true rfl, Nat.le_of_ble_eq_true rfl⟩) [] [0, 1] rfl rfl rfl rfl rfl rfl (Nat.le_of_ble_eq_true rfl) dJ5_append_c97b9_7 ⟨Nat.le_of_ble_eq_true rfl, Nat.le_of_ble_eq_true rfl⟩ ?_
  rintro v w ⟨rfl, rfl⟩
  refine g_norm (Lw' := [sSBo E a v1 (Int32.ofNat t), sArrB E v1 c f]) (st' := [.int (Int32.ofNat n), .int (Int32.ofNat t)]) (pc' := 10) [0, 1] rfl rfl rfl rfl ?_
  refine g_iadd F dJ5_append_c97b9_10 ?_
  rw [show Int32.ofNat t + Int32.ofNat n = Int32.ofNat (t + n) from nI_add t n]
  refine g_istore_n (lv' := [some (.ref (a 0)), some (.int x), some (.int (Int32.ofNat t)), some (.int (Int32.ofNat (t + n)))]) F dJ5_append_c97b9_11 (Nat.le_of_ble_eq_true rfl) rfl rfl ?_
  refine g_aload_n F dJ5_append_c97b9_12 rfl ?_
  refine g_iload_n F dJ5_append_c97b9_13 rfl ?_
  refine g_callU (C := RJ4) (T := TJ4) (N := 4) (Lr := []) (As := [.int (Int32.ofNat (t + n))]) (rest := []) F 0 0 1 (ctJ5_ensure l E a v1 (Int32.ofNat t) c f (t + n) (by omega) hc2 hf) (va_cwU 1 F.2.2.2.2.2.1 gJ5_append_c97b9_J5_ensureCapacityInternal_d00df_u100J4 rfl rfl rfl rfl (by decide +kernel) ⟨Nat.le_of_ble_eq_true rfl, Nat.le_of_ble_eq_true rfl⟩) rfl rfl rfl [0, 1] [] rfl rfl rfl rfl rfl rfl (Nat.le_of_ble_eq_true rfl) dJ5_append_c97b9_14 ⟨Nat.le_of_ble_eq_true rfl, Nat.le_of_ble_eq_true rfl⟩ ?_
  rintro v w ⟨v2, c2, f2, g1, g2, g3, g4, g5, rfl, rfl⟩
  refine g_norm (Lw' := [sSBo E a v2 (Int32.ofNat t), sArrB E v2 c2 f2]) (st' := []) (pc' := 17) [0, 1] rfl rfl rfl rfl ?_
  refine g_aload_n F dJ5_append_c97b9_17 rfl ?_
  refine g_callU (C := RJ4) (T := TJ4) (N := 4) (Lr := [sArrB E v2 c2 f2]) (As := []) (rest := []) F 0 0 0 (ctJ5_isLatin1_aae02 l E a v2 (Int32.ofNat t) 1 rfl) (va_cwU 0 F.2.2.2.2.2.1 gJ5_append_c97b9_J5_isLatin1_aae02_u83J4 rfl rfl rfl rfl (by decide +kernel) ⟨Nat.le_of_ble_eq_true rfl, Nat.le_of_ble_eq_true rfl⟩) rfl rfl rfl [0] [1] rfl rfl rfl rfl rfl rfl (Nat.le_of_ble_eq_true rfl) dJ5_append_c97b9_18 ⟨Nat.le_of_ble_eq_true rfl, Nat.le_of_ble_eq_true rfl⟩ ?_
  rintro v w ⟨rfl, rfl, -⟩
  refine g_norm (Lw' := [sSBo E a v2 (Int32.ofNat t), sArrB E v2 c2 f2]) (st' := [.int 1]) (pc' := 21) [0, 1] rfl rfl rfl rfl ?_
  refine g_ifeq F 37 dJ5_append_c97b9_21 (by decide) (fun h9 => absurd h9 (by decide)) (fun _ => ?_)
  obtain ⟨r, f3, hg, k1, k2, k3⟩ := hd c2 f2 g1 g2 g4
  refine g_iload_n F dJ5_append_c97b9_24 rfl ?_
  refine g_iload_n F dJ5_append_c97b9_25 rfl ?_
  refine g_aload_n F dJ5_append_c97b9_26 rfl ?_
  refine g_get (C := RJ4) (T := TJ4) (N := 4) F 0 0 0 rfl rfl rfl iJ5_append_c97b9_J4 (by decide) (by decide +kernel) rfl dJ5_append_c97b9_27 ?_
  refine g_callS (Lr := [sSBo E a v2 (Int32.ofNat t)]) (As := [.int x, .int (Int32.ofNat (t + n)), .ref (v2 0)]) (rest := []) F 3 (ctJ6_getChars_ba4f3 l E v2 c2 x (Int32.ofNat (t + n)) f2 r f3 hg) (va_cwS 3 F.2.2.2.2.2.1 gJ5_append_c97b9_J6_getChars_ba4f3 rfl rfl rfl (by decide +kernel) ⟨Nat.le_of_ble_eq_true rfl, Nat.le_of_ble_eq_true rfl⟩) [1] [0] rfl rfl rfl rfl rfl rfl (Nat.le_of_ble_eq_true rfl) dJ5_append_c97b9_30 ⟨Nat.le_of_ble_eq_true rfl, Nat.le_of_ble_eq_true rfl⟩ ?_
  rintro v w ⟨rfl, rfl⟩
  refine g_norm (Lw' := [sSBo E a v2 (Int32.ofNat t), sArrB E v2 c2 f3]) (st' := [.int r]) (pc' := 33) [1, 0] rfl rfl rfl rfl ?_
  refine g_pop F dJ5_append_c97b9_33 rfl ?_
  refine g_goto F 48 dJ5_append_c97b9_34 (by decide) ?_
  refine g_aload_n F dJ5_append_c97b9_48 rfl ?_
  refine g_iload_n F dJ5_append_c97b9_49 rfl ?_
  refine g_put (C := RJ4) (T := TJ4) (N := 4) (tys := tyJ4) (Lw' := [sSBo E a v2 (Int32.ofNat (t + n)), sArrB E v2 c2 f3]) F 0 0 3 rfl rfl rfl iJ5_append_c97b9_J4 tyJ4_ok nmJ4 (by decide) (by decide +kernel) rfl rfl rfl rfl (Nat.le_of_ble_eq_true rfl) dJ5_append_c97b9_50 rfl ?_
  refine g_aload_n F dJ5_append_c97b9_53 rfl ?_
  exact g_aret F rfl (Or.inl ⟨_, rfl⟩) ⟨v2, c2, f3, g1, g2, fun i hi => (k1 i hi).trans (g3 i (by omega)), k2, k3, rfl, rfl⟩ dJ5_append_c97b9_54
theorem jk_len {i : Nat} (h : i < 8) : fJ0_length_8abf5 i = some (Int32.ofNat (gBy i).length) := by
  unfold fJ0_length_8abf5 fJ0_coder_7d493
  rw [if_neg (by decide)]
  show some (Int32.ofNat (gBy i).length >>> ((0 : Int32) &&& 31)) = _
  rw [sb_shr0]
theorem jk_by : ∀ i, i < 8 → (gBy i).length ≤ 6 ∧ (∀ k, k < 7 → fits .byte (.int ((gBy i).getD k 0)) = true ∧ (gBy i).getD k 0 = Int32.ofNat ((gTx i).getD k 0)) ∧ (gTx i).length = (gBy i).length ∧ ∀ x ∈ gTx i, x < 128 := by decide +kernel
theorem jk_put {i : Nat} (hi : i < 8) {t c : Nat} {f : Nat → Int32} (h1 : t + (gBy i).length ≤ c) (h2 : c ≤ 1002) (hf : ∀ i, fits .byte (.int (f i)) = true) : ∃ f' : Nat → Int32, fJ5_putStringAt_47b60 c i (Int32.ofNat t) f = some f' ∧ (∀ j, j < t → f' j = f j) ∧ (∀ j, j < (gBy i).length → f' (t + j) = (gBy i).getD j 0) ∧ ∀ j, fits .byte (.int (f' j)) = true := by
  obtain ⟨b1, b2, -, -⟩ := jk_by i hi
  have ec : ∀ k, k < 6000 → (Int32.ofNat k).toNatClampNeg = k := fun k hk => nI_clamp (by omega)
  have e0 : (0 : Int32).toNatClampNeg = 0 := rfl
  have ht : ¬ Int32.ofNat t < 0 := nI_pos (by omega)
  have hl : ¬ Int32.ofNat (gBy i).length < 0 := nI_pos (by omega)
  refine ⟨va_cpy (fun k => (gBy i).getD k 0) f 0 t (gBy i).length, ?_, fun j hj => ?_, fun j hj => ?_, fun j => ?_⟩
  · have e1 : fJ5_inflateIfNeededFor_a7421 i = some () := by
      unfold fJ5_inflateIfNeededFor_a7421 fJ0_coder_7d493
      rw [if_neg (show ¬ (1 : Int32) = 0 by decide), if_neg (show ¬ (1 : Int32) = 0 by decide)]
      exact (if_pos rfl : (if (0 : Int32) = 0 then some () else none) = some ())
    have e2 : fJ0_coder_7d493 i = some 0 := by
      unfold fJ0_coder_7d493
      exact if_neg (by decide)
    have k1 : ∀ {α β : Type} (a : α) (k : α → Option β), gb1 (some a) k = k a := fun _ _ => rfl
    have k0 : ∀ {β : Type} (k : Option β), gb0 (some ()) k = k := fun _ => rfl
    unfold fJ5_putStringAt_47b60 fJ0_getBytes_840e7
    rw [e1, k0, e2, k1, if_pos rfl, sb_shl0, ec t (by omega), ec _ (by omega), e0]
    rw [if_neg (by
      rintro (h | h | h | h | h)
      · exact absurd h (by decide)
      · exact ht h
      · exact hl h
      · omega
      · omega), if_pos (fun k hk => by rw [Nat.zero_add]; exact (b2 k (by omega)).1)]
    rfl
  · unfold va_cpy
    rw [if_neg (by omega)]
  · unfold va_cpy
    rw [if_pos ⟨by omega, by omega⟩]
    show (gBy i).getD (0 + (t + j - t)) 0 = _
    rw [Nat.zero_add, Nat.add_sub_cancel_left]
  · unfold va_cpy
    split
    · rename_i h
      show fits .byte (.int ((gBy i).getD (0 + (j - t)) 0)) = true
      rw [Nat.zero_add]
      exact (b2 _ (by omega)).1
    · exact hf j
theorem iJ5_append_cf1ce_J4 : ∀ w ∈ u_ws RJ4 TJ4 4, w ∈ wsJ5_append_cf1ce := by decide +kernel
abbrev rmJ5_append_cf1ce : Room := { frames := 4, cells := 1, slots := 1002, locals := 100 }
set_option maxHeartbeats 4000000 in
set_option maxRecDepth 100000 in
theorem ctJ5_appS (l : Launch) (E : gE) (a v1 : Nat → Nat) (t c : Nat) (f : Nat → Int32) (ht : t ≤ c) (hc2 : c ≤ 1002) (hf : ∀ i, fits .byte (.int (f i)) = true) (i0 : Nat) (hi : i0 < 8) (hq : t + (gBy i0).length ≤ 501) : gMet l yJ5_append_cf1ce wsJ5_append_cf1ce rmJ5_append_cf1ce vwCl E [.ref (a 0), .ref (E.2.2 i0)] [sSBo E a v1 (Int32.ofNat t), sArrB E v1 c f] (fun v w => ∃ (v' : Nat → Nat) (c' : Nat) (f' : Nat → Int32), t + (gBy i0).length ≤ c' ∧ c' ≤ 1002 ∧ (∀ i, i < t → f' i = f i) ∧ (∀ i, i < (gBy i0).length → f' (t + i) = (gBy i0).getD i 0) ∧ (∀ i, fits .byte (.int (f' i)) = true) ∧ v = some (.ref (a 0)) ∧ w = [sSBo E a v' (Int32.ofNat (t + (gBy i0).length)), sArrB E v' c' f']) 1 1002 := by
  refine g_entry [some (.ref (a 0)), some (.ref (E.2.2 i0)), none] (by decide) rfl (Nat.le_of_ble_eq_true rfl) rfl ?_
  intro p e s m below meth cM A F hnm
  refine g_aload_n F dJ5_append_cf1ce_0 rfl ?_
  refine g_ifnn F 9 dJ5_append_cf1ce_1 (by decide) ?_
  refine g_aload_n F dJ5_append_cf1ce_9 rfl ?_
  refine g_callVs (Lr := [sSBo E a v1 (Int32.ofNat t), sArrB E v1 c f]) (As := []) (rest := []) F 0 hi (ctJ0_length_8abf5 l E i0 hi (Int32.ofNat (gBy i0).length) (jk_len hi)) gJ5_append_cf1ce_J0_length_8abf5 rfl rfl rfl (by decide +kernel) ⟨Nat.le_of_ble_eq_true rfl, Nat.le_of_ble_eq_true rfl⟩ [] [0, 1] rfl rfl rfl rfl rfl rfl (Nat.le_of_ble_eq_true rfl) dJ5_append_cf1ce_10 ⟨Nat.le_of_ble_eq_true rfl, Nat.le_of_ble_eq_true rfl⟩ ?_
  rintro v w ⟨rfl, rfl⟩
  refine g_norm (Lw' := [sSBo E a v1 (Int32.ofNat t), sArrB E v1 c f]) (st' := [.int (Int32.ofNat (gBy i0).length)]) (pc' := 13) [0, 1] rfl rfl rfl rfl ?_
  refine g_istore_n (lv' := [some (.ref (a 0)), some (.ref (E.2.2 i0)), some (.int (Int32.ofNat (gBy i0).length))]) F dJ5_append_cf1ce_13 (Nat.le_of_ble_eq_true rfl) rfl rfl ?_
  refine g_aload_n F dJ5_append_cf1ce_14 rfl ?_
  refine g_aload_n F dJ5_append_cf1ce_15 rfl ?_
  refine g_get (C := RJ4) (T := TJ4) (N := 4) F 0 0 3 rfl rfl rfl iJ5_append_cf1ce_J4 (by decide) (by decide +kernel) rfl dJ5_append_cf1ce_16 ?_
  refine g_iload_n F dJ5_append_cf1ce_19 rfl ?_
  refine g_iadd F dJ5_append_cf1ce_20 ?_
  rw [show Int32.ofNat t + Int32.ofNat (gBy i0).length = Int32.ofNat (t + (gBy i0).length) from nI_add _ _]
  refine g_callU (C := RJ4) (T := TJ4) (N := 4) (Lr := []) (As := [.int (Int32.ofNat (t + (gBy i0).length))]) (rest := []) F 0 0 1 (ctJ5_ensure l E a v1 (Int32.ofNat t) c f (t + (gBy i0).length) (by omega) hc2 hf) (va_cwU 1 F.2.2.2.2.2.1 gJ5_append_cf1ce_J5_ensureCapacityInternal_d00df_u100J4 rfl rfl rfl rfl (by decide +kernel) ⟨Nat.le_of_ble_eq_true rfl, Nat.le_of_ble_eq_true rfl⟩) rfl rfl rfl [0, 1] [] rfl rfl rfl rfl rfl rfl (Nat.le_of_ble_eq_true rfl) dJ5_append_cf1ce_21 ⟨Nat.le_of_ble_eq_true rfl, Nat.le_of_ble_eq_true rfl⟩ ?_
  rintro v w ⟨v2, c2, f2, g1, g2, g3, g4, g5, rfl, rfl⟩
  refine g_norm (Lw' := [sSBo E a v2 (Int32.ofNat t), sArrB E v2 c2 f2]) (st' := []) (pc' := 24) [0, 1] rfl rfl rfl rfl ?_
  refine g_aload_n F dJ5_append_cf1ce_24 rfl ?_
  refine g_aload_n F dJ5_append_cf1ce_25 rfl ?_
  refine g_get (C := RJ4) (T := TJ4) (N := 4) F 0 0 3 rfl rfl rfl iJ5_append_cf1ce_J4 (by decide) (by decide +kernel) rfl dJ5_append_cf1ce_26 ?_
  refine g_aload_n F dJ5_append_cf1ce_29 rfl ?_
  obtain ⟨f3, hg, k1, k2, k3⟩ := jk_put hi (c := c2) (t := t) (f := f2) g1 g2 g4
  refine g_callU (C := RJ4) (T := TJ4) (N := 4) (Lr := []) (As := [.int (Int32.ofNat t), .ref (E.2.2 i0)]) (rest := []) F 0 0 2 (ctJ5_putStringAt_47b60 l E a v2 c2 i0 (Int32.ofNat t) hi (Int32.ofNat t) f2 f3 hg) (va_cwU 2 F.2.2.2.2.2.1 gJ5_append_cf1ce_J5_putStringAt_47b60_u208J4 rfl rfl rfl rfl (by decide +kernel) ⟨Nat.le_of_ble_eq_true rfl, Nat.le_of_ble_eq_true rfl⟩) rfl rfl rfl [0, 1] [] rfl rfl rfl rfl rfl rfl (Nat.le_of_ble_eq_true rfl) dJ5_append_cf1ce_30 ⟨Nat.le_of_ble_eq_true rfl, Nat.le_of_ble_eq_true rfl⟩ ?_
  rintro v w ⟨rfl, rfl⟩
  refine g_norm (Lw' := [sSBo E a v2 (Int32.ofNat t), sArrB E v2 c2 f3]) (st' := []) (pc' := 33) [0, 1] rfl rfl rfl rfl ?_
  refine g_aload_n F dJ5_append_cf1ce_33 rfl ?_
  refine g_dup F dJ5_append_cf1ce_34 rfl ?_
  refine g_get (C := RJ4) (T := TJ4) (N := 4) F 0 0 3 rfl rfl rfl iJ5_append_cf1ce_J4 (by decide) (by decide +kernel) rfl dJ5_append_cf1ce_35 ?_
  refine g_iload_n F dJ5_append_cf1ce_38 rfl ?_
  refine g_iadd F dJ5_append_cf1ce_39 ?_
  rw [show Int32.ofNat t + Int32.ofNat (gBy i0).length = Int32.ofNat (t + (gBy i0).length) from nI_add _ _]
  refine g_put (C := RJ4) (T := TJ4) (N := 4) (tys := tyJ4) (Lw' := [sSBo E a v2 (Int32.ofNat (t + (gBy i0).length)), sArrB E v2 c2 f3]) F 0 0 3 rfl rfl rfl iJ5_append_cf1ce_J4 tyJ4_ok nmJ4 (by decide) (by decide +kernel) rfl rfl rfl rfl (Nat.le_of_ble_eq_true rfl) dJ5_append_cf1ce_40 rfl ?_
  refine g_aload_n F dJ5_append_cf1ce_43 rfl ?_
  exact g_aret F rfl (Or.inl ⟨_, rfl⟩) ⟨v2, c2, f3, g1, g2, fun i hi => (k1 i hi).trans (g3 i (by omega)), k2, k3, rfl, rfl⟩ dJ5_append_cf1ce_44
theorem jk_in {x : Int32} {n : Nat} (h : ¬ (x < 0 ∨ n ≤ x.toNatClampNeg)) : x.toNatClampNeg < n := Nat.lt_of_not_le (fun z => h (Or.inr z))
theorem jk_of {x : Int32} {n : Nat} (h : ¬ (x < 0 ∨ n ≤ x.toNatClampNeg)) : Int32.ofNat x.toNatClampNeg = x := by
  obtain ⟨j, hj, rfl⟩ := nI_of (x := x) (fun z => h (Or.inl z))
  rw [show (nI j).toNatClampNeg = j from nI_clamp hj]
  rfl
theorem okSB_app {t s : List Nat} {c' : Nat} {f f' : Nat → Int32} (h : okT t f) (h1 : t.length + s.length ≤ c') (h2 : c' ≤ 1002) (h3 : ∀ i, i < t.length → f' i = f i) (h4 : ∀ i, i < s.length → f' (t.length + i) = Int32.ofNat (s.getD i 0)) (h5 : ∀ i, fits .byte (.int (f' i)) = true) (h6 : (t ++ s).length ≤ 500) (h7 : ∀ x ∈ s, x < 128) : okSB (t ++ s) c' f' := by
  refine ⟨⟨h6, fun x hx => ?_, fun i hi => ?_, h5⟩, by rw [List.length_append]; exact h1, h2⟩
  · rcases List.mem_append.mp hx with h9 | h9
    · exact h.2.1 x h9
    · exact h7 x h9
  · rw [List.length_append] at hi
    by_cases c : i < t.length
    · rw [h3 i c, h.2.2.1 i c, List.getD_eq_getElem?_getD, List.getD_eq_getElem?_getD, List.getElem?_append_left c]
    · have e : i = t.length + (i - t.length) := by omega
      rw [e, h4 (i - t.length) (by omega), List.getD_eq_getElem?_getD, List.getD_eq_getElem?_getD, List.getElem?_append_right (by omega), Nat.add_sub_cancel_left]
abbrev rmJ4_append_cf468 : Room := { frames := 5, cells := 1, slots := 1002, locals := 121 }
set_option maxHeartbeats 4000000 in
set_option maxRecDepth 100000 in
theorem ctSB_appC (l : Launch) (E : gE) (a v1 : Nat → Nat) (c : Nat) (t : List Nat) (f : Nat → Int32) (x : Int32) (hx : ¬ (x < 0 ∨ 128 ≤ x.toNatClampNeg)) (hok0 : okSB t c f) (hl : (t ++ [x.toNatClampNeg]).length ≤ 500) : gMet l yJ4_append_cf468 wsJ4_append_cf468 rmJ4_append_cf468 vwCl E [.ref (a 0), .int x] [sSB E a v1 c t f] (fun v w => ∃ (v' : Nat → Nat) (c' : Nat) (f' : Nat → Int32), okSB (t ++ [x.toNatClampNeg]) c' f' ∧ v = some (.ref (a 0)) ∧ w = [sSB E a v' c' (t ++ [x.toNatClampNeg]) f']) 1 1002 := by
  have hct := ctJ5_appC l E a v1 t.length c f hok0.2.1 hok0.2.2 hok0.1.2.2.2 (by rw [List.length_append] at hl; simp at hl; omega) x.toNatClampNeg (jk_in hx)
  rw [jk_of hx] at hct
  refine g_entry [some (.ref (a 0)), some (.int x)] (by decide) rfl (Nat.le_of_ble_eq_true rfl) rfl ?_
  intro p e s m below meth cM A F hnm
  refine g_eqF (Lw' := [sSBo E a v1 (Int32.ofNat t.length), sArrB E v1 c f]) rfl ?_
  refine g_aload_n F dJ4_append_cf468_0 rfl ?_
  refine g_iload_n F dJ4_append_cf468_1 rfl ?_
  refine g_callSU (C := RJ4) (T := TJ4) (N := 4) (Lr := []) (As := [.int x]) (rest := []) F 0 0 1 (hct) (va_cwSU 1 F.2.2.2.2.2.1 gJ4_append_cf468_J5_append_3fe6f_s50 rfl rfl rfl (by decide +kernel) ⟨Nat.le_of_ble_eq_true rfl, Nat.le_of_ble_eq_true rfl⟩) rfl rfl rfl [0, 1] [] rfl rfl rfl rfl rfl rfl (Nat.le_of_ble_eq_true rfl) dJ4_append_cf468_2 ⟨Nat.le_of_ble_eq_true rfl, Nat.le_of_ble_eq_true rfl⟩ ?_
  rintro v w ⟨v2, c2, f2, g1, g2, g3, g4, g5, rfl, rfl⟩
  refine g_norm (Lw' := [sSBo E a v2 (Int32.ofNat (t.length + 1)), sArrB E v2 c2 f2]) (st' := [.ref (a 0)]) (pc' := 5) [0, 1] rfl rfl rfl rfl ?_
  refine g_pop F dJ4_append_cf468_5 rfl ?_
  refine g_aload_n F dJ4_append_cf468_6 rfl ?_
  have hT : (t ++ [x.toNatClampNeg]).length = (t.length + 1) := by simp
  have hok : okSB (t ++ [x.toNatClampNeg]) c2 f2 := okSB_app (s := [x.toNatClampNeg]) hok0.1 g1 g2 g3 (fun i hi => match i, hi with | 0, _ => g4.trans (jk_of hx).symm | k + 1, h => absurd h (by simp)) g5 hl (fun y hy => by rw [List.mem_singleton.mp hy]; exact jk_in hx)
  refine g_eqF (Lw' := [sSB E a v2 c2 (t ++ [x.toNatClampNeg]) f2]) (by rw [← hT]; rfl) ?_
  exact g_aret F rfl (Or.inl ⟨_, rfl⟩) ⟨v2, c2, f2, hok, rfl, rfl⟩ dJ4_append_cf468_7
abbrev rmJ4_append_15ec4 : Room := { frames := 5, cells := 1, slots := 1002, locals := 122 }
set_option maxHeartbeats 4000000 in
set_option maxRecDepth 100000 in
theorem ctSB_appS (l : Launch) (E : gE) (a v1 : Nat → Nat) (c : Nat) (t : List Nat) (f : Nat → Int32) (i0 : Nat) (hi : i0 < 8) (hok0 : okSB t c f) (hl : (t ++ gTx i0).length ≤ 500) : gMet l yJ4_append_15ec4 wsJ4_append_15ec4 rmJ4_append_15ec4 vwCl E [.ref (a 0), .ref (E.2.2 i0)] [sSB E a v1 c t f] (fun v w => ∃ (v' : Nat → Nat) (c' : Nat) (f' : Nat → Int32), okSB (t ++ gTx i0) c' f' ∧ v = some (.ref (a 0)) ∧ w = [sSB E a v' c' (t ++ gTx i0) f']) 1 1002 := by
  refine g_entry [some (.ref (a 0)), some (.ref (E.2.2 i0))] (by decide) rfl (Nat.le_of_ble_eq_true rfl) rfl ?_
  intro p e s m below meth cM A F hnm
  refine g_eqF (Lw' := [sSBo E a v1 (Int32.ofNat t.length), sArrB E v1 c f]) rfl ?_
  refine g_aload_n F dJ4_append_15ec4_0 rfl ?_
  refine g_aload_n F dJ4_append_15ec4_1 rfl ?_
  refine g_callSU (C := RJ4) (T := TJ4) (N := 4) (Lr := []) (As := [.ref (E.2.2 i0)]) (rest := []) F 0 0 1 (ctJ5_appS l E a v1 t.length c f hok0.2.1 hok0.2.2 hok0.1.2.2.2 i0 hi (by rw [List.length_append, (jk_by i0 hi).2.2.1] at hl; omega)) (va_cwSU 1 F.2.2.2.2.2.1 gJ4_append_15ec4_J5_append_cf1ce_s29 rfl rfl rfl (by decide +kernel) ⟨Nat.le_of_ble_eq_true rfl, Nat.le_of_ble_eq_true rfl⟩) rfl rfl rfl [0, 1] [] rfl rfl rfl rfl rfl rfl (Nat.le_of_ble_eq_true rfl) dJ4_append_15ec4_2 ⟨Nat.le_of_ble_eq_true rfl, Nat.le_of_ble_eq_true rfl⟩ ?_
  rintro v w ⟨v2, c2, f2, g1, g2, g3, g4, g5, rfl, rfl⟩
  refine g_norm (Lw' := [sSBo E a v2 (Int32.ofNat (t.length + (gBy i0).length)), sArrB E v2 c2 f2]) (st' := [.ref (a 0)]) (pc' := 5) [0, 1] rfl rfl rfl rfl ?_
  refine g_pop F dJ4_append_15ec4_5 rfl ?_
  refine g_aload_n F dJ4_append_15ec4_6 rfl ?_
  have hT : (t ++ gTx i0).length = (t.length + (gBy i0).length) := by rw [List.length_append, (jk_by i0 hi).2.2.1]
  have hok : okSB (t ++ gTx i0) c2 f2 := okSB_app hok0.1 (by rw [(jk_by i0 hi).2.2.1]; exact g1) g2 g3 (fun i h9 => by rw [(jk_by i0 hi).2.2.1] at h9; rw [g4 i h9]; exact ((jk_by i0 hi).2.1 i (by have := (jk_by i0 hi).1; omega)).2) g5 hl (jk_by i0 hi).2.2.2
  refine g_eqF (Lw' := [sSB E a v2 c2 (t ++ gTx i0) f2]) (by rw [← hT]; rfl) ?_
  exact g_aret F rfl (Or.inl ⟨_, rfl⟩) ⟨v2, c2, f2, hok, rfl, rfl⟩ dJ4_append_15ec4_7
theorem gDec_ok : ∀ v, v < 1000 → (gDec v).length ≤ 3 ∧ ∀ x ∈ gDec v, x < 128 := by decide +kernel
theorem jk_size : ∀ v, v < 1000 → fJ6_stringSize_0f7a4 (Int32.ofNat v) = some (Int32.ofNat (gDec v).length) := by decide +kernel
theorem jk_dig : ∀ j, j < 10 → vp_nar .byte (Int32.ofNat (48 + j)) = Int32.ofNat (48 + j) ∧ fits .byte (.int (Int32.ofNat (48 + j))) = true := by decide +kernel
theorem gDec_1 {v : Nat} (h : v < 10) : gDec v = [48 + v] := by unfold gDec gDecF; rw [if_pos h]
theorem gDec_2 {v : Nat} (h : 10 ≤ v) (h2 : v < 100) : gDec v = [48 + v / 10, 48 + v % 10] := by
  unfold gDec gDecF gDecF
  rw [if_neg (by omega), if_pos (by omega)]
  rfl
theorem gDec_3 {v : Nat} (h : 100 ≤ v) (h2 : v < 1000) : gDec v = [48 + v / 100, 48 + v / 10 % 10, 48 + v % 10] := by
  unfold gDec gDecF gDecF gDecF
  rw [if_neg (by omega), if_neg (by omega), if_pos (by omega), Nat.div_div_eq_div_mul]
  rfl
/-- the last digits, from n places on -/
theorem jk_tail {w n c : Nat} (hw : w < 100) (hn : n ≤ c) (hc : c ≤ 1002) (f : Nat → Int32) (h2 : (if w < 10 then 1 else 2) ≤ n) (k : Int32 → (Nat → Int32) → Option (Int32 × (Nat → Int32))) : True := trivial
theorem jk_in' {x : Int32} {n : Nat} (h : ¬ (x < 0 ∨ n ≤ x.toNatClampNeg)) : x.toNatClampNeg < n := Nat.lt_of_not_le (fun z => h (Or.inr z))
theorem jk_c : ∀ c, c < 128 → ((Int32.ofNat c &&& 255).toUInt32 % 65536).toInt32 = Int32.ofNat c := by decide +kernel
theorem jk_k1 {α β : Type} (a : α) (k : α → Option β) : gb1 (some a) k = k a := rfl
theorem jk_k0 {β : Type} (k : Option β) : gb0 (some ()) k = k := rfl
theorem jk_at0 {t : List Nat} {f : Nat → Int32} (hok : okS t f) {x : Int32} (hx : ¬ (x < 0 ∨ t.length ≤ x.toNatClampNeg)) (hxe : Int32.ofNat x.toNatClampNeg = x) (hlt : x.toNatClampNeg < t.length → Int32.ofNat x.toNatClampNeg < Int32.ofNat t.length) : fJ0_charAt_5068eW t.length x f = some (Int32.ofNat (t.getD x.toNatClampNeg 0)) := by
  have hi := jk_in' hx
  have h0 : ¬ x < 0 := fun z => hx (Or.inl z)
  have h1 : x < Int32.ofNat t.length := by
    have := hlt hi
    rw [hxe] at this
    exact this
  have ec : fJ0_checkIndex_df160 x (Int32.ofNat t.length) = some () := by
    unfold fJ0_checkIndex_df160 fJ3_checkIndex_8e157 Lt
    dsimp only
    rw [if_neg h0, if_pos h1]
    rfl
  have e1 : fJ0_isLatin1_aae02W = some 1 := by
    unfold fJ0_isLatin1_aae02W
    rw [if_neg (by decide), if_pos rfl]
  have hm : t.getD x.toNatClampNeg 0 ∈ t := by
    rw [List.getD_eq_getElem?_getD, List.getElem?_eq_getElem hi]
    exact List.getElem_mem hi
  unfold fJ0_charAt_5068eW fJ1_charAt_3b067W
  rw [e1, jk_k1, if_neg (by decide), ec, jk_k0, if_neg hx, jk_k1, hok.2.2.1 _ hi, jk_c _ (hok.2.1 _ hm)]
theorem jk_upf {f : Nat → Int32} (hf : ∀ i, fits .byte (.int (f i)) = true) (k : Nat) {x : Int32} (hx : fits .byte (.int x) = true) : ∀ i, fits .byte (.int (upd f k x i)) = true := by
  intro i
  unfold upd
  split
  · exact hx
  · exact hf i
theorem jk_dO : ∀ q, q < 100 → vp_nar .byte (gDO q) = Int32.ofNat (48 + q % 10) ∧ fits .byte (.int (Int32.ofNat (48 + q % 10))) = true := by decide +kernel
theorem jk_dT : ∀ q, q < 100 → vp_nar .byte (gDT q) = Int32.ofNat (48 + q / 10) ∧ fits .byte (.int (Int32.ofNat (48 + q / 10))) = true := by decide +kernel
theorem jk_q : ∀ q, q < 100 → -(-(Int32.ofNat q)) = Int32.ofNat q ∧ ¬ (Int32.ofNat q < 0 ∨ 100 ≤ (Int32.ofNat q).toNatClampNeg) ∧ (Int32.ofNat q).toNatClampNeg = q ∧ ((-100 : Int32) < -(Int32.ofNat q)) ∧ (((-9 : Int32) ≤ -(Int32.ofNat q)) ↔ q ≤ 9) := by decide +kernel
theorem jk_v : ∀ v, v < 1000 → 100 ≤ v → ¬ ((-100 : Int32) < -(Int32.ofNat v)) ∧ (-(Int32.ofNat (v / 100))) * 100 - (-(Int32.ofNat v)) = Int32.ofNat (v % 100) ∧ (-(Int32.ofNat v)) / 100 = -(Int32.ofNat (v / 100)) := by decide +kernel
theorem jk_v0 : ∀ v, v < 1000 → (0 : Int32) ≤ Int32.ofNat v := by decide +kernel
theorem jk_p : ∀ t, t < 1010 → ¬ (Int32.ofNat t < 0) ∧ (Int32.ofNat t).toNatClampNeg = t ∧ Int32.ofNat (t + 1) + (-1) = Int32.ofNat t := by decide +kernel
theorem jk_pos {t c : Nat} (h : t < c) (hc : c ≤ 1002) : ¬ (Int32.ofNat t < 0 ∨ c ≤ (Int32.ofNat t).toNatClampNeg) := by
  obtain ⟨a, b, _⟩ := jk_p t (by omega)
  rw [b]
  rintro (z | z)
  · exact a z
  · omega
theorem jk_chars {v : Nat} (hv : v < 1000) {t c : Nat} {f : Nat → Int32} (h1 : t + (gDec v).length ≤ c) (h2 : c ≤ 1002) (hf : ∀ i, fits .byte (.int (f i)) = true) : ∃ (r : Int32) (f' : Nat → Int32), fJ6_getChars_ba4f3 c (Int32.ofNat v) (Int32.ofNat (t + (gDec v).length)) f = some (r, f') ∧ (∀ i, i < t → f' i = f i) ∧ (∀ i, i < (gDec v).length → f' (t + i) = Int32.ofNat ((gDec v).getD i 0)) ∧ ∀ i, fits .byte (.int (f' i)) = true := by
  have lt : ∀ {α β : Type} (x : α) (k : α → β), Lt x k = k x := fun _ _ => rfl
  by_cases c1 : v < 10
  · have eg : gDec v = [48 + v] := by
      unfold gDec gDecF
      rw [if_pos c1]
    rw [eg] at h1 ⊢
    have h1' : t + 1 ≤ c := h1
    obtain ⟨q1, q2, q3, q4, q5⟩ := jk_q v (by omega)
    obtain ⟨p1, p2, p3⟩ := jk_p t (by omega)
    obtain ⟨d1, d2⟩ := jk_dO v (by omega)
    refine ⟨Int32.ofNat t, upd f t (Int32.ofNat (48 + v % 10)), ?_, fun i hi => ?_, fun i hi => ?_, jk_upf hf t d2⟩
    · show fJ6_getChars_ba4f3 c (Int32.ofNat v) (Int32.ofNat (t + 1)) f = _
      unfold fJ6_getChars_ba4f3
      simp only [lt]
      rw [if_pos (jk_v0 v hv), if_pos trivial]
      show fJ6_getChars_ba4f3_L22 c 0 _ (999 + 1) (-(Int32.ofNat v)) (Int32.ofNat (t + 1)) f = _
      unfold fJ6_getChars_ba4f3_L22
      rw [if_pos q4]
      simp only [q1, p3]
      rw [if_neg q2, if_neg (jk_pos h1' h2), if_pos (q5.mpr (by omega)), if_pos trivial, p2, q3, d1]
    · unfold upd
      rw [if_neg (by omega)]
    · have hi' : i = 0 := by
        have : i < 1 := hi
        omega
      subst hi'
      unfold upd
      rw [if_pos (Nat.add_zero t)]
      show Int32.ofNat (48 + v % 10) = Int32.ofNat (48 + v)
      rw [Nat.mod_eq_of_lt c1]
  · by_cases c2 : v < 100
    · have eg : gDec v = [48 + v / 10, 48 + v % 10] := by
        unfold gDec gDecF
        rw [if_neg c1]
        unfold gDecF
        rw [if_pos (by omega)]
        rfl
      rw [eg] at h1 ⊢
      have h1' : t + 1 + 1 ≤ c := h1
      obtain ⟨q1, q2, q3, q4, q5⟩ := jk_q v c2
      obtain ⟨p1, p2, p3⟩ := jk_p t (by omega)
      obtain ⟨r1, r2, r3⟩ := jk_p (t + 1) (by omega)
      obtain ⟨d1, d2⟩ := jk_dO v c2
      obtain ⟨e1, e2⟩ := jk_dT v c2
      refine ⟨Int32.ofNat t, upd (upd f (t + 1) (Int32.ofNat (48 + v % 10))) t (Int32.ofNat (48 + v / 10)), ?_, fun i hi => ?_, fun i hi => ?_, jk_upf (jk_upf hf _ d2) _ e2⟩
      · show fJ6_getChars_ba4f3 c (Int32.ofNat v) (Int32.ofNat (t + 1 + 1)) f = _
        unfold fJ6_getChars_ba4f3
        simp only [lt]
        rw [if_pos (jk_v0 v hv), if_pos trivial]
        show fJ6_getChars_ba4f3_L22 c 0 _ (999 + 1) (-(Int32.ofNat v)) (Int32.ofNat (t + 1 + 1)) f = _
        unfold fJ6_getChars_ba4f3_L22
        rw [if_pos q4]
        simp only [q1, r3, p3]
        rw [if_neg q2, if_neg (jk_pos (show t + 1 < c by omega) h2), if_neg (fun z => c1 (by have := q5.mp z; omega)), if_neg q2, if_neg (jk_pos (show t < c by omega) h2), if_pos trivial, p2, r2, q3, d1, e1]
      · unfold upd
        rw [if_neg (by omega), if_neg (by omega)]
      · have hi' : i = 0 ∨ i = 1 := by
          have : i < 2 := hi
          omega
        rcases hi' with rfl | rfl
        · unfold upd
          rw [if_pos (Nat.add_zero t)]
          rfl
        · unfold upd
          rw [if_neg (by omega), if_pos rfl]
          rfl
    · have eg : gDec v = [48 + v / 100, 48 + v / 10 % 10, 48 + v % 10] := by
        unfold gDec gDecF
        rw [if_neg c1]
        unfold gDecF
        rw [if_neg (by omega)]
        unfold gDecF
        rw [if_pos (by omega), Nat.div_div_eq_div_mul]
        rfl
      rw [eg] at h1 ⊢
      have h1' : t + 1 + 1 + 1 ≤ c := h1
      obtain ⟨v1, v2, v3⟩ := jk_v v hv (by omega)
      obtain ⟨u1, u2, u3, u4, u5⟩ := jk_q (v % 100) (Nat.mod_lt _ (by decide))
      obtain ⟨q1, q2, q3, q4, q5⟩ := jk_q (v / 100) (by omega)
      obtain ⟨p1, p2, p3⟩ := jk_p t (by omega)
      obtain ⟨r1, r2, r3⟩ := jk_p (t + 1) (by omega)
      obtain ⟨s1, s2, s3⟩ := jk_p (t + 1 + 1) (by omega)
      obtain ⟨d1, d2⟩ := jk_dO (v % 100) (Nat.mod_lt _ (by decide))
      obtain ⟨e1, e2⟩ := jk_dT (v % 100) (Nat.mod_lt _ (by decide))
      obtain ⟨w1, w2⟩ := jk_dO (v / 100) (by omega)
      refine ⟨Int32.ofNat t, upd (upd (upd f (t + 1 + 1) (Int32.ofNat (48 + v % 100 % 10))) (t + 1) (Int32.ofNat (48 + v % 100 / 10))) t (Int32.ofNat (48 + v / 100 % 10)), ?_, fun i hi => ?_, fun i hi => ?_, jk_upf (jk_upf (jk_upf hf _ d2) _ e2) _ w2⟩
      · show fJ6_getChars_ba4f3 c (Int32.ofNat v) (Int32.ofNat (t + 1 + 1 + 1)) f = _
        unfold fJ6_getChars_ba4f3
        simp only [lt]
        rw [if_pos (jk_v0 v hv), if_pos trivial]
        show fJ6_getChars_ba4f3_L22 c 0 _ (998 + 1 + 1) (-(Int32.ofNat v)) (Int32.ofNat (t + 1 + 1 + 1)) f = _
        rw [fJ6_getChars_ba4f3_L22, if_neg v1]
        simp only [lt, v2, v3, s3, r3]
        rw [if_neg u2, if_neg (jk_pos (show t + 1 + 1 < c by omega) h2), if_neg u2, if_neg (jk_pos (show t + 1 < c by omega) h2), fJ6_getChars_ba4f3_L22, if_pos q4]
        simp only [q1, p3]
        rw [if_neg q2, if_neg (jk_pos (show t < c by omega) h2), if_pos (q5.mpr (by omega)), if_pos trivial, p2, r2, s2, q3, u3, d1, e1, w1]
      · unfold upd
        rw [if_neg (by omega), if_neg (by omega), if_neg (by omega)]
      · have hi' : i = 0 ∨ i = 1 ∨ i = 2 := by
          have : i < 3 := hi
          omega
        rcases hi' with rfl | rfl | rfl
        · unfold upd
          rw [if_pos (Nat.add_zero t)]
          show Int32.ofNat (48 + v / 100 % 10) = Int32.ofNat (48 + v / 100)
          rw [Nat.mod_eq_of_lt (show v / 100 < 10 by omega)]
        · unfold upd
          rw [if_neg (by omega), if_pos rfl]
          show Int32.ofNat (48 + v % 100 / 10) = Int32.ofNat (48 + v / 10 % 10)
          rw [show v % 100 / 10 = v / 10 % 10 by omega]
        · unfold upd
          rw [if_neg (by omega), if_neg (by omega), if_pos rfl]
          show Int32.ofNat (48 + v % 100 % 10) = Int32.ofNat (48 + v % 10)
          rw [show v % 100 % 10 = v % 10 by omega]
abbrev rmJ4_append_bf812 : Room := { frames := 5, cells := 1, slots := 1002, locals := 123 }
set_option maxHeartbeats 4000000 in
set_option maxRecDepth 100000 in
theorem ctSB_appI (l : Launch) (E : gE) (a v1 : Nat → Nat) (c : Nat) (t : List Nat) (f : Nat → Int32) (x : Int32) (hx : ¬ (x < 0 ∨ 1000 ≤ x.toNatClampNeg)) (hok0 : okSB t c f) (hl : (t ++ gDec x.toNatClampNeg).length ≤ 500) : gMet l yJ4_append_bf812 wsJ4_append_bf812 rmJ4_append_bf812 vwCl E [.ref (a 0), .int x] [sSB E a v1 c t f] (fun v w => ∃ (v' : Nat → Nat) (c' : Nat) (f' : Nat → Int32), okSB (t ++ gDec x.toNatClampNeg) c' f' ∧ v = some (.ref (a 0)) ∧ w = [sSB E a v' c' (t ++ gDec x.toNatClampNeg) f']) 1 1002 := by
  have hct := ctJ5_appI l E a v1 t.length c f hok0.2.1 hok0.2.2 hok0.1.2.2.2 x (gDec x.toNatClampNeg).length (fun i => Int32.ofNat ((gDec x.toNatClampNeg).getD i 0)) (by rw [List.length_append] at hl; omega) (by have := jk_size _ (jk_in hx); rw [jk_of hx] at this; exact this) (fun c f h1 h2 h3 => by have := jk_chars (jk_in hx) h1 h2 h3; rw [jk_of hx] at this; exact this)
  refine g_entry [some (.ref (a 0)), some (.int x)] (by decide) rfl (Nat.le_of_ble_eq_true rfl) rfl ?_
  intro p e s m below meth cM A F hnm
  refine g_eqF (Lw' := [sSBo E a v1 (Int32.ofNat t.length), sArrB E v1 c f]) rfl ?_
  refine g_aload_n F dJ4_append_bf812_0 rfl ?_
  refine g_iload_n F dJ4_append_bf812_1 rfl ?_
  refine g_callSU (C := RJ4) (T := TJ4) (N := 4) (Lr := []) (As := [.int x]) (rest := []) F 0 0 1 (hct) (va_cwSU 1 F.2.2.2.2.2.1 gJ4_append_bf812_J5_append_c97b9_s53 rfl rfl rfl (by decide +kernel) ⟨Nat.le_of_ble_eq_true rfl, Nat.le_of_ble_eq_true rfl⟩) rfl rfl rfl [0, 1] [] rfl rfl rfl rfl rfl rfl (Nat.le_of_ble_eq_true rfl) dJ4_append_bf812_2 ⟨Nat.le_of_ble_eq_true rfl, Nat.le_of_ble_eq_true rfl⟩ ?_
  rintro v w ⟨v2, c2, f2, g1, g2, g3, g4, g5, rfl, rfl⟩
  refine g_norm (Lw' := [sSBo E a v2 (Int32.ofNat (t.length + (gDec x.toNatClampNeg).length)), sArrB E v2 c2 f2]) (st' := [.ref (a 0)]) (pc' := 5) [0, 1] rfl rfl rfl rfl ?_
  refine g_pop F dJ4_append_bf812_5 rfl ?_
  refine g_aload_n F dJ4_append_bf812_6 rfl ?_
  have hT : (t ++ gDec x.toNatClampNeg).length = (t.length + (gDec x.toNatClampNeg).length) := List.length_append
  have hok : okSB (t ++ gDec x.toNatClampNeg) c2 f2 := okSB_app hok0.1 g1 g2 g3 g4 g5 hl (gDec_ok _ (jk_in hx)).2
  refine g_eqF (Lw' := [sSB E a v2 c2 (t ++ gDec x.toNatClampNeg) f2]) (by rw [← hT]; rfl) ?_
  exact g_aret F rfl (Or.inl ⟨_, rfl⟩) ⟨v2, c2, f2, hok, rfl, rfl⟩ dJ4_append_bf812_7
theorem iJ5_init_d00df_J4 : ∀ w ∈ u_ws RJ4 TJ4 4, w ∈ wsJ5_init_d00df := by decide +kernel
abbrev rmJ5_init_d00df : Room := { frames := 1, cells := 1, slots := 16, locals := 20 }
set_option maxHeartbeats 4000000 in
set_option maxRecDepth 100000 in
theorem ctJ5_init (l : Launch) (E : gE) (h0 : Nat) : gMet l yJ5_init_d00df wsJ5_init_d00df rmJ5_init_d00df vwCl E [.ref h0, .int 16] [[(h0, .inr (1, [.null, .int 0, .int 0, .int 0]))]] (fun v w => ∃ b : Nat → Nat, v = none ∧ w = [[(h0, .inr (1, [.ref (b 0), .int 0, .int 0, .int 0]))], sArrB E b 16 (fun _ => 0)]) 1 16 := by
  refine g_entry [some (.ref h0), some (.int 16)] (by decide) rfl (Nat.le_of_ble_eq_true rfl) rfl ?_
  intro p e s m below meth cM A F hnm
  refine g_aload_n F dJ5_init_d00df_0 rfl ?_
  refine g_obj F (by decide +kernel) (by decide +kernel) (by decide +kernel) rfl dJ5_init_d00df_1 (Nat.le_of_ble_eq_true rfl) (Nat.le_of_ble_eq_true rfl) ?_
  refine g_gets0 F (by decide +kernel) dJ5_init_d00df_4 ?_
  refine g_ifeq F 25 dJ5_init_d00df_7 (by decide) (fun h9 => absurd h9 (by decide)) (fun _ => ?_)
  refine g_aload_n F dJ5_init_d00df_10 rfl ?_
  refine g_iload_n F dJ5_init_d00df_11 rfl ?_
  refine g_newB (N' := 16) F (by decide +kernel) (by decide) (by decide) (by decide) (Nat.le_of_ble_eq_true rfl) (Nat.le_of_ble_eq_true rfl) dJ5_init_d00df_12 (fun b => ?_)
  refine g_norm (Lw' := [[(h0, .inr (1, [.null, .int 0, .int 0, .int 0]))], sArrB E b 16 (fun _ => 0)]) (st' := [.ref (b 0), .ref h0]) (pc' := 14) [0, 1] rfl rfl rfl rfl ?_
  refine g_put (C := RJ4) (T := TJ4) (N := 4) (tys := tyJ4) (Lw' := [[(h0, .inr (1, [.ref (b 0), .int 0, .int 0, .int 0]))], sArrB E b 16 (fun _ => 0)]) F 0 0 0 rfl rfl rfl iJ5_init_d00df_J4 tyJ4_ok nmJ4 (by decide) (by decide +kernel) rfl rfl rfl rfl (Nat.le_of_ble_eq_true rfl) dJ5_init_d00df_14 rfl ?_
  refine g_aload_n F dJ5_init_d00df_17 rfl ?_
  refine g_iconst F 0 dJ5_init_d00df_18 rfl ?_
  refine g_put (C := RJ4) (T := TJ4) (N := 4) (tys := tyJ4) (Lw' := [[(h0, .inr (1, [.ref (b 0), .int 0, .int 0, .int 0]))], sArrB E b 16 (fun _ => 0)]) F 0 0 1 rfl rfl rfl iJ5_init_d00df_J4 tyJ4_ok nmJ4 (by decide) (by decide +kernel) rfl rfl rfl rfl (Nat.le_of_ble_eq_true rfl) dJ5_init_d00df_19 rfl ?_
  refine g_goto F 38 dJ5_init_d00df_22 (by decide) ?_
  exact g_vret F rfl ⟨b, rfl, rfl⟩ dJ5_init_d00df_38
abbrev rmJ4_init_da8c8 : Room := { frames := 2, cells := 1, slots := 16, locals := 41 }
set_option maxHeartbeats 4000000 in
set_option maxRecDepth 100000 in
theorem ctSB_init (l : Launch) (E : gE) (h0 : Nat) : gMet l yJ4_init_da8c8 wsJ4_init_da8c8 rmJ4_init_da8c8 vwCl E [.ref h0] [[(h0, .inr (1, [.null, .int 0, .int 0, .int 0]))]] (fun v w => v = none ∧ ∃ (a b : Nat → Nat) (g : Nat → Int32), a 0 = h0 ∧ okSB [] 16 g ∧ w = [sSB E a b 16 [] g]) 1 16 := by
  refine g_entry [some (.ref h0)] (by decide) rfl (Nat.le_of_ble_eq_true rfl) rfl ?_
  intro p e s m below meth cM A F hnm
  refine g_aload_n F dJ4_init_da8c8_0 rfl ?_
  refine g_bipush F 16 dJ4_init_da8c8_1 rfl ?_
  refine g_callI (Lr := []) (As := [.int 16]) (rest := []) F 1 (ctJ5_init l E h0) (cwI 1 F.2.2.2.2.2.1 gJ4_init_da8c8_J5_init_d00df rfl rfl rfl (F.2.2.2.2.2.1 _ (by decide +kernel)) (F.2.2.2.2.2.1 _ (by decide +kernel)) (F.2.2.2.2.2.1 _ (by decide +kernel)) rfl (by decide +kernel) ⟨Nat.le_of_ble_eq_true rfl, Nat.le_of_ble_eq_true rfl⟩) [0] [] rfl rfl rfl rfl rfl rfl (Nat.le_of_ble_eq_true rfl) dJ4_init_da8c8_3 ⟨Nat.le_of_ble_eq_true rfl, Nat.le_of_ble_eq_true rfl⟩ ?_
  rintro v w ⟨b, rfl, rfl⟩
  refine g_norm (Lw' := [[(h0, .inr (1, [.ref (b 0), .int 0, .int 0, .int 0]))], sArrB E b 16 (fun _ => 0)]) (st' := []) (pc' := 6) [0, 1] rfl rfl rfl rfl ?_
  refine g_eqF (Lw' := [sSB E (fun _ => h0) b 16 [] (fun _ => 0)]) rfl ?_
  exact g_vret F rfl ⟨rfl, fun _ => h0, b, fun _ => 0, rfl, ⟨⟨Nat.zero_le _, fun _ h9 => absurd h9 List.not_mem_nil, fun _ h9 => absurd h9 (Nat.not_lt_zero _), sb_fit0⟩, Nat.zero_le _, by decide⟩, rfl⟩ dJ4_init_da8c8_6
abbrev rmJ4_length_8abf5 : Room := { frames := 1, cells := 0, slots := 0, locals := 20 }
set_option maxHeartbeats 4000000 in
set_option maxRecDepth 100000 in
theorem ctJ4_length (l : Launch) (E : gE) (a v1 : Nat → Nat) (n : Int32) : gMet l yJ4_length_8abf5 wsJ4_length_8abf5 rmJ4_length_8abf5 vwCl E [.ref (a 0)] [sSBo E a v1 n] (fun v w => v = some (.int n) ∧ w = [sSBo E a v1 n]) 0 0 := by
  refine g_entry [some (.ref (a 0))] (by decide) rfl (Nat.le_of_ble_eq_true rfl) rfl ?_
  intro p e s m below meth cM A F hnm
  refine g_aload_n F dJ4_length_8abf5_0 rfl ?_
  refine g_callSU (C := RJ4) (T := TJ4) (N := 4) (Lr := []) (As := []) (rest := []) F 0 0 0 (ctJ5_length_8abf5 l E a v1 n n rfl) (va_cwSU 0 F.2.2.2.2.2.1 gJ4_length_8abf5_J5_length_8abf5_s343 rfl rfl rfl (by decide +kernel) ⟨Nat.le_of_ble_eq_true rfl, Nat.le_of_ble_eq_true rfl⟩) rfl rfl rfl [0] [] rfl rfl rfl rfl rfl rfl (Nat.le_of_ble_eq_true rfl) dJ4_length_8abf5_1 ⟨Nat.le_of_ble_eq_true rfl, Nat.le_of_ble_eq_true rfl⟩ ?_
  rintro v w ⟨rfl, rfl⟩
  refine g_norm (Lw' := [sSBo E a v1 n]) (st' := [.int n]) (pc' := 4) [0] rfl rfl rfl rfl ?_
  exact g_iret F rfl ⟨rfl, rfl⟩ dJ4_length_8abf5_4
set_option maxHeartbeats 4000000 in
set_option maxRecDepth 100000 in
theorem ctSB_len (l : Launch) (E : gE) (a v1 : Nat → Nat) (c : Nat) (t : List Nat) (f : Nat → Int32) : gMet l yJ4_length_8abf5 wsJ4_length_8abf5 rmJ4_length_8abf5 vwCl E [.ref (a 0)] [sSB E a v1 c t f] (fun v w => v = some (.int (Int32.ofNat t.length)) ∧ w = [sSB E a v1 c t f]) 0 0 := by
  refine g_entry [some (.ref (a 0))] (by decide) rfl (Nat.le_of_ble_eq_true rfl) rfl ?_
  intro p e s m below meth cM A F hnm
  refine g_eqF (Lw' := [sSBo E a v1 (Int32.ofNat t.length), sArrB E v1 c f]) rfl ?_
  refine g_aload_n F dJ4_length_8abf5_0 rfl ?_
  refine g_callSU (C := RJ4) (T := TJ4) (N := 4) (Lr := [sArrB E v1 c f]) (As := []) (rest := []) F 0 0 0 (ctJ5_length_8abf5 l E a v1 (Int32.ofNat t.length) (Int32.ofNat t.length) rfl) (va_cwSU 0 F.2.2.2.2.2.1 gJ4_length_8abf5_J5_length_8abf5_s343 rfl rfl rfl (by decide +kernel) ⟨Nat.le_of_ble_eq_true rfl, Nat.le_of_ble_eq_true rfl⟩) rfl rfl rfl [0] [1] rfl rfl rfl rfl rfl rfl (Nat.le_of_ble_eq_true rfl) dJ4_length_8abf5_1 ⟨Nat.le_of_ble_eq_true rfl, Nat.le_of_ble_eq_true rfl⟩ ?_
  rintro v w ⟨rfl, rfl⟩
  refine g_norm (Lw' := [sSBo E a v1 (Int32.ofNat t.length), sArrB E v1 c f]) (st' := [.int (Int32.ofNat t.length)]) (pc' := 4) [0, 1] rfl rfl rfl rfl ?_
  refine g_eqF (Lw' := [sSB E a v1 c t f]) rfl ?_
  exact g_iret F rfl ⟨rfl, rfl⟩ dJ4_length_8abf5_4
theorem jk_chk {q : Nat} (h : q < 2147483648) : fJ7_checkLength_df160 0 (Int32.ofNat q) = some () := by
  unfold fJ7_checkLength_df160
  rw [if_pos (show (0 : Int32) ≤ Int32.ofNat q from nI_pos' h)]
theorem jk_min {q c : Nat} (h : q ≤ c) (hc : c ≤ 1002 := by omega) : (if Int32.ofNat q < Int32.ofNat c then Int32.ofNat q else Int32.ofNat c) = Int32.ofNat q := by
  by_cases e : q < c
  · rw [if_pos (show Int32.ofNat q < Int32.ofNat c from nI_lt e (by omega))]
  · rw [if_neg (show ¬ Int32.ofNat q < Int32.ofNat c from nI_nlt (by omega) (by omega)), show q = c by omega]
abbrev rmJ7_copyOfRangeByte_39247 : Room := { frames := 1, cells := 1, slots := 500, locals := 40 }
set_option maxHeartbeats 4000000 in
set_option maxRecDepth 100000 in
theorem ctJ7_copyOfRangeByte (l : Launch) (E : gE) (a : Nat → Nat) (c : Nat) (f : Nat → Int32) (q : Nat) (hq : q ≤ c) (hc : c ≤ 1002) (hq2 : q ≤ 500) (hf : ∀ i, fits .byte (.int (f i)) = true) : gMet l yJ7_copyOfRangeByte_39247 wsJ7_copyOfRangeByte_39247 rmJ7_copyOfRangeByte_39247 vwCl E [.ref (a 0), .int 0, .int (Int32.ofNat q)] [sArrB E a c f] (fun v w => ∃ b : Nat → Nat, v = some (.ref (b 0)) ∧ w = [sArrB E a c f, sArrB E b q (va_cpy f (fun _ => 0) 0 0 q)]) 1 500 := by
  refine g_entry [some (.ref (a 0)), some (.int 0), some (.int (Int32.ofNat q)), none, none] (by decide) rfl (Nat.le_of_ble_eq_true rfl) rfl ?_
  intro p e s m below meth cM A F hnm
  refine g_iload_n F dJ7_copyOfRangeByte_39247_0 rfl ?_
  refine g_iload_n F dJ7_copyOfRangeByte_39247_1 rfl ?_
  refine g_callS (Lr := [sArrB E a c f]) (As := [.int 0, .int (Int32.ofNat q)]) (rest := []) F 2 (ctJ7_checkLength_df160 l E 0 (Int32.ofNat q) (jk_chk (by omega))) (va_cwS 2 F.2.2.2.2.2.1 gJ7_copyOfRangeByte_39247_J7_checkLength_df160 rfl rfl rfl (by decide +kernel) ⟨Nat.le_of_ble_eq_true rfl, Nat.le_of_ble_eq_true rfl⟩) [] [0] rfl rfl rfl rfl rfl rfl (Nat.le_of_ble_eq_true rfl) dJ7_copyOfRangeByte_39247_2 ⟨Nat.le_of_ble_eq_true rfl, Nat.le_of_ble_eq_true rfl⟩ ?_
  rintro v w ⟨rfl, rfl⟩
  refine g_norm (Lw' := [sArrB E a c f]) (st' := []) (pc' := 5) [0] rfl rfl rfl rfl ?_
  refine g_iload_n F dJ7_copyOfRangeByte_39247_5 rfl ?_
  refine g_iload_n F dJ7_copyOfRangeByte_39247_6 rfl ?_
  refine g_isub F dJ7_copyOfRangeByte_39247_7 ?_
  rw [show Int32.ofNat q - 0 = Int32.ofNat q from Int32.sub_zero _]
  refine g_istore_n (lv' := [some (.ref (a 0)), some (.int 0), some (.int (Int32.ofNat q)), some (.int (Int32.ofNat q)), none]) F dJ7_copyOfRangeByte_39247_8 (Nat.le_of_ble_eq_true rfl) rfl rfl ?_
  refine g_iload_n F dJ7_copyOfRangeByte_39247_9 rfl ?_
  refine g_newB (N' := q) F (by decide +kernel) (jk_lt (by omega)) (nI_clamp (by omega)) (by show q * 1 ≤ 536870912; omega) (Nat.le_of_ble_eq_true rfl) (by show 0 + q ≤ 500; omega) dJ7_copyOfRangeByte_39247_10 (fun b => ?_)
  refine g_norm (Lw' := [sArrB E a c f, sArrB E b q (fun _ => 0)]) (st' := [.ref (b 0)]) (pc' := 12) [0, 1] rfl rfl rfl rfl ?_
  refine g_astore (lv' := [some (.ref (a 0)), some (.int 0), some (.int (Int32.ofNat q)), some (.int (Int32.ofNat q)), some (.ref (b 0))]) F dJ7_copyOfRangeByte_39247_12 (Nat.le_of_ble_eq_true rfl) rfl rfl ?_
  refine g_aload_n F dJ7_copyOfRangeByte_39247_14 rfl ?_
  refine g_iload_n F dJ7_copyOfRangeByte_39247_15 rfl ?_
  refine g_aload F dJ7_copyOfRangeByte_39247_16 rfl ?_
  refine g_iconst F 0 dJ7_copyOfRangeByte_39247_18 rfl ?_
  refine g_aload_n F dJ7_copyOfRangeByte_39247_19 rfl ?_
  refine g_alen F 0 0 0 rfl rfl rfl rfl dJ7_copyOfRangeByte_39247_20 ?_
  refine g_iload_n F dJ7_copyOfRangeByte_39247_21 rfl ?_
  refine g_isub F dJ7_copyOfRangeByte_39247_22 ?_
  rw [show Int32.ofNat c - 0 = Int32.ofNat c from Int32.sub_zero _]
  refine g_iload_n F dJ7_copyOfRangeByte_39247_23 rfl ?_
  refine g_mmin F (by decide +kernel) (by decide +kernel) (by decide +kernel) (by decide +kernel) rfl (Nat.le_of_ble_eq_true rfl) (Nat.le_of_ble_eq_true rfl) (Nat.le_of_ble_eq_true rfl) (by show 0 + q ≤ 500; omega) dJ7_copyOfRangeByte_39247_24 ?_
  rw [jk_min hq]
  refine g_copyb (Lw' := [sArrB E a c f, sArrB E b q (va_cpy f (fun _ => 0) 0 0 q)]) F 0 0 1 0 rfl rfl rfl rfl (by decide +kernel) (by decide +kernel) (by decide +kernel) (by decide +kernel) (jk_b hq (Nat.le_refl q) (by omega)) (fun i _ => hf _) rfl (Nat.le_of_ble_eq_true rfl) (Nat.le_of_ble_eq_true rfl) dJ7_copyOfRangeByte_39247_27 (by rw [show (Int32.ofNat q).toNatClampNeg = q from nI_clamp (by omega)]; rfl) ?_
  refine g_aload F dJ7_copyOfRangeByte_39247_30 rfl ?_
  refine g_widen (k := 1) (n := 500) (Nat.le_of_ble_eq_true rfl) (by show 0 + q ≤ 500; omega) ?_
  exact g_aret F rfl (Or.inr ⟨_, rfl⟩) ⟨b, rfl, rfl⟩ dJ7_copyOfRangeByte_39247_32
abbrev rmJ7_copyOfRange_39247 : Room := { frames := 2, cells := 1, slots := 500, locals := 64 }
set_option maxHeartbeats 4000000 in
set_option maxRecDepth 100000 in
theorem ctJ7_copyOfRange (l : Launch) (E : gE) (a : Nat → Nat) (c : Nat) (f : Nat → Int32) (q : Nat) (hq : q ≤ c) (hc : c ≤ 1002) (hq2 : q ≤ 500) (hf : ∀ i, fits .byte (.int (f i)) = true) : gMet l yJ7_copyOfRange_39247 wsJ7_copyOfRange_39247 rmJ7_copyOfRange_39247 vwCl E [.ref (a 0), .int 0, .int (Int32.ofNat q)] [sArrB E a c f] (fun v w => ∃ (b : Nat → Nat) (f' : Nat → Int32), (∀ i, i < q → f' i = f i) ∧ (∀ i, fits .byte (.int (f' i)) = true) ∧ v = some (.ref (b 0)) ∧ w = [sArrB E a c f, sArrB E b q f']) 1 500 := by
  refine g_entry [some (.ref (a 0)), some (.int 0), some (.int (Int32.ofNat q))] (by decide) rfl (Nat.le_of_ble_eq_true rfl) rfl ?_
  intro p e s m below meth cM A F hnm
  refine g_iload_n F dJ7_copyOfRange_39247_0 rfl ?_
  refine g_ifne F 10 dJ7_copyOfRange_39247_1 (by decide) (fun h9 => absurd rfl h9) (fun _ => ?_)
  refine g_iload_n F dJ7_copyOfRange_39247_4 rfl ?_
  refine g_aload_n F dJ7_copyOfRange_39247_5 rfl ?_
  refine g_alen F 0 0 0 rfl rfl rfl rfl dJ7_copyOfRange_39247_6 ?_
  by_cases hqc : q = c
  · refine g_icmp_eq F 17 dJ7_copyOfRange_39247_7 (by decide) (fun _ => ?_) (fun h9 => absurd (congrArg Int32.ofNat hqc) h9)
    refine g_aload_n F dJ7_copyOfRange_39247_17 rfl ?_
    refine g_cloneB F 0 rfl (by decide +kernel) (by decide +kernel) (by decide +kernel) (by decide +kernel) (by decide +kernel) hf rfl (Nat.le_of_ble_eq_true rfl) (Nat.le_of_ble_eq_true rfl) (Nat.le_of_ble_eq_true rfl) (by show 0 + c ≤ 500; omega) dJ7_copyOfRange_39247_18 (fun b => ?_)
    refine g_norm (Lw' := [sArrB E a c f, sArrB E b c f]) (st' := [.ref (b 0)]) (pc' := 21) [0, 1] rfl rfl rfl rfl ?_
    refine g_castB F 1 rfl (by decide +kernel) dJ7_copyOfRange_39247_21 ?_
    refine g_widen (k := 1) (n := 500) (Nat.le_of_ble_eq_true rfl) (by show 0 + c ≤ 500; omega) ?_
    subst hqc
    exact g_aret F rfl (Or.inr ⟨_, rfl⟩) ⟨b, f, fun _ _ => rfl, hf, rfl, rfl⟩ dJ7_copyOfRange_39247_24
  · refine g_icmp_eq F 17 dJ7_copyOfRange_39247_7 (by decide) (fun h9 => absurd ((nI_eq (by omega) (by omega)).mp h9) hqc) (fun _ => ?_)
    refine g_aload_n F dJ7_copyOfRange_39247_10 rfl ?_
    refine g_iload_n F dJ7_copyOfRange_39247_11 rfl ?_
    refine g_iload_n F dJ7_copyOfRange_39247_12 rfl ?_
    refine g_callS (Lr := []) (As := [.ref (a 0), .int 0, .int (Int32.ofNat q)]) (rest := []) F 3 (ctJ7_copyOfRangeByte l E a c f q hq hc hq2 hf) (va_cwS 3 F.2.2.2.2.2.1 gJ7_copyOfRange_39247_J7_copyOfRangeByte_39247 rfl rfl rfl (by decide +kernel) ⟨Nat.le_of_ble_eq_true rfl, Nat.le_of_ble_eq_true rfl⟩) [0] [] rfl rfl rfl rfl rfl rfl (Nat.le_of_ble_eq_true rfl) dJ7_copyOfRange_39247_13 ⟨Nat.le_of_ble_eq_true rfl, Nat.le_of_ble_eq_true rfl⟩ ?_
    rintro v w ⟨b, rfl, rfl⟩
    refine g_norm (Lw' := [sArrB E a c f, sArrB E b q (va_cpy f (fun _ => 0) 0 0 q)]) (st' := [.ref (b 0)]) (pc' := 16) [0, 1] rfl rfl rfl rfl ?_
    exact g_aret F rfl (Or.inr ⟨_, rfl⟩) ⟨b, _, fun i hi => sb_cpy0 hi, sb_fitC hf sb_fit0, rfl, rfl⟩ dJ7_copyOfRange_39247_16
theorem iJ5_getValue_6d5f1_J4 : ∀ w ∈ u_ws RJ4 TJ4 4, w ∈ wsJ5_getValue_6d5f1 := by decide +kernel
abbrev rmJ5_getValue_6d5f1 : Room := { frames := 0, cells := 0, slots := 0, locals := 0 }
set_option maxHeartbeats 4000000 in
set_option maxRecDepth 100000 in
theorem ctJ5_getValue (l : Launch) (E : gE) (a v1 : Nat → Nat) (n : Int32) : gMet l yJ5_getValue_6d5f1 wsJ5_getValue_6d5f1 rmJ5_getValue_6d5f1 vwCl E [.ref (a 0)] [sSBo E a v1 n] (fun v w => v = some (.ref (v1 0)) ∧ w = [sSBo E a v1 n]) 0 0 := by
  refine g_entry [some (.ref (a 0))] (by decide) rfl (Nat.le_of_ble_eq_true rfl) rfl ?_
  intro p e s m below meth cM A F hnm
  refine g_aload_n F dJ5_getValue_6d5f1_0 rfl ?_
  refine g_get (C := RJ4) (T := TJ4) (N := 4) F 0 0 0 rfl rfl rfl iJ5_getValue_6d5f1_J4 (by decide) (by decide +kernel) rfl dJ5_getValue_6d5f1_1 ?_
  exact g_aret F rfl (Or.inr ⟨_, rfl⟩) ⟨rfl, rfl⟩ dJ5_getValue_6d5f1_4
theorem iJ0_init_db425_J0 : ∀ w ∈ u_ws RJ0 TJ0 4, w ∈ wsJ0_init_db425 := by decide +kernel
abbrev rmJ0_init_db425 : Room := { frames := 3, cells := 1, slots := 500, locals := 86 }
set_option maxHeartbeats 4000000 in
set_option maxRecDepth 100000 in
theorem ctJ0_init2 (l : Launch) (E : gE) (h0 : Nat) (a v1 : Nat → Nat) (c : Nat) (t : List Nat) (f : Nat → Int32) (hok : okSB t c f) : gMet l yJ0_init_db425 wsJ0_init_db425 rmJ0_init_db425 vwCl E [.ref h0, .ref (a 0), .null] [[(h0, .inr (0, [.null, .int 0, .int 0, .int 0]))], sSBo E a v1 (Int32.ofNat t.length), sArrB E v1 c f] (fun v w => ∃ (b : Nat → Nat) (g : Nat → Int32), okS t g ∧ v = none ∧ w = [[(h0, .inr (0, [.ref (b 0), .int 0, .int 0, .int 0]))], sSBo E a v1 (Int32.ofNat t.length), sArrB E v1 c f, sArrB E b t.length g]) 1 500 := by
  refine g_entry [some (.ref h0), some (.ref (a 0)), some (.null), none, none] (by decide) rfl (Nat.le_of_ble_eq_true rfl) rfl ?_
  intro p e s m below meth cM A F hnm
  refine g_aload_n F dJ0_init_db425_0 rfl ?_
  refine g_obj F (by decide +kernel) (by decide +kernel) (by decide +kernel) rfl dJ0_init_db425_1 (Nat.le_of_ble_eq_true rfl) (Nat.le_of_ble_eq_true rfl) ?_
  refine g_aload_n F dJ0_init_db425_4 rfl ?_
  refine g_callU (C := RJ4) (T := TJ4) (N := 4) (Lr := [[(h0, .inr (0, [.null, .int 0, .int 0, .int 0]))], sArrB E v1 c f]) (As := []) (rest := []) F 1 0 0 (ctJ5_getValue l E a v1 (Int32.ofNat t.length)) (va_cwU 0 F.2.2.2.2.2.1 gJ0_init_db425_J5_getValue_6d5f1_u552J4 rfl rfl rfl rfl (by decide +kernel) ⟨Nat.le_of_ble_eq_true rfl, Nat.le_of_ble_eq_true rfl⟩) rfl rfl rfl [1] [0, 2] rfl rfl rfl rfl rfl rfl (Nat.le_of_ble_eq_true rfl) dJ0_init_db425_5 ⟨Nat.le_of_ble_eq_true rfl, Nat.le_of_ble_eq_true rfl⟩ ?_
  rintro v w ⟨rfl, rfl⟩
  refine g_norm (Lw' := [[(h0, .inr (0, [.null, .int 0, .int 0, .int 0]))], sSBo E a v1 (Int32.ofNat t.length), sArrB E v1 c f]) (st' := [.ref (v1 0)]) (pc' := 8) [1, 0, 2] rfl rfl rfl rfl ?_
  refine g_astore_n (lv' := [some (.ref h0), some (.ref (a 0)), some (.null), some (.ref (v1 0)), none]) F dJ0_init_db425_8 (Nat.le_of_ble_eq_true rfl) rfl rfl ?_
  refine g_aload_n F dJ0_init_db425_9 rfl ?_
  refine g_callU (C := RJ4) (T := TJ4) (N := 4) (Lr := [[(h0, .inr (0, [.null, .int 0, .int 0, .int 0]))], sArrB E v1 c f]) (As := []) (rest := []) F 1 0 0 (ctJ4_length l E a v1 (Int32.ofNat t.length)) (va_cwO 0 F.2.2.2.2.2.1 gJ0_init_db425_J4_length_8abf5_u549J4 rfl rfl rfl (b0 := cJ5_length_8abf5) (m0 := 1) (r0 := some .int) (by decide +kernel) (by decide +kernel) ⟨Nat.le_of_ble_eq_true rfl, Nat.le_of_ble_eq_true rfl⟩) rfl rfl rfl [1] [0, 2] rfl rfl rfl rfl rfl rfl (Nat.le_of_ble_eq_true rfl) dJ0_init_db425_10 ⟨Nat.le_of_ble_eq_true rfl, Nat.le_of_ble_eq_true rfl⟩ ?_
  rintro v w ⟨rfl, rfl⟩
  refine g_norm (Lw' := [[(h0, .inr (0, [.null, .int 0, .int 0, .int 0]))], sSBo E a v1 (Int32.ofNat t.length), sArrB E v1 c f]) (st' := [.int (Int32.ofNat t.length)]) (pc' := 13) [1, 0, 2] rfl rfl rfl rfl ?_
  refine g_istore (lv' := [some (.ref h0), some (.ref (a 0)), some (.null), some (.ref (v1 0)), some (.int (Int32.ofNat t.length))]) F dJ0_init_db425_13 (Nat.le_of_ble_eq_true rfl) rfl rfl ?_
  refine g_aload_n F dJ0_init_db425_15 rfl ?_
  refine g_callU (C := RJ4) (T := TJ4) (N := 4) (Lr := [[(h0, .inr (0, [.null, .int 0, .int 0, .int 0]))], sArrB E v1 c f]) (As := []) (rest := []) F 1 0 0 (ctJ5_isLatin1_aae02 l E a v1 (Int32.ofNat t.length) 1 rfl) (va_cwU 0 F.2.2.2.2.2.1 gJ0_init_db425_J5_isLatin1_aae02_u1047J4 rfl rfl rfl rfl (by decide +kernel) ⟨Nat.le_of_ble_eq_true rfl, Nat.le_of_ble_eq_true rfl⟩) rfl rfl rfl [1] [0, 2] rfl rfl rfl rfl rfl rfl (Nat.le_of_ble_eq_true rfl) dJ0_init_db425_16 ⟨Nat.le_of_ble_eq_true rfl, Nat.le_of_ble_eq_true rfl⟩ ?_
  rintro v w ⟨rfl, rfl, -⟩
  refine g_norm (Lw' := [[(h0, .inr (0, [.null, .int 0, .int 0, .int 0]))], sSBo E a v1 (Int32.ofNat t.length), sArrB E v1 c f]) (st' := [.int 1]) (pc' := 19) [1, 0, 2] rfl rfl rfl rfl ?_
  refine g_ifeq F 41 dJ0_init_db425_19 (by decide) (fun h9 => absurd h9 (by decide)) (fun _ => ?_)
  refine g_aload_n F dJ0_init_db425_22 rfl ?_
  refine g_iconst F 0 dJ0_init_db425_23 rfl ?_
  refine g_putF (T := TJ0) (N := 4) (tys := tyJ0) (Lw' := [[(h0, .inr (0, [.null, .int 0, .int 0, .int 0]))], sSBo E a v1 (Int32.ofNat t.length), sArrB E v1 c f]) F hnm 0 0 1 rfl rfl rfl iJ0_init_db425_J0 tyJ0_ok nmJ0 (by decide) (by decide +kernel) rfl rfl rfl rfl rfl (Nat.le_of_ble_eq_true rfl) dJ0_init_db425_24 rfl ?_
  refine g_aload_n F dJ0_init_db425_27 rfl ?_
  refine g_aload_n F dJ0_init_db425_28 rfl ?_
  refine g_iconst F 0 dJ0_init_db425_29 rfl ?_
  refine g_iload F dJ0_init_db425_30 rfl ?_
  refine g_callS (Lr := [[(h0, .inr (0, [.null, .int 0, .int 0, .int 0]))], sSBo E a v1 (Int32.ofNat t.length)]) (As := [.ref (v1 0), .int 0, .int (Int32.ofNat t.length)]) (rest := [.ref h0]) F 3 (ctJ7_copyOfRange l E v1 c f t.length hok.2.1 hok.2.2 hok.1.1 hok.1.2.2.2) (va_cwS 3 F.2.2.2.2.2.1 gJ0_init_db425_J7_copyOfRange_39247 rfl rfl rfl (by decide +kernel) ⟨Nat.le_of_ble_eq_true rfl, Nat.le_of_ble_eq_true rfl⟩) [2] [0, 1] rfl rfl rfl rfl rfl rfl (Nat.le_of_ble_eq_true rfl) dJ0_init_db425_32 ⟨Nat.le_of_ble_eq_true rfl, Nat.le_of_ble_eq_true rfl⟩ ?_
  rintro v w ⟨b, f2, g1, g2, rfl, rfl⟩
  refine g_norm (Lw' := [[(h0, .inr (0, [.null, .int 0, .int 0, .int 0]))], sSBo E a v1 (Int32.ofNat t.length), sArrB E v1 c f, sArrB E b t.length f2]) (st' := [.ref (b 0), .ref h0]) (pc' := 35) [2, 3, 0, 1] rfl rfl rfl rfl ?_
  refine g_putF (T := TJ0) (N := 4) (tys := tyJ0) (Lw' := [[(h0, .inr (0, [.ref (b 0), .int 0, .int 0, .int 0]))], sSBo E a v1 (Int32.ofNat t.length), sArrB E v1 c f, sArrB E b t.length f2]) F hnm 0 0 0 rfl rfl rfl iJ0_init_db425_J0 tyJ0_ok nmJ0 (by decide) (by decide +kernel) rfl rfl rfl rfl rfl (Nat.le_of_ble_eq_true rfl) dJ0_init_db425_35 rfl ?_
  refine g_goto F 97 dJ0_init_db425_38 (by decide) ?_
  exact g_vret F rfl ⟨b, f2, ⟨hok.1.1, hok.1.2.1, fun i hi => (g1 i hi).trans (hok.1.2.2.1 i hi), g2⟩, rfl, rfl⟩ dJ0_init_db425_97
abbrev rmJ0_init_81219 : Room := { frames := 4, cells := 1, slots := 500, locals := 110 }
set_option maxHeartbeats 4000000 in
set_option maxRecDepth 100000 in
theorem ctJ0_init (l : Launch) (E : gE) (h0 : Nat) (a v1 : Nat → Nat) (c : Nat) (t : List Nat) (f : Nat → Int32) (hok : okSB t c f) : gMet l yJ0_init_81219 wsJ0_init_81219 rmJ0_init_81219 vwCl E [.ref h0, .ref (a 0)] [[(h0, .inr (0, [.null, .int 0, .int 0, .int 0]))], sSBo E a v1 (Int32.ofNat t.length), sArrB E v1 c f] (fun v w => ∃ (b : Nat → Nat) (g : Nat → Int32), okS t g ∧ v = none ∧ w = [[(h0, .inr (0, [.ref (b 0), .int 0, .int 0, .int 0]))], sSBo E a v1 (Int32.ofNat t.length), sArrB E v1 c f, sArrB E b t.length g]) 1 500 := by
  refine g_entry [some (.ref h0), some (.ref (a 0))] (by decide) rfl (Nat.le_of_ble_eq_true rfl) rfl ?_
  intro p e s m below meth cM A F hnm
  refine g_aload_n F dJ0_init_81219_0 rfl ?_
  refine g_aload_n F dJ0_init_81219_1 rfl ?_
  refine g_aconst F dJ0_init_81219_2 ?_
  refine g_callI (Lr := []) (As := [.ref (a 0), .null]) (rest := []) F 2 (ctJ0_init2 l E h0 a v1 c t f hok) (cwI 2 F.2.2.2.2.2.1 gJ0_init_81219_J0_init_db425 rfl rfl rfl (F.2.2.2.2.2.1 _ (by decide +kernel)) (F.2.2.2.2.2.1 _ (by decide +kernel)) (F.2.2.2.2.2.1 _ (by decide +kernel)) rfl (by decide +kernel) ⟨Nat.le_of_ble_eq_true rfl, Nat.le_of_ble_eq_true rfl⟩) [0, 1, 2] [] rfl rfl rfl rfl rfl rfl (Nat.le_of_ble_eq_true rfl) dJ0_init_81219_3 ⟨Nat.le_of_ble_eq_true rfl, Nat.le_of_ble_eq_true rfl⟩ ?_
  rintro v w ⟨b, g, g1, rfl, rfl⟩
  refine g_norm (Lw' := [[(h0, .inr (0, [.ref (b 0), .int 0, .int 0, .int 0]))], sSBo E a v1 (Int32.ofNat t.length), sArrB E v1 c f, sArrB E b t.length g]) (st' := []) (pc' := 6) [0, 1, 2, 3] rfl rfl rfl rfl ?_
  exact g_vret F rfl ⟨b, g, g1, rfl, rfl⟩ dJ0_init_81219_6
theorem iJ4_toString_0e30d_J0 : ∀ w ∈ u_ws RJ0 TJ0 4, w ∈ wsJ4_toString_0e30d := by decide +kernel
abbrev rmJ4_toString_0e30d : Room := { frames := 5, cells := 2, slots := 504, locals := 131 }
set_option maxHeartbeats 4000000 in
set_option maxRecDepth 100000 in
theorem ctSB_str (l : Launch) (E : gE) (a v1 : Nat → Nat) (c : Nat) (t : List Nat) (f : Nat → Int32) (hok : okSB t c f) : gMet l yJ4_toString_0e30d wsJ4_toString_0e30d rmJ4_toString_0e30d vwCl E [.ref (a 0)] [sSB E a v1 c t f] (fun v w => ∃ (b : Nat → Nat) (g : Nat → Int32), okS t g ∧ v = some (.ref (b 0)) ∧ w = [sSB E a v1 c t f, sStr E b t g]) 2 504 := by
  refine g_entry [some (.ref (a 0))] (by decide) rfl (Nat.le_of_ble_eq_true rfl) rfl ?_
  intro p e s m below meth cM A F hnm
  refine g_eqF (Lw' := [sSBo E a v1 (Int32.ofNat t.length), sArrB E v1 c f]) rfl ?_
  refine g_new (ci := 0) (C := RJ0) (T := TJ0) (N := 4) (tys := tyJ0) F [.null, .int 0, .int 0, .int 0] iJ4_toString_0e30d_J0 tyJ0_ok (by decide +kernel) (by decide +kernel) (by decide +kernel) rfl (fun j hj => by rcases (show j = 0 ∨ j = 1 ∨ j = 2 ∨ j = 3 by omega) with rfl | rfl | rfl | rfl <;> rfl) (Nat.le_of_ble_eq_true rfl) (Nat.le_of_ble_eq_true rfl) dJ4_toString_0e30d_0 (fun h0 => ?_)
  refine g_norm (Lw' := [[(h0, .inr (0, [.null, .int 0, .int 0, .int 0]))], sSBo E a v1 (Int32.ofNat t.length), sArrB E v1 c f]) (st' := [.ref h0]) (pc' := 3) [2, 0, 1] rfl rfl rfl rfl ?_
  refine g_dup F dJ4_toString_0e30d_3 rfl ?_
  refine g_aload_n F dJ4_toString_0e30d_4 rfl ?_
  refine g_callI (Lr := []) (As := [.ref (a 0)]) (rest := [.ref h0]) F 1 (ctJ0_init l E h0 a v1 c t f hok) (cwI 1 F.2.2.2.2.2.1 gJ4_toString_0e30d_J0_init_81219 rfl rfl rfl (F.2.2.2.2.2.1 _ (by decide +kernel)) (F.2.2.2.2.2.1 _ (by decide +kernel)) (F.2.2.2.2.2.1 _ (by decide +kernel)) rfl (by decide +kernel) ⟨Nat.le_of_ble_eq_true rfl, Nat.le_of_ble_eq_true rfl⟩) [0, 1, 2] [] rfl rfl rfl rfl rfl rfl (Nat.le_of_ble_eq_true rfl) dJ4_toString_0e30d_5 ⟨Nat.le_of_ble_eq_true rfl, Nat.le_of_ble_eq_true rfl⟩ ?_
  rintro v w ⟨b, g, g1, rfl, rfl⟩
  refine g_norm (Lw' := [[(h0, .inr (0, [.ref (b 0), .int 0, .int 0, .int 0]))], sSBo E a v1 (Int32.ofNat t.length), sArrB E v1 c f, sArrB E b t.length g]) (st' := [.ref h0]) (pc' := 8) [0, 1, 2, 3] rfl rfl rfl rfl ?_
  refine g_norm (Lw' := [sSBo E a v1 (Int32.ofNat t.length), sArrB E v1 c f, [(h0, .inr (0, [.ref (b 0), .int 0, .int 0, .int 0]))], sArrB E b t.length g]) (st' := [.ref h0]) (pc' := 8) [1, 2, 0, 3] rfl rfl rfl rfl ?_
  refine g_eqF (Lw' := [sSB E a v1 c t f, sStr E (adr [h0, b 0]) t g]) rfl ?_
  exact g_aret F rfl (Or.inl ⟨_, rfl⟩) ⟨adr [h0, b 0], g, g1, rfl, rfl⟩ dJ4_toString_0e30d_8
theorem h0J4_append_15ec4 : yJ4_append_15ec4.cls = RJ4 ∧ yJ4_append_15ec4.cls ≠ "java/lang/invoke/MethodHandle" ∧ yJ4_append_15ec4.cls ≠ "java/lang/invoke/VarHandle" ∧ (parseMethodDescriptor yJ4_append_15ec4.desc).map (fun d => d.parameters.length) = some 1 := by decide +kernel
theorem h0J4_append_cf468 : yJ4_append_cf468.cls = RJ4 ∧ yJ4_append_cf468.cls ≠ "java/lang/invoke/MethodHandle" ∧ yJ4_append_cf468.cls ≠ "java/lang/invoke/VarHandle" ∧ (parseMethodDescriptor yJ4_append_cf468.desc).map (fun d => d.parameters.length) = some 1 := by decide +kernel
theorem h0J4_append_bf812 : yJ4_append_bf812.cls = RJ4 ∧ yJ4_append_bf812.cls ≠ "java/lang/invoke/MethodHandle" ∧ yJ4_append_bf812.cls ≠ "java/lang/invoke/VarHandle" ∧ (parseMethodDescriptor yJ4_append_bf812.desc).map (fun d => d.parameters.length) = some 1 := by decide +kernel
theorem h0J4_toString_0e30d : yJ4_toString_0e30d.cls = RJ4 ∧ yJ4_toString_0e30d.cls ≠ "java/lang/invoke/MethodHandle" ∧ yJ4_toString_0e30d.cls ≠ "java/lang/invoke/VarHandle" ∧ (parseMethodDescriptor yJ4_toString_0e30d.desc).map (fun d => d.parameters.length) = some 0 := by decide +kernel
theorem h0J4_length_8abf5 : yJ4_length_8abf5.cls = RJ4 ∧ yJ4_length_8abf5.cls ≠ "java/lang/invoke/MethodHandle" ∧ yJ4_length_8abf5.cls ≠ "java/lang/invoke/VarHandle" ∧ (parseMethodDescriptor yJ4_length_8abf5.desc).map (fun d => d.parameters.length) = some 0 := by decide +kernel
theorem jk_slen (n : Nat) : fJ0_length_8abf5W n = some (Int32.ofNat n) := by
  unfold fJ0_length_8abf5W fJ0_coder_7d493W
  rw [if_neg (by decide)]
  show some (Int32.ofNat n >>> ((0 : Int32) &&& 31)) = _
  rw [sb_shr0]
theorem ctS_len (l : Launch) (E : gE) (a : Nat → Nat) (t : List Nat) (f : Nat → Int32) (hok : okS t f) : gMet l yJ0_length_8abf5 wsJ0_length_8abf5 rmJ0_length_8abf5W vwCl E [.ref (a 0)] [sStr E a t f] (fun v w => v = some (.int (Int32.ofNat t.length)) ∧ w = [sStr E a t f]) 0 0 :=
  gMet_conv (ctJ0_length_8abf5W l E a (fun i => a (i + 1)) t.length f (Int32.ofNat t.length) (jk_slen _)) rfl (fun v w h => ⟨[sStr E a t f], ⟨h.1, rfl⟩, by rw [h.2]; rfl⟩)
theorem jk_char : ∀ x, x < 128 → (Int32.ofNat x &&& 255) = Int32.ofNat x ∧ ((Int32.ofNat x).toUInt32 % 65536).toInt32 = Int32.ofNat x := by decide +kernel
theorem jk_at {t : List Nat} {f : Nat → Int32} (hok : okS t f) {x : Int32} (hx : ¬ (x < 0 ∨ t.length ≤ x.toNatClampNeg)) : fJ0_charAt_5068eW t.length x f = some (Int32.ofNat (t.getD x.toNatClampNeg 0)) := jk_at0 hok hx (jk_of hx) (fun h => nI_lt h (by have := hok.1; omega))
theorem ctS_at (l : Launch) (E : gE) (a : Nat → Nat) (t : List Nat) (f : Nat → Int32) (hok : okS t f) (x : Int32) (hx : ¬ (x < 0 ∨ t.length ≤ x.toNatClampNeg)) : gMet l yJ0_charAt_5068e wsJ0_charAt_5068e rmJ0_charAt_5068eW vwCl E [.ref (a 0), .int x] [sStr E a t f] (fun v w => v = some (.int (Int32.ofNat (t.getD x.toNatClampNeg 0))) ∧ w = [sStr E a t f]) 0 0 :=
  gMet_conv (ctJ0_charAt_5068eW l E a (fun i => a (i + 1)) t.length x f (Int32.ofNat (t.getD x.toNatClampNeg 0)) (jk_at hok hx)) rfl (fun v w h => ⟨[sStr E a t f], ⟨h.1, rfl⟩, by rw [h.2.1]; rfl⟩)
