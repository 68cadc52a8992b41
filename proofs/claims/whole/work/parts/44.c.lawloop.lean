def pAll (Sim : LC → LM → Prop) : Prop := ∀ (S : LC) (T : LM), Sim S T → (∀ u1 u2 u3 u4 u5 : Int32, ∃ (S9 : LC) (T9 : LM), pL_append S T u1 u2 u3 u4 u5 S9 T9 ∧ Sim S9 T9) ∧ (∀ u1 : Int32, ∃ (S9 : LC) (T9 : LM), pL_parse S T u1 S9 T9 ∧ Sim S9 T9) ∧ (∃ (S9 : LC) (T9 : LM), pL_errorPosition S T S9 T9 ∧ Sim S9 T9) ∧ (∀ u1 : Int32, ∃ (S9 : LC) (T9 : LM), pL_size S T u1 S9 T9 ∧ Sim S9 T9) ∧ (∀ u1 : Int32, ∃ (S9 : LC) (T9 : LM), pL_find S T u1 S9 T9 ∧ Sim S9 T9) ∧ (∀ u1 u2 : Int32, ∃ (S9 : LC) (T9 : LM), pL_user S T u1 u2 S9 T9 ∧ Sim S9 T9) ∧ (∀ u1 u2 : Int32, ∃ (S9 : LC) (T9 : LM), pL_piece S T u1 u2 S9 T9 ∧ Sim S9 T9) ∧ (∀ u1 u2 : Int32, ∃ (S9 : LC) (T9 : LM), pL_pieceLetter S T u1 u2 S9 T9 ∧ Sim S9 T9) ∧ (∀ u1 u2 : Int32, ∃ (S9 : LC) (T9 : LM), pL_word S T u1 u2 S9 T9 ∧ Sim S9 T9) ∧ (∀ u1 u2 : Int32, ∃ (S9 : LC) (T9 : LM), pL_wordLetter S T u1 u2 S9 T9 ∧ Sim S9 T9) ∧ (∀ u1 u2 : Int32, ∃ (S9 : LC) (T9 : LM), pL_part S T u1 u2 S9 T9 ∧ Sim S9 T9) ∧ (∀ u1 : Int32, ∃ (S9 : LC) (T9 : LM), pL_quote S T u1 S9 T9 ∧ Sim S9 T9) ∧ (∀ u1 : Int32, ∃ (S9 : LC) (T9 : LM), pL_whyNotStore S T u1 S9 T9 ∧ Sim S9 T9) ∧ (∀ u1 : Int32, ∃ (S9 : LC) (T9 : LM), pL_ways S T u1 S9 T9 ∧ Sim S9 T9) ∧ (∀ u1 : Int32, ∃ (S9 : LC) (T9 : LM), pL_fewest S T u1 S9 T9 ∧ Sim S9 T9) ∧ (∀ u1 : Int32, ∃ (S9 : LC) (T9 : LM), pL_saving S T u1 S9 T9 ∧ Sim S9 T9) ∧ (∀ u1 u2 : Int32, ∃ (S9 : LC) (T9 : LM), pL_bestPart S T u1 u2 S9 T9 ∧ Sim S9 T9) ∧ (∀ u1 u2 : Int32, ∃ (S9 : LC) (T9 : LM), pL_shared S T u1 u2 S9 T9 ∧ Sim S9 T9) ∧ (∃ (S9 : LC) (T9 : LM), pL_favourite S T S9 T9 ∧ Sim S9 T9) ∧ (∃ (S9 : LC) (T9 : LM), pL_richest S T S9 T9 ∧ Sim S9 T9) ∧ (∃ (S9 : LC) (T9 : LM), pL_isWhole S T S9 T9 ∧ Sim S9 T9) ∧ (∀ u1 : Int32, ∃ (S9 : LC) (T9 : LM), pL_account S T u1 S9 T9 ∧ Sim S9 T9) ∧ (∀ u1 : Int32, ∃ (S9 : LC) (T9 : LM), pL_store S T u1 S9 T9 ∧ Sim S9 T9) ∧ (∀ u1 : Int32, ∃ (S9 : LC) (T9 : LM), pL_remove S T u1 S9 T9 ∧ Sim S9 T9) ∧ (∀ u1 : Int32, ∃ (S9 : LC) (T9 : LM), pL_recut S T u1 S9 T9 ∧ Sim S9 T9) ∧ (∃ (S9 : LC) (T9 : LM), pL_recutAll S T S9 T9 ∧ Sim S9 T9) ∧ (∀ u1 : Int32, ∃ (S9 : LC) (T9 : LM), pL_bring S T u1 S9 T9 ∧ Sim S9 T9) ∧ (∀ u1 : Int32, ∃ (S9 : LC) (T9 : LM), pL_tick S T u1 S9 T9 ∧ Sim S9 T9) ∧ (∀ u1 u2 u3 : Int32, ∃ (S9 : LC) (T9 : LM), pL_pay S T u1 u2 u3 S9 T9 ∧ Sim S9 T9) ∧ (∃ (S9 : LC) (T9 : LM), pL_undo S T S9 T9 ∧ Sim S9 T9) ∧ (∀ u1 : Int32, ∃ (S9 : LC) (T9 : LM), pL_saveSnapshot S T u1 S9 T9 ∧ Sim S9 T9) ∧ (∀ u1 : Int32, ∃ (S9 : LC) (T9 : LM), pL_restoreSnapshot S T u1 S9 T9 ∧ Sim S9 T9)
theorem w31 : ∀ k : Nat, k < 32 → (Int32.ofNat k = 0 ∨ Int32.ofNat k = 1 ∨ Int32.ofNat k = 2 ∨ Int32.ofNat k = 3 ∨ Int32.ofNat k = 4 ∨ Int32.ofNat k = 5 ∨ Int32.ofNat k = 6 ∨ Int32.ofNat k = 7 ∨ Int32.ofNat k = 8 ∨ Int32.ofNat k = 9 ∨ Int32.ofNat k = 10 ∨ Int32.ofNat k = 11 ∨ Int32.ofNat k = 12 ∨ Int32.ofNat k = 13 ∨ Int32.ofNat k = 14 ∨ Int32.ofNat k = 15 ∨ Int32.ofNat k = 16 ∨ Int32.ofNat k = 17 ∨ Int32.ofNat k = 18 ∨ Int32.ofNat k = 19 ∨ Int32.ofNat k = 20 ∨ Int32.ofNat k = 21 ∨ Int32.ofNat k = 22 ∨ Int32.ofNat k = 23 ∨ Int32.ofNat k = 24 ∨ Int32.ofNat k = 25 ∨ Int32.ofNat k = 26 ∨ Int32.ofNat k = 27 ∨ Int32.ofNat k = 28 ∨ Int32.ofNat k = 29 ∨ Int32.ofNat k = 30 ∨ Int32.ofNat k = 31) := by decide
theorem and31 (v : Int32) : v &&& 31 = 0 ∨ v &&& 31 = 1 ∨ v &&& 31 = 2 ∨ v &&& 31 = 3 ∨ v &&& 31 = 4 ∨ v &&& 31 = 5 ∨ v &&& 31 = 6 ∨ v &&& 31 = 7 ∨ v &&& 31 = 8 ∨ v &&& 31 = 9 ∨ v &&& 31 = 10 ∨ v &&& 31 = 11 ∨ v &&& 31 = 12 ∨ v &&& 31 = 13 ∨ v &&& 31 = 14 ∨ v &&& 31 = 15 ∨ v &&& 31 = 16 ∨ v &&& 31 = 17 ∨ v &&& 31 = 18 ∨ v &&& 31 = 19 ∨ v &&& 31 = 20 ∨ v &&& 31 = 21 ∨ v &&& 31 = 22 ∨ v &&& 31 = 23 ∨ v &&& 31 = 24 ∨ v &&& 31 = 25 ∨ v &&& 31 = 26 ∨ v &&& 31 = 27 ∨ v &&& 31 = 28 ∨ v &&& 31 = 29 ∨ v &&& 31 = 30 ∨ v &&& 31 = 31 := by
  have h : (v &&& 31).toBitVec.toNat < 32 := by
    have : (v &&& 31).toBitVec = v.toBitVec &&& 31#32 := by simp
    rw [this, BitVec.toNat_and]
    exact Nat.lt_of_le_of_lt Nat.and_le_right (by decide)
  have e : v &&& 31 = Int32.ofNat (v &&& 31).toBitVec.toNat := by
    apply Int32.toBitVec_inj.mp
    simp
  have := w31 _ h
  rw [← e] at this
  exact this
theorem ofN_int (q : Nat) (h : q < 4096) : (Int32.ofNat q).toInt = q := Int32.toInt_ofNat_of_lt (by omega)
theorem ofN_clamp (q : Nat) (h : q < 4096) : (Int32.ofNat q).toNatClampNeg = q := by
  show (Int32.ofNat q).toInt.toNat = q
  rw [ofN_int q h]
  rfl
theorem ofN_add (q k : Nat) : Int32.ofNat q + Int32.ofNat k = Int32.ofNat (q + k) := by rw [Int32.ofNat_add]
theorem ofN_in (q n : Nat) (h : q < n) (hn : n ≤ 3072) : ¬ (Int32.ofNat q < 0 ∨ n ≤ (Int32.ofNat q).toNatClampNeg) := by
  rw [ofN_clamp q (by omega), Int32.lt_iff_toInt_lt, ofN_int q (by omega)]
  simp
  omega
theorem ofN_sub6 (n : Nat) (hn : n ≤ 3072) : (Int32.ofNat n - 6).toInt = (n : Int) - 6 := by
  rw [Int32.toInt_sub, ofN_int n (by omega)]
  show ((n : Int) - 6).bmod (2 ^ 32) = _
  exact Int.bmod_eq_of_le (by omega) (by omega)
theorem law_loop {Sim : LC → LM → Prop} (hall : pAll Sim) {p : Program} {l : Launch} {e : Env} {s : State} {m : MethodId} {args : Array Value} {below : List Frame} {meth : Method} {c : Code} {Q : State → Prop} {E : gE} {A : Nat → Prop} (F : gFx p s m args meth c RL wsL_law cL_law 7 (some .boolean) vwCl E A) (hst : l.stackTraces = false) {a : Nat → Nat → Nat} {n : Nat} {f : Nat → Int32} {b : Nat} (hX : va_X b n f s s.heap) (hbl : b < s.heap.size) (hbA : ¬ A b) (hn : n ≤ 3072)
    (kend : ∀ (S : LC) (T : LM) (o : Nat → Int64) (lv : List (Option Value)) (cells slots : Nat), cells ≤ 601024 → slots ≤ 7293034 → Gj p l e room_1 s m args below meth c cells slots Q vwCl E A (LW E a S T o) lv [.int 1] 1869) :
    ∀ (r j cells slots : Nat) (S : LC) (T : LM) (o : Nat → Int64), n < 6 * (j + r) + 6 → 6 * j ≤ n + 5 → Sim S T → cells + 3 * r + 3 ≤ 601024 → slots + 18 * r + 18 ≤ 7293034 → Gj p l e room_1 s m args below meth c cells slots Q vwCl E A (LW E a S T o) (LL a b (Int32.ofNat (6 * j))) [] 23 := by
  intro r
  induction r with
  | zero =>
    intro j cells slots S T o h1 h2 hs hc hsl
    refine g_iload F dL_law_23 rfl ?_
    refine g_aload_n F dL_law_25 rfl ?_
    refine g_slen F hX hbl hbA dL_law_26 ?_
    refine g_bipush F 6 dL_law_27 rfl ?_
    refine g_isub F dL_law_29 ?_
    refine g_icmp_gt F 1868 dL_law_30 (by decide) (fun _ => ?_) (fun hgt => ?_)
    · refine g_iconst F 1 dL_law_1868 rfl ?_
      exact kend S T o _ cells slots (by omega) (by omega)
    · exfalso
      rw [Int32.lt_iff_toInt_lt, ofN_sub6 n hn, ofN_int _ (by omega)] at hgt
      omega
  | succ r ih =>
    intro j cells slots S T o h1 h2 hs hc hsl
    refine g_iload F dL_law_23 rfl ?_
    refine g_aload_n F dL_law_25 rfl ?_
    refine g_slen F hX hbl hbA dL_law_26 ?_
    refine g_bipush F 6 dL_law_27 rfl ?_
    refine g_isub F dL_law_29 ?_
    refine g_icmp_gt F 1868 dL_law_30 (by decide) (fun _ => ?_) (fun hgt => ?_)
    · refine g_iconst F 1 dL_law_1868 rfl ?_
      exact kend S T o _ cells slots (by omega) (by omega)
    · have h6 : 6 * j + 6 ≤ n := by
        rw [Int32.lt_iff_toInt_lt, ofN_sub6 n hn] at hgt
        by_cases hj : 6 * j < 4096
        · rw [ofN_int _ hj] at hgt
          omega
        · omega
      have q0 := ofN_in (6 * j) n (by omega) hn
      have q1 : ¬ (Int32.ofNat (6 * j) + 1 < 0 ∨ n ≤ (Int32.ofNat (6 * j) + 1).toNatClampNeg) := by rw [show (1 : Int32) = Int32.ofNat 1 from rfl, ofN_add]; exact ofN_in _ n (by omega) hn
      have q2 : ¬ (Int32.ofNat (6 * j) + 2 < 0 ∨ n ≤ (Int32.ofNat (6 * j) + 2).toNatClampNeg) := by rw [show (2 : Int32) = Int32.ofNat 2 from rfl, ofN_add]; exact ofN_in _ n (by omega) hn
      have q3 : ¬ (Int32.ofNat (6 * j) + 3 < 0 ∨ n ≤ (Int32.ofNat (6 * j) + 3).toNatClampNeg) := by rw [show (3 : Int32) = Int32.ofNat 3 from rfl, ofN_add]; exact ofN_in _ n (by omega) hn
      have q4 : ¬ (Int32.ofNat (6 * j) + 4 < 0 ∨ n ≤ (Int32.ofNat (6 * j) + 4).toNatClampNeg) := by rw [show (4 : Int32) = Int32.ofNat 4 from rfl, ofN_add]; exact ofN_in _ n (by omega) hn
      have q5 : ¬ (Int32.ofNat (6 * j) + 5 < 0 ∨ n ≤ (Int32.ofNat (6 * j) + 5).toNatClampNeg) := by rw [show (5 : Int32) = Int32.ofNat 5 from rfl, ofN_add]; exact ofN_in _ n (by omega) hn
      have next : ∀ (S9 : LC) (T9 : LM) (o9 : Nat → Int64), Sim S9 T9 → Gj p l e room_1 s m args below meth c (cells + 3) (slots + 18) Q vwCl E A (LW E a S9 T9 o9) (LL a b (Int32.ofNat (6 * j))) [] 1862 := by
        intro S9 T9 o9 h9
        refine g_iinc F (Int32.ofNat (6 * (j + 1))) dL_law_1862 rfl (by rw [show Int32.ofInt 6 = Int32.ofNat 6 from rfl, ofN_add, Nat.mul_add]) rfl rfl ?_
        refine g_goto F 23 dL_law_1865 (by decide) ?_
        exact ih (j + 1) (cells + 3) (slots + 18) S9 T9 o9 (by omega) (by omega) h9 (by omega) (by omega)
      refine g_aload_n F dL_law_33 rfl ?_
      refine g_iload F dL_law_34 rfl ?_
      refine g_sld F hX hbl hbA _ rfl q0 dL_law_36 ?_
      refine g_bipush F 31 dL_law_37 rfl ?_
      refine g_iand F dL_law_39 ?_
      obtain ⟨a0, a1, a2, a3, a4, a5, a6, a7, a8, a9, a10, a11, a12, a13, a14, a15, a16, a17, a18, a19, a20, a21, a22, a23, a24, a25, a26, a27, a28, a29, a30, a31⟩ := hall S T hs
      rcases and31 (f (Int32.ofNat (6 * j)).toNatClampNeg) with hw | hw | hw | hw | hw | hw | hw | hw | hw | hw | hw | hw | hw | hw | hw | hw | hw | hw | hw | hw | hw | hw | hw | hw | hw | hw | hw | hw | hw | hw | hw | hw
      · obtain ⟨S9, T9, hp, h9⟩ := a0 (f (Int32.ofNat (6 * j) + 1).toNatClampNeg) (f (Int32.ofNat (6 * j) + 2).toNatClampNeg) (f (Int32.ofNat (6 * j) + 3).toNatClampNeg) (f (Int32.ofNat (6 * j) + 4).toNatClampNeg) (f (Int32.ofNat (6 * j) + 5).toNatClampNeg)
        refine g_tabIn F 184 0 hw dL_law_40 (by decide) (by decide) rfl (by decide) ?_
        exact kL_append F hst hX hbl hbA q1 q2 q3 q4 q5 ⟨by omega, by omega⟩ hp (fun o9 => next S9 T9 o9 h9)
      · obtain ⟨S9, T9, hp, h9⟩ := a1 (f (Int32.ofNat (6 * j) + 1).toNatClampNeg)
        refine g_tabIn F 257 1 hw dL_law_40 (by decide) (by decide) rfl (by decide) ?_
        exact kL_parse F hst hX hbl hbA q1 ⟨by omega, by omega⟩ hp (fun o9 => next S9 T9 o9 h9)
      · obtain ⟨S9, T9, hp, h9⟩ := a2
        refine g_tabIn F 313 2 hw dL_law_40 (by decide) (by decide) rfl (by decide) ?_
        exact kL_errorPosition F hst hX hbl hbA ⟨by omega, by omega⟩ hp (fun o9 => next S9 T9 o9 h9)
      · obtain ⟨S9, T9, hp, h9⟩ := a3 (f (Int32.ofNat (6 * j) + 1).toNatClampNeg)
        refine g_tabIn F 326 3 hw dL_law_40 (by decide) (by decide) rfl (by decide) ?_
        exact kL_size F hst hX hbl hbA q1 ⟨by omega, by omega⟩ hp (fun o9 => next S9 T9 o9 h9)
      · obtain ⟨S9, T9, hp, h9⟩ := a4 (f (Int32.ofNat (6 * j) + 1).toNatClampNeg)
        refine g_tabIn F 382 4 hw dL_law_40 (by decide) (by decide) rfl (by decide) ?_
        exact kL_find F hst hX hbl hbA q1 ⟨by omega, by omega⟩ hp (fun o9 => next S9 T9 o9 h9)
      · obtain ⟨S9, T9, hp, h9⟩ := a5 (f (Int32.ofNat (6 * j) + 1).toNatClampNeg) (f (Int32.ofNat (6 * j) + 2).toNatClampNeg)
        refine g_tabIn F 438 5 hw dL_law_40 (by decide) (by decide) rfl (by decide) ?_
        exact kL_user F hst hX hbl hbA q1 q2 ⟨by omega, by omega⟩ hp (fun o9 => next S9 T9 o9 h9)
      · obtain ⟨S9, T9, hp, h9⟩ := a6 (f (Int32.ofNat (6 * j) + 1).toNatClampNeg) (f (Int32.ofNat (6 * j) + 2).toNatClampNeg)
        refine g_tabIn F 506 6 hw dL_law_40 (by decide) (by decide) rfl (by decide) ?_
        exact kL_piece F hst hX hbl hbA q1 q2 ⟨by omega, by omega⟩ hp (fun o9 => next S9 T9 o9 h9)
      · obtain ⟨S9, T9, hp, h9⟩ := a7 (f (Int32.ofNat (6 * j) + 1).toNatClampNeg) (f (Int32.ofNat (6 * j) + 2).toNatClampNeg)
        refine g_tabIn F 574 7 hw dL_law_40 (by decide) (by decide) rfl (by decide) ?_
        exact kL_pieceLetter F hst hX hbl hbA q1 q2 ⟨by omega, by omega⟩ hp (fun o9 => next S9 T9 o9 h9)
      · obtain ⟨S9, T9, hp, h9⟩ := a8 (f (Int32.ofNat (6 * j) + 1).toNatClampNeg) (f (Int32.ofNat (6 * j) + 2).toNatClampNeg)
        refine g_tabIn F 642 8 hw dL_law_40 (by decide) (by decide) rfl (by decide) ?_
        exact kL_word F hst hX hbl hbA q1 q2 ⟨by omega, by omega⟩ hp (fun o9 => next S9 T9 o9 h9)
      · obtain ⟨S9, T9, hp, h9⟩ := a9 (f (Int32.ofNat (6 * j) + 1).toNatClampNeg) (f (Int32.ofNat (6 * j) + 2).toNatClampNeg)
        refine g_tabIn F 710 9 hw dL_law_40 (by decide) (by decide) rfl (by decide) ?_
        exact kL_wordLetter F hst hX hbl hbA q1 q2 ⟨by omega, by omega⟩ hp (fun o9 => next S9 T9 o9 h9)
      · obtain ⟨S9, T9, hp, h9⟩ := a10 (f (Int32.ofNat (6 * j) + 1).toNatClampNeg) (f (Int32.ofNat (6 * j) + 2).toNatClampNeg)
        refine g_tabIn F 778 10 hw dL_law_40 (by decide) (by decide) rfl (by decide) ?_
        exact kL_part F hst hX hbl hbA q1 q2 ⟨by omega, by omega⟩ hp (fun o9 => next S9 T9 o9 h9)
      · obtain ⟨S9, T9, hp, h9⟩ := a11 (f (Int32.ofNat (6 * j) + 1).toNatClampNeg)
        refine g_tabIn F 846 11 hw dL_law_40 (by decide) (by decide) rfl (by decide) ?_
        exact kL_quote F hst hX hbl hbA q1 ⟨by omega, by omega⟩ hp (fun o9 => next S9 T9 o9 h9)
      · obtain ⟨S9, T9, hp, h9⟩ := a12 (f (Int32.ofNat (6 * j) + 1).toNatClampNeg)
        refine g_tabIn F 902 12 hw dL_law_40 (by decide) (by decide) rfl (by decide) ?_
        exact kL_whyNotStore F hst hX hbl hbA q1 ⟨by omega, by omega⟩ hp (fun o9 => next S9 T9 o9 h9)
      · obtain ⟨S9, T9, hp, h9⟩ := a13 (f (Int32.ofNat (6 * j) + 1).toNatClampNeg)
        refine g_tabIn F 958 13 hw dL_law_40 (by decide) (by decide) rfl (by decide) ?_
        exact kL_ways F hst hX hbl hbA q1 ⟨by omega, by omega⟩ hp (fun o9 => next S9 T9 o9 h9)
      · obtain ⟨S9, T9, hp, h9⟩ := a14 (f (Int32.ofNat (6 * j) + 1).toNatClampNeg)
        refine g_tabIn F 1014 14 hw dL_law_40 (by decide) (by decide) rfl (by decide) ?_
        exact kL_fewest F hst hX hbl hbA q1 ⟨by omega, by omega⟩ hp (fun o9 => next S9 T9 o9 h9)
      · obtain ⟨S9, T9, hp, h9⟩ := a15 (f (Int32.ofNat (6 * j) + 1).toNatClampNeg)
        refine g_tabIn F 1070 15 hw dL_law_40 (by decide) (by decide) rfl (by decide) ?_
        exact kL_saving F hst hX hbl hbA q1 ⟨by omega, by omega⟩ hp (fun o9 => next S9 T9 o9 h9)
      · obtain ⟨S9, T9, hp, h9⟩ := a16 (f (Int32.ofNat (6 * j) + 1).toNatClampNeg) (f (Int32.ofNat (6 * j) + 2).toNatClampNeg)
        refine g_tabIn F 1126 16 hw dL_law_40 (by decide) (by decide) rfl (by decide) ?_
        exact kL_bestPart F hst hX hbl hbA q1 q2 ⟨by omega, by omega⟩ hp (fun o9 => next S9 T9 o9 h9)
      · obtain ⟨S9, T9, hp, h9⟩ := a17 (f (Int32.ofNat (6 * j) + 1).toNatClampNeg) (f (Int32.ofNat (6 * j) + 2).toNatClampNeg)
        refine g_tabIn F 1194 17 hw dL_law_40 (by decide) (by decide) rfl (by decide) ?_
        exact kL_shared F hst hX hbl hbA q1 q2 ⟨by omega, by omega⟩ hp (fun o9 => next S9 T9 o9 h9)
      · obtain ⟨S9, T9, hp, h9⟩ := a18
        refine g_tabIn F 1262 18 hw dL_law_40 (by decide) (by decide) rfl (by decide) ?_
        exact kL_favourite F hst hX hbl hbA ⟨by omega, by omega⟩ hp (fun o9 => next S9 T9 o9 h9)
      · obtain ⟨S9, T9, hp, h9⟩ := a19
        refine g_tabIn F 1275 19 hw dL_law_40 (by decide) (by decide) rfl (by decide) ?_
        exact kL_richest F hst hX hbl hbA ⟨by omega, by omega⟩ hp (fun o9 => next S9 T9 o9 h9)
      · obtain ⟨S9, T9, hp, h9⟩ := a20
        refine g_tabIn F 1288 20 hw dL_law_40 (by decide) (by decide) rfl (by decide) ?_
        exact kL_isWhole F hst hX hbl hbA ⟨by omega, by omega⟩ hp (fun o9 => next S9 T9 o9 h9)
      · obtain ⟨S9, T9, hp, h9⟩ := a21 (f (Int32.ofNat (6 * j) + 1).toNatClampNeg)
        refine g_tabIn F 1301 21 hw dL_law_40 (by decide) (by decide) rfl (by decide) ?_
        exact kL_account F hst hX hbl hbA q1 ⟨by omega, by omega⟩ hp (fun o9 => next S9 T9 o9 h9)
      · obtain ⟨S9, T9, hp, h9⟩ := a22 (f (Int32.ofNat (6 * j) + 1).toNatClampNeg)
        refine g_tabIn F 1357 22 hw dL_law_40 (by decide) (by decide) rfl (by decide) ?_
        exact kL_store F hst hX hbl hbA q1 ⟨by omega, by omega⟩ hp (fun o9 => next S9 T9 o9 h9)
      · obtain ⟨S9, T9, hp, h9⟩ := a23 (f (Int32.ofNat (6 * j) + 1).toNatClampNeg)
        refine g_tabIn F 1413 23 hw dL_law_40 (by decide) (by decide) rfl (by decide) ?_
        exact kL_remove F hst hX hbl hbA q1 ⟨by omega, by omega⟩ hp (fun o9 => next S9 T9 o9 h9)
      · obtain ⟨S9, T9, hp, h9⟩ := a24 (f (Int32.ofNat (6 * j) + 1).toNatClampNeg)
        refine g_tabIn F 1469 24 hw dL_law_40 (by decide) (by decide) rfl (by decide) ?_
        exact kL_recut F hst hX hbl hbA q1 ⟨by omega, by omega⟩ hp (fun o9 => next S9 T9 o9 h9)
      · obtain ⟨S9, T9, hp, h9⟩ := a25
        refine g_tabIn F 1525 25 hw dL_law_40 (by decide) (by decide) rfl (by decide) ?_
        exact kL_recutAll F hst hX hbl hbA ⟨by omega, by omega⟩ hp (fun o9 => next S9 T9 o9 h9)
      · obtain ⟨S9, T9, hp, h9⟩ := a26 (f (Int32.ofNat (6 * j) + 1).toNatClampNeg)
        refine g_tabIn F 1538 26 hw dL_law_40 (by decide) (by decide) rfl (by decide) ?_
        exact kL_bring F hst hX hbl hbA q1 ⟨by omega, by omega⟩ hp (fun o9 => next S9 T9 o9 h9)
      · obtain ⟨S9, T9, hp, h9⟩ := a27 (f (Int32.ofNat (6 * j) + 1).toNatClampNeg)
        refine g_tabIn F 1594 27 hw dL_law_40 (by decide) (by decide) rfl (by decide) ?_
        exact kL_tick F hst hX hbl hbA q1 ⟨by omega, by omega⟩ hp (fun o9 => next S9 T9 o9 h9)
      · obtain ⟨S9, T9, hp, h9⟩ := a28 (f (Int32.ofNat (6 * j) + 1).toNatClampNeg) (f (Int32.ofNat (6 * j) + 2).toNatClampNeg) (f (Int32.ofNat (6 * j) + 3).toNatClampNeg)
        refine g_tabIn F 1650 28 hw dL_law_40 (by decide) (by decide) rfl (by decide) ?_
        exact kL_pay F hst hX hbl hbA q1 q2 q3 ⟨by omega, by omega⟩ hp (fun o9 => next S9 T9 o9 h9)
      · obtain ⟨S9, T9, hp, h9⟩ := a29
        refine g_tabIn F 1730 29 hw dL_law_40 (by decide) (by decide) rfl (by decide) ?_
        exact kL_undo F hst hX hbl hbA ⟨by omega, by omega⟩ hp (fun o9 => next S9 T9 o9 h9)
      · obtain ⟨S9, T9, hp, h9⟩ := a30 (f (Int32.ofNat (6 * j) + 1).toNatClampNeg)
        refine g_tabIn F 1743 30 hw dL_law_40 (by decide) (by decide) rfl (by decide) ?_
        exact kL_saveSnapshot F hst hX hbl hbA q1 ⟨by omega, by omega⟩ hp (fun o9 => next S9 T9 o9 h9)
      · obtain ⟨S9, T9, hp, h9⟩ := a31 (f (Int32.ofNat (6 * j) + 1).toNatClampNeg)
        refine g_tabIn F 1806 31 hw dL_law_40 (by decide) (by decide) rfl (by decide) ?_
        exact kL_restoreSnapshot F hst hX hbl hbA q1 ⟨by omega, by omega⟩ hp (fun o9 => next S9 T9 o9 h9)
