set_option maxRecDepth 20000
section GLS
variable {p : Program} {l : Launch} {e : Env} {R : Room} {s : State} {m : MethodId} {args : Array Value} {below : List Frame} {meth : Method} {c : Code} {cells slots : Nat} {Q : State → Prop} {own : String} {Ts : List Cond} {cc : ByteArray} {nL : Nat} {ret : Option FieldType} {cl : List vw_C} {E : gE} {A : Nat → Prop} {Lw : List va_W} {lv : List (Option Value)} {st : List Value} {pc : Nat}
theorem g_sld (F : gFx p s m args meth c own Ts cc nL ret cl E A) {b L : Nat} {xs : Nat → Int32} (hX : va_X b L xs s s.heap) (hbl : b < s.heap.size) (hbA : ¬ A b) {x : Int32} (q9 : Nat) (hq9 : x.toNatClampNeg = q9) (hin : ¬ (x < 0 ∨ L ≤ x.toNatClampNeg)) (hd : decode cc pc = .ok (.iaload, 1)) (k : Gj p l e R s m args below meth c cells slots Q cl E A Lw lv (.int (xs q9) :: st) (pc + 1)) : Gj p l e R s m args below meth c cells slots Q cl E A Lw lv (.int x :: .ref b :: st) pc := fun H locs ls hP hD hS hl => by
  subst hq9
  exact va_sld F.1 F.2.1 hX hbl hbA hS hin hd (k H locs ls hP hD hS hl)
theorem g_slen (F : gFx p s m args meth c own Ts cc nL ret cl E A) {b L : Nat} {xs : Nat → Int32} (hX : va_X b L xs s s.heap) (hbl : b < s.heap.size) (hbA : ¬ A b) (hd : decode cc pc = .ok (.arraylength, 1)) (k : Gj p l e R s m args below meth c cells slots Q cl E A Lw lv (.int (Int32.ofNat L) :: st) (pc + 1)) : Gj p l e R s m args below meth c cells slots Q cl E A Lw lv (.ref b :: st) pc := fun H locs ls hP hD hS hl => va_slen F.1 F.2.1 hX hbl hbA hS hd (k H locs ls hP hD hS hl)
end GLS
theorem ofN_int (q : Nat) (h : q < 4096) : (Int32.ofNat q).toInt = q := Int32.toInt_ofNat_of_lt (by omega)
theorem ofN_clamp (q : Nat) (h : q < 4096) : (Int32.ofNat q).toNatClampNeg = q := by
  show (Int32.ofNat q).toInt.toNat = q
  rw [ofN_int q h]
  rfl
theorem ofN_add (q k : Nat) : Int32.ofNat q + Int32.ofNat k = Int32.ofNat (q + k) := by rw [Int32.ofNat_add]
theorem ofN_in (q n : Nat) (h : q < n) (hn : n ≤ 3072) : ¬ (Int32.ofNat q < 0 ∨ n ≤ (Int32.ofNat q).toNatClampNeg) := by
  rw [ofN_clamp q (by omega), Int32.lt_iff_toInt_lt, ofN_int q (by omega)]
  simp
  omega
abbrev LC : Type := Int32 × Int32 × (Nat → Int32) × Int32 × Int32 × Int32 × (Nat → Int32) × (Nat → Int32) × tUsers × tPieces × tWords × Int32 × Int32 × Int32 × Int32 × Int32 × Int32 × Int64 × Int32 × Int32 × Int32 × Int32 × (Nat → Int32) × (Nat → Int32) × tUsers × tPieces × tWords × tCut × tCutR × (Nat → Int32) × tCut × tCutR × tAdv × tCut × tCutR × tHist × (Nat → Int32)
abbrev LWc (E : gE) (a : Nat → Nat → Nat) (S : LC) : List va_W := [sPD E (a 0) (a 1) (a 2) (a 3) (a 4) (a 5) (a 6) (a 7) (a 8) S.1 S.2.1, sArrB E (a 1) 600 S.2.2.1, sBook E (a 2) (a 9) (a 10) (a 11) (a 12) (a 13) S.2.2.2.1 S.2.2.2.2.1 S.2.2.2.2.2.1, sArrI E (a 9) 5 S.2.2.2.2.2.2.1, sArrI E (a 10) 6 S.2.2.2.2.2.2.2.1, sUsers E (a 11) S.2.2.2.2.2.2.2.2.1, sPieces E (a 12) S.2.2.2.2.2.2.2.2.2.1, sWords E (a 13) S.2.2.2.2.2.2.2.2.2.2.1, sPar E (a 3) (a 14) (a 15) (a 16) S.2.2.2.2.2.2.2.2.2.2.2.1 S.2.2.2.2.2.2.2.2.2.2.2.2.1 S.2.2.2.2.2.2.2.2.2.2.2.2.2.1 S.2.2.2.2.2.2.2.2.2.2.2.2.2.2.1 S.2.2.2.2.2.2.2.2.2.2.2.2.2.2.2.1 S.2.2.2.2.2.2.2.2.2.2.2.2.2.2.2.2.1 S.2.2.2.2.2.2.2.2.2.2.2.2.2.2.2.2.2.1 S.2.2.2.2.2.2.2.2.2.2.2.2.2.2.2.2.2.2.1, sBook E (a 14) (a 17) (a 18) (a 19) (a 20) (a 21) S.2.2.2.2.2.2.2.2.2.2.2.2.2.2.2.2.2.2.2.1 S.2.2.2.2.2.2.2.2.2.2.2.2.2.2.2.2.2.2.2.2.1 S.2.2.2.2.2.2.2.2.2.2.2.2.2.2.2.2.2.2.2.2.2.1, sArrI E (a 17) 5 S.2.2.2.2.2.2.2.2.2.2.2.2.2.2.2.2.2.2.2.2.2.2.1, sArrI E (a 18) 6 S.2.2.2.2.2.2.2.2.2.2.2.2.2.2.2.2.2.2.2.2.2.2.2.1, sUsers E (a 19) S.2.2.2.2.2.2.2.2.2.2.2.2.2.2.2.2.2.2.2.2.2.2.2.2.1, sPieces E (a 20) S.2.2.2.2.2.2.2.2.2.2.2.2.2.2.2.2.2.2.2.2.2.2.2.2.2.1, sWords E (a 21) S.2.2.2.2.2.2.2.2.2.2.2.2.2.2.2.2.2.2.2.2.2.2.2.2.2.2.1, sCut E (a 15) (a 22) S.2.2.2.2.2.2.2.2.2.2.2.2.2.2.2.2.2.2.2.2.2.2.2.2.2.2.2.1, sCutR E (a 22) S.2.2.2.2.2.2.2.2.2.2.2.2.2.2.2.2.2.2.2.2.2.2.2.2.2.2.2.2.1, sArrB E (a 16) 600 S.2.2.2.2.2.2.2.2.2.2.2.2.2.2.2.2.2.2.2.2.2.2.2.2.2.2.2.2.2.1, sCut E (a 4) (a 23) S.2.2.2.2.2.2.2.2.2.2.2.2.2.2.2.2.2.2.2.2.2.2.2.2.2.2.2.2.2.2.1, sCutR E (a 23) S.2.2.2.2.2.2.2.2.2.2.2.2.2.2.2.2.2.2.2.2.2.2.2.2.2.2.2.2.2.2.2.1, sAdv E (a 5) (a 24) S.2.2.2.2.2.2.2.2.2.2.2.2.2.2.2.2.2.2.2.2.2.2.2.2.2.2.2.2.2.2.2.2.1, sCut E (a 24) (a 25) S.2.2.2.2.2.2.2.2.2.2.2.2.2.2.2.2.2.2.2.2.2.2.2.2.2.2.2.2.2.2.2.2.2.1, sCutR E (a 25) S.2.2.2.2.2.2.2.2.2.2.2.2.2.2.2.2.2.2.2.2.2.2.2.2.2.2.2.2.2.2.2.2.2.2.1, sHist E (a 6) S.2.2.2.2.2.2.2.2.2.2.2.2.2.2.2.2.2.2.2.2.2.2.2.2.2.2.2.2.2.2.2.2.2.2.2.1, sArrZ E (a 8) 2 S.2.2.2.2.2.2.2.2.2.2.2.2.2.2.2.2.2.2.2.2.2.2.2.2.2.2.2.2.2.2.2.2.2.2.2.2]
def pL_plays (S : LC) (p1 : Nat → Int32) (S9 : LC) : Prop := ∃ (D_buffered' : Int32) (D_lastErrorAt' : Int32) (buffer' : (Nat → Int32)) (B_time' : Int32) (B_chest' : Int32) (B_fund' : Int32) (settings' : (Nat → Int32)) (sums' : (Nat → Int32)) (U' : tUsers) (P' : tPieces) (W' : tWords) (Pr_errorAt' : Int32) (Pr_length' : Int32) (Pr_next' : Int32) (Pr_errorCode' : Int32) (Pr_kind' : Int32) (Pr_tokenAt' : Int32) (Pr_letters' : Int64) (Pr_number' : Int32) (B2_time' : Int32) (B2_chest' : Int32) (B2_fund' : Int32) (settings2' : (Nat → Int32)) (sums2' : (Nat → Int32)) (U2' : tUsers) (P2' : tPieces) (W2' : tWords) (C' : tCut) (S' : tCutR) (text' : (Nat → Int32)) (C2' : tCut) (S2' : tCutR) (V' : tAdv) (C3' : tCut) (S3' : tCutR) (Hs' : tHist) (filled' : (Nat → Int32)) (p1' : (Nat → Int32)), fL_plays S.1 S.2.1 S.2.2.1 S.2.2.2.1 S.2.2.2.2.1 S.2.2.2.2.2.1 S.2.2.2.2.2.2.1 S.2.2.2.2.2.2.2.1 S.2.2.2.2.2.2.2.2.1 S.2.2.2.2.2.2.2.2.2.1 S.2.2.2.2.2.2.2.2.2.2.1 S.2.2.2.2.2.2.2.2.2.2.2.1 S.2.2.2.2.2.2.2.2.2.2.2.2.1 S.2.2.2.2.2.2.2.2.2.2.2.2.2.1 S.2.2.2.2.2.2.2.2.2.2.2.2.2.2.1 S.2.2.2.2.2.2.2.2.2.2.2.2.2.2.2.1 S.2.2.2.2.2.2.2.2.2.2.2.2.2.2.2.2.1 S.2.2.2.2.2.2.2.2.2.2.2.2.2.2.2.2.2.1 S.2.2.2.2.2.2.2.2.2.2.2.2.2.2.2.2.2.2.1 S.2.2.2.2.2.2.2.2.2.2.2.2.2.2.2.2.2.2.2.1 S.2.2.2.2.2.2.2.2.2.2.2.2.2.2.2.2.2.2.2.2.1 S.2.2.2.2.2.2.2.2.2.2.2.2.2.2.2.2.2.2.2.2.2.1 S.2.2.2.2.2.2.2.2.2.2.2.2.2.2.2.2.2.2.2.2.2.2.1 S.2.2.2.2.2.2.2.2.2.2.2.2.2.2.2.2.2.2.2.2.2.2.2.1 S.2.2.2.2.2.2.2.2.2.2.2.2.2.2.2.2.2.2.2.2.2.2.2.2.1 S.2.2.2.2.2.2.2.2.2.2.2.2.2.2.2.2.2.2.2.2.2.2.2.2.2.1 S.2.2.2.2.2.2.2.2.2.2.2.2.2.2.2.2.2.2.2.2.2.2.2.2.2.2.1 S.2.2.2.2.2.2.2.2.2.2.2.2.2.2.2.2.2.2.2.2.2.2.2.2.2.2.2.1 S.2.2.2.2.2.2.2.2.2.2.2.2.2.2.2.2.2.2.2.2.2.2.2.2.2.2.2.2.1 S.2.2.2.2.2.2.2.2.2.2.2.2.2.2.2.2.2.2.2.2.2.2.2.2.2.2.2.2.2.1 S.2.2.2.2.2.2.2.2.2.2.2.2.2.2.2.2.2.2.2.2.2.2.2.2.2.2.2.2.2.2.1 S.2.2.2.2.2.2.2.2.2.2.2.2.2.2.2.2.2.2.2.2.2.2.2.2.2.2.2.2.2.2.2.1 S.2.2.2.2.2.2.2.2.2.2.2.2.2.2.2.2.2.2.2.2.2.2.2.2.2.2.2.2.2.2.2.2.1 S.2.2.2.2.2.2.2.2.2.2.2.2.2.2.2.2.2.2.2.2.2.2.2.2.2.2.2.2.2.2.2.2.2.1 S.2.2.2.2.2.2.2.2.2.2.2.2.2.2.2.2.2.2.2.2.2.2.2.2.2.2.2.2.2.2.2.2.2.2.1 S.2.2.2.2.2.2.2.2.2.2.2.2.2.2.2.2.2.2.2.2.2.2.2.2.2.2.2.2.2.2.2.2.2.2.2.1 S.2.2.2.2.2.2.2.2.2.2.2.2.2.2.2.2.2.2.2.2.2.2.2.2.2.2.2.2.2.2.2.2.2.2.2.2 p1 = some (1, D_buffered', D_lastErrorAt', buffer', B_time', B_chest', B_fund', settings', sums', U', P', W', Pr_errorAt', Pr_length', Pr_next', Pr_errorCode', Pr_kind', Pr_tokenAt', Pr_letters', Pr_number', B2_time', B2_chest', B2_fund', settings2', sums2', U2', P2', W2', C', S', text', C2', S2', V', C3', S3', Hs', filled', p1') ∧ S9 = (D_buffered', D_lastErrorAt', buffer', B_time', B_chest', B_fund', settings', sums', U', P', W', Pr_errorAt', Pr_length', Pr_next', Pr_errorCode', Pr_kind', Pr_tokenAt', Pr_letters', Pr_number', B2_time', B2_chest', B2_fund', settings2', sums2', U2', P2', W2', C', S', text', C2', S2', V', C3', S3', Hs', filled')
theorem ofJ_lt (j n : Nat) (hj : j < 4096) (hn : n ≤ 260) (h : ¬ Int32.ofNat n ≤ Int32.ofNat j) : j < n := by
  rw [Int32.le_iff_toInt_le, ofN_int _ hj, ofN_int _ (by omega)] at h
  omega
theorem law_loop {Sim : LC → Prop} (hall : ∀ S p1, Sim S → ∃ S9, pL_plays S p1 S9 ∧ Sim S9) {p : Program} {l : Launch} {e : Env} {s : State} {m : MethodId} {args : Array Value} {below : List Frame} {meth : Method} {c : Code} {Q : State → Prop} {E : gE} {A : Nat → Prop} (F : gFx p s m args meth c RL wsL_law cL_law 4 (some .boolean) vwCl E A) {a : Nat → Nat → Nat} {n : Nat} {f : Nat → Int32} {b : Nat} (hX : va_X b n f s s.heap) (hbl : b < s.heap.size) (hbA : ¬ A b) (hn : n ≤ 260)
    (kend : ∀ (S : LC) (lv : List (Option Value)) (cells slots : Nat), cells ≤ 600086 → slots ≤ 7301442 → Gj p l e room_1 s m args below meth c cells slots Q vwCl E A (LWc E a S) lv [.int 1] 48) :
    ∀ (r j cells slots : Nat) (S : LC), j + r = 3 → Sim S → cells + 4210 * r ≤ 600086 → slots + 1200020 * r ≤ 7301442 → Gj p l e room_1 s m args below meth c cells slots Q vwCl E A (LWc E a S) [some (.ref b), some (.ref ((a 0) 0)), some (.int (Int32.ofNat n)), some (.int (Int32.ofNat j))] [] 13 := by
  intro r
  induction r with
  | zero =>
    intro j cells slots S h1 hs hc hsl
    have hj : j = 3 := by omega
    subst hj
    refine g_iload_n F dL_law_13 rfl ?_
    refine g_iload_n F dL_law_14 rfl ?_
    refine g_icmp_ge F 47 dL_law_15 (by decide) (fun _ => ?_) (fun _ => ?_)
    · refine g_iconst F 1 dL_law_47 rfl ?_
      exact kend S _ cells slots (by omega) (by omega)
    · refine g_iload_n F dL_law_18 rfl ?_
      refine g_iconst F 3 dL_law_19 rfl ?_
      refine g_icmp_ge F 47 dL_law_20 (by decide) (fun _ => ?_) (fun h => ?_)
      · refine g_iconst F 1 dL_law_47 rfl ?_
        exact kend S _ cells slots (by omega) (by omega)
      · exact absurd h (by decide)
  | succ r ih =>
    intro j cells slots S h1 hs hc hsl
    refine g_iload_n F dL_law_13 rfl ?_
    refine g_iload_n F dL_law_14 rfl ?_
    refine g_icmp_ge F 47 dL_law_15 (by decide) (fun _ => ?_) (fun hlt => ?_)
    · refine g_iconst F 1 dL_law_47 rfl ?_
      exact kend S _ cells slots (by omega) (by omega)
    have hjn := ofJ_lt j n (by omega) hn hlt
    have q0 := ofN_in j n (by omega) (by omega)
    refine g_iload_n F dL_law_18 rfl ?_
    refine g_iconst F 3 dL_law_19 rfl ?_
    refine g_icmp_ge F 47 dL_law_20 (by decide) (fun _ => ?_) (fun _ => ?_)
    · refine g_iconst F 1 dL_law_47 rfl ?_
      exact kend S _ cells slots (by omega) (by omega)
    refine g_aload_n F dL_law_23 rfl ?_
    refine g_iconst F 1 dL_law_24 rfl ?_
    refine g_newI (N' := 1) F (lcT_in 0 _ (List.mem_of_getElem? (i := 3) (by decide +kernel))) (by decide) (by decide) (by decide) (by show cells + 1 ≤ 600086; omega) (by show slots + _ ≤ 7301442; omega) dL_law_25 (fun q1 => ?_)
    refine g_dup F dL_law_27 rfl ?_
    refine g_iconst F 0 dL_law_28 rfl ?_
    refine g_aload_n F dL_law_29 rfl ?_
    refine g_iload_n F dL_law_30 rfl ?_
    refine g_sld F hX hbl hbA _ rfl q0 dL_law_31 ?_
    refine g_iast F 25 0 0 (by decide) rfl rfl (by decide) dL_law_32 rfl ?_
    obtain ⟨S9, hp9, h9⟩ := hall S (upd (fun _ => 0) 0 (f (Int32.ofNat j).toNatClampNeg)) hs
    obtain ⟨D_buffered', D_lastErrorAt', buffer', B_time', B_chest', B_fund', settings', sums', U', P', W', Pr_errorAt', Pr_length', Pr_next', Pr_errorCode', Pr_kind', Pr_tokenAt', Pr_letters', Pr_number', B2_time', B2_chest', B2_fund', settings2', sums2', U2', P2', W2', C', S', text', C2', S2', V', C3', S3', Hs', filled', p1', hp, rfl⟩ := hp9
    have hsl0 : 1200001 ≤ 1200020 * (r + 1) := Nat.le_trans (Nat.le_of_ble_eq_true rfl) (Nat.le_mul_of_pos_right 1200020 (Nat.succ_pos r))
    have hsl1 : slots + 1 + 1200000 ≤ 7301442 := by
      rw [Nat.add_assoc]
      exact Nat.le_trans (Nat.add_le_add_left hsl0 slots) hsl
    refine g_callS (Lr := []) (As := [.ref ((a 0) 0), .ref (q1 0)]) (rest := []) F 2 (ctL_plays l E (a 0) (a 1) (a 2) (a 3) (a 4) (a 5) (a 6) (a 7) (a 8) (a 9) (a 10) (a 11) (a 12) (a 13) (a 14) (a 15) (a 16) (a 17) (a 18) (a 19) (a 20) (a 21) (a 22) (a 23) (a 24) (a 25) q1 S.1 S.2.1 S.2.2.1 S.2.2.2.1 S.2.2.2.2.1 S.2.2.2.2.2.1 S.2.2.2.2.2.2.1 S.2.2.2.2.2.2.2.1 S.2.2.2.2.2.2.2.2.1 S.2.2.2.2.2.2.2.2.2.1 S.2.2.2.2.2.2.2.2.2.2.1 S.2.2.2.2.2.2.2.2.2.2.2.1 S.2.2.2.2.2.2.2.2.2.2.2.2.1 S.2.2.2.2.2.2.2.2.2.2.2.2.2.1 S.2.2.2.2.2.2.2.2.2.2.2.2.2.2.1 S.2.2.2.2.2.2.2.2.2.2.2.2.2.2.2.1 S.2.2.2.2.2.2.2.2.2.2.2.2.2.2.2.2.1 S.2.2.2.2.2.2.2.2.2.2.2.2.2.2.2.2.2.1 S.2.2.2.2.2.2.2.2.2.2.2.2.2.2.2.2.2.2.1 S.2.2.2.2.2.2.2.2.2.2.2.2.2.2.2.2.2.2.2.1 S.2.2.2.2.2.2.2.2.2.2.2.2.2.2.2.2.2.2.2.2.1 S.2.2.2.2.2.2.2.2.2.2.2.2.2.2.2.2.2.2.2.2.2.1 S.2.2.2.2.2.2.2.2.2.2.2.2.2.2.2.2.2.2.2.2.2.2.1 S.2.2.2.2.2.2.2.2.2.2.2.2.2.2.2.2.2.2.2.2.2.2.2.1 S.2.2.2.2.2.2.2.2.2.2.2.2.2.2.2.2.2.2.2.2.2.2.2.2.1 S.2.2.2.2.2.2.2.2.2.2.2.2.2.2.2.2.2.2.2.2.2.2.2.2.2.1 S.2.2.2.2.2.2.2.2.2.2.2.2.2.2.2.2.2.2.2.2.2.2.2.2.2.2.1 S.2.2.2.2.2.2.2.2.2.2.2.2.2.2.2.2.2.2.2.2.2.2.2.2.2.2.2.1 S.2.2.2.2.2.2.2.2.2.2.2.2.2.2.2.2.2.2.2.2.2.2.2.2.2.2.2.2.1 S.2.2.2.2.2.2.2.2.2.2.2.2.2.2.2.2.2.2.2.2.2.2.2.2.2.2.2.2.2.1 S.2.2.2.2.2.2.2.2.2.2.2.2.2.2.2.2.2.2.2.2.2.2.2.2.2.2.2.2.2.2.1 S.2.2.2.2.2.2.2.2.2.2.2.2.2.2.2.2.2.2.2.2.2.2.2.2.2.2.2.2.2.2.2.1 S.2.2.2.2.2.2.2.2.2.2.2.2.2.2.2.2.2.2.2.2.2.2.2.2.2.2.2.2.2.2.2.2.1 S.2.2.2.2.2.2.2.2.2.2.2.2.2.2.2.2.2.2.2.2.2.2.2.2.2.2.2.2.2.2.2.2.2.1 S.2.2.2.2.2.2.2.2.2.2.2.2.2.2.2.2.2.2.2.2.2.2.2.2.2.2.2.2.2.2.2.2.2.2.1 S.2.2.2.2.2.2.2.2.2.2.2.2.2.2.2.2.2.2.2.2.2.2.2.2.2.2.2.2.2.2.2.2.2.2.2.1 S.2.2.2.2.2.2.2.2.2.2.2.2.2.2.2.2.2.2.2.2.2.2.2.2.2.2.2.2.2.2.2.2.2.2.2.2 (upd (fun _ => 0) 0 (f (Int32.ofNat j).toNatClampNeg)) 1 D_buffered' D_lastErrorAt' buffer' B_time' B_chest' B_fund' settings' sums' U' P' W' Pr_errorAt' Pr_length' Pr_next' Pr_errorCode' Pr_kind' Pr_tokenAt' Pr_letters' Pr_number' B2_time' B2_chest' B2_fund' settings2' sums2' U2' P2' W2' C' S' text' C2' S2' V' C3' S3' Hs' filled' p1' hp) (va_cwS 2 F.2.2.2.2.2.1 gL_law_L_plays rfl rfl rfl h0L_plays ⟨Nat.le_of_ble_eq_true rfl, Nat.le_of_ble_eq_true rfl⟩) [0, 1, 2, 3, 4, 5, 6, 7, 8, 9, 10, 11, 12, 13, 14, 15, 16, 17, 18, 19, 20, 21, 22, 23, 24, 25] [] rfl rfl rfl rfl rfl rfl (Nat.le_of_ble_eq_true rfl) dL_law_33 ⟨by show cells + 1 + 4200 ≤ 600086; omega, by show slots + 1 + 1200000 ≤ 7301442; exact hsl1⟩ ?_
    rintro v w ⟨rfl, rfl, -⟩
    refine g_norm (Lw' := [sPD E (a 0) (a 1) (a 2) (a 3) (a 4) (a 5) (a 6) (a 7) (a 8) D_buffered' D_lastErrorAt', sArrB E (a 1) 600 buffer', sBook E (a 2) (a 9) (a 10) (a 11) (a 12) (a 13) B_time' B_chest' B_fund', sArrI E (a 9) 5 settings', sArrI E (a 10) 6 sums', sUsers E (a 11) U', sPieces E (a 12) P', sWords E (a 13) W', sPar E (a 3) (a 14) (a 15) (a 16) Pr_errorAt' Pr_length' Pr_next' Pr_errorCode' Pr_kind' Pr_tokenAt' Pr_letters' Pr_number', sBook E (a 14) (a 17) (a 18) (a 19) (a 20) (a 21) B2_time' B2_chest' B2_fund', sArrI E (a 17) 5 settings2', sArrI E (a 18) 6 sums2', sUsers E (a 19) U2', sPieces E (a 20) P2', sWords E (a 21) W2', sCut E (a 15) (a 22) C', sCutR E (a 22) S', sArrB E (a 16) 600 text', sCut E (a 4) (a 23) C2', sCutR E (a 23) S2', sAdv E (a 5) (a 24) V', sCut E (a 24) (a 25) C3', sCutR E (a 25) S3', sHist E (a 6) Hs', sArrZ E (a 8) 2 filled']) (st' := [.int 1]) (pc' := 36) [0, 1, 2, 3, 4, 5, 6, 7, 8, 9, 10, 11, 12, 13, 14, 15, 16, 17, 18, 19, 20, 21, 22, 23, 24] rfl rfl rfl rfl ?_
    refine g_ifne F 41 dL_law_36 (by decide) (fun _ => ?_) (fun h => ?_)
    · refine g_iinc F (Int32.ofNat (j + 1)) dL_law_41 rfl (by rw [show Int32.ofInt 1 = Int32.ofNat 1 from rfl, ofN_add]) rfl rfl ?_
      refine g_goto F 13 dL_law_44 (by decide) ?_
      exact ih (j + 1) _ _ (D_buffered', D_lastErrorAt', buffer', B_time', B_chest', B_fund', settings', sums', U', P', W', Pr_errorAt', Pr_length', Pr_next', Pr_errorCode', Pr_kind', Pr_tokenAt', Pr_letters', Pr_number', B2_time', B2_chest', B2_fund', settings2', sums2', U2', P2', W2', C', S', text', C2', S2', V', C3', S3', Hs', filled') (by omega) h9 (by omega) (by omega)
    · exact absurd h (by decide)

def S0 (kb : Nat → Nat → Nat → Nat) : LC := (0, (-1), (fun _ => 0), 0, 0, 0, (upd (fun _ => 0) 2 1), (fun _ => 0), dU, dP, dW, (-1), 0, 0, 0, 0, 0, 0, 0, 0, 0, 0, (upd (fun _ => 0) 2 1), (fun _ => 0), dU, dP, dW, dCut, (fun _ _ => 0), (fun _ => 0), dCut, (fun _ _ => 0), dAdv, dCut, (fun _ _ => 0), (0, kb, fun _ => dBk), (fun _ => 0))
theorem law_head {Sim : LC → Prop} (hall : ∀ S p1, Sim S → ∃ S9, pL_plays S p1 S9 ∧ Sim S9) (h00 : ∀ kb, Sim (S0 kb)) {p : Program} {l : Launch} {e : Env} {s : State} {m : MethodId} {args : Array Value} {below : List Frame} {meth : Method} {c : Code} {Q : State → Prop} {E : gE} {A : Nat → Prop} (F : gFx p s m args meth c RL wsL_law cL_law 4 (some .boolean) vwCl E A) {n : Nat} {f : Nat → Int32} {b : Nat} (hX : va_X b n f s s.heap) (hbl : b < s.heap.size) (hbA : ¬ A b) (hn : n ≤ 260)
    (kend : ∀ (a : Nat → Nat → Nat) (S : LC) (lv : List (Option Value)) (cells slots : Nat), cells ≤ 600086 → slots ≤ 7301442 → Gj p l e room_1 s m args below meth c cells slots Q vwCl E A (LWc E a S) lv [.int 1] 48) :
    Gj p l e room_1 s m args below meth c 0 0 Q vwCl E A [] [some (.ref b), none, none, none] [] 0 := by
  refine g_new (ci := 10) (C := RX9) (T := TX9) (N := 10) (tys := tyX9) F [.null, .int 0, .int 0, .null, .null, .null, .null, .null, .null, .null] inlX9 tyX9_ok (lcT_in 0 _ (List.mem_of_getElem? (i := 0) (by decide +kernel))) (lcT_in 0 _ (List.mem_of_getElem? (i := 1) (by decide +kernel))) (lcT_in 0 _ (List.mem_of_getElem? (i := 2) (by decide +kernel))) rfl (fun j hj => by rcases (show j = 0 ∨ j = 1 ∨ j = 2 ∨ j = 3 ∨ j = 4 ∨ j = 5 ∨ j = 6 ∨ j = 7 ∨ j = 8 ∨ j = 9 by omega) with rfl | rfl | rfl | rfl | rfl | rfl | rfl | rfl | rfl | rfl <;> rfl) (Nat.le_of_ble_eq_true rfl) (Nat.le_of_ble_eq_true rfl) dL_law_0 (fun q1 => ?_)
  refine g_norm (Lw' := [[(q1, .inr (10, [.null, .int 0, .int 0, .null, .null, .null, .null, .null, .null, .null]))]]) (st' := [.ref q1]) (pc' := 3) [0] rfl rfl rfl rfl ?_
  refine g_dup F dL_law_3 rfl ?_
  refine g_callI (Lr := []) (As := []) (rest := [.ref q1]) F 0 (ctX9_init l E q1) (cwI 0 F.2.2.2.2.2.1 gL_law_X9_init rfl rfl rfl (F.2.2.2.2.2.1 _ (lcT_in 0 _ (List.mem_of_getElem? (i := 2) (by decide +kernel)))) (F.2.2.2.2.2.1 _ (lcT_in 0 _ (List.mem_of_getElem? (i := 4) (by decide +kernel)))) (F.2.2.2.2.2.1 _ (lcT_in 0 _ (List.mem_of_getElem? (i := 5) (by decide +kernel)))) rfl (by decide +kernel) ⟨Nat.le_of_ble_eq_true rfl, Nat.le_of_ble_eq_true rfl⟩) [0] [] rfl rfl rfl rfl rfl rfl (Nat.le_of_ble_eq_true rfl) dL_law_4 ⟨Nat.le_of_ble_eq_true rfl, Nat.le_of_ble_eq_true rfl⟩ ?_
  rintro v w ⟨rfl, x_a, x_bu, x_b, x_pa, x_b2, x_c2, x_r2, x_t, x_c, x_r, x_v, x_c3, x_r3, x_h, x_kb, x_sl, x_sk, x_fi, rfl, rfl⟩
  refine g_norm (Lw' := LWc E (fun k => [x_a, x_bu, (x_b 0), x_pa, x_c, x_v, x_h, x_sl, x_fi, (x_b 1), (x_b 2), (x_b 3), (x_b 4), (x_b 5), (x_b2 0), x_c2, x_t, (x_b2 1), (x_b2 2), (x_b2 3), (x_b2 4), (x_b2 5), x_r2, x_r, x_c3, x_r3, (fun _ => 0)].getD k (fun _ => 0)) (S0 x_kb)) (st' := [.ref (x_a 0)]) (pc' := 7) [0, 1, 2, 3, 4, 5, 6, 7, 8, 9, 10, 11, 12, 13, 14, 15, 16, 17, 18, 19, 20, 21, 22, 23, 25] rfl rfl rfl rfl ?_
  refine g_astore_n F dL_law_7 (Nat.le_of_ble_eq_true rfl) rfl rfl ?_
  refine g_aload_n F dL_law_8 rfl ?_
  refine g_slen F hX hbl hbA dL_law_9 ?_
  refine g_istore_n F dL_law_10 (Nat.le_of_ble_eq_true rfl) rfl rfl ?_
  refine g_iconst F 0 dL_law_11 rfl ?_
  refine g_istore_n F dL_law_12 (Nat.le_of_ble_eq_true rfl) rfl rfl ?_
  exact law_loop hall F (a := (fun k => [x_a, x_bu, (x_b 0), x_pa, x_c, x_v, x_h, x_sl, x_fi, (x_b 1), (x_b 2), (x_b 3), (x_b 4), (x_b 5), (x_b2 0), x_c2, x_t, (x_b2 1), (x_b2 2), (x_b2 3), (x_b2 4), (x_b2 5), x_r2, x_r, x_c3, x_r3, (fun _ => 0)].getD k (fun _ => 0))) hX hbl hbA hn (kend _) 3 0 _ _ (S0 x_kb) rfl (h00 x_kb) (by omega) (by omega)
