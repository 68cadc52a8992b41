/-! a tick: the law's book against the abstract one -/
theorem gap_map {pl : Nat → List Nat} {q : Nat} {idx : List Nat} (h : q ∉ idx) : (gap q idx).map (sh pl q) = idx.map pl := by
  unfold gap
  rw [List.map_map]
  apply List.map_congr_left
  intro x hx
  show sh pl q (if q < x then x - 1 else x) = pl x
  have hne : x ≠ q := fun e => h (e ▸ hx)
  by_cases c : q < x
  · rw [if_pos c, sh_hi _ _ _ (by omega), show x - 1 + 1 = x by omega]
  · rw [if_neg c, sh_lo _ _ _ (by omega)]
theorem go_notin {A : aB} (hI : Inv A) {q : Nat} (hq : q < A.2.1.1) (hu : A.2.1.2.2.2.2.1 q = 0) {i : Nat} (hi : i < A.2.2.1.1) : q ∉ A.2.2.1.2.2.2 i := by
  have := cnt_le hI hi hq
  rw [hu] at this
  exact List.count_eq_zero.mp (by omega)
theorem lW_send {A : aB} (hI : Inv A) {q : Nat} (hq : q < A.2.1.1) (hg : aGo A q) {n : Int32} {user word cut : Nat → Int32} (h : lW A.2.2.1 A.2.1.2.1 n user word cut) : lW (aSend A q).2.2.1 (aSend A q).2.1.2.1 n user word cut := by
  refine ⟨h.1, fun i hi => ?_⟩
  have hi' : i < A.2.2.1.1 := hi
  obtain ⟨a, b, c⟩ := h.2 i hi'
  refine ⟨a, b, ?_⟩
  show cut i = Int32.ofNat (setL (A.2.2.1.2.1 i).length 0 (((gap q (A.2.2.1.2.2.2 i)).map (sh A.2.1.2.1 q)).map List.length))
  rw [gap_map (go_notin hI hq hg.2.1 hi')]
  exact c
theorem lW_tk : ∀ (d q : Nat) (A : aB), A.2.1.1 = q + d → Inv A → ∀ {n : Int32} {user word cut : Nat → Int32}, lW A.2.2.1 A.2.1.2.1 n user word cut → lW (aTk d q A).2.2.1 (aTk d q A).2.1.2.1 n user word cut
  | 0, q, A, _, _, _, _, _, _, h => h
  | d + 1, q, A, e, hI, _, _, _, _, h => by
    unfold aTk
    by_cases g : A.2.1.2.2.2.1 q ≠ M1 ∧ A.2.1.2.2.2.2.1 q = 0 ∧ ¬ (A.2.2.2.2.2.1 - A.2.1.2.2.2.2.2 q ≤ Int32.ofNat (A.2.2.2.1 3))
    · rw [if_pos g]
      exact lW_tk d q (aSend A q) (by show A.2.1.1 - 1 = q + d; omega) (Inv_send hI (by omega) g) (lW_send hI (by omega) g h)
    · rw [if_neg g]
      exact lW_tk d (q + 1) A (by omega) hI h
/-- one piece stands at one place of the law's rows -/
def rP (p : aPs) (m : Nat) (code paid owner uses idle : Nat → Int32) (x : Nat) : Prop := code x = Int32.ofNat (cd (p.2.1 m)) ∧ paid x = Int32.ofNat (p.2.2.1 m) ∧ owner x = p.2.2.2.1 m ∧ uses x = Int32.ofNat (p.2.2.2.2.1 m) ∧ (p.2.2.2.2.1 m = 0 → idle x = p.2.2.2.2.2 m)
def tkJ (A : aB) (q j d : Nat) (chest : Int32) (coins accounts code paid owner uses idle : Nat → Int32) : Prop :=
  A.2.1.1 = q + d ∧ q ≤ j ∧ (∀ m, m < q → rP A.2.1 m code paid owner uses idle m) ∧ (∀ k, k < d → rP A.2.1 (q + k) code paid owner uses idle (j + k)) ∧ (∀ u, u < A.1.1 → coins u = Int32.ofNat (A.1.2.2 u)) ∧ (∀ i, i < 6 → accounts i = A.2.2.2.2.1 i) ∧ chest = A.2.2.2.2.2.2.1
theorem rP_upd {p : aPs} {m q j x : Nat} {code paid owner uses idle : Nat → Int32} (h : rP p m code paid owner uses idle x) (hx : x ≠ q) : rP p m (upd code q (code j)) (upd paid q (paid j)) (upd owner q (owner j)) (upd uses q (uses j)) (upd idle q (idle j)) x := by
  unfold rP
  rw [upd_ne _ _ _ _ hx, upd_ne _ _ _ _ hx, upd_ne _ _ _ _ hx, upd_ne _ _ _ _ hx, upd_ne _ _ _ _ hx]
  exact h
theorem rP_cpy {p : aPs} {m q j : Nat} {code paid owner uses idle : Nat → Int32} (h : rP p m code paid owner uses idle j) : rP p m (upd code q (code j)) (upd paid q (paid j)) (upd owner q (owner j)) (upd uses q (uses j)) (upd idle q (idle j)) q := by
  unfold rP
  rw [upd_eq, upd_eq, upd_eq, upd_eq, upd_eq]
  exact h
theorem rP_lo {p : aPs} {m q x : Nat} {code paid owner uses idle : Nat → Int32} (h : rP p m code paid owner uses idle x) (hm : m < q) : rP (pDrop p q) m code paid owner uses idle x := by
  unfold rP pDrop
  simp only [sh_lo _ _ _ hm]
  exact h
theorem rP_hi {p : aPs} {m q x : Nat} {code paid owner uses idle : Nat → Int32} (h : rP p (m + 1) code paid owner uses idle x) (hm : q ≤ m) : rP (pDrop p q) m code paid owner uses idle x := by
  unfold rP pDrop
  simp only [sh_hi _ _ _ hm]
  exact h
section ZTK
variable {T keep refund : Int32} {np0 : Nat}
theorem z_tick_L (hnp : np0 ≤ 24) : ∀ (d m q j g : Nat) (A : aB) (chest : Int32) (coins accounts code paid owner uses idle : Nat → Int32), j + d = np0 → d < m → g ≤ j → Inv A → A.2.2.2.2.2.1 = T → keep = Int32.ofNat (A.2.2.2.1 3) → refund = Int32.ofNat (A.2.2.2.1 4) → tkJ A q j d chest coins accounts code paid owner uses idle →
    Ok (fX10_tick_L16 keep refund (Int32.ofNat np0) T (fun x1 x2 chest coins accounts code paid owner uses idle => some (x2, x1, T, chest, coins, accounts, code, paid, owner, uses, idle)) m (Int32.ofNat q) (Int32.ofNat g) (Int32.ofNat j) chest coins accounts code paid owner uses idle) (fun r => r.1 = Int32.ofNat (g + (A.2.1.1 - (aTk d q A).2.1.1)) ∧ r.2.2.1 = T ∧ lP (aTk d q A).2.1 r.2.1 r.2.2.2.2.2.2.1 r.2.2.2.2.2.2.2.1 r.2.2.2.2.2.2.2.2.1 r.2.2.2.2.2.2.2.2.2.1 r.2.2.2.2.2.2.2.2.2.2 ∧ (∀ u, u < (aTk d q A).1.1 → r.2.2.2.2.1 u = Int32.ofNat ((aTk d q A).1.2.2 u)) ∧ (∀ i, i < 6 → r.2.2.2.2.2.1 i = (aTk d q A).2.2.2.2.1 i) ∧ r.2.2.2.1 = (aTk d q A).2.2.2.2.2.2.1) := by
  intro d
  induction d with
  | zero =>
    intro m q j g A chest coins accounts code paid owner uses idle e hm hg hI hT hk hr hj
    obtain ⟨m, rfl⟩ : ∃ x, m = x + 1 := ⟨m - 1, by omega⟩
    obtain ⟨j1, j2, j3, j4, j5, j6, j7⟩ := hj
    rw [fX10_tick_L16, if_pos (by rw [J_le _ _ (by omega) (by omega)]; omega)]
    refine ok_some ⟨?_, rfl, ⟨?_, fun x hx => ?_⟩, j5, j6, j7⟩
    · show Int32.ofNat g = Int32.ofNat (g + (A.2.1.1 - A.2.1.1))
      rw [Nat.sub_self, Nat.add_zero]
    · show Int32.ofNat q = Int32.ofNat A.2.1.1
      rw [j1, Nat.add_zero]
    · have hx' : x < A.2.1.1 := hx
      exact j3 x (by omega)
  | succ d ih =>
    intro m q j g A chest coins accounts code paid owner uses idle e hm hg hI hT hk hr hj
    obtain ⟨m, rfl⟩ : ∃ x, m = x + 1 := ⟨m - 1, by omega⟩
    have hj0 := hj
    obtain ⟨j1, j2, j3, j4, j5, j6, j7⟩ := hj
    have hI0 := hI
    obtain ⟨i1, i2, i3, i4, i5, i6⟩ := hI
    obtain ⟨p1, p2, p3, p4, p5⟩ := i2.2 q (by omega)
    have hju := j4 0 (by omega)
    rw [Nat.add_zero, Nat.add_zero] at hju
    obtain ⟨r1, r2, r3, r4, r5⟩ := hju
    have hub := Inv_ub hI0 q (by omega)
    have hxj := setIx (show j < 25 by omega) (by decide)
    have hxj' := setIx' (show j < 25 by omega) (by decide)
    have hxq := setIx (show q < 25 by omega) (by decide)
    rw [fX10_tick_L16, if_neg (by rw [J_le _ _ (by omega) (by omega)]; omega), if_neg hxj]
    simp only [Lt_eq]
    -- the road that keeps the piece
    have keepIt : ¬ aGo A q → Ok (if Int32.ofNat j < 0 ∨ 25 ≤ (Int32.ofNat j).toNatClampNeg then none else if Int32.ofNat q < 0 ∨ 25 ≤ (Int32.ofNat q).toNatClampNeg then none else if Int32.ofNat j < 0 ∨ 25 ≤ (Int32.ofNat j).toNatClampNeg then none else if Int32.ofNat q < 0 ∨ 25 ≤ (Int32.ofNat q).toNatClampNeg then none else if Int32.ofNat j < 0 ∨ 25 ≤ (Int32.ofNat j).toNatClampNeg then none else if Int32.ofNat q < 0 ∨ 25 ≤ (Int32.ofNat q).toNatClampNeg then none else if Int32.ofNat j < 0 ∨ 25 ≤ (Int32.ofNat j).toNatClampNeg then none else if Int32.ofNat q < 0 ∨ 25 ≤ (Int32.ofNat q).toNatClampNeg then none else if Int32.ofNat j < 0 ∨ 25 ≤ (Int32.ofNat j).toNatClampNeg then none else if Int32.ofNat q < 0 ∨ 25 ≤ (Int32.ofNat q).toNatClampNeg then none else fX10_tick_L16 keep refund (Int32.ofNat np0) T (fun x1 x2 chest coins accounts code paid owner uses idle => some (x2, x1, T, chest, coins, accounts, code, paid, owner, uses, idle)) m (Int32.ofNat q + 1) (Int32.ofNat g) (Int32.ofNat j + 1) chest coins accounts (upd code (Int32.ofNat q).toNatClampNeg (code (Int32.ofNat j).toNatClampNeg)) (upd paid (Int32.ofNat q).toNatClampNeg (paid (Int32.ofNat j).toNatClampNeg)) (upd owner (Int32.ofNat q).toNatClampNeg (owner (Int32.ofNat j).toNatClampNeg)) (upd uses (Int32.ofNat q).toNatClampNeg (uses (Int32.ofNat j).toNatClampNeg)) (upd idle (Int32.ofNat q).toNatClampNeg (idle (Int32.ofNat j).toNatClampNeg))) (fun r => r.1 = Int32.ofNat (g + (A.2.1.1 - (aTk (d + 1) q A).2.1.1)) ∧ r.2.2.1 = T ∧ lP (aTk (d + 1) q A).2.1 r.2.1 r.2.2.2.2.2.2.1 r.2.2.2.2.2.2.2.1 r.2.2.2.2.2.2.2.2.1 r.2.2.2.2.2.2.2.2.2.1 r.2.2.2.2.2.2.2.2.2.2 ∧ (∀ u, u < (aTk (d + 1) q A).1.1 → r.2.2.2.2.1 u = Int32.ofNat ((aTk (d + 1) q A).1.2.2 u)) ∧ (∀ i, i < 6 → r.2.2.2.2.2.1 i = (aTk (d + 1) q A).2.2.2.2.1 i) ∧ r.2.2.2.1 = (aTk (d + 1) q A).2.2.2.2.2.2.1) := by
      intro hgo
      have et : aTk (d + 1) q A = aTk d (q + 1) A := by
        rw [aTk]
        exact if_neg hgo
      rw [if_neg hxj, if_neg hxq, if_neg hxj, if_neg hxq, if_neg hxj, if_neg hxq, if_neg hxj, if_neg hxq, if_neg hxj, if_neg hxq, et, i_1, J_add, J_add, J_nat q (by omega), J_nat j (by omega)]
      refine ih m (q + 1) (j + 1) g A chest coins accounts _ _ _ _ _ (by omega) (by omega) (by omega) hI0 hT hk hr ⟨by omega, by omega, fun x hx => ?_, fun k hk => ?_, j5, j6, j7⟩
      · by_cases c : x = q
        · subst c
          exact rP_cpy ⟨r1, r2, r3, r4, r5⟩
        · exact rP_upd (j3 x (by omega)) c
      · have h9 := j4 (k + 1) (by omega)
        rw [show q + 1 + k = q + (k + 1) by omega, show j + 1 + k = j + (k + 1) by omega]
        exact rP_upd h9 (by omega)
    rw [J_nat j (by omega)]
    rw [J_nat j (by omega)] at keepIt
    rw [r3] at keepIt ⊢
    rcases p5 with c0 | ⟨u, hu, c0⟩
    · rw [c0] at keepIt ⊢
      rw [if_pos (by decide)]
      exact keepIt (fun z => z.1 c0)
    · have hiU : A.1.1 ≤ 4 := i1.1
      rw [c0] at keepIt ⊢
      rw [r4] at keepIt ⊢
      rw [if_neg (by rw [J_neg _ (by omega)]; exact id), if_neg hxj']
      have hM : A.2.1.2.2.2.1 q ≠ M1 := by
        rw [c0]
        intro z
        have := J_ne1 u (by omega)
        rw [z] at this
        exact this.mp rfl
      by_cases c1 : A.2.1.2.2.2.2.1 q = 0
      · rw [r5 c1] at keepIt ⊢
        rw [if_pos (by rw [c1]; rfl), if_neg hxj']
        by_cases c2 : T - A.2.1.2.2.2.2.2 q ≤ keep
        · rw [if_pos c2]
          exact keepIt (fun z => z.2.2 (by rw [hT, ← hk]; exact c2))
        · rw [if_neg c2, if_neg hxj', r2, hr]
          have hgo : aGo A q := ⟨hM, c1, by rw [hT, ← hk]; exact c2⟩
          have et : aTk (d + 1) q A = aTk d q (aSend A q) := by
            rw [aTk]
            exact if_pos hgo
          have hux := setIx (show u < 4 by omega) (by decide)
          have h4 : A.2.2.2.1 4 ≤ 100 := i5.2.2.2.2.2
          have hpd : A.2.1.2.2.1 q * A.2.2.2.1 4 ≤ 1000 * 100 := Nat.mul_le_mul p4 h4
          rw [if_neg hxj', if_neg hux, if_neg hux, J_mul, i_100, J_div _ _ (by omega) (by omega), J_nat u (by omega), i_1, J_add, J_add, et, ← i_1, ← hr]
          have hsz : (aSend A q).2.1.1 = A.2.1.1 - 1 := rfl
          have hle := (Inv_tk d q (aSend A q) (by rw [hsz]; omega) (Inv_send hI0 (by omega) hgo)).2.1
          have := ih m q (j + 1) (g + 1) (aSend A q) (chest - Int32.ofNat (A.2.1.2.2.1 q * A.2.2.2.1 4 / 100)) (upd coins u (coins u + Int32.ofNat (A.2.1.2.2.1 q * A.2.2.2.1 4 / 100))) (upd (upd accounts 1 (accounts 1 + Int32.ofNat (A.2.1.2.2.1 q * A.2.2.2.1 4 / 100))) 5 (upd accounts 1 (accounts 1 + Int32.ofNat (A.2.1.2.2.1 q * A.2.2.2.1 4 / 100)) 5 + 1)) code paid owner uses idle (by omega) (by omega) (by omega) (Inv_send hI0 (by omega) hgo) hT hk hr ⟨by rw [hsz]; omega, by omega, fun x hx => rP_lo (j3 x hx) hx, fun k hk => ?_, fun x hx => ?_, ?_, ?_⟩
          · obtain ⟨r, er, q1, q2, q3, q4, q5, q6⟩ := this
            refine ⟨r, er, ?_, q2, q3, q4, q5, q6⟩
            rw [q1]
            congr 1
            rw [hsz]
            rw [hsz] at hle
            omega
          · have h9 := j4 (k + 1) (by omega)
            rw [show j + 1 + k = j + (k + 1) by omega]
            exact rP_hi (m := q + k) (by rw [show q + k + 1 = q + (k + 1) by omega]; exact h9) (by omega)
          · show upd coins u _ x = Int32.ofNat (up A.1.2.2 (A.2.1.2.2.2.1 q).toNatClampNeg _ x)
            rw [c0, J_nat u (by omega)]
            by_cases c : x = u
            · rw [c, upd_eq, up_eq, j5 u hu, J_add]
            · rw [upd_ne _ _ _ _ c, up_ne _ _ _ _ c]
              exact j5 x hx
          · have s1 := sAdd_of j6 (k := 1) (by omega) (A.2.1.2.2.1 q * A.2.2.2.1 4 / 100)
            exact sAdd_of s1 (k := 5) (by omega) 1
          · rw [j7]
            rfl
      · rw [if_neg (by rw [J_eq0 _ (by omega)]; exact c1)]
        exact keepIt (fun z => c1 z.2.1)
end ZTK
theorem aTk_us : ∀ (d q : Nat) (A : aB), (aTk d q A).1.1 = A.1.1
  | 0, _, _ => rfl
  | d + 1, q, A => by
    unfold aTk
    split
    · rw [aTk_us d q (aSend A q)]
      rfl
    · exact aTk_us d (q + 1) A
theorem z_tick {A : aB} {price letter deposit keep refund users pieces words time chest fund : Int32} {coins accounts code paid owner uses idle user word cut : Nat → Int32} (hB : lB A price letter deposit keep refund users pieces words time chest fund coins accounts code paid owner uses idle user word cut) (hI : Inv A) :
    Ok (fX10_tick keep refund pieces time chest coins accounts code paid owner uses idle) (fun r => r.1 = Int32.ofNat (A.2.1.1 - (aTk A.2.1.1 0 (aTime A)).2.1.1) ∧ lB (aTk A.2.1.1 0 (aTime A)) price letter deposit keep refund users r.2.1 words r.2.2.1 r.2.2.2.1 fund r.2.2.2.2.1 r.2.2.2.2.2.1 r.2.2.2.2.2.2.1 r.2.2.2.2.2.2.2.1 r.2.2.2.2.2.2.2.2.1 r.2.2.2.2.2.2.2.2.2.1 r.2.2.2.2.2.2.2.2.2.2 user word cut) := by
  obtain ⟨⟨b1, b2, b3, b4, b5⟩, b6, b7, b8, b9, b10, b11, b12, b13⟩ := hB
  have hT : (aTime A).2.2.2.2.2.1 = time + 1 := by
    rw [b11]
    rfl
  have hI2 := Inv_time hI
  have h := z_tick_L (T := time + 1) (keep := keep) (refund := refund) (np0 := A.2.1.1) hI.2.1.1 A.2.1.1 FU 0 0 0 (aTime A) chest coins accounts code paid owner uses idle (by omega) (by have := hI.2.1.1; simp only [FU]; omega) (Nat.le_refl _) hI2 hT b4 b5 ⟨by rw [Nat.zero_add]; rfl, Nat.le_refl _, fun m hm => absurd hm (Nat.not_lt_zero m), fun k hk => by rw [Nat.zero_add]; exact b8.2 k hk, b7, b10, b12⟩
  obtain ⟨t1, t2, t3, t4, t5⟩ := Inv_tk A.2.1.1 0 (aTime A) (by rw [Nat.zero_add]; rfl) hI2
  obtain ⟨r, er, q1, q2, q3, q4, q5, q6⟩ := h
  refine ⟨r, ?_, ?_, ⟨?_, ?_, ?_, ?_, ?_⟩, ?_, q4, q3, lW_tk _ _ _ (by rw [Nat.zero_add]; rfl) hI2 b9, q5, ?_, q6, ?_⟩
  · rw [fX10_tick, b8.1]
    exact er
  · rw [q1, Nat.zero_add]
    rfl
  · rw [t3]; exact b1
  · rw [t3]; exact b2
  · rw [t3]; exact b3
  · rw [t3]; exact b4
  · rw [t3]; exact b5
  · rw [aTk_us, b6]
    rfl
  · rw [q2, t4, hT]
  · rw [t5]; exact b13
