/-! ticks, words made up, checks: the class -/
def aTime (A : aB) : aB := (A.1, A.2.1, A.2.2.1, A.2.2.2.1, A.2.2.2.2.1, A.2.2.2.2.2.1 + 1, A.2.2.2.2.2.2.1, A.2.2.2.2.2.2.2)
def aTk : Nat → Nat → aB → aB
  | 0, _, A => A
  | d + 1, q, A => if A.2.1.2.2.2.1 q ≠ M1 ∧ A.2.1.2.2.2.2.1 q = 0 ∧ ¬ (A.2.2.2.2.2.1 - A.2.1.2.2.2.2.2 q ≤ Int32.ofNat (A.2.2.2.1 3)) then aTk d q (aSend A q) else aTk d (q + 1) A
theorem Inv_time {A : aB} (h : Inv A) : Inv (aTime A) := h
theorem Inv_tk : ∀ (d q : Nat) (A : aB), A.2.1.1 = q + d → Inv A → Inv (aTk d q A) ∧ (aTk d q A).2.1.1 ≤ A.2.1.1 ∧ (aTk d q A).2.2.2.1 = A.2.2.2.1 ∧ (aTk d q A).2.2.2.2.2.1 = A.2.2.2.2.2.1 ∧ (aTk d q A).2.2.2.2.2.2.2 = A.2.2.2.2.2.2.2
  | 0, q, A, _, h => ⟨h, Nat.le_refl _, rfl, rfl, rfl⟩
  | d + 1, q, A, hd, h => by
    rw [aTk]
    split
    · rename_i g
      have hn : (aSend A q).2.1.1 = A.2.1.1 - 1 := rfl
      have := Inv_tk d q (aSend A q) (by rw [hn]; omega) (Inv_send h (by omega) g)
      refine ⟨this.1, ?_, this.2.2.1, this.2.2.2.1, this.2.2.2.2⟩
      have h2 := this.2.1
      rw [hn] at h2
      omega
    · exact Inv_tk d (q + 1) A (by omega) h
theorem w_24 {A : aB} (h : Inv A) : ∀ j, j < A.2.2.1.1 → ∀ x ∈ A.2.2.1.2.2.2 j, x < 24 := fun j hj x hx => by
  have h1 := (h.2.2.1.2 j hj).2.1 x hx
  have h2 := h.2.1.1
  omega
theorem c_tick_L {settings : Nat → Int32} {time fund : Int32} {before : Nat} (hb : before ≤ 24) {k : Int32 → (Nat → Int32) → tUsers → tPieces → tWords → Option (Int32 × Int32 × Int32 × (Nat → Int32) × tUsers × tPieces × tWords)} {Q : Int32 × Int32 × Int32 × (Nat → Int32) × tUsers × tPieces × tWords → Prop} : ∀ (d q seen n : Nat) (A : aB) (chest : Int32) (sums : Nat → Int32) (U : tUsers) (P : tPieces) (W : tWords), A.2.1.1 = q + d → seen + d = before → d < n → Inv A → cB A time chest fund settings sums U P W → (∀ c s U P W, cB (aTk d q A) time c fund settings s U P W → Ok (k c s U P W) Q) → Ok (fX1_passTick_L22 (Int32.ofNat before) time settings k n (Int32.ofNat q) (Int32.ofNat seen) chest sums U P W) Q
  | d, q, seen, 0, A, chest, sums, U, P, W, _, _, h, _, _, _ => by omega
  | 0, q, seen, n + 1, A, chest, sums, U, P, W, h1, h2, _, hI, hB, hk => by
    rw [fX1_passTick_L22, if_pos (by rw [J_le _ _ (by omega) (by omega)]; omega)]
    exact hk chest sums U P W hB
  | d + 1, q, seen, n + 1, A, chest, sums, U, P, W, h1, h2, h3, hI, hB, hk => by
    obtain ⟨b1, b2, b3, b4, b5, b6, b7, b8⟩ := id hB
    have h24 := hI.2.1.1
    have hq : q < A.2.1.1 := by omega
    have hub := uses_bd hI hq
    have e : fX6_goesBack (Int32.ofNat q) time (settings 3) P = some (if A.2.1.2.2.2.1 q ≠ M1 ∧ A.2.1.2.2.2.2.1 q = 0 ∧ ¬ (A.2.2.2.2.2.1 - A.2.1.2.2.2.2.2 q ≤ Int32.ofNat (A.2.2.2.1 3)) then Int32.ofNat 1 else Int32.ofNat 0) := by
      have := c_goesBack b2 h24 hq (by omega) time (settings 3)
      rw [b4 3 (by omega), b6] at this ⊢
      exact this
    rw [fX1_passTick_L22, if_neg (by rw [J_le _ _ (by omega) (by omega)]; omega), if_neg (by rw [b2.1, J_le _ _ (by omega) (by omega)]; omega), e, gb1_some]
    rw [aTk] at hk
    by_cases hg : A.2.1.2.2.2.1 q ≠ M1 ∧ A.2.1.2.2.2.2.1 q = 0 ∧ ¬ (A.2.2.2.2.2.1 - A.2.1.2.2.2.2.2 q ≤ Int32.ofNat (A.2.2.2.1 3))
    rotate_left
    · rw [if_neg hg] at hk
      rw [if_neg hg, if_pos (show Int32.ofNat 0 = 0 from rfl), i_1, J_add, J_add]
      exact c_tick_L hb d (q + 1) (seen + 1) n A chest sums U P W (by omega) (by omega) (by omega) hI hB hk
    · rw [if_pos hg] at hk
      rw [if_pos hg, if_neg (show ¬ (Int32.ofNat 1 = 0) by decide)]
      obtain ⟨_, _, _, pd, po⟩ := hI.2.1.2 q hq
      obtain ⟨u, hu, eu⟩ := po.resolve_left hg.1
      apply ok_gb5
      refine ok_mono (c_sendBack hB hI.1.1 h24 hI.2.2.1.1 (fun j hj => iW_len hI hj) (w_24 hI) hI.2.2.2.2.1.2.2.2.2.2 hq pd hu eu) ?_
      rintro ⟨c1, s1, U1, P1, W1⟩ hB1
      rw [i_1, J_add]
      have hn : (aSend A q).2.1.1 = A.2.1.1 - 1 := rfl
      exact c_tick_L hb d q (seen + 1) n (aSend A q) c1 s1 U1 P1 W1 (by rw [hn]; omega) (by omega) (by omega) (Inv_send hI hq hg) hB1 hk
theorem c_passTick {A : aB} {time chest fund : Int32} {settings sums : Nat → Int32} {U : tUsers} {P : tPieces} {W : tWords} (hB : cB A time chest fund settings sums U P W) (hI : Inv A) : Ok (fX1_passTick time chest settings sums U P W) (fun r => r.1 = Int32.ofNat (A.2.1.1 - (aTk A.2.1.1 0 (aTime A)).2.1.1) ∧ cB (aTk A.2.1.1 0 (aTime A)) r.2.1 r.2.2.1 fund settings r.2.2.2.1 r.2.2.2.2.1 r.2.2.2.2.2.1 r.2.2.2.2.2.2) := by
  obtain ⟨b1, b2, b3, b4, b5, b6, b7, b8⟩ := id hB
  have h24 := hI.2.1.1
  rw [fX1_passTick, b2.1]
  have hB2 : cB (aTime A) (time + 1) chest fund settings sums U P W := ⟨b1, b2, b3, b4, b5, by rw [b6]; rfl, b7, b8⟩
  refine c_tick_L h24 A.2.1.1 0 0 FU (aTime A) chest sums U P W (by simp only [aTime]; omega) (by omega) (by simp only [FU]; omega) (Inv_time hI) hB2 ?_
  intro c s U1 P1 W1 h
  have hle := (Inv_tk A.2.1.1 0 (aTime A) (by simp only [aTime]; omega) (Inv_time hI)).2.1
  have hle2 : (aTk A.2.1.1 0 (aTime A)).2.1.1 ≤ A.2.1.1 := hle
  refine ok_some ⟨?_, h⟩
  rw [h.2.1.1, J_sub _ _ hle2]
/-! words made up -/
theorem jn_take_len (pl : Nat → List Nat) (idx : List Nat) (j : Nat) : (jn pl (idx.take j)).length ≤ (jn pl idx).length := by
  have e : jn pl idx = jn pl (idx.take j) ++ jn pl (idx.drop j) := by
    unfold jn
    rw [← List.flatten_append, ← List.map_append, List.take_append_drop]
  rw [e, List.length_append]
  omega
theorem c_madeUp_L {p : aPs} {P : tPieces} {w : aWs} {W : tWords} (hP : cP p P) (hn : p.1 ≤ 24) (hW : cW w W) (hw16 : w.1 ≤ 16) (hr : okP p) {i : Nat} (hi : i < w.1) (hl : (w.2.2.2 i).length ≤ 12) (hq : ∀ q ∈ w.2.2.2 i, q < p.1) (hj12 : (jn p.2.1 (w.2.2.2 i)).length ≤ 12) (k : Int64 → Option Int64) : ∀ (d j n : Nat), j + d = (w.2.2.2 i).length → d < n → fX1_madeUp_L8 (Int32.ofNat i) P W k n (L64 (jn p.2.1 ((w.2.2.2 i).take j))) (Int32.ofNat (jn p.2.1 ((w.2.2.2 i).take j)).length) (Int32.ofNat j) = k (L64 (jn p.2.1 (w.2.2.2 i)))
  | d, j, 0, _, h2 => by omega
  | 0, j, n + 1, h1, _ => by
    obtain ⟨_, _, e2, _⟩ := hW.2 i hi
    rw [List.take_of_length_le (by omega), fX1_madeUp_L8, if_neg (by rw [i_0, J_lt _ _ (by omega) (by omega), J_nat _ (by omega)]; omega), J_nat _ (by omega), e2, if_pos (by rw [J_le _ _ (by omega) (by omega)]; omega)]
  | d + 1, j, n + 1, h1, h2 => by
    obtain ⟨_, _, e2, _⟩ := hW.2 i hi
    have hj : j < (w.2.2.2 i).length := by omega
    have hqj := hq _ (List.getElem_mem hj)
    obtain ⟨f0, _⟩ := hP.2 _ hqj
    obtain ⟨g1, g2⟩ := hr _ hqj
    have et : jn p.2.1 ((w.2.2.2 i).take (j + 1)) = jn p.2.1 ((w.2.2.2 i).take j) ++ p.2.1 ((w.2.2.2 i)[j]) := by
      unfold jn
      rw [List.take_succ_eq_append_getElem hj, List.map_append, List.flatten_append, List.map_singleton, List.flatten_cons, List.flatten_nil, List.append_nil]
    have h12 := jn_take_len p.2.1 (w.2.2.2 i) (j + 1)
    rw [et, List.length_append] at h12
    have hwf : wf (jn p.2.1 ((w.2.2.2 i).take j)) := jn_wf (fun q hq => (hr q hq).1) (fun q hqq => hq q (List.mem_of_mem_take hqq))
    rw [fX1_madeUp_L8, if_neg (by rw [i_0, J_lt _ _ (by omega) (by omega), J_nat _ (by omega)]; omega), J_nat _ (by omega), e2, if_neg (by rw [J_le _ _ (by omega) (by omega)]; omega), c_partAt hW hw16 hi hj hl, gb1_some, if_neg (by rw [i_0, J_lt _ _ (by omega) (by omega)]; omega), if_pos (by rw [hP.1, J_lt _ _ (by omega) (by omega)]; omega), if_neg (by rw [i_0, J_lt _ _ (by omega) (by omega), J_nat _ (by omega)]; omega), J_nat _ (by omega), f0, c_join hwf g1 (by omega), gb1_some, if_neg (by rw [i_0, J_lt _ _ (by omega) (by omega)]; omega), c_lengthOf g1 g2, gb1_some, J_add, i_1, J_add, ← List.length_append, ← et]
    exact c_madeUp_L hP hn hW hw16 hr hi hl hq hj12 k d (j + 1) n (by omega) (by omega)
theorem c_madeUp {A : aB} {P : tPieces} {W : tWords} (hP : cP A.2.1 P) (hW : cW A.2.2.1 W) (hI : Inv A) {i : Nat} (hi : i < A.2.2.1.1) : fX1_madeUp (Int32.ofNat i) P W = some (L64 (A.2.2.1.2.1 i)) := by
  obtain ⟨_, a2, a3, _, a5⟩ := hI.2.2.1.2 i hi
  have := iW_len hI hi
  have e := c_madeUp_L hP hI.2.1.1 hW hI.2.2.1.1 (okP_Inv hI) hi this a2 (by rw [← a3]; exact a5) (fun x => some x) (A.2.2.1.2.2.2 i).length 0 FU (by omega) (by simp only [FU]; omega)
  rw [a3]
  exact e
theorem c_wordsMade_L {A : aB} {P : tPieces} {W : tWords} (hP : cP A.2.1 P) (hW : cW A.2.2.1 W) (hI : Inv A) (k : Option Int32) : ∀ (d j n : Nat), j + d = A.2.2.1.1 → d < n → fX1_wordsAreMadeUp_L2 P W k n (Int32.ofNat j) = k
  | d, j, 0, _, h2 => by omega
  | 0, j, n + 1, h1, _ => by
    have := hI.2.2.1.1
    rw [fX1_wordsAreMadeUp_L2, if_pos (by rw [hW.1, J_le _ _ (by omega) (by omega)]; omega)]
  | d + 1, j, n + 1, h1, h2 => by
    have := hI.2.2.1.1
    have hj : j < A.2.2.1.1 := by omega
    obtain ⟨e0, _⟩ := hW.2 j hj
    rw [fX1_wordsAreMadeUp_L2, if_neg (by rw [hW.1, J_le _ _ (by omega) (by omega)]; omega), c_madeUp hP hW hI hj, gb1_some, if_neg (by rw [i_0, J_lt _ _ (by omega) (by omega), J_nat _ (by omega)]; omega), J_nat _ (by omega), e0, if_pos (by rw [cmp0]), i_1, J_add]
    exact c_wordsMade_L hP hW hI k d (j + 1) n (by omega) (by omega)
theorem c_uses17 {A : aB} {W : tWords} (hW : cW A.2.2.1 W) (hI : Inv A) (q : Nat) (hq : q < 24) (k : Int32 → Option Int32) : ∀ (d j n acc : Nat), j + d = A.2.2.1.1 → d < n → fX1_usesAreTrue_L17 (Int32.ofNat q) W k n (Int32.ofNat acc) (Int32.ofNat j) = k (Int32.ofNat (acc + smF (fun i => (A.2.2.1.2.2.2 i).count q) j d))
  | d, j, 0, acc, _, h2 => by omega
  | 0, j, n + 1, acc, h1, _ => by
    have := hI.2.2.1.1
    rw [fX1_usesAreTrue_L17, if_pos (by rw [hW.1, J_le _ _ (by omega) (by omega)]; omega)]
    rfl
  | d + 1, j, n + 1, acc, h1, h2 => by
    have := hI.2.2.1.1
    have hj : j < A.2.2.1.1 := by omega
    rw [fX1_usesAreTrue_L17, if_neg (by rw [hW.1, J_le _ _ (by omega) (by omega)]; omega), c_usesIn hW hI.2.2.1.1 hj (iW_len hI hj) (w_24 hI j hj) q hq, gb1_some, J_add, i_1, J_add, c_uses17 hW hI q hq k d (j + 1) n _ (by omega) (by omega), smF, Nat.add_assoc]
theorem c_uses2 {A : aB} {P : tPieces} {W : tWords} (hP : cP A.2.1 P) (hW : cW A.2.2.1 W) (hI : Inv A) (k : Option Int32) : ∀ (d j n : Nat), j + d = A.2.1.1 → d < n → fX1_usesAreTrue_L2 P W k n (Int32.ofNat j) = k
  | d, j, 0, _, h2 => by omega
  | 0, j, n + 1, h1, _ => by
    have := hI.2.1.1
    rw [fX1_usesAreTrue_L2, if_pos (by rw [hP.1, J_le _ _ (by omega) (by omega)]; omega)]
  | d + 1, j, n + 1, h1, h2 => by
    have := hI.2.1.1
    have h16 := hI.2.2.1.1
    have hj : j < A.2.1.1 := by omega
    obtain ⟨_, _, _, e3, _⟩ := hP.2 j hj
    have eu := hI.2.2.2.1 j hj
    rw [fX1_usesAreTrue_L2, if_neg (by rw [hP.1, J_le _ _ (by omega) (by omega)]; omega), i_0, c_uses17 hW hI j (by omega) _ A.2.2.1.1 0 FU 0 (by omega) (by simp only [FU]; omega), if_neg (by rw [J_lt _ _ (by omega) (by omega), J_nat _ (by omega)]; omega), J_nat _ (by omega), e3, eu, Nat.zero_add, if_pos (show Int32.ofNat (smF (fun i => (A.2.2.1.2.2.2 i).count j) 0 A.2.2.1.1) = Int32.ofNat (sm (fun i => (A.2.2.1.2.2.2 i).count j) A.2.2.1.1) from rfl), i_1, J_add]
    exact c_uses2 hP hW hI k d (j + 1) n (by omega) (by omega)
def hel (A : aB) (u : Nat) : Nat := A.2.2.2.1 2 * sm (fun i => if A.2.2.1.2.2.1 i = u then (A.2.2.1.2.2.2 i).length else 0) A.2.2.1.1
theorem c_held' {A : aB} {W : tWords} {settings : Nat → Int32} (hW : cW A.2.2.1 W) (hs : cS A.2.2.2.1 settings) (hI : Inv A) {u : Nat} (hu : u < 2147483648) : fX1_heldFor (Int32.ofNat u) settings W = some (Int32.ofNat (hel A u)) := c_held hW hI.2.2.1.1 hs u hu (fun i hi => by
  have h1 := (hI.2.2.1.2 i hi).1
  have h2 := hI.1.1
  omega)
theorem c_fund4 {A : aB} {U : tUsers} {W : tWords} {settings : Nat → Int32} (hU : cU A.1 U) (hW : cW A.2.2.1 W) (hs : cS A.2.2.2.1 settings) (hI : Inv A) (k : Int32 → Option Int32) : ∀ (d j n acc : Nat), j + d = A.1.1 → d < n → fX1_fundIsTrue_L4 settings U W k n (Int32.ofNat acc) (Int32.ofNat j) = k (Int32.ofNat (acc + smF (hel A) j d))
  | d, j, 0, acc, _, h2 => by omega
  | 0, j, n + 1, acc, h1, _ => by
    have := hI.1.1
    rw [fX1_fundIsTrue_L4, if_pos (by rw [hU.1, J_le _ _ (by omega) (by omega)]; omega)]
    rfl
  | d + 1, j, n + 1, acc, h1, h2 => by
    have := hI.1.1
    rw [fX1_fundIsTrue_L4, if_neg (by rw [hU.1, J_le _ _ (by omega) (by omega)]; omega), c_held' hW hs hI (by omega), gb1_some, J_add, i_1, J_add, c_fund4 hU hW hs hI k d (j + 1) n _ (by omega) (by omega), smF, Nat.add_assoc]
theorem c_fundIsTrue {A : aB} {U : tUsers} {W : tWords} {settings : Nat → Int32} (hU : cU A.1 U) (hW : cW A.2.2.1 W) (hs : cS A.2.2.2.1 settings) (hI : Inv A) (fund : Int32) : fX1_fundIsTrue fund settings U W = some (if fund = Int32.ofNat (sm (hel A) A.1.1) then 1 else 0) := by
  have := hI.1.1
  rw [fX1_fundIsTrue, i_0, c_fund4 hU hW hs hI _ A.1.1 0 FU 0 (by omega) (by simp only [FU]; omega), Nat.zero_add]
  unfold sm
  split <;> rfl
theorem c_wordsMade {A : aB} {P : tPieces} {W : tWords} (hP : cP A.2.1 P) (hW : cW A.2.2.1 W) (hI : Inv A) : fX1_wordsAreMadeUp P W = some 1 := by
  have := hI.2.2.1.1
  rw [fX1_wordsAreMadeUp, i_0]
  exact c_wordsMade_L hP hW hI _ A.2.2.1.1 0 FU (by omega) (by simp only [FU]; omega)
theorem c_usesTrue {A : aB} {P : tPieces} {W : tWords} (hP : cP A.2.1 P) (hW : cW A.2.2.1 W) (hI : Inv A) : fX1_usesAreTrue P W = some 1 := by
  have := hI.2.1.1
  rw [fX1_usesAreTrue, i_0]
  exact c_uses2 hP hW hI _ A.2.1.1 0 FU (by omega) (by simp only [FU]; omega)
