def aBys (A : aB) (u : Nat) (fr : List (List Nat)) : aB :=
  ((A.1.1, A.1.2.1, up A.1.2.2 u (A.1.2.2 u - prS A.2.2.2.1 fr)), pBuys A.2.2.2.1 (Int32.ofNat u) A.2.2.2.2.2.1 A.2.1 fr, A.2.2.1, A.2.2.2.1, sBuy A.2.2.2.2.1 (prS A.2.2.2.1 fr) fr.length, A.2.2.2.2.2.1, A.2.2.2.2.2.2.1 + Int32.ofNat (prS A.2.2.2.1 fr), A.2.2.2.2.2.2.2)
theorem up_self {α : Type} (f : Nat → α) (k : Nat) : up f k (f k) = f := by
  funext x
  simp only [up]
  split
  · rename_i h; rw [h]
  · rfl
theorem up_up {α : Type} (f : Nat → α) (k : Nat) (a b : α) : up (up f k a) k b = up f k b := by
  funext x
  simp only [up]
  split <;> rfl
theorem sBuy_0 (f : Nat → Int32) : sBuy f 0 0 = f := by
  funext i
  have z : ∀ x : Int32, x + Int32.ofNat 0 = x := fun x => Int32.add_zero x
  simp only [sBuy, z]
  split
  · rename_i h; rw [h]
  · split
    · rename_i h; rw [h]
    · rfl
theorem sBuy_sBuy (f : Nat → Int32) (a b c d : Nat) : sBuy (sBuy f a b) c d = sBuy f (a + c) (b + d) := by
  funext i
  unfold sBuy
  by_cases c0 : i = 0
  · subst c0
    rw [if_pos rfl, if_pos rfl, if_pos rfl, I_assoc]
  · by_cases c4 : i = 4
    · subst c4
      rw [if_neg c0, if_pos rfl, if_neg c0, if_pos rfl, if_neg c0, if_pos rfl, I_assoc]
    · rw [if_neg c0, if_neg c4, if_neg c0, if_neg c4, if_neg c0, if_neg c4]
theorem aBys_0 (A : aB) (u : Nat) : aBys A u [] = A := by
  obtain ⟨⟨nu, un, co⟩, p, w, st, f, t, c, fd⟩ := A
  simp only [aBys, prS, List.length_nil, sBuy_0, Nat.sub_zero, up_self]
  have z : c + Int32.ofNat 0 = c := Int32.add_zero c
  rw [z]
  rfl
theorem aBys_snoc (A : aB) (u : Nat) (fr : List (List Nat)) (s : List Nat) : aBuy (aBys A u fr) u s = aBys A u (fr ++ [s]) := by
  simp only [aBuy, aBys, prS_app, prS, Nat.add_zero, List.length_append, List.length_singleton, pBuys_snoc, sBuy_sBuy, up_eq, up_up, I_assoc, Nat.sub_sub]
theorem m_stores6 {A : aB} (hu4 : A.1.1 ≤ 4) {u : Nat} (hu : u < A.1.1) {fr : List (List Nat)} (hroom : A.2.1.1 + fr.length ≤ 24) (hfw : ∀ x ∈ fr, wf x ∧ x.length ≤ 6) (hcoin : prS A.2.2.2.1 fr ≤ A.1.2.2 u) {fm : Int32} {fa : Nat → Int32} (h : bR fr fm fa) (hf12 : fr.length ≤ 12) {k : (Nat → Int32) → Option (Int32 × Int32 × (Nat → Int32) × (Nat → Int32))} {Q : Int32 × Int32 × (Nat → Int32) × (Nat → Int32) → Prop} (hk : ∀ now', mB (aBys A u fr) now' → Ok (k now') Q) : ∀ (d j n : Nat) (now : Nat → Int32), j + d = fr.length → d < n → mB (aBys A u (fr.take j)) now → Ok (fX10_stores_L6 (Int32.ofNat u) fm fa k n (Int32.ofNat j) now) Q
  | d, j, 0, now, _, h2, _ => by omega
  | 0, j, n + 1, now, h1, _, hB => by
    rw [List.take_of_length_le (by omega)] at hB
    rw [fX10_stores_L6, if_pos (by rw [h.1, J_le _ _ (by omega) (by omega)]; omega)]
    exact hk now hB
  | d + 1, j, n + 1, now, h1, h2, hB => by
    have hj : j < fr.length := by omega
    obtain ⟨w1, w2⟩ := hfw fr[j] (List.getElem_mem hj)
    have et := List.take_succ_eq_append_getElem hj
    have hp1 : prS A.2.2.2.1 (fr.take j) + (A.2.2.2.1 0 + A.2.2.2.1 1 * fr[j].length) ≤ prS A.2.2.2.1 fr := by
      have e : prS A.2.2.2.1 fr = prS A.2.2.2.1 (fr.take (j + 1)) + prS A.2.2.2.1 (fr.drop (j + 1)) := by rw [← prS_app, List.take_append_drop]
      rw [e, et, prS_app, prS, prS]
      omega
    rw [fX10_stores_L6, if_neg (by rw [h.1, J_le _ _ (by omega) (by omega)]; omega), if_neg (by rw [i_0, J_lt _ _ (by omega) (by omega), J_nat _ (by omega)]; omega), J_nat _ (by omega), h.2 j hj, i_1, J_add]
    apply ok_gb2
    have hn : (aBys A u (fr.take j)).2.1.1 = A.2.1.1 + j := by
      show (pBuys _ _ _ _ _).1 = _
      rw [pBuys_n, List.length_take]
      omega
    refine ok_mono (m_buys hB hu4 hu (by rw [hn]; omega) w1 w2 (by simp only [aBys, up_eq]; omega)) ?_
    rintro ⟨r1, now1⟩ ⟨_, e2⟩
    rw [aBys_snoc, ← et] at e2
    exact m_stores6 hu4 hu hroom hfw hcoin h hf12 hk d (j + 1) n now1 (by omega) (by omega) e2
/-! parts laid -/
theorem m_parts4 {p : aPs} (hn : p.1 ≤ 24) (hr : okR p.1 p.2.1 6) {l : List Nat} (hw : wf l) (hl : l.length ≤ 12) {spl : Nat → Int32} (hs : sp l spl) {sc : Nat → Nat → Nat} {dep : Nat} {g : Nat → Int32} (hg : ∀ x, x < l.length → g x = Int32.ofNat (TB sc dep l.length x).2.2) {at0 : Nat} (hat : 141 ≤ at0) (hat2 : at0 + 14 ≤ 365) (now0 : Nat → Int32) {k : Int32 → (Nat → Int32) → Option (Int32 × (Nat → Int32))} {Q : Int32 × (Nat → Int32) → Prop} : ∀ (f n i : Nat) (acc : List Nat) (now : Nat → Int32), f < n → l.length - i < f → i ≤ l.length → acc.length ≤ i → (TB sc dep l.length i).1 < 1000000 → (∀ s ∈ cl (fun i => (TB sc dep l.length i).2.2) l f i, fnd p.1 p.2.1 s < p.1) → mP p now → (∀ m (h : m < acc.length), now (at0 + 2 + m) = Int32.ofNat (acc[m])) → (∀ x, ¬ (at0 + 2 ≤ x ∧ x < at0 + 14) → now x = now0 x) → (∀ now', (∀ m (h : m < (acc ++ (cl (fun i => (TB sc dep l.length i).2.2) l f i).map (fnd p.1 p.2.1)).length), now' (at0 + 2 + m) = Int32.ofNat ((acc ++ (cl (fun i => (TB sc dep l.length i).2.2) l f i).map (fnd p.1 p.2.1))[m])) → (∀ x, ¬ (at0 + 2 ≤ x ∧ x < at0 + 14) → now' x = now0 x) → Ok (k (Int32.ofNat (acc ++ (cl (fun i => (TB sc dep l.length i).2.2) l f i).map (fnd p.1 p.2.1)).length) now') Q) → Ok (fX10_laysParts_L4 (Int32.ofNat at0) (Int32.ofNat l.length) spl g k n (Int32.ofNat acc.length) (Int32.ofNat i) now) Q
  | f, 0, i, acc, now, h, _, _, _, _, _, _, _, _, _ => by omega
  | 0, n + 1, i, acc, now, _, h, _, _, _, _, _, _, _, _ => by omega
  | f + 1, n + 1, i, acc, now, h1, h2, h3, h4, hf, hkn, hP, hacc, hfr, hk => by
    by_cases ci : i < l.length
    · obtain ⟨a1, a2, a3, a4, a5⟩ := TB_fin ci hf
      have hsw : wf ((l.drop i).take (TB sc dep l.length i).2.2) := wf_take _ (wf_drop _ hw)
      have hsl := take_len a3
      rw [cl, if_pos ⟨ci, by omega⟩] at hk hkn
      have hck : ¬ (Int32.ofNat i < 0 ∨ 13 ≤ (Int32.ofNat i).toNatClampNeg) := by
        rw [i_0, J_lt _ _ (by omega) (by omega), J_nat _ (by omega)]
        omega
      have hck' : ¬ (Int32.ofNat i < 0 ∨ 13 ≤ i) := by
        rw [i_0, J_lt _ _ (by omega) (by omega)]
        omega
      have hq := hkn _ (List.mem_cons_self)
      have hck2 : ¬ (Int32.ofNat (at0 + 2 + acc.length) < 0 ∨ 365 ≤ (Int32.ofNat (at0 + 2 + acc.length)).toNatClampNeg) := by
        rw [i_0, J_lt _ _ (by omega) (by omega), J_nat _ (by omega)]
        omega
      rw [fX10_laysParts_L4, if_neg (by rw [J_le _ _ (by omega) (by omega)]; omega), if_neg hck, J_nat i (by omega), hg i ci, m_code hw hl hs a3, gb1_some, m_pieceOf hP hn hr hsw (by omega), gb1_some, nr, if_pos hq, i_2, J_add, J_add, if_neg hck2, J_nat (at0 + 2 + acc.length) (by omega), Lt_eq, if_neg hck', i_1, J_add, J_add]
      have hlen : acc.length + 1 = (acc ++ [fnd p.1 p.2.1 ((l.drop i).take (TB sc dep l.length i).2.2)]).length := by simp
      rw [hlen]
      refine m_parts4 hn hr hw hl hs hg hat hat2 now0 f n (i + (TB sc dep l.length i).2.2) (acc ++ [fnd p.1 p.2.1 ((l.drop i).take (TB sc dep l.length i).2.2)]) _ (by omega) (by omega) a3 (by rw [List.length_append, List.length_singleton]; omega) (by omega) (fun s hs => hkn s (List.mem_cons_of_mem _ hs)) ?_ ?_ ?_ ?_
      · exact mP_fr hP hn (fun k hk => upd_ne _ _ _ _ (by omega))
      · intro m hm
        rw [List.length_append, List.length_singleton] at hm
        by_cases c : m = acc.length
        · subst c
          rw [upd_eq, List.getElem_append_right (Nat.le_refl _)]
          simp
        · rw [upd_ne _ _ _ _ (by omega), List.getElem_append_left (by omega)]
          exact hacc m (by omega)
      · intro x hx
        rw [upd_ne _ _ _ _ (by omega)]
        exact hfr x hx
      · intro now' h1 h2
        have e : acc ++ [fnd p.1 p.2.1 ((l.drop i).take (TB sc dep l.length i).2.2)] ++ (cl (fun i => (TB sc dep l.length i).2.2) l f (i + (TB sc dep l.length i).2.2)).map (fnd p.1 p.2.1) = acc ++ ((l.drop i).take (TB sc dep l.length i).2.2 :: cl (fun i => (TB sc dep l.length i).2.2) l f (i + (TB sc dep l.length i).2.2)).map (fnd p.1 p.2.1) := by
          rw [List.append_assoc, List.map_cons]; rfl
        simp only [e] at h1 ⊢
        exact hk now' h1 h2
    · rw [cl, if_neg (fun h => ci h.1), List.map_nil, List.append_nil] at hk
      rw [fX10_laysParts_L4, if_pos (by rw [J_le _ _ (by omega) (by omega)]; omega)]
      exact hk now hacc hfr
theorem m_laysParts {p : aPs} {now : Nat → Int32} (hP : mP p now) (hn : p.1 ≤ 24) (hr : okR p.1 p.2.1 6) {l : List Nat} (hw : wf l) (hl : l.length ≤ 12) {spl : Nat → Int32} (hs : sp l spl) {sc : Nat → Nat → Nat} {dep : Nat} {g : Nat → Int32} (hg : ∀ x, x < l.length → g x = Int32.ofNat (TB sc dep l.length x).2.2) (hf : (TB sc dep l.length 0).1 < 1000000) (hkn : ∀ s ∈ CL sc dep l, fnd p.1 p.2.1 s < p.1) {at0 : Nat} (hat : 141 ≤ at0) (hat2 : at0 + 14 ≤ 365) : Ok (fX10_laysParts (Int32.ofNat at0) (Int32.ofNat l.length) now spl g) (fun r => r.1 = Int32.ofNat (CL sc dep l).length ∧ r.2 (at0 + 1) = Int32.ofNat (CL sc dep l).length ∧ (∀ m (h : m < ((CL sc dep l).map (fnd p.1 p.2.1)).length), r.2 (at0 + 2 + m) = Int32.ofNat (((CL sc dep l).map (fnd p.1 p.2.1))[m])) ∧ ∀ x, ¬ (at0 + 1 ≤ x ∧ x < at0 + 14) → r.2 x = now x) := by
  rw [fX10_laysParts]
  refine m_parts4 hn hr hw hl hs hg hat hat2 now 13 FU 0 [] now (by decide) (by omega) (Nat.zero_le _) (Nat.le_refl _) hf hkn hP (fun m h => by cases h) (fun _ _ => rfl) ?_
  intro now' h1 h2
  simp only [List.nil_append] at h1 ⊢
  have hck : ¬ (Int32.ofNat at0 + 1 < 0 ∨ 365 ≤ (Int32.ofNat at0 + 1).toNatClampNeg) := by
    rw [i_0, i_1, J_add, J_lt _ _ (by omega) (by omega), J_nat _ (by omega)]
    omega
  rw [if_neg hck, Lt_eq, i_1, J_add, J_nat _ (by omega)]
  refine ok_some ⟨?_, ?_, ?_, ?_⟩
  · rw [List.length_map]; rfl
  · simp only [upd_eq]
    rw [List.length_map]; rfl
  · intro m hm
    show upd now' (at0 + 1) _ (at0 + 2 + m) = _
    rw [upd_ne _ _ _ _ (by omega)]
    exact h1 m hm
  · intro x hx
    show upd now' (at0 + 1) _ x = _
    rw [upd_ne _ _ _ _ (by omega)]
    exact h2 x (by omega)
