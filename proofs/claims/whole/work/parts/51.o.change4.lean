/-! store, bring -/
theorem aRef_0 {A : aB} {u : Nat} {ps : List (List Nat)} (h : aRef A u ps = 0) : A.2.2.1.1 < 16 ∧ A.2.1.1 + (frs A.2.1.1 A.2.1.2.1 [] ps).length ≤ 24 ∧ prS A.2.2.2.1 (frs A.2.1.1 A.2.1.2.1 [] ps) + A.2.2.2.1 2 * ps.length ≤ A.1.2.2 u := by
  unfold aRef at h
  split at h
  · omega
  · split at h
    · omega
    · split at h
      · refine ⟨?_, ?_, ?_⟩ <;> omega
      · omega
theorem aRef_le (A : aB) (u : Nat) (ps : List (List Nat)) : aRef A u ps ≤ 4 := by
  unfold aRef
  split
  · omega
  · split
    · omega
    · split <;> omega
theorem q_store {A : aB} {b : tBk} {now : Nat → Int32} (hc : cBk A b) (hm : mB A now) (hI : Inv A) {h : Nat} {HA : Nat → aB} {Hs : tHist} {undo : Nat → Int32} (H : hHi A h HA Hs undo) {n : Nat} {bt : Nat → Nat} {bd ln : Int32} {buf text : Nat → Int32} (hX : tX n bt bd buf ln text) (u1 t0 ts s nx many fm : Int32) (C : tCut) (S : tCutR) (spl c f g fa : Nat → Int32) : ∃ (x r bd' chest' fund' : Int32) (sums' : Nat → Int32) (U' : tUsers) (P' : tPieces) (W' : tWords) (C' : tCut) (S' : tCutR) (Hs' : tHist) (r2 t ln' ts' s' nx' many' fm' un' : Int32) (now' spl' c' f' g' fa' undo' : Nat → Int32), fX9_store u1 bd buf b.1 b.2.1 b.2.2.1 b.2.2.2.1 b.2.2.2.2.1 b.2.2.2.2.2.1 b.2.2.2.2.2.2.1 b.2.2.2.2.2.2.2 C S Hs = some (x, r, bd', chest', fund', sums', U', P', W', C', S', Hs') ∧ fX10_store u1 t0 ln ts s nx many fm (Int32.ofNat h) now text spl c f g fa undo = some (r2, t, ln', ts', s', nx', many', fm', un', now', spl', c', f', g', fa', undo') ∧ ((x = 0 ∧ t = 0 ∧ r = r2) ∨ (x = 1 ∧ t = 1) ∨ (x = 2 ∧ t = 2) ∨ (x = 3 ∧ t = 3)) ∧ bd' = 0 ∧ ln' = 0 ∧ ∃ A' h' HA', cBk A' (b.1, chest', fund', b.2.2.2.1, sums', U', P', W') ∧ mB A' now' ∧ Inv A' ∧ same A A' ∧ hHi A h' HA' Hs' undo' ∧ un' = Int32.ofNat h' := by
  have h4 := hI.1.1
  have hR := rd hX ts s nx many spl
  rcases idx_cases u1 A.1.1 with ⟨u, hu, _, rfl⟩ | ho
  · have e := noU_in hm.1.1 hu (show A.1.1 ≤ 1000 by omega) t0
    have eb := reqU_in hc.1.1 hu (show A.1.1 ≤ 1000 by omega)
    rcases hR with ⟨l, hw, hl, hne, et, ts1, s1, nx1, spl1, er, hs⟩ | ⟨et, ts1, s1, nx1, spl1, er⟩
    · obtain ⟨⟨C', S'⟩, k1, k2, k3, k4⟩ := c_cheap hc hI hw hl C S
      simp only at k2 k3 k4
      obtain ⟨⟨c', f', g'⟩, m1, m2, m3⟩ := m_cheap hm hI hw hl hs c f g
      simp only at m2 m3
      obtain ⟨⟨r3, fm', fa'⟩, n1, n2⟩ := m_why hm hI hw hl hs m2 m3 hu fm fa
      simp only at n2
      have er0 := c_ref hc hI hw hl hu k2.1 k3 k4
      have hle := aRef_le A u (sS A l)
      by_cases c0 : aRef A u (sS A l) = 0
      · obtain ⟨d1, d2, d3⟩ := aRef_0 c0
        obtain ⟨Hs', undo', h', HA', p1, p2, p3⟩ := keep hc hm hI H
        obtain ⟨s1', s2', s3'⟩ := sS_ok hI hw hl
        obtain ⟨⟨r, chest', fund', sums', U', P', W'⟩, q1, q2, q3⟩ := c_storeCutting (row := l) hc hu hI.1.1 (okP_Inv hI) d1 (fun j hj => iW_len hI hj) k2 s2' (fun x hx => ⟨(s3' x hx).1, by have := (s3' x hx).2.2; omega⟩) d2 d3
        simp only at q2 q3
        obtain ⟨⟨r6, fm2, now', fa2⟩, t1, t2, t3⟩ := m_stores hm hI hu d1 hw hl hs m3 d2 d3 fm' fa'
        simp only at t2 t3
        refine ⟨0, r, 0, chest', fund', sums', U', P', W', C', S', Hs', r6, 0, 0, ts1, s1, nx1, Int32.ofNat l.length, fm2, Int32.ofNat h', now', spl1, c', f', g', fa2, undo', ?_, ?_, Or.inl ⟨rfl, rfl, q2.trans t2.symm⟩, rfl, rfl, aStore A u l (sS A l), h', HA', q3, t3, Inv_store hI hu d1 s2' s1' hne hl s3' d2 d3, ⟨rfl, rfl⟩, p3, rfl⟩
        · rw [fX9_store, et, gb2_some, eb, gb1_some, if_pos rfl, if_neg (L64_ne0 hw hl hne), k1, gb2_some, er0, gb1_some, c0, if_pos (by rfl), p1, gb1_some, q1, gb7_some]
        · rw [fX10_store, er, gb7_some, e, gb2_some, if_pos rfl, Lt_eq, if_neg (by decide)]
          dsimp only
          rw [throws_no, gb2_some, if_pos rfl, m1, gb3_some, n1, gb3_some, n2, c0, Lt_eq, if_pos (by rfl)]
          dsimp only
          rw [throws_no, gb2_some, if_pos rfl, p2, gb2_some, t1, gb4_some]
      · refine ⟨3, 0, 0, b.2.1, b.2.2.1, b.2.2.2.2.1, b.2.2.2.2.2.1, b.2.2.2.2.2.2.1, b.2.2.2.2.2.2.2, C', S', Hs, 0, 3, 0, ts1, s1, nx1, Int32.ofNat l.length, fm', Int32.ofNat h, now, spl1, c', f', g', fa', undo, ?_, ?_, Or.inr (Or.inr (Or.inr ⟨rfl, rfl⟩)), rfl, rfl, A, h, HA, hc, hm, hI, same_refl A, H, rfl⟩
        · rw [fX9_store, et, gb2_some, eb, gb1_some, if_pos rfl, if_neg (L64_ne0 hw hl hne), k1, gb2_some, er0, gb1_some, if_neg (by rw [i_0, J_eq _ _ (by omega) (by omega)]; exact c0)]
        · rw [fX10_store, er, gb7_some, e, gb2_some, if_pos rfl, Lt_eq, if_neg (by decide)]
          dsimp only
          rw [throws_no, gb2_some, if_pos rfl, m1, gb3_some, n1, gb3_some, n2, Lt_eq, if_neg (by rw [i_0, J_eq _ _ (by omega) (by omega)]; exact c0)]
          dsimp only
          rw [throws_3, gb2_some, if_neg (by decide)]
    · refine ⟨2, 0, 0, b.2.1, b.2.2.1, b.2.2.2.2.1, b.2.2.2.2.2.1, b.2.2.2.2.2.2.1, b.2.2.2.2.2.2.2, C, S, Hs, 0, 2, 0, ts1, s1, nx1, 0, fm, Int32.ofNat h, now, spl1, c, f, g, fa, undo, ?_, ?_, Or.inr (Or.inr (Or.inl ⟨rfl, rfl⟩)), rfl, rfl, A, h, HA, hc, hm, hI, same_refl A, H, rfl⟩
      · rw [fX9_store, et, gb2_some, eb, gb1_some, if_pos rfl, if_pos z_cmp]
      · rw [fX10_store, er, gb7_some, e, gb2_some, if_pos rfl, Lt_eq, if_pos rfl]
        dsimp only
        rw [throws_2, gb2_some, if_neg (by decide)]
  · have e := noU_out hm.1.1 (show A.1.1 ≤ 1000 by omega) ho t0
    have eb := reqU_out hc.1.1 (show A.1.1 ≤ 1000 by omega) ho
    have hC : ∃ row, fX9_takeWord bd buf = some (row, 0) := by
      rcases hR with ⟨l, _, _, _, et, _⟩ | ⟨et, _⟩
      · exact ⟨_, et⟩
      · exact ⟨_, et⟩
    have hM : ∃ is ts1 s1 nx1 many1 spl1, fX10_reads ln ts s nx many text spl = some (is, 0, ts1, s1, nx1, many1, spl1) := by
      rcases hR with ⟨l, _, _, _, _, ts1, s1, nx1, spl1, er, _⟩ | ⟨_, ts1, s1, nx1, spl1, er⟩
      · exact ⟨_, _, _, _, _, _, er⟩
      · exact ⟨_, _, _, _, _, _, er⟩
    obtain ⟨row, et⟩ := hC
    obtain ⟨is, ts1, s1, nx1, many1, spl1, er⟩ := hM
    refine ⟨1, 0, 0, b.2.1, b.2.2.1, b.2.2.2.2.1, b.2.2.2.2.2.1, b.2.2.2.2.2.2.1, b.2.2.2.2.2.2.2, C, S, Hs, 0, 1, 0, ts1, s1, nx1, many1, fm, Int32.ofNat h, now, spl1, c, f, g, fa, undo, ?_, ?_, Or.inr (Or.inl ⟨rfl, rfl⟩), rfl, rfl, A, h, HA, hc, hm, hI, same_refl A, H, rfl⟩
    · rw [fX9_store, et, gb2_some, eb, gb1_some, if_neg (by decide)]
    · rw [fX10_store, er, gb7_some, e, gb2_some, if_neg (by decide)]
theorem Inv_buy {A : aB} (h : Inv A) {u : Nat} (hu : u < A.1.1) (hn : A.2.1.1 < 24) {s : List Nat} (hw : wf s) (h1' : 1 ≤ s.length) (hl : s.length ≤ 6) (hco : A.2.2.2.1 0 + A.2.2.2.1 1 * s.length ≤ A.1.2.2 u) : Inv (aBuy A u s) := by
  obtain ⟨h1, h2, h3, h4, h5, h6⟩ := id h
  refine ⟨h1, ⟨?_, ?_⟩, ⟨h3.1, ?_⟩, ?_, h5, ?_⟩
  · show A.2.1.1 + 1 ≤ 24
    omega
  · intro q hq
    have hq' : q < A.2.1.1 + 1 := hq
    show wf (up A.2.1.2.1 A.2.1.1 s q) ∧ 1 ≤ (up A.2.1.2.1 A.2.1.1 s q).length ∧ (up A.2.1.2.1 A.2.1.1 s q).length ≤ 6 ∧ up A.2.1.2.2.1 A.2.1.1 (A.2.2.2.1 0 + A.2.2.2.1 1 * s.length) q ≤ 1000 ∧ (up A.2.1.2.2.2.1 A.2.1.1 (Int32.ofNat u) q = M1 ∨ ∃ v, v < A.1.1 ∧ up A.2.1.2.2.2.1 A.2.1.1 (Int32.ofNat u) q = Int32.ofNat v)
    by_cases c : q = A.2.1.1
    · rw [c, up_eq, up_eq, up_eq]
      have : A.2.2.2.1 1 * s.length ≤ 9 * 6 := Nat.mul_le_mul h5.2.1 hl
      have := h5.1
      exact ⟨hw, h1', hl, by omega, Or.inr ⟨u, hu, rfl⟩⟩
    · rw [up_ne _ _ _ _ c, up_ne _ _ _ _ c, up_ne _ _ _ _ c]
      exact h2.2 q (by omega)
  · intro j hj
    obtain ⟨a1, a2, a3, a4, a5⟩ := h3.2 j hj
    refine ⟨a1, fun q hq => Nat.lt_succ_of_lt (a2 q hq), ?_, a4, a5⟩
    rw [show (aBuy A u s).2.2.1.2.1 j = A.2.2.1.2.1 j from rfl, a3]
    refine jn_congr (fun q hq => ?_)
    have := a2 q hq
    exact (up_ne A.2.1.2.1 A.2.1.1 s q (by omega)).symm
  · intro q hq
    have hq' : q < A.2.1.1 + 1 := hq
    show up A.2.1.2.2.2.2.1 A.2.1.1 0 q = sm (fun j => (A.2.2.1.2.2.2 j).count q) A.2.2.1.1
    by_cases c : q = A.2.1.1
    · rw [c, up_eq]
      have : sm (fun j => (A.2.2.1.2.2.2 j).count A.2.1.1) A.2.2.1.1 = sm (fun _ => 0) A.2.2.1.1 := sm_congr (fun j hj => List.count_eq_zero.mpr (fun hm => by have := (h3.2 j hj).2.1 _ hm; omega))
      rw [this]
      have z : ∀ n, sm (fun _ => 0) n = 0 := by
        intro n
        induction n with
        | zero => rfl
        | succ n ih => rw [sm_succ, ih]
      rw [z]
    · rw [up_ne _ _ _ _ c]
      exact h4 q (by omega)
  · unfold iT at h6 ⊢
    have s1 := sm_up A.1.2.2 u (A.1.2.2 u - (A.2.2.2.1 0 + A.2.2.2.1 1 * s.length)) A.1.1 hu
    have s2 : sm (up A.2.1.2.2.1 A.2.1.1 (A.2.2.2.1 0 + A.2.2.2.1 1 * s.length)) (A.2.1.1 + 1) = sm A.2.1.2.2.1 A.2.1.1 + (A.2.2.2.1 0 + A.2.2.2.1 1 * s.length) := by
      rw [sm_succ, up_eq, sm_up_ge _ _ _ _ (Nat.le_refl _)]
    show sm (up A.1.2.2 u (A.1.2.2 u - (A.2.2.2.1 0 + A.2.2.2.1 1 * s.length))) A.1.1 + sm (up A.2.1.2.2.1 A.2.1.1 (A.2.2.2.1 0 + A.2.2.2.1 1 * s.length)) (A.2.1.1 + 1) + A.2.2.2.1 2 * sm (fun i => (A.2.2.1.2.2.2 i).length) A.2.2.1.1 ≤ 40000
    omega
theorem z_L64 : L64 [] = 0 := by decide
theorem z_len : fX4_lengthOf 0 = some 0 := by
  have := c_lengthOf wf_nil (show ([] : List Nat).length ≤ 12 by simp)
  rw [z_L64, List.length_nil] at this
  rw [this]
  rfl
theorem q_bring {A : aB} {b : tBk} {now : Nat → Int32} (hc : cBk A b) (hm : mB A now) (hI : Inv A) {h : Nat} {HA : Nat → aB} {Hs : tHist} {undo : Nat → Int32} (H : hHi A h HA Hs undo) {n : Nat} {bt : Nat → Nat} {bd ln : Int32} {buf text : Nat → Int32} (hX : tX n bt bd buf ln text) (u1 t0 ts s nx many : Int32) (spl : Nat → Int32) : ∃ (x r bd' chest' : Int32) (sums' : Nat → Int32) (U' : tUsers) (P' : tPieces) (Hs' : tHist) (r2 t ln' ts' s' nx' many' un' : Int32) (now' spl' undo' : Nat → Int32), fX9_bring u1 bd buf b.1 b.2.1 b.2.2.1 b.2.2.2.1 b.2.2.2.2.1 b.2.2.2.2.2.1 b.2.2.2.2.2.2.1 b.2.2.2.2.2.2.2 Hs = some (x, r, bd', chest', sums', U', P', Hs') ∧ fX10_bring u1 t0 ln ts s nx many (Int32.ofNat h) now text spl undo = some (r2, t, ln', ts', s', nx', many', un', now', spl', undo') ∧ ((x = 0 ∧ t = 0 ∧ r = r2) ∨ (x = 1 ∧ t = 1) ∨ (x = 2 ∧ t = 2) ∨ (x = 3 ∧ t = 3)) ∧ bd' = 0 ∧ ln' = 0 ∧ ∃ A' h' HA', cBk A' (b.1, chest', b.2.2.1, b.2.2.2.1, sums', U', P', b.2.2.2.2.2.2.2) ∧ mB A' now' ∧ Inv A' ∧ same A A' ∧ hHi A h' HA' Hs' undo' ∧ un' = Int32.ofNat h' := by
  have h4 := hI.1.1
  have h24 := hI.2.1.1
  have hR := rd hX ts s nx many spl
  have hno : ∀ (x t ts' s' nx' many' : Int32) (spl' : Nat → Int32), fX9_bring u1 bd buf b.1 b.2.1 b.2.2.1 b.2.2.2.1 b.2.2.2.2.1 b.2.2.2.2.2.1 b.2.2.2.2.2.2.1 b.2.2.2.2.2.2.2 Hs = some (x, 0, 0, b.2.1, b.2.2.2.2.1, b.2.2.2.2.2.1, b.2.2.2.2.2.2.1, Hs) → fX10_bring u1 t0 ln ts s nx many (Int32.ofNat h) now text spl undo = some (0, t, 0, ts', s', nx', many', Int32.ofNat h, now, spl', undo) → ((x = 1 ∧ t = 1) ∨ (x = 2 ∧ t = 2) ∨ (x = 3 ∧ t = 3)) → ∃ (x r bd' chest' : Int32) (sums' : Nat → Int32) (U' : tUsers) (P' : tPieces) (Hs' : tHist) (r2 t ln' ts' s' nx' many' un' : Int32) (now' spl' undo' : Nat → Int32), fX9_bring u1 bd buf b.1 b.2.1 b.2.2.1 b.2.2.2.1 b.2.2.2.2.1 b.2.2.2.2.2.1 b.2.2.2.2.2.2.1 b.2.2.2.2.2.2.2 Hs = some (x, r, bd', chest', sums', U', P', Hs') ∧ fX10_bring u1 t0 ln ts s nx many (Int32.ofNat h) now text spl undo = some (r2, t, ln', ts', s', nx', many', un', now', spl', undo') ∧ ((x = 0 ∧ t = 0 ∧ r = r2) ∨ (x = 1 ∧ t = 1) ∨ (x = 2 ∧ t = 2) ∨ (x = 3 ∧ t = 3)) ∧ bd' = 0 ∧ ln' = 0 ∧ ∃ A' h' HA', cBk A' (b.1, chest', b.2.2.1, b.2.2.2.1, sums', U', P', b.2.2.2.2.2.2.2) ∧ mB A' now' ∧ Inv A' ∧ same A A' ∧ hHi A h' HA' Hs' undo' ∧ un' = Int32.ofNat h' := by
    intro x t ts' s' nx' many' spl' e1 e2 e3
    exact ⟨x, 0, 0, _, _, _, _, Hs, 0, t, 0, ts', s', nx', many', _, now, spl', undo, e1, e2, Or.inr e3, rfl, rfl, A, h, HA, hc, hm, hI, same_refl A, H, rfl⟩
  rcases idx_cases u1 A.1.1 with ⟨u, hu, _, rfl⟩ | ho
  · have e := noU_in hm.1.1 hu (show A.1.1 ≤ 1000 by omega) t0
    have eb := reqU_in hc.1.1 hu (show A.1.1 ≤ 1000 by omega)
    rcases hR with ⟨l, hw, hl, hne, et, ts1, s1, nx1, spl1, er, hs⟩ | ⟨et, ts1, s1, nx1, spl1, er⟩
    · have hl1 : 1 ≤ l.length := by
        cases l with
        | nil => exact absurd rfl hne
        | cons a l => simp
      by_cases c6 : l.length ≤ 6
      · have ec := m_code hw hl hs (i := 0) (n0 := l.length) (by omega)
        rw [List.drop_zero, List.take_length] at ec
        have ec' : fX10_code 0 (Int32.ofNat l.length) spl1 = some (B32 l) := ec
        have hB0 : ¬ (B32 l = 0) := by
          intro h0
          have : B32 l = B32 [] := h0
          rw [B32_inj hw wf_nil c6 (by simp)] at this
          exact hne this
        have hnr := nr_eq A.2.1.1 A.2.1.2.1 l (by omega)
        by_cases ck : fnd A.2.1.1 A.2.1.2.1 l < A.2.1.1
        · have hnn : ¬ (nr A.2.1.1 A.2.1.2.1 l = -1) := by
            show ¬ (nr A.2.1.1 A.2.1.2.1 l = M1)
            rw [hnr]
            exact fun h => h ck
          refine hno 2 2 ts1 s1 nx1 (Int32.ofNat l.length) spl1 ?_ ?_ (Or.inr (Or.inl ⟨rfl, rfl⟩))
          · rw [fX9_bring, et, gb2_some, eb, gb1_some, if_pos rfl, c_lengthOf hw hl, gb1_some, if_neg (by rw [i_0, J_eq _ _ (by omega) (by omega)]; omega), if_neg (by rw [i_6, J_lt _ _ (by omega) (by omega)]; omega), c_numP hc.2.1 h24 (okP_Inv hI) hw hl, gb1_some, if_neg hnn]
          · rw [fX10_bring, er, gb7_some, e, gb2_some, if_pos rfl, Lt_eq, Lt_eq, if_neg (by decide), if_neg (by rw [i_6, J_lt _ _ (by omega) (by omega)]; omega), ec', gb1_some]
            dsimp only
            rw [Lt_eq, Lt_eq, if_neg hB0, m_pieceOf hm.2.1 h24 (ok6_Inv hI) hw c6, gb1_some, if_neg hnn]
            dsimp only
            rw [throws_2, gb2_some, if_neg (by decide)]
        · have hnn : nr A.2.1.1 A.2.1.2.1 l = -1 := by
            show nr A.2.1.1 A.2.1.2.1 l = M1
            rw [hnr]
            exact ck
          have hpre : fX9_bring (Int32.ofNat u) bd buf b.1 b.2.1 b.2.2.1 b.2.2.2.1 b.2.2.2.2.1 b.2.2.2.2.2.1 b.2.2.2.2.2.2.1 b.2.2.2.2.2.2.2 Hs = (gb1 (fX6_isFull b.2.2.2.2.2.2.1) fun (r_4 : Int32) => if r_4 = 0 then (gb1 (fX1_newPrice (Int32.ofNat l.length) b.2.2.2.1) fun (r_5 : Int32) => if r_5 ≤ Int32.ofNat (A.1.2.2 u) then (gb1 (fX3_keep Hs b.1 b.2.1 b.2.2.1 b.2.2.2.1 b.2.2.2.2.1 b.2.2.2.2.2.1 b.2.2.2.2.2.2.1 b.2.2.2.2.2.2.2) fun (Hs_1 : tHist) => gb5 (fX1_buyPiece (Int32.ofNat u) (L64 l) b.1 b.2.1 b.2.2.2.1 b.2.2.2.2.1 b.2.2.2.2.2.1 b.2.2.2.2.2.2.1) fun (r_6 : Int32) (B_chest_1 : Int32) (sums_1 : (Nat → Int32)) (U_1 : tUsers) (P_1 : tPieces) => some (0, r_6, 0, B_chest_1, sums_1, U_1, P_1, Hs_1)) else (some (3, 0, 0, b.2.1, b.2.2.2.2.1, b.2.2.2.2.2.1, b.2.2.2.2.2.2.1, Hs))) else (some (3, 0, 0, b.2.1, b.2.2.2.2.1, b.2.2.2.2.2.1, b.2.2.2.2.2.2.1, Hs))) := by
            rw [fX9_bring, et, gb2_some, eb, gb1_some, if_pos rfl, c_lengthOf hw hl, gb1_some, if_neg (by rw [i_0, J_eq _ _ (by omega) (by omega)]; omega), if_neg (by rw [i_6, J_lt _ _ (by omega) (by omega)]; omega), c_numP hc.2.1 h24 (okP_Inv hI) hw hl, gb1_some, if_pos hnn, c_coinsOf hc.1 h4 hu, gb1_some]
          have mu : ¬ (Int32.ofNat (17 + u) < 0 ∨ 365 ≤ (Int32.ofNat (17 + u)).toNatClampNeg) := inck (n := 365) (by omega) (by omega) (by omega)
          have hco := co_bd hI hu
          have hpb : A.2.2.2.1 1 * l.length ≤ 9 * 6 := Nat.mul_le_mul hI.2.2.2.2.1.2.1 c6
          have h99 := hI.2.2.2.2.1.1
          by_cases cf : A.2.1.1 < 24
          · by_cases cp : A.2.2.2.1 0 + A.2.2.2.1 1 * l.length ≤ A.1.2.2 u
            · obtain ⟨Hs', undo', h', HA', p1, p2, p3⟩ := keep hc hm hI H
              obtain ⟨⟨r, chest', sums', U', P'⟩, q1, q2, q3, q4, q5, q6⟩ := c_buyPiece hc.1 h4 hc.2.1 cf hc.2.2.2.1 hu hw hl cp b.1 b.2.1 b.2.2.2.2.1
              simp only at q2 q3 q4 q5 q6
              obtain ⟨⟨r5, now'⟩, t1, t2, t3⟩ := m_buys hm h4 hu cf hw c6 cp
              simp only at t2 t3
              refine ⟨0, r, 0, chest', sums', U', P', Hs', r5, 0, 0, ts1, s1, nx1, Int32.ofNat l.length, Int32.ofNat h', now', spl1, undo', ?_, ?_, Or.inl ⟨rfl, rfl, q2.trans t2.symm⟩, rfl, rfl, aBuy A u l, h', HA', ?_, t3, Inv_buy hI hu cf hw hl1 c6 cp, ⟨rfl, rfl⟩, p3, rfl⟩
              · rw [hpre, c_isFullP hc.2.1 h24, gb1_some, if_pos cf, if_pos (by rfl), c_newPrice hc.2.2.2.1, gb1_some, if_pos (by rw [J_le _ _ (by omega) (by omega)]; exact cp), p1, gb1_some, q1, gb5_some]
              · rw [fX10_bring, er, gb7_some, e, gb2_some, if_pos rfl, Lt_eq, Lt_eq, if_neg (by decide), if_neg (by rw [i_6, J_lt _ _ (by omega) (by omega)]; omega), ec', gb1_some]
                dsimp only
                rw [Lt_eq, Lt_eq, if_neg hB0, m_pieceOf hm.2.1 h24 (ok6_Inv hI) hw c6, gb1_some, if_pos hnn]
                dsimp only
                rw [throws_no, gb2_some, if_pos rfl, Lt_eq, Lt_eq, hm.2.1.1, if_neg (by rw [i_24, J_eq _ _ (by omega) (by omega)]; omega), i_17, J_add, if_neg mu, m_priceOf hm.2.2.2.1 hw c6, gb1_some, J_nat _ (by omega), hm.1.2 u hu, if_pos (by rw [J_le _ _ (by omega) (by omega)]; exact cp)]
                dsimp only
                rw [throws_no, gb2_some, if_pos rfl, p2, gb2_some, t1, gb2_some]
              · obtain ⟨d1, d2, d3, d4, d5, d6, d7, d8⟩ := hc
                refine ⟨q5, by rw [d6] at q6; exact q6, d3, d4, fun i hi => ?_, d6, ?_, d8⟩
                · show sums' i = sBuy A.2.2.2.2.1 _ 1 i
                  rw [q4 i]
                  unfold sBuy
                  rw [d5 0 (by omega), d5 4 (by omega), d5 i hi]
                · show chest' = A.2.2.2.2.2.2.1 + _
                  rw [q3, d7]
            · refine hno 3 3 ts1 s1 nx1 (Int32.ofNat l.length) spl1 ?_ ?_ (Or.inr (Or.inr ⟨rfl, rfl⟩))
              · rw [hpre, c_isFullP hc.2.1 h24, gb1_some, if_pos cf, if_pos (by rfl), c_newPrice hc.2.2.2.1, gb1_some, if_neg (by rw [J_le _ _ (by omega) (by omega)]; exact cp)]
              · rw [fX10_bring, er, gb7_some, e, gb2_some, if_pos rfl, Lt_eq, Lt_eq, if_neg (by decide), if_neg (by rw [i_6, J_lt _ _ (by omega) (by omega)]; omega), ec', gb1_some]
                dsimp only
                rw [Lt_eq, Lt_eq, if_neg hB0, m_pieceOf hm.2.1 h24 (ok6_Inv hI) hw c6, gb1_some, if_pos hnn]
                dsimp only
                rw [throws_no, gb2_some, if_pos rfl, Lt_eq, Lt_eq, hm.2.1.1, if_neg (by rw [i_24, J_eq _ _ (by omega) (by omega)]; omega), i_17, J_add, if_neg mu, m_priceOf hm.2.2.2.1 hw c6, gb1_some, J_nat _ (by omega), hm.1.2 u hu, if_neg (by rw [J_le _ _ (by omega) (by omega)]; exact cp)]
                dsimp only
                rw [throws_3, gb2_some, if_neg (by decide)]
          · refine hno 3 3 ts1 s1 nx1 (Int32.ofNat l.length) spl1 ?_ ?_ (Or.inr (Or.inr ⟨rfl, rfl⟩))
            · rw [hpre, c_isFullP hc.2.1 h24, gb1_some, if_neg cf, if_neg (by decide)]
            · rw [fX10_bring, er, gb7_some, e, gb2_some, if_pos rfl, Lt_eq, Lt_eq, if_neg (by decide), if_neg (by rw [i_6, J_lt _ _ (by omega) (by omega)]; omega), ec', gb1_some]
              dsimp only
              rw [Lt_eq, Lt_eq, if_neg hB0, m_pieceOf hm.2.1 h24 (ok6_Inv hI) hw c6, gb1_some, if_pos hnn]
              dsimp only
              rw [throws_no, gb2_some, if_pos rfl, Lt_eq, Lt_eq, hm.2.1.1, if_pos (by rw [i_24, J_eq _ _ (by omega) (by omega)]; omega)]
              dsimp only
              rw [throws_3, gb2_some, if_neg (by decide)]
      · refine hno 2 2 ts1 s1 nx1 (Int32.ofNat l.length) spl1 ?_ ?_ (Or.inr (Or.inl ⟨rfl, rfl⟩))
        · rw [fX9_bring, et, gb2_some, eb, gb1_some, if_pos rfl, c_lengthOf hw hl, gb1_some, if_neg (by rw [i_0, J_eq _ _ (by omega) (by omega)]; omega), if_pos (by rw [i_6, J_lt _ _ (by omega) (by omega)]; omega)]
        · rw [fX10_bring, er, gb7_some, e, gb2_some, if_pos rfl, Lt_eq, Lt_eq, if_neg (by decide), if_pos (by rw [i_6, J_lt _ _ (by omega) (by omega)]; omega)]
          dsimp only
          rw [Lt_eq, Lt_eq, if_pos rfl]
          dsimp only
          rw [throws_2, gb2_some, if_neg (by decide)]
    · refine hno 2 2 ts1 s1 nx1 0 spl1 ?_ ?_ (Or.inr (Or.inl ⟨rfl, rfl⟩))
      · rw [fX9_bring, et, gb2_some, eb, gb1_some, if_pos rfl, z_len, gb1_some, if_pos rfl]
      · rw [fX10_bring, er, gb7_some, e, gb2_some, if_pos rfl, Lt_eq, Lt_eq, if_pos rfl]
        dsimp only
        rw [Lt_eq, Lt_eq, if_pos rfl]
        dsimp only
        rw [throws_2, gb2_some, if_neg (by decide)]
  · have e := noU_out hm.1.1 (show A.1.1 ≤ 1000 by omega) ho t0
    have eb := reqU_out hc.1.1 (show A.1.1 ≤ 1000 by omega) ho
    have hC : ∃ row, fX9_takeWord bd buf = some (row, 0) := by
      rcases hR with ⟨l, _, _, _, et, _⟩ | ⟨et, _⟩
      · exact ⟨_, et⟩
      · exact ⟨_, et⟩
    have hM : ∃ is ts1 s1 nx1 many1 spl1, fX10_reads ln ts s nx many text spl = some (is, 0, ts1, s1, nx1, many1, spl1) := by
      rcases hR with ⟨l, _, _, _, _, ts1, s1, nx1, spl1, er, _⟩ | ⟨_, ts1, s1, nx1, spl1, er⟩
      · exact ⟨_, _, _, _, _, _, er⟩
      · exact ⟨_, _, _, _, _, _, er⟩
    obtain ⟨row, et⟩ := hC
    obtain ⟨is, ts1, s1, nx1, many1, spl1, er⟩ := hM
    refine hno 1 1 ts1 s1 nx1 many1 spl1 ?_ ?_ (Or.inl ⟨rfl, rfl⟩)
    · rw [fX9_bring, et, gb2_some, eb, gb1_some, if_neg (by decide)]
    · rw [fX10_bring, er, gb7_some, e, gb2_some, if_neg (by decide)]
