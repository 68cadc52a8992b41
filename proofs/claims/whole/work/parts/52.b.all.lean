/-! every call keeps the two sides side by side -/
theorem s_pieceLetter {S : LC} {T : LM} (h : Sim S T) (u1 u2 : Int32) : ∃ S9 T9, pL_pieceLetter S T u1 u2 S9 T9 ∧ Sim S9 T9 := by
  obtain ⟨A, n, bt, hh, HA, SA, fl, h1, h2, h3, h4, h5, h6, h7, h8, h9⟩ := id h
  obtain ⟨x, r, r2, t, e1, e2, e3⟩ := q_pieceLetter h1 h2 h4 u1 u2 T.1.1
  exact ⟨_, _, ⟨x, r, r2, t, e1, e2, e3, rfl, rfl⟩, A, n, bt, hh, HA, SA, fl, h1, h2, h3, h4, h5, h6, h7, h8, h9⟩
theorem s_wordLetter {S : LC} {T : LM} (h : Sim S T) (u1 u2 : Int32) : ∃ S9 T9, pL_wordLetter S T u1 u2 S9 T9 ∧ Sim S9 T9 := by
  obtain ⟨A, n, bt, hh, HA, SA, fl, h1, h2, h3, h4, h5, h6, h7, h8, h9⟩ := id h
  obtain ⟨x, r, r2, t, many', spl', e1, e2, e3⟩ := q_wordLetter h1 h2 h4 u1 u2 T.1.1 T.1.2.2.2.2.2.2.2.2.2.2.1 T.2.2.2.2.2.2.1
  exact ⟨_, _, ⟨x, r, r2, t, many', spl', e1, e2, e3, rfl, rfl⟩, A, n, bt, hh, HA, SA, fl, h1, h2, h3, h4, h5, h6, h7, h8, h9⟩
theorem s_part {S : LC} {T : LM} (h : Sim S T) (u1 u2 : Int32) : ∃ S9 T9, pL_part S T u1 u2 S9 T9 ∧ Sim S9 T9 := by
  obtain ⟨A, n, bt, hh, HA, SA, fl, h1, h2, h3, h4, h5, h6, h7, h8, h9⟩ := id h
  obtain ⟨x, r, r2, t, e1, e2, e3⟩ := q_part h1 h2 h4 u1 u2 T.1.1
  exact ⟨_, _, ⟨x, r, r2, t, e1, e2, e3, rfl, rfl⟩, A, n, bt, hh, HA, SA, fl, h1, h2, h3, h4, h5, h6, h7, h8, h9⟩
theorem s_user {S : LC} {T : LM} (h : Sim S T) (u1 u2 : Int32) : ∃ S9 T9, pL_user S T u1 u2 S9 T9 ∧ Sim S9 T9 := by
  obtain ⟨A, n, bt, hh, HA, SA, fl, h1, h2, h3, h4, h5, h6, h7, h8, h9⟩ := id h
  obtain ⟨x, r, r2, t, e1, e2, e3⟩ := q_user h1 h2 h4 u1 u2 T.1.1
  exact ⟨_, _, ⟨x, r, r2, t, e1, e2, e3, rfl, rfl⟩, A, n, bt, hh, HA, SA, fl, h1, h2, h3, h4, h5, h6, h7, h8, h9⟩
theorem s_piece {S : LC} {T : LM} (h : Sim S T) (u1 u2 : Int32) : ∃ S9 T9, pL_piece S T u1 u2 S9 T9 ∧ Sim S9 T9 := by
  obtain ⟨A, n, bt, hh, HA, SA, fl, h1, h2, h3, h4, h5, h6, h7, h8, h9⟩ := id h
  obtain ⟨x, r, r2, t, e1, e2, e3⟩ := q_piece h1 h2 h4 u1 u2 T.1.1
  exact ⟨_, _, ⟨x, r, r2, t, e1, e2, e3, rfl, rfl⟩, A, n, bt, hh, HA, SA, fl, h1, h2, h3, h4, h5, h6, h7, h8, h9⟩
theorem s_word {S : LC} {T : LM} (h : Sim S T) (u1 u2 : Int32) : ∃ S9 T9, pL_word S T u1 u2 S9 T9 ∧ Sim S9 T9 := by
  obtain ⟨A, n, bt, hh, HA, SA, fl, h1, h2, h3, h4, h5, h6, h7, h8, h9⟩ := id h
  obtain ⟨x, r, r2, t, many', spl', e1, e2, e3⟩ := q_word h1 h2 h4 u1 u2 T.1.1 T.1.2.2.2.2.2.2.2.2.2.2.1 T.2.2.2.2.2.2.1
  exact ⟨_, _, ⟨x, r, r2, t, many', spl', e1, e2, e3, rfl, rfl⟩, A, n, bt, hh, HA, SA, fl, h1, h2, h3, h4, h5, h6, h7, h8, h9⟩
theorem s_favourite {S : LC} {T : LM} (h : Sim S T) : ∃ S9 T9, pL_favourite S T S9 T9 ∧ Sim S9 T9 := by
  obtain ⟨A, n, bt, hh, HA, SA, fl, h1, h2, h3, h4, h5, h6, h7, h8, h9⟩ := id h
  obtain ⟨r, r2, t, e1, e2, e3⟩ := q_favourite h1 h2 h4  T.1.1
  exact ⟨_, _, ⟨r, r2, t, e1, e2, e3, rfl, rfl⟩, A, n, bt, hh, HA, SA, fl, h1, h2, h3, h4, h5, h6, h7, h8, h9⟩
theorem s_richest {S : LC} {T : LM} (h : Sim S T) : ∃ S9 T9, pL_richest S T S9 T9 ∧ Sim S9 T9 := by
  obtain ⟨A, n, bt, hh, HA, SA, fl, h1, h2, h3, h4, h5, h6, h7, h8, h9⟩ := id h
  obtain ⟨r, r2, t, e1, e2, e3⟩ := q_richest h1 h2 h4  T.1.1
  exact ⟨_, _, ⟨r, r2, t, e1, e2, e3, rfl, rfl⟩, A, n, bt, hh, HA, SA, fl, h1, h2, h3, h4, h5, h6, h7, h8, h9⟩
theorem s_isWhole {S : LC} {T : LM} (h : Sim S T) : ∃ S9 T9, pL_isWhole S T S9 T9 ∧ Sim S9 T9 := by
  obtain ⟨A, n, bt, hh, HA, SA, fl, h1, h2, h3, h4, h5, h6, h7, h8, h9⟩ := id h
  obtain ⟨r, r2, t, many', spl', e1, e2, e3⟩ := q_isWhole h1 h2 h4  T.1.1 T.1.2.2.2.2.2.2.2.2.2.2.1 T.2.2.2.2.2.2.1
  exact ⟨_, _, ⟨r, r2, t, many', spl', e1, e2, e3, rfl, rfl⟩, A, n, bt, hh, HA, SA, fl, h1, h2, h3, h4, h5, h6, h7, h8, h9⟩
theorem s_shared {S : LC} {T : LM} (h : Sim S T) (u1 u2 : Int32) : ∃ S9 T9, pL_shared S T u1 u2 S9 T9 ∧ Sim S9 T9 := by
  obtain ⟨A, n, bt, hh, HA, SA, fl, h1, h2, h3, h4, h5, h6, h7, h8, h9⟩ := id h
  obtain ⟨x, r, r2, t, e1, e2, e3⟩ := q_shared h1 h2 h4 u1 u2 T.1.1
  exact ⟨_, _, ⟨x, r, r2, t, e1, e2, e3, rfl, rfl⟩, A, n, bt, hh, HA, SA, fl, h1, h2, h3, h4, h5, h6, h7, h8, h9⟩
theorem s_fewest {S : LC} {T : LM} (h : Sim S T) (u1 : Int32) : ∃ S9 T9, pL_fewest S T u1 S9 T9 ∧ Sim S9 T9 := by
  obtain ⟨A, n, bt, hh, HA, SA, fl, h1, h2, h3, h4, h5, h6, h7, h8, h9⟩ := id h
  obtain ⟨x, r, C', S', r2, t, many', spl', c', f', g', e1, e2, e3⟩ := q_fewest h1 h2 h4 u1 T.1.1 T.1.2.2.2.2.2.2.2.2.2.2.1 S.2.2.2.2.2.1.1 S.2.2.2.2.2.1.2 T.2.2.2.2.2.2.1 T.2.2.2.2.2.2.2.1 T.2.2.2.2.2.2.2.2.1 T.2.2.2.2.2.2.2.2.2.1
  exact ⟨_, _, ⟨x, r, C', S', r2, t, many', spl', c', f', g', e1, e2, e3, rfl, rfl⟩, A, n, bt, hh, HA, SA, fl, h1, h2, h3, h4, h5, h6, h7, h8, h9⟩
theorem s_saving {S : LC} {T : LM} (h : Sim S T) (u1 : Int32) : ∃ S9 T9, pL_saving S T u1 S9 T9 ∧ Sim S9 T9 := by
  obtain ⟨A, n, bt, hh, HA, SA, fl, h1, h2, h3, h4, h5, h6, h7, h8, h9⟩ := id h
  obtain ⟨x, r, C', S', r2, t, many', spl', c', f', g', e1, e2, e3⟩ := q_saving h1 h2 h4 u1 T.1.1 T.1.2.2.2.2.2.2.2.2.2.2.1 S.2.2.2.2.2.1.1 S.2.2.2.2.2.1.2 T.2.2.2.2.2.2.1 T.2.2.2.2.2.2.2.1 T.2.2.2.2.2.2.2.2.1 T.2.2.2.2.2.2.2.2.2.1
  exact ⟨_, _, ⟨x, r, C', S', r2, t, many', spl', c', f', g', e1, e2, e3, rfl, rfl⟩, A, n, bt, hh, HA, SA, fl, h1, h2, h3, h4, h5, h6, h7, h8, h9⟩
theorem s_ways {S : LC} {T : LM} (h : Sim S T) (u1 : Int32) : ∃ S9 T9, pL_ways S T u1 S9 T9 ∧ Sim S9 T9 := by
  obtain ⟨A, n, bt, hh, HA, SA, fl, h1, h2, h3, h4, h5, h6, h7, h8, h9⟩ := id h
  obtain ⟨x, r, C', S', r2, t, many', spl', wy', e1, e2, e3⟩ := q_ways h1 h2 h4 u1 T.1.1 T.1.2.2.2.2.2.2.2.2.2.2.1 S.2.2.2.2.2.1.1 S.2.2.2.2.2.1.2 T.2.2.2.2.2.2.1 T.2.2.2.2.2.2.2.2.2.2.2.1
  exact ⟨_, _, ⟨x, r, C', S', r2, t, many', spl', wy', e1, e2, e3, rfl, rfl⟩, A, n, bt, hh, HA, SA, fl, h1, h2, h3, h4, h5, h6, h7, h8, h9⟩
theorem s_bestPart {S : LC} {T : LM} (h : Sim S T) (u1 u2 : Int32) : ∃ S9 T9, pL_bestPart S T u1 u2 S9 T9 ∧ Sim S9 T9 := by
  obtain ⟨A, n, bt, hh, HA, SA, fl, h1, h2, h3, h4, h5, h6, h7, h8, h9⟩ := id h
  obtain ⟨x, r, V', C', S', r2, t, many', spl', c', f', g', e1, e2, e3⟩ := q_bestPart h1 h2 h4 u1 u2 T.1.1 T.1.2.2.2.2.2.2.2.2.2.2.1 S.2.2.2.2.2.2.1.1 S.2.2.2.2.2.2.1.2.1 S.2.2.2.2.2.2.1.2.2 T.2.2.2.2.2.2.1 T.2.2.2.2.2.2.2.1 T.2.2.2.2.2.2.2.2.1 T.2.2.2.2.2.2.2.2.2.1
  exact ⟨_, _, ⟨x, r, V', C', S', r2, t, many', spl', c', f', g', e1, e2, e3, rfl, rfl⟩, A, n, bt, hh, HA, SA, fl, h1, h2, h3, h4, h5, h6, h7, h8, h9⟩
theorem s_find {S : LC} {T : LM} (h : Sim S T) (u1 : Int32) : ∃ S9 T9, pL_find S T u1 S9 T9 ∧ Sim S9 T9 := by
  obtain ⟨A, n, bt, hh, HA, SA, fl, h1, h2, h3, h4, h5, h6, h7, h8, h9⟩ := id h
  obtain ⟨x, r, bd', r2, t, ln', ts', s', nx', many', spl', e1, e2, e3, z1, z2⟩ := q_find h1 h2 h3 h4 h5 u1 T.1.1 T.1.2.2.1 T.1.2.2.2.1 T.1.2.2.2.2.1 T.1.2.2.2.2.2.2.2.2.2.2.1 T.2.2.2.2.2.2.1
  exact ⟨_, _, ⟨x, r, bd', r2, t, ln', ts', s', nx', many', spl', e1, e2, e3, rfl, rfl⟩, A, 0, bt, hh, HA, SA, fl, h1, h2, h3, h4, ⟨Nat.zero_le _, rfl, z1, z2, fun i hi => absurd hi (Nat.not_lt_zero i)⟩, h6, h7, h8, h9⟩
theorem s_quote {S : LC} {T : LM} (h : Sim S T) (u1 : Int32) : ∃ S9 T9, pL_quote S T u1 S9 T9 ∧ Sim S9 T9 := by
  obtain ⟨A, n, bt, hh, HA, SA, fl, h1, h2, h3, h4, h5, h6, h7, h8, h9⟩ := id h
  obtain ⟨x, r, bd', C', S', r2, t, ln', ts', s', nx', many', fm', spl', c', f', g', fa', e1, e2, e3, z1, z2⟩ := q_quote h1 h2 h4 h5 u1 T.1.1 T.1.2.2.1 T.1.2.2.2.1 T.1.2.2.2.2.1 T.1.2.2.2.2.2.2.2.2.2.2.1 T.1.2.2.2.2.2.2.2.2.2.2.2.1 S.2.2.2.2.2.1.1 S.2.2.2.2.2.1.2 T.2.2.2.2.2.2.1 T.2.2.2.2.2.2.2.1 T.2.2.2.2.2.2.2.2.1 T.2.2.2.2.2.2.2.2.2.1 T.2.2.2.2.2.2.2.2.2.2.1
  exact ⟨_, _, ⟨x, r, bd', C', S', r2, t, ln', ts', s', nx', many', fm', spl', c', f', g', fa', e1, e2, e3, rfl, rfl⟩, A, 0, bt, hh, HA, SA, fl, h1, h2, h3, h4, ⟨Nat.zero_le _, rfl, z1, z2, fun i hi => absurd hi (Nat.not_lt_zero i)⟩, h6, h7, h8, h9⟩
theorem s_whyNotStore {S : LC} {T : LM} (h : Sim S T) (u1 : Int32) : ∃ S9 T9, pL_whyNotStore S T u1 S9 T9 ∧ Sim S9 T9 := by
  obtain ⟨A, n, bt, hh, HA, SA, fl, h1, h2, h3, h4, h5, h6, h7, h8, h9⟩ := id h
  obtain ⟨x, r, bd', C', S', r2, t, ln', ts', s', nx', many', fm', spl', c', f', g', fa', e1, e2, e3, z1, z2⟩ := q_whyNot h1 h2 h4 h5 u1 T.1.1 T.1.2.2.1 T.1.2.2.2.1 T.1.2.2.2.2.1 T.1.2.2.2.2.2.2.2.2.2.2.1 T.1.2.2.2.2.2.2.2.2.2.2.2.1 S.2.2.2.2.2.1.1 S.2.2.2.2.2.1.2 T.2.2.2.2.2.2.1 T.2.2.2.2.2.2.2.1 T.2.2.2.2.2.2.2.2.1 T.2.2.2.2.2.2.2.2.2.1 T.2.2.2.2.2.2.2.2.2.2.1
  exact ⟨_, _, ⟨x, r, bd', C', S', r2, t, ln', ts', s', nx', many', fm', spl', c', f', g', fa', e1, e2, e3, rfl, rfl⟩, A, 0, bt, hh, HA, SA, fl, h1, h2, h3, h4, ⟨Nat.zero_le _, rfl, z1, z2, fun i hi => absurd hi (Nat.not_lt_zero i)⟩, h6, h7, h8, h9⟩
theorem s_remove {S : LC} {T : LM} (h : Sim S T) (u1 : Int32) : ∃ S9 T9, pL_remove S T u1 S9 T9 ∧ Sim S9 T9 := by
  obtain ⟨A, n, bt, hh, HA, SA, fl, h1, h2, h3, h4, h5, h6, h7, h8, h9⟩ := id h
  obtain ⟨x, r, fd', sm', U', P', W', Hs', r2, t, un', now', undo', e1, e2, e3, A', h', HA', a1, a2, a3, a4, a5, a6⟩ := q_remove h1 h2 h4 h7 u1 T.1.1
  rw [← h8] at e2
  exact ⟨_, _, ⟨x, r, fd', sm', U', P', W', Hs', r2, t, un', now', undo', e1, e2, e3, rfl, rfl⟩, A', n, bt, h', HA', SA, fl, a1, a2, mN_same a4 h3, a3, h5, h6, hHi_same a4 a5, a6, hSl_same a4 h9⟩
theorem s_recut {S : LC} {T : LM} (h : Sim S T) (u1 : Int32) : ∃ S9 T9, pL_recut S T u1 S9 T9 ∧ Sim S9 T9 := by
  obtain ⟨A, n, bt, hh, HA, SA, fl, h1, h2, h3, h4, h5, h6, h7, h8, h9⟩ := id h
  obtain ⟨x, r, fd', sm', U', P', W', C', S', Hs', r2, t, many', un', now', spl', c', f', g', undo', e1, e2, e3, A', h', HA', a1, a2, a3, a4, a5, a6⟩ := q_recut h1 h2 h4 h7 u1 T.1.1 T.1.2.2.2.2.2.2.2.2.2.2.1 S.2.2.2.2.2.1.1 S.2.2.2.2.2.1.2 T.2.2.2.2.2.2.1 T.2.2.2.2.2.2.2.1 T.2.2.2.2.2.2.2.2.1 T.2.2.2.2.2.2.2.2.2.1
  rw [← h8] at e2
  exact ⟨_, _, ⟨x, r, fd', sm', U', P', W', C', S', Hs', r2, t, many', un', now', spl', c', f', g', undo', e1, e2, e3, rfl, rfl⟩, A', n, bt, h', HA', SA, fl, a1, a2, mN_same a4 h3, a3, h5, h6, hHi_same a4 a5, a6, hSl_same a4 h9⟩
theorem s_recutAll {S : LC} {T : LM} (h : Sim S T) : ∃ S9 T9, pL_recutAll S T S9 T9 ∧ Sim S9 T9 := by
  obtain ⟨A, n, bt, hh, HA, SA, fl, h1, h2, h3, h4, h5, h6, h7, h8, h9⟩ := id h
  obtain ⟨r, fd', sm', U', P', W', C', S', Hs', r2, t, many', un', now', spl', c', f', g', undo', e1, e2, e3, A', h', HA', a1, a2, a3, a4, a5, a6⟩ := q_recutAll h1 h2 h4 h7  T.1.1 T.1.2.2.2.2.2.2.2.2.2.2.1 S.2.2.2.2.2.1.1 S.2.2.2.2.2.1.2 T.2.2.2.2.2.2.1 T.2.2.2.2.2.2.2.1 T.2.2.2.2.2.2.2.2.1 T.2.2.2.2.2.2.2.2.2.1
  rw [← h8] at e2
  exact ⟨_, _, ⟨r, fd', sm', U', P', W', C', S', Hs', r2, t, many', un', now', spl', c', f', g', undo', e1, e2, e3, rfl, rfl⟩, A', n, bt, h', HA', SA, fl, a1, a2, mN_same a4 h3, a3, h5, h6, hHi_same a4 a5, a6, hSl_same a4 h9⟩
theorem s_tick {S : LC} {T : LM} (h : Sim S T) (u1 : Int32) : ∃ S9 T9, pL_tick S T u1 S9 T9 ∧ Sim S9 T9 := by
  obtain ⟨A, n, bt, hh, HA, SA, fl, h1, h2, h3, h4, h5, h6, h7, h8, h9⟩ := id h
  obtain ⟨x, r, tm', ch', sm', U', P', W', Hs', r2, t, un', now', undo', e1, e2, e3, A', h', HA', a1, a2, a3, a4, a5, a6⟩ := q_tick h1 h2 h4 h7 u1 T.1.1
  rw [← h8] at e2
  exact ⟨_, _, ⟨x, r, tm', ch', sm', U', P', W', Hs', r2, t, un', now', undo', e1, e2, e3, rfl, rfl⟩, A', n, bt, h', HA', SA, fl, a1, a2, mN_same a4 h3, a3, h5, h6, hHi_same a4 a5, a6, hSl_same a4 h9⟩
theorem s_pay {S : LC} {T : LM} (h : Sim S T) (u1 u2 u3 : Int32) : ∃ S9 T9, pL_pay S T u1 u2 u3 S9 T9 ∧ Sim S9 T9 := by
  obtain ⟨A, n, bt, hh, HA, SA, fl, h1, h2, h3, h4, h5, h6, h7, h8, h9⟩ := id h
  obtain ⟨x, r, U', Hs', r2, t, un', now', undo', e1, e2, e3, A', h', HA', a1, a2, a3, a4, a5, a6⟩ := q_pay h1 h2 h4 h7 u1 u2 u3 T.1.1
  rw [← h8] at e2
  exact ⟨_, _, ⟨x, r, U', Hs', r2, t, un', now', undo', e1, e2, e3, rfl, rfl⟩, A', n, bt, h', HA', SA, fl, a1, a2, mN_same a4 h3, a3, h5, h6, hHi_same a4 a5, a6, hSl_same a4 h9⟩
theorem s_undo {S : LC} {T : LM} (h : Sim S T) : ∃ S9 T9, pL_undo S T S9 T9 ∧ Sim S9 T9 := by
  obtain ⟨A, n, bt, hh, HA, SA, fl, h1, h2, h3, h4, h5, h6, h7, h8, h9⟩ := id h
  obtain ⟨r, tm', ch', fd', st', sm', U', P', W', Hs', r2, t, un', now', e1, e2, e3, A', h', HA', a1, a2, a3, a4, a5, a6⟩ := q_undo h1 h2 h4 h7  T.1.1
  rw [← h8] at e2
  exact ⟨_, _, ⟨r, tm', ch', fd', st', sm', U', P', W', Hs', r2, t, un', now', e1, e2, e3, rfl, rfl⟩, A', n, bt, h', HA', SA, fl, a1, a2, mN_same a4 h3, a3, h5, h6, hHi_same a4 a5, a6, hSl_same a4 h9⟩
theorem s_restoreSnapshot {S : LC} {T : LM} (h : Sim S T) (u1 : Int32) : ∃ S9 T9, pL_restoreSnapshot S T u1 S9 T9 ∧ Sim S9 T9 := by
  obtain ⟨A, n, bt, hh, HA, SA, fl, h1, h2, h3, h4, h5, h6, h7, h8, h9⟩ := id h
  obtain ⟨x, r, tm', ch', fd', st', sm', U', P', W', Hs', r2, t, un', now', e1, e2, e3, A', h', HA', a1, a2, a3, a4, a5, a6⟩ := q_restore h1 h2 h4 h7 h9 u1 T.1.1
  rw [← h8] at e2
  exact ⟨_, _, ⟨x, r, tm', ch', fd', st', sm', U', P', W', Hs', r2, t, un', now', e1, e2, e3, rfl, rfl⟩, A', n, bt, h', HA', SA, fl, a1, a2, mN_same a4 h3, a3, h5, h6, hHi_same a4 a5, a6, hSl_same a4 h9⟩
theorem s_store {S : LC} {T : LM} (h : Sim S T) (u1 : Int32) : ∃ S9 T9, pL_store S T u1 S9 T9 ∧ Sim S9 T9 := by
  obtain ⟨A, n, bt, hh, HA, SA, fl, h1, h2, h3, h4, h5, h6, h7, h8, h9⟩ := id h
  obtain ⟨x, r, bd', ch', fd', sm', U', P', W', C', S', Hs', r2, t, ln', ts', s', nx', many', fm', un', now', spl', c', f', g', fa', undo', e1, e2, e3, z1, z2, A', h', HA', a1, a2, a3, a4, a5, a6⟩ := q_store h1 h2 h4 h7 h5 u1 T.1.1 T.1.2.2.1 T.1.2.2.2.1 T.1.2.2.2.2.1 T.1.2.2.2.2.2.2.2.2.2.2.1 T.1.2.2.2.2.2.2.2.2.2.2.2.1 S.2.2.2.2.2.1.1 S.2.2.2.2.2.1.2 T.2.2.2.2.2.2.1 T.2.2.2.2.2.2.2.1 T.2.2.2.2.2.2.2.2.1 T.2.2.2.2.2.2.2.2.2.1 T.2.2.2.2.2.2.2.2.2.2.1
  rw [← h8] at e2
  exact ⟨_, _, ⟨x, r, bd', ch', fd', sm', U', P', W', C', S', Hs', r2, t, ln', ts', s', nx', many', fm', un', now', spl', c', f', g', fa', undo', e1, e2, e3, rfl, rfl⟩, A', 0, bt, h', HA', SA, fl, a1, a2, mN_same a4 h3, a3, ⟨Nat.zero_le _, rfl, z1, z2, fun i hi => absurd hi (Nat.not_lt_zero i)⟩, h6, hHi_same a4 a5, a6, hSl_same a4 h9⟩
theorem s_bring {S : LC} {T : LM} (h : Sim S T) (u1 : Int32) : ∃ S9 T9, pL_bring S T u1 S9 T9 ∧ Sim S9 T9 := by
  obtain ⟨A, n, bt, hh, HA, SA, fl, h1, h2, h3, h4, h5, h6, h7, h8, h9⟩ := id h
  obtain ⟨x, r, bd', ch', sm', U', P', Hs', r2, t, ln', ts', s', nx', many', un', now', spl', undo', e1, e2, e3, z1, z2, A', h', HA', a1, a2, a3, a4, a5, a6⟩ := q_bring h1 h2 h4 h7 h5 u1 T.1.1 T.1.2.2.1 T.1.2.2.2.1 T.1.2.2.2.2.1 T.1.2.2.2.2.2.2.2.2.2.2.1 T.2.2.2.2.2.2.1
  rw [← h8] at e2
  exact ⟨_, _, ⟨x, r, bd', ch', sm', U', P', Hs', r2, t, ln', ts', s', nx', many', un', now', spl', undo', e1, e2, e3, rfl, rfl⟩, A', 0, bt, h', HA', SA, fl, a1, a2, mN_same a4 h3, a3, ⟨Nat.zero_le _, rfl, z1, z2, fun i hi => absurd hi (Nat.not_lt_zero i)⟩, h6, hHi_same a4 a5, a6, hSl_same a4 h9⟩
theorem s_saveSnapshot {S : LC} {T : LM} (h : Sim S T) (u1 : Int32) : ∃ S9 T9, pL_saveSnapshot S T u1 S9 T9 ∧ Sim S9 T9 := by
  obtain ⟨A, n, bt, hh, HA, SA, fl, h1, h2, h3, h4, h5, h6, h7, h8, h9⟩ := id h
  obtain ⟨x, r, Sl', fl1, r2, t, sl', is', e1, e2, e3, SA', fl', a⟩ := q_save h1 h2 h4 h9 u1 T.1.1
  exact ⟨_, _, ⟨x, r, Sl', fl1, r2, t, sl', is', e1, e2, e3, rfl, rfl⟩, A, n, bt, hh, HA, SA', fl', h1, h2, h3, h4, h5, h6, h7, h8, a⟩
theorem s_append {S : LC} {T : LM} (h : Sim S T) (u1 u2 u3 u4 u5 : Int32) : ∃ S9 T9, pL_append S T u1 u2 u3 u4 u5 S9 T9 ∧ Sim S9 T9 := by
  obtain ⟨A, n, bt, hh, HA, SA, fl, h1, h2, h3, h4, h5, h6, h7, h8, h9⟩ := id h
  obtain ⟨r, bd', buf', r2, t, ln', tx', e1, e2, e3, n', bt', a⟩ := q_append h5 u1 u2 u3 u4 u5 T.1.1
  exact ⟨_, _, ⟨r, bd', buf', r2, t, ln', tx', e1, e2, e3, rfl, rfl⟩, A, n', bt', hh, HA, SA, fl, h1, h2, h3, h4, a, h6, h7, h8, h9⟩
theorem s_all : pAll Sim := by
  intro S T h
  exact ⟨fun u1 u2 u3 u4 u5 => s_append h u1 u2 u3 u4 u5, fun u1 => s_parse h u1, s_errorPosition h, fun u1 => s_size h u1, fun u1 => s_find h u1, fun u1 u2 => s_user h u1 u2, fun u1 u2 => s_piece h u1 u2, fun u1 u2 => s_pieceLetter h u1 u2, fun u1 u2 => s_word h u1 u2, fun u1 u2 => s_wordLetter h u1 u2, fun u1 u2 => s_part h u1 u2, fun u1 => s_quote h u1, fun u1 => s_whyNotStore h u1, fun u1 => s_ways h u1, fun u1 => s_fewest h u1, fun u1 => s_saving h u1, fun u1 u2 => s_bestPart h u1 u2, fun u1 u2 => s_shared h u1 u2, s_favourite h, s_richest h, s_isWhole h, fun u1 => s_account h u1, fun u1 => s_store h u1, fun u1 => s_remove h u1, fun u1 => s_recut h u1, s_recutAll h, fun u1 => s_bring h u1, fun u1 => s_tick h u1, fun u1 u2 u3 => s_pay h u1 u2 u3, s_undo h, fun u1 => s_saveSnapshot h u1, fun u1 => s_restoreSnapshot h u1⟩
