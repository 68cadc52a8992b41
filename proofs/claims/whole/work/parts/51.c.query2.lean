/-! user, piece, word -/
theorem sm_mul (c : Nat) (f : Nat → Nat) : ∀ n, sm (fun i => c * f i) n = c * sm f n
  | 0 => rfl
  | n + 1 => by rw [sm_succ, sm_succ, sm_mul c f n, Nat.mul_add]
theorem m_ofU5 {A : aB} {now : Nat → Int32} (hm : mB A now) (hI : Inv A) {u wh : Nat} (hu : u < 1000) (hwh : wh < 3) (k : Int32 → Option Int32) : ∀ (d j n acc : Nat), j + d = A.2.2.1.1 → d < n → fX10_ofUser_L5 (Int32.ofNat u) (Int32.ofNat wh) now k n (Int32.ofNat acc) (Int32.ofNat j) = k (Int32.ofNat (acc + smF (fun i => if A.2.2.1.2.2.1 i = u then (if wh = 1 then 1 else A.2.2.2.1 2 * (A.2.2.1.2.2.2 i).length) else 0) j d))
  | d, j, 0, acc, _, h2 => by omega
  | 0, j, n + 1, acc, h1, _ => by
    have := hI.2.2.1.1
    rw [fX10_ofUser_L5, hm.2.2.1.1, if_pos (by rw [J_le _ _ (by omega) (by omega)]; omega)]
    rfl
  | d + 1, j, n + 1, acc, h1, h2 => by
    have h16 := hI.2.2.1.1
    have h4 := hI.1.1
    have hj : j < A.2.2.1.1 := by omega
    obtain ⟨g0, g1, _⟩ := hm.2.2.1.2 j hj
    have ho := (hI.2.2.1.2 j hj).1
    have e0 := m_ofWord (i := j) (w := 0) now (by omega) (by omega)
    rw [Nat.add_zero, g0] at e0
    have ih := fun a => m_ofU5 hm hI hu hwh k d (j + 1) n a (by omega) (by omega)
    rw [fX10_ofUser_L5, hm.2.2.1.1, if_neg (by rw [J_le _ _ (by omega) (by omega)]; omega), if_neg (by rw [i_3, J_le _ _ (by omega) (by omega)]; omega), i_0, e0, gb1_some, i_1, J_add, smF]
    by_cases c : A.2.2.1.2.2.1 j = u
    · rw [if_pos (by rw [c]), if_pos c]
      by_cases c1 : wh = 1
      · rw [if_pos (by rw [c1]), J_add, ih, if_pos c1, Nat.add_assoc]
      · rw [if_neg (by rw [J_eq _ _ (by omega) (by omega)]; exact c1), m_ofWord now (by omega) (by omega), gb1_some, g1, hm.2.2.2.1 2 (by omega), J_mul, J_add, J_add, ih, if_neg c1, Nat.add_assoc]
    · rw [if_neg (by rw [J_eq _ _ (by omega) (by omega)]; exact c), if_neg c, J_add, J_add, ih, Nat.add_zero, Nat.zero_add]
theorem m_ofU5x {now : Nat → Int32} {u wh : Nat} (hwh : 3 ≤ wh) (hw2 : wh < 1000) (k : Int32 → Option Int32) : fX10_ofUser_L5 (Int32.ofNat u) (Int32.ofNat wh) now k FU 0 0 = k 0 := by
  show fX10_ofUser_L5 _ _ now k (999 + 1) 0 0 = _
  rw [fX10_ofUser_L5, if_pos (show (3 : Int32) ≤ Int32.ofNat wh by rw [i_3, J_le _ _ (by omega) (by omega)]; omega), ite_self]
theorem m_ofU72x {now : Nat → Int32} {u wh : Nat} (hwh : wh ≤ 2) (acc : Int32) (k : Int32 → Option Int32) : fX10_ofUser_L72 (Int32.ofNat u) (Int32.ofNat wh) now k FU acc 0 = k acc := by
  show fX10_ofUser_L72 _ _ now k (999 + 1) acc 0 = _
  rw [fX10_ofUser_L72, if_pos (show Int32.ofNat wh ≤ (2 : Int32) by rw [i_2, J_le _ _ (by omega) (by omega)]; omega), ite_self]
theorem m_ofU72 {A : aB} {now : Nat → Int32} (hm : mB A now) (hI : Inv A) {u wh : Nat} (hu : u < 1000) (hwh : 3 ≤ wh) (hw2 : wh < 1000) (k : Int32 → Option Int32) : ∀ (d j n acc : Nat), j + d = A.2.1.1 → d < n → fX10_ofUser_L72 (Int32.ofNat u) (Int32.ofNat wh) now k n (Int32.ofNat acc) (Int32.ofNat j) = k (Int32.ofNat (acc + smF (fun i => if A.2.1.2.2.2.1 i = Int32.ofNat u then (if wh = 3 then 1 else A.2.1.2.2.1 i) else 0) j d))
  | d, j, 0, acc, _, h2 => by omega
  | 0, j, n + 1, acc, h1, _ => by
    have := hI.2.1.1
    rw [fX10_ofUser_L72, hm.2.1.1, if_pos (by rw [J_le _ _ (by omega) (by omega)]; omega)]
    rfl
  | d + 1, j, n + 1, acc, h1, h2 => by
    have h24 := hI.2.1.1
    have hj : j < A.2.1.1 := by omega
    obtain ⟨_, g1, g2, _⟩ := hm.2.1.2 j hj
    have ih := fun a => m_ofU72 hm hI hu hwh hw2 k d (j + 1) n a (by omega) (by omega)
    rw [fX10_ofUser_L72, hm.2.1.1, if_neg (by rw [J_le _ _ (by omega) (by omega)]; omega), i_2, if_neg (by rw [J_le _ _ (by omega) (by omega)]; omega), m_ofPiece now (by omega) (by omega), gb1_some, g2, i_1, J_add, smF]
    by_cases c : A.2.1.2.2.2.1 j = Int32.ofNat u
    · rw [if_pos c, if_pos c]
      by_cases c1 : wh = 3
      · rw [if_pos (by rw [c1]; rfl), J_add, ih, if_pos c1, Nat.add_assoc]
      · rw [if_neg (by rw [i_3, J_eq _ _ (by omega) (by omega)]; exact c1), m_ofPiece now (by omega) (by omega), gb1_some, g1, J_add, J_add, ih, if_neg c1, Nat.add_assoc]
    · rw [if_neg c, if_neg c, i_0, J_add, J_add, ih, Nat.add_zero, Nat.zero_add]
theorem m_ofUser2 {A : aB} {now : Nat → Int32} (hm : mB A now) (hI : Inv A) {u : Nat} (hu : u < 1000) : fX10_ofUser (Int32.ofNat u) 2 now = some (Int32.ofNat (hel A u)) := by
  have h16 := hI.2.2.1.1
  have e := m_ofU5 hm hI hu (wh := 2) (by omega) (fun x3_1 => fX10_ofUser_L72 (Int32.ofNat u) 2 now (fun x3_2 => some x3_2) FU x3_1 0) A.2.2.1.1 0 FU 0 (by omega) (by simp only [FU]; omega)
  have e2 := m_ofU72x (now := now) (u := u) (wh := 2) (by omega) (Int32.ofNat (0 + smF (fun i => if A.2.2.1.2.2.1 i = u then (if 2 = 1 then 1 else A.2.2.2.1 2 * (A.2.2.1.2.2.2 i).length) else 0) 0 A.2.2.1.1)) (fun x3_2 => some x3_2)
  rw [fX10_ofUser]
  refine e.trans (e2.trans ?_)
  congr 2
  rw [Nat.zero_add, hel, ← sm_mul]
  unfold sm
  refine sm_congr (fun i hi => ?_)
  split
  · rw [if_neg (by decide)]
  · rfl
theorem q_user {A : aB} {b : tBk} {now : Nat → Int32} (hc : cBk A b) (hm : mB A now) (hI : Inv A) (u1 u2 t0 : Int32) : ∃ (x r r2 t : Int32), fX9_user u1 u2 b.2.2.2.1 b.2.2.2.2.2.1 b.2.2.2.2.2.2.1 b.2.2.2.2.2.2.2 = some (x, r) ∧ fX10_user u1 u2 t0 now = some (r2, t) ∧ ((x = 0 ∧ t = 0 ∧ r = r2) ∨ (x = 1 ∧ t = 1) ∨ (x = 2 ∧ t = 2)) := by
  have h4 := hI.1.1
  have h16 := hI.2.2.1.1
  have h24 := hI.2.1.1
  rcases idx_cases u1 A.1.1 with ⟨u, hu, _, rfl⟩ | ho
  · rcases idx_cases u2 5 with ⟨i, hi, _, rfl⟩ | h2
    · have e : fX10_within (Int32.ofNat i) 0 4 = some 1 := within_in (n := 4) rfl (by omega) (by decide)
      have hM : ∀ v, fX10_ofUser (Int32.ofNat u) (Int32.ofNat i) now = some v → i ≠ 0 → fX10_user (Int32.ofNat u) (Int32.ofNat i) t0 now = some (v, 0) := by
        intro v hv hn
        rw [fX10_user, noU_in hm.1.1 hu (by omega), gb2_some, if_pos rfl, e, gb1_some, Lt_eq, if_neg (by decide)]
        dsimp only
        rw [throws_no, gb2_some, if_pos rfl, if_neg (by rw [i_0, J_eq _ _ (by omega) (by omega)]; exact hn), hv, gb1_some]
      have hi3 : i = 0 ∨ i = 1 ∨ i = 2 ∨ i = 3 ∨ i = 4 := by omega
      have hreq := reqU_in hc.1.1 hu (show A.1.1 ≤ 1000 by omega)
      rcases hi3 with rfl | rfl | rfl | rfl | rfl
      · refine ⟨0, Int32.ofNat (A.1.2.2 u), Int32.ofNat (A.1.2.2 u), 0, ?_, ?_, Or.inl ⟨rfl, rfl, rfl⟩⟩
        · rw [fX9_user, hreq, gb1_some, if_pos rfl, if_pos (by decide), c_coinsOf hc.1 h4 hu, gb1_some]
        · rw [fX10_user, noU_in hm.1.1 hu (by omega), gb2_some, if_pos rfl, e, gb1_some, Lt_eq, if_neg (by decide)]
          dsimp only
          rw [throws_no, gb2_some, if_pos rfl, if_pos (by decide), i_17, J_add, if_neg (inck (i := 17 + u) (n := 300) (by omega) (by omega) (by omega)), J_nat _ (by omega), hm.1.2 u hu]
      · have hv : fX10_ofUser (Int32.ofNat u) 1 now = some (Int32.ofNat (sm (fun i => if A.2.2.1.2.2.1 i = u then 1 else 0) A.2.2.1.1)) := by
          have e := m_ofU5 hm hI (show u < 1000 by omega) (wh := 1) (by omega) (fun x3_1 => fX10_ofUser_L72 (Int32.ofNat u) 1 now (fun x3_2 => some x3_2) FU x3_1 0) A.2.2.1.1 0 FU 0 (by omega) (by simp only [FU]; omega)
          rw [fX10_ofUser]
          refine e.trans ((m_ofU72x (wh := 1) (by omega) _ _).trans ?_)
          rw [Nat.zero_add]
          rfl
        refine ⟨0, _, _, 0, ?_, hM _ hv (by omega), Or.inl ⟨rfl, rfl, rfl⟩⟩
        rw [fX9_user, hreq, gb1_some, if_pos rfl, if_neg (by decide), if_pos (by decide), c_countOf hc.2.2.1 h16 u (by omega) (fun i hi => by have := (hI.2.2.1.2 i hi).1; omega), gb1_some]
      · refine ⟨0, _, _, 0, ?_, hM _ (m_ofUser2 hm hI (by omega)) (by omega), Or.inl ⟨rfl, rfl, rfl⟩⟩
        rw [fX9_user, hreq, gb1_some, if_pos rfl, if_neg (by decide), if_neg (by decide), if_pos (by decide), c_held' hc.2.2.1 hc.2.2.2.1 hI (by omega), gb1_some]
      · have hv : fX10_ofUser (Int32.ofNat u) 3 now = some (Int32.ofNat (sm (fun i => if A.2.1.2.2.2.1 i = Int32.ofNat u then 1 else 0) A.2.1.1)) := by
          rw [fX10_ofUser]
          refine (m_ofU5x (wh := 3) (by omega) (by omega) _).trans ?_
          have e := m_ofU72 hm hI (show u < 1000 by omega) (wh := 3) (by omega) (by omega) (fun x3_2 => some x3_2) A.2.1.1 0 FU 0 (by omega) (by simp only [FU]; omega)
          refine e.trans ?_
          rw [Nat.zero_add]
          rfl
        refine ⟨0, _, _, 0, ?_, hM _ hv (by omega), Or.inl ⟨rfl, rfl, rfl⟩⟩
        rw [fX9_user, hreq, gb1_some, if_pos rfl, if_neg (by decide), if_neg (by decide), if_neg (by decide), if_pos (by decide), c_ownedBy hc.2.1 h24, gb1_some]
      · have hv : fX10_ofUser (Int32.ofNat u) 4 now = some (Int32.ofNat (sm (fun i => if A.2.1.2.2.2.1 i = Int32.ofNat u then A.2.1.2.2.1 i else 0) A.2.1.1)) := by
          rw [fX10_ofUser]
          refine (m_ofU5x (wh := 4) (by omega) (by omega) _).trans ?_
          have e := m_ofU72 hm hI (show u < 1000 by omega) (wh := 4) (by omega) (by omega) (fun x3_2 => some x3_2) A.2.1.1 0 FU 0 (by omega) (by simp only [FU]; omega)
          refine e.trans ?_
          rw [Nat.zero_add]
          rfl
        refine ⟨0, _, _, 0, ?_, hM _ hv (by omega), Or.inl ⟨rfl, rfl, rfl⟩⟩
        rw [fX9_user, hreq, gb1_some, if_pos rfl, if_neg (by decide), if_neg (by decide), if_neg (by decide), if_neg (by decide), if_pos (by decide), c_paidBy hc.2.1 h24, gb1_some]
    · have hne : ∀ i, i < 5 → u2 ≠ Int32.ofNat i := by
        intro i hi e
        subst e
        rcases h2 with h | ⟨j, h1, h2, h3⟩
        · rw [i_0, J_lt _ _ (by omega) (by omega)] at h
          omega
        · have := J_inj (by omega) h2 h3
          omega
      have e : fX10_within u2 0 4 = some 0 := within_out (n := 4) (by decide) h2
      refine ⟨2, 0, 0, 2, ?_, ?_, Or.inr (Or.inr ⟨rfl, rfl⟩)⟩
      · rw [fX9_user, reqU_in hc.1.1 hu (by omega), gb1_some, if_pos rfl, if_neg (show ¬ u2 = 0 from hne 0 (by omega)), if_neg (show ¬ u2 = 1 from hne 1 (by omega)), if_neg (show ¬ u2 = 2 from hne 2 (by omega)), if_neg (show ¬ u2 = 3 from hne 3 (by omega)), if_neg (show ¬ u2 = 4 from hne 4 (by omega))]
      · rw [fX10_user, noU_in hm.1.1 hu (by omega), gb2_some, if_pos rfl, e, gb1_some, Lt_eq, if_pos rfl]
        dsimp only
        rw [throws_2, gb2_some, if_neg (by decide)]
  · refine ⟨1, 0, 0, 1, ?_, ?_, Or.inr (Or.inl ⟨rfl, rfl⟩)⟩
    · rw [fX9_user, reqU_out hc.1.1 (by omega) ho, gb1_some, if_neg (by decide)]
    · rw [fX10_user, noU_out hm.1.1 (by omega) ho, gb2_some, if_neg (by decide)]
theorem ne_of_out {x : Int32} {n : Nat} (hn : n ≤ 1000) (h2 : x < 0 ∨ ∃ j, n ≤ j ∧ j < 2147483648 ∧ x = Int32.ofNat j) : ∀ i, i < n → x ≠ Int32.ofNat i := by
  intro i hi e
  subst e
  rcases h2 with h | ⟨j, h1, h2, h3⟩
  · rw [i_0, J_lt _ _ (by omega) (by omega)] at h
    omega
  · have := J_inj (by omega) h2 h3
    omega
theorem q_piece {A : aB} {b : tBk} {now : Nat → Int32} (hc : cBk A b) (hm : mB A now) (hI : Inv A) (u1 u2 t0 : Int32) : ∃ (x r r2 t : Int32), fX9_piece u1 u2 b.2.2.2.2.2.2.1 = some (x, r) ∧ fX10_piece u1 u2 t0 now = some (r2, t) ∧ ((x = 0 ∧ t = 0 ∧ r = r2) ∨ (x = 1 ∧ t = 1) ∨ (x = 2 ∧ t = 2)) := by
  have h24 := hI.2.1.1
  rcases idx_cases u1 A.2.1.1 with ⟨q, hq, _, rfl⟩ | ho
  · obtain ⟨p1, p2, p3, _⟩ := hI.2.1.2 q hq
    obtain ⟨f0, f1, f2, f3, f4⟩ := hc.2.1.2 q hq
    obtain ⟨g0, g1, g2, g3, g4⟩ := hm.2.1.2 q hq
    have hub := uses_bd hI hq
    have hreq := reqP_in hc.2.1.1 hq (show A.2.1.1 ≤ 1000 by omega)
    have hck := inck hq h24 (show 24 ≤ 1000 by omega)
    have eo := m_ofPiece (q := q) (w := 0) now (by omega) (by omega)
    rw [Nat.add_zero, g0] at eo
    have e3 := m_ofPiece (q := q) (w := 3) now (by omega) (by omega)
    rw [g3] at e3
    rcases idx_cases u2 5 with ⟨i, hi, _, rfl⟩ | h2
    · have e : fX10_within (Int32.ofNat i) 0 4 = some 1 := within_in (n := 4) rfl (by omega) (by decide)
      have hM : ∀ v, i ≠ 0 → now (21 + 5 * q + i) = v → (i = 4 → A.2.1.2.2.2.2.1 q = 0) → fX10_piece (Int32.ofNat q) (Int32.ofNat i) t0 now = some (v, 0) := by
        intro v hn hv h4
        rw [fX10_piece, noP_in hm.2.1.1 hq (by omega), gb2_some, if_pos rfl, e, gb1_some, Lt_eq, if_neg (by decide)]
        dsimp only
        rw [throws_no, gb2_some, if_pos rfl, if_neg (by rw [i_0, J_eq _ _ (by omega) (by omega)]; exact hn), m_ofPiece now (by omega) (by omega), gb1_some, Lt_eq, hv]
        by_cases c4 : i = 4
        · rw [if_pos (by rw [c4]; rfl), show (3 : Int32) = Int32.ofNat 3 from rfl, e3, gb1_some, if_pos (by rw [h4 c4]; decide)]
        · rw [if_neg (by rw [i_4, J_eq _ _ (by omega) (by omega)]; exact c4)]
      have hi3 : i = 0 ∨ i = 1 ∨ i = 2 ∨ i = 3 ∨ i = 4 := by omega
      rcases hi3 with rfl | rfl | rfl | rfl | rfl
      · refine ⟨0, Int32.ofNat (A.2.1.2.1 q).length, Int32.ofNat (A.2.1.2.1 q).length, 0, ?_, ?_, Or.inl ⟨rfl, rfl, rfl⟩⟩
        · rw [fX9_piece, hreq, gb1_some, if_pos rfl, if_pos (by decide), if_neg hck, J_nat _ (by omega), f0, c_lengthOf p1 (by omega), gb1_some]
        · rw [fX10_piece, noP_in hm.2.1.1 hq (by omega), gb2_some, if_pos rfl, e, gb1_some, Lt_eq, if_neg (by decide)]
          dsimp only
          rw [throws_no, gb2_some, if_pos rfl, if_pos (by decide), show (0 : Int32) = Int32.ofNat 0 from rfl, eo, gb1_some, m_letters p1 p3, gb1_some]
      · refine ⟨0, _, _, 0, ?_, hM _ (by omega) g1 (by omega), Or.inl ⟨rfl, rfl, rfl⟩⟩
        rw [fX9_piece, hreq, gb1_some, if_pos rfl, if_neg (by decide), if_pos (by decide), if_neg hck, J_nat _ (by omega), f1]
      · refine ⟨0, _, _, 0, ?_, hM _ (by omega) g2 (by omega), Or.inl ⟨rfl, rfl, rfl⟩⟩
        rw [fX9_piece, hreq, gb1_some, if_pos rfl, if_neg (by decide), if_neg (by decide), if_pos (by decide), if_neg hck, J_nat _ (by omega), f2]
      · refine ⟨0, _, _, 0, ?_, hM _ (by omega) g3 (by omega), Or.inl ⟨rfl, rfl, rfl⟩⟩
        rw [fX9_piece, hreq, gb1_some, if_pos rfl, if_neg (by decide), if_neg (by decide), if_neg (by decide), if_pos (by decide), if_neg hck, J_nat _ (by omega), f3]
      · by_cases c0 : A.2.1.2.2.2.2.1 q = 0
        · refine ⟨0, _, _, 0, ?_, hM _ (by omega) g4 (fun _ => c0), Or.inl ⟨rfl, rfl, rfl⟩⟩
          rw [fX9_piece, hreq, gb1_some, if_pos rfl, if_neg (by decide), if_neg (by decide), if_neg (by decide), if_neg (by decide), if_pos (by decide), if_neg hck, if_neg hck, J_nat _ (by omega), f3, if_pos (by rw [c0]; decide), f4]
        · refine ⟨0, -1, -1, 0, ?_, ?_, Or.inl ⟨rfl, rfl, rfl⟩⟩
          · rw [fX9_piece, hreq, gb1_some, if_pos rfl, if_neg (by decide), if_neg (by decide), if_neg (by decide), if_neg (by decide), if_pos (by decide), if_neg hck, J_nat _ (by omega), f3, if_neg (by rw [i_0, J_le _ _ (by omega) (by omega)]; omega)]
          · rw [fX10_piece, noP_in hm.2.1.1 hq (by omega), gb2_some, if_pos rfl, e, gb1_some, Lt_eq, if_neg (by decide)]
            dsimp only
            rw [throws_no, gb2_some, if_pos rfl, if_neg (by decide), Lt_eq, if_pos (by decide), show (3 : Int32) = Int32.ofNat 3 from rfl, e3, gb1_some, if_neg (by rw [i_0, J_le _ _ (by omega) (by omega)]; omega)]
    · have hne := ne_of_out (by omega) h2
      have e : fX10_within u2 0 4 = some 0 := within_out (n := 4) (by decide) h2
      refine ⟨2, 0, 0, 2, ?_, ?_, Or.inr (Or.inr ⟨rfl, rfl⟩)⟩
      · rw [fX9_piece, hreq, gb1_some, if_pos rfl, if_neg (show ¬ u2 = 0 from hne 0 (by omega)), if_neg (show ¬ u2 = 1 from hne 1 (by omega)), if_neg (show ¬ u2 = 2 from hne 2 (by omega)), if_neg (show ¬ u2 = 3 from hne 3 (by omega)), if_neg (show ¬ u2 = 4 from hne 4 (by omega))]
      · rw [fX10_piece, noP_in hm.2.1.1 hq (by omega), gb2_some, if_pos rfl, e, gb1_some, Lt_eq, if_pos rfl]
        dsimp only
        rw [throws_2, gb2_some, if_neg (by decide)]
  · refine ⟨1, 0, 0, 1, ?_, ?_, Or.inr (Or.inl ⟨rfl, rfl⟩)⟩
    · rw [fX9_piece, reqP_out hc.2.1.1 (by omega) ho, gb1_some, if_neg (by decide)]
    · rw [fX10_piece, noP_out hm.2.1.1 (by omega) ho, gb2_some, if_neg (by decide)]
theorem q_word {A : aB} {b : tBk} {now : Nat → Int32} (hc : cBk A b) (hm : mB A now) (hI : Inv A) (u1 u2 t0 many : Int32) (spl : Nat → Int32) : ∃ (x r r2 t many' : Int32) (spl' : Nat → Int32), fX9_word u1 u2 b.2.2.2.1 b.2.2.2.2.2.2.2 = some (x, r) ∧ fX10_word u1 u2 t0 many now spl = some (r2, t, many', spl') ∧ ((x = 0 ∧ t = 0 ∧ r = r2) ∨ (x = 1 ∧ t = 1) ∨ (x = 2 ∧ t = 2)) := by
  have h16 := hI.2.2.1.1
  rcases idx_cases u1 A.2.2.1.1 with ⟨w, hw, _, rfl⟩ | ho
  · obtain ⟨w1, w2, w3, w4, w5⟩ := hI.2.2.1.2 w hw
    obtain ⟨f0, f1, f2, _⟩ := hc.2.2.1.2 w hw
    obtain ⟨g0, g1, _⟩ := hm.2.2.1.2 w hw
    have hwf := iW_wf hI hw
    obtain ⟨⟨many', spl'⟩, es, e1, _⟩ := m_spellsWord hm hI hw many spl
    simp only at e1
    subst e1
    have hreq := reqW_in hc.2.2.1.1 hw (show A.2.2.1.1 ≤ 1000 by omega)
    have hck := inck hw h16 (show 16 ≤ 1000 by omega)
    have e0 := m_ofWord (i := w) (w := 0) now (by omega) (by omega)
    rw [Nat.add_zero, g0] at e0
    have e1 := m_ofWord (i := w) (w := 1) now (by omega) (by omega)
    rw [g1] at e1
    rcases idx_cases u2 4 with ⟨i, hi, _, rfl⟩ | h2
    · have e : fX10_within (Int32.ofNat i) 0 3 = some 1 := within_in (n := 3) rfl (by omega) (by decide)
      have hM : ∀ v, (i = 0 → v = Int32.ofNat (A.2.2.1.2.2.1 w)) → (i = 1 → v = Int32.ofNat (A.2.2.1.2.1 w).length) → (i = 2 → v = Int32.ofNat (A.2.2.1.2.2.2 w).length) → (i = 3 → v = Int32.ofNat (A.2.2.2.1 2 * (A.2.2.1.2.2.2 w).length)) → fX10_word (Int32.ofNat w) (Int32.ofNat i) t0 many now spl = some (v, 0, Int32.ofNat (A.2.2.1.2.1 w).length, spl') := by
        intro v v0 v1 v2 v3
        rw [fX10_word, noW_in hm.2.2.1.1 hw (by omega), gb2_some, if_pos rfl, e, gb1_some, Lt_eq, if_neg (by decide)]
        dsimp only
        rw [throws_no, gb2_some, if_pos rfl, es, gb2_some, show (0 : Int32) = Int32.ofNat 0 from rfl, e0, gb1_some, show (1 : Int32) = Int32.ofNat 1 from rfl, e1, gb1_some, gb1_some, hm.2.2.2.1 2 (by omega), J_mul]
        have hi3 : i = 0 ∨ i = 1 ∨ i = 2 ∨ i = 3 := by omega
        rcases hi3 with rfl | rfl | rfl | rfl
        · rw [if_pos rfl, v0 rfl]
        · rw [if_neg (by decide), if_pos rfl, v1 rfl]
        · rw [if_neg (by decide), if_neg (by decide), if_pos (by decide), v2 rfl]
        · rw [if_neg (by decide), if_neg (by decide), if_neg (by decide), v3 rfl]
      have hi3 : i = 0 ∨ i = 1 ∨ i = 2 ∨ i = 3 := by omega
      rcases hi3 with rfl | rfl | rfl | rfl
      · refine ⟨0, _, _, 0, _, spl', ?_, hM _ (fun _ => rfl) (by omega) (by omega) (by omega), Or.inl ⟨rfl, rfl, rfl⟩⟩
        rw [fX9_word, hreq, gb1_some, if_pos rfl, if_pos (by decide), if_neg hck, J_nat _ (by omega), f1]
      · refine ⟨0, _, _, 0, _, spl', ?_, hM _ (by omega) (fun _ => rfl) (by omega) (by omega), Or.inl ⟨rfl, rfl, rfl⟩⟩
        rw [fX9_word, hreq, gb1_some, if_pos rfl, if_neg (by decide), if_pos (by decide), if_neg hck, J_nat _ (by omega), f0, c_lengthOf hwf w5, gb1_some]
      · refine ⟨0, _, _, 0, _, spl', ?_, hM _ (by omega) (by omega) (fun _ => rfl) (by omega), Or.inl ⟨rfl, rfl, rfl⟩⟩
        rw [fX9_word, hreq, gb1_some, if_pos rfl, if_neg (by decide), if_neg (by decide), if_pos (by decide), if_neg hck, J_nat _ (by omega), f2]
      · refine ⟨0, _, _, 0, _, spl', ?_, hM _ (by omega) (by omega) (by omega) (fun _ => rfl), Or.inl ⟨rfl, rfl, rfl⟩⟩
        rw [fX9_word, hreq, gb1_some, if_pos rfl, if_neg (by decide), if_neg (by decide), if_neg (by decide), if_pos (by decide), if_neg hck, J_nat _ (by omega), f2, c_depositsFor hc.2.2.2.1, gb1_some]
    · have hne := ne_of_out (by omega) h2
      have e : fX10_within u2 0 3 = some 0 := within_out (n := 3) (by decide) h2
      refine ⟨2, 0, 0, 2, many, spl, ?_, ?_, Or.inr (Or.inr ⟨rfl, rfl⟩)⟩
      · rw [fX9_word, hreq, gb1_some, if_pos rfl, if_neg (show ¬ u2 = 0 from hne 0 (by omega)), if_neg (show ¬ u2 = 1 from hne 1 (by omega)), if_neg (show ¬ u2 = 2 from hne 2 (by omega)), if_neg (show ¬ u2 = 3 from hne 3 (by omega))]
      · rw [fX10_word, noW_in hm.2.2.1.1 hw (by omega), gb2_some, if_pos rfl, e, gb1_some, Lt_eq, if_pos rfl]
        dsimp only
        rw [throws_2, gb2_some, if_neg (by decide)]
  · refine ⟨1, 0, 0, 1, many, spl, ?_, ?_, Or.inr (Or.inl ⟨rfl, rfl⟩)⟩
    · rw [fX9_word, reqW_out hc.2.2.1.1 (by omega) ho, gb1_some, if_neg (by decide)]
    · rw [fX10_word, noW_out hm.2.2.1.1 (by omega) ho, gb2_some, if_neg (by decide)]
