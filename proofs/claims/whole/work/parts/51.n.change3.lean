/-! pay, undo, snapshots -/
def aPay (A : aB) (u v x : Nat) : aB := ((A.1.1, A.1.2.1, up (up A.1.2.2 u (A.1.2.2 u - x)) v (up A.1.2.2 u (A.1.2.2 u - x) v + x)), A.2)
theorem Inv_pay {A : aB} (h : Inv A) {u v x : Nat} (hu : u < A.1.1) (hv : v < A.1.1) (hx : x ≤ A.1.2.2 u) : Inv (aPay A u v x) := by
  obtain ⟨h1, h2, h3, h4, h5, h6⟩ := h
  refine ⟨h1, h2, h3, h4, h5, ?_⟩
  unfold iT at h6 ⊢
  have s1 := sm_up A.1.2.2 u (A.1.2.2 u - x) A.1.1 hu
  have s2 := sm_up (up A.1.2.2 u (A.1.2.2 u - x)) v (up A.1.2.2 u (A.1.2.2 u - x) v + x) A.1.1 hv
  show sm (up (up A.1.2.2 u (A.1.2.2 u - x)) v (up A.1.2.2 u (A.1.2.2 u - x) v + x)) A.1.1 + sm A.2.1.2.2.1 A.2.1.1 + A.2.2.2.1 2 * sm (fun i => (A.2.2.1.2.2.2 i).length) A.2.2.1.1 ≤ 40000
  omega
theorem mB_coins {A : aB} {now now' : Nat → Int32} (hm : mB A now) (hI : Inv A) {co : Nat → Nat} (hc : ∀ i, i < A.1.1 → now' (17 + i) = Int32.ofNat (co i)) (hf : ∀ k, ¬ (17 ≤ k ∧ k < 21) → now' k = now k) : mB ((A.1.1, A.1.2.1, co), A.2) now' := by
  obtain ⟨b1, b2, b3, b4, b5, b6, b7, b8⟩ := hm
  exact ⟨⟨by rw [hf 5 (by omega)]; exact b1.1, hc⟩, mP_fr b2 hI.2.1.1 (fun k hk => hf k (by omega)), mW_fr b3 (fun k hk => hf k (by omega)), mS_fr b4 (fun k hk => hf k (by omega)), mA_fr b5 (fun k h1 h2 => hf k (by omega)), by rw [hf 6 (by omega)]; exact b6, by rw [hf 7 (by omega)]; exact b7, by rw [hf 8 (by omega)]; exact b8⟩
theorem q_pay {A : aB} {b : tBk} {now : Nat → Int32} (hc : cBk A b) (hm : mB A now) (hI : Inv A) {h : Nat} {HA : Nat → aB} {Hs : tHist} {undo : Nat → Int32} (H : hHi A h HA Hs undo) (u1 u2 u3 t0 : Int32) : ∃ (x r : Int32) (U' : tUsers) (Hs' : tHist) (r2 t un' : Int32) (now' undo' : Nat → Int32), fX9_pay u1 u2 u3 b.1 b.2.1 b.2.2.1 b.2.2.2.1 b.2.2.2.2.1 b.2.2.2.2.2.1 b.2.2.2.2.2.2.1 b.2.2.2.2.2.2.2 Hs = some (x, r, U', Hs') ∧ fX10_pay u1 u2 u3 t0 (Int32.ofNat h) now undo = some (r2, t, un', now', undo') ∧ ((x = 0 ∧ t = 0 ∧ r = r2) ∨ (x = 1 ∧ t = 1) ∨ (x = 2 ∧ t = 2) ∨ (x = 3 ∧ t = 3)) ∧ ∃ A' h' HA', cBk A' (b.1, b.2.1, b.2.2.1, b.2.2.2.1, b.2.2.2.2.1, U', b.2.2.2.2.2.2.1, b.2.2.2.2.2.2.2) ∧ mB A' now' ∧ Inv A' ∧ same A A' ∧ hHi A h' HA' Hs' undo' ∧ un' = Int32.ofNat h' := by
  have h4 := hI.1.1
  have hno : ∀ (x t : Int32), fX9_pay u1 u2 u3 b.1 b.2.1 b.2.2.1 b.2.2.2.1 b.2.2.2.2.1 b.2.2.2.2.2.1 b.2.2.2.2.2.2.1 b.2.2.2.2.2.2.2 Hs = some (x, 0, b.2.2.2.2.2.1, Hs) → fX10_pay u1 u2 u3 t0 (Int32.ofNat h) now undo = some (0, t, Int32.ofNat h, now, undo) → ((x = 1 ∧ t = 1) ∨ (x = 2 ∧ t = 2) ∨ (x = 3 ∧ t = 3)) → ∃ (x r : Int32) (U' : tUsers) (Hs' : tHist) (r2 t un' : Int32) (now' undo' : Nat → Int32), fX9_pay u1 u2 u3 b.1 b.2.1 b.2.2.1 b.2.2.2.1 b.2.2.2.2.1 b.2.2.2.2.2.1 b.2.2.2.2.2.2.1 b.2.2.2.2.2.2.2 Hs = some (x, r, U', Hs') ∧ fX10_pay u1 u2 u3 t0 (Int32.ofNat h) now undo = some (r2, t, un', now', undo') ∧ ((x = 0 ∧ t = 0 ∧ r = r2) ∨ (x = 1 ∧ t = 1) ∨ (x = 2 ∧ t = 2) ∨ (x = 3 ∧ t = 3)) ∧ ∃ A' h' HA', cBk A' (b.1, b.2.1, b.2.2.1, b.2.2.2.1, b.2.2.2.2.1, U', b.2.2.2.2.2.2.1, b.2.2.2.2.2.2.2) ∧ mB A' now' ∧ Inv A' ∧ same A A' ∧ hHi A h' HA' Hs' undo' ∧ un' = Int32.ofNat h' := by
    intro x t e1 e2 e3
    exact ⟨x, 0, _, Hs, 0, t, _, now, undo, e1, e2, Or.inr e3, A, h, HA, hc, hm, hI, same_refl A, H, rfl⟩
  rcases idx_cases u1 A.1.1 with ⟨u, hu, _, rfl⟩ | ho
  · have e1 := noU_in hm.1.1 hu (show A.1.1 ≤ 1000 by omega) t0
    have c1 := reqU_in hc.1.1 hu (show A.1.1 ≤ 1000 by omega)
    rcases idx_cases u2 A.1.1 with ⟨v, hv, _, rfl⟩ | ho2
    · have e2 := no_in hv (show A.1.1 ≤ 1000 by omega)
      have c2 := reqU_in hc.1.1 hv (show A.1.1 ≤ 1000 by omega)
      have ku : ¬ (Int32.ofNat u < 0 ∨ 4 ≤ (Int32.ofNat u).toNatClampNeg) := inck (n := 4) (by omega) (by omega) (by omega)
      have kv : ¬ (Int32.ofNat v < 0 ∨ 4 ≤ (Int32.ofNat v).toNatClampNeg) := inck (n := 4) (by omega) (by omega) (by omega)
      have mu : ¬ (Int32.ofNat (17 + u) < 0 ∨ 365 ≤ (Int32.ofNat (17 + u)).toNatClampNeg) := inck (n := 365) (by omega) (by omega) (by omega)
      have mv : ¬ (Int32.ofNat (17 + v) < 0 ∨ 365 ≤ (Int32.ofNat (17 + v)).toNatClampNeg) := inck (n := 365) (by omega) (by omega) (by omega)
      rcases idx_cases u3 10000 with ⟨x, hx, _, rfl⟩ | ho3
      · have ew : fX10_within (Int32.ofNat x) 0 9999 = some 1 := within_in (n := 9999) rfl (by omega) (by decide)
        have hco := co_bd hI hu
        have eu := hc.1.2 u hu |>.2
        have emu := hm.1.2 u hu
        by_cases hle : x ≤ A.1.2.2 u
        · obtain ⟨Hs', undo', h', HA', k1, k2, k3⟩ := keep hc hm hI H
          have f1 : ∀ i, i < A.1.1 → upd b.2.2.2.2.2.1.2.2 u (Int32.ofNat (A.1.2.2 u - x)) i = Int32.ofNat (up A.1.2.2 u (A.1.2.2 u - x) i) := by
            intro i hi
            by_cases c : i = u
            · rw [c, upd_eq, up_eq]
            · rw [upd_ne _ _ _ _ c, up_ne _ _ _ _ c]
              exact (hc.1.2 i hi).2
          have g1 : ∀ i, i < A.1.1 → upd now (17 + u) (Int32.ofNat (A.1.2.2 u - x)) (17 + i) = Int32.ofNat (up A.1.2.2 u (A.1.2.2 u - x) i) := by
            intro i hi
            by_cases c : i = u
            · rw [c, upd_eq, up_eq]
            · rw [upd_ne _ _ _ _ (by omega), up_ne _ _ _ _ c]
              exact hm.1.2 i hi
          refine ⟨0, Int32.ofNat (up A.1.2.2 u (A.1.2.2 u - x) v + x), (b.2.2.2.2.2.1.1, b.2.2.2.2.2.1.2.1, upd (upd b.2.2.2.2.2.1.2.2 u (Int32.ofNat (A.1.2.2 u - x))) v (Int32.ofNat (up A.1.2.2 u (A.1.2.2 u - x) v + x))), Hs', Int32.ofNat (up A.1.2.2 u (A.1.2.2 u - x) v + x), 0, Int32.ofNat h', upd (upd now (17 + u) (Int32.ofNat (A.1.2.2 u - x))) (17 + v) (Int32.ofNat (up A.1.2.2 u (A.1.2.2 u - x) v + x)), undo', ?_, ?_, Or.inl ⟨rfl, rfl, rfl⟩, aPay A u v x, h', HA', ?_, ?_, Inv_pay hI hu hv hle, ⟨rfl, rfl⟩, k3, rfl⟩
          · rw [fX9_pay, c1, gb1_some, if_pos rfl, c2, gb1_some, if_pos rfl, if_neg (by rw [i_0, J_lt _ _ (by omega) (by omega)]; omega), if_pos (by rw [i_9999, J_le _ _ (by omega) (by omega)]; omega), c_coinsOf hc.1 hI.1.1 hu, gb1_some, if_pos (by rw [J_le _ _ (by omega) (by omega)]; exact hle), k1, gb1_some, c_give hc.1 hI.1.1 hu, gb1_some, J_subn _ _ hle, c_give (cU_pay hc.1 (u := u) (A.1.2.2 u - x)) hI.1.1 hv, gb1_some, J_add, c_coinsOf (cU_pay (cU_pay hc.1 (u := u) (A.1.2.2 u - x)) (u := v) _) hI.1.1 hv, gb1_some]
            simp only [up_eq]
          · rw [fX10_pay, e1, gb2_some, if_pos rfl, hm.1.1, e2, gb2_some, if_pos rfl, ew, gb1_some, Lt_eq, if_neg (by decide)]
            dsimp only
            rw [throws_no, gb2_some, if_pos rfl, i_17, J_add, if_neg mu, Lt_eq, J_nat _ (by omega), emu, if_pos (by rw [J_le _ _ (by omega) (by omega)]; exact hle)]
            dsimp only
            rw [throws_no, gb2_some, if_pos rfl, k2, gb2_some, if_neg (inck' (n := 365) (by omega) (by omega) (by omega)), if_neg (inck' (n := 365) (by omega) (by omega) (by omega)), J_sub _ _ hle, Lt_eq, J_add, if_neg mv, if_neg mv, J_nat _ (by omega), g1 v hv, J_add, Lt_eq, if_neg (inck' (n := 365) (by omega) (by omega) (by omega)), upd_eq]
          · obtain ⟨d1, d2, d3, d4, d5, d6, d7, d8⟩ := hc
            refine ⟨⟨d1.1, fun i hi => ⟨(d1.2 i hi).1, ?_⟩⟩, d2, d3, d4, d5, d6, d7, d8⟩
            have hi2 : i < A.1.1 := hi
            show upd _ v _ i = Int32.ofNat (up _ v _ i)
            by_cases c : i = v
            · rw [c, upd_eq, up_eq]
            · rw [upd_ne _ _ _ _ c, up_ne _ _ _ _ c]
              exact f1 i hi2
          · refine mB_coins hm hI (fun i hi => ?_) (fun k hk => ?_)
            · by_cases c : i = v
              · rw [c, upd_eq, up_eq]
              · rw [upd_ne _ _ _ _ (by omega), up_ne _ _ _ _ c]
                exact g1 i hi
            · rw [upd_ne _ _ _ _ (by omega), upd_ne _ _ _ _ (by omega)]
        · refine hno 3 3 ?_ ?_ (Or.inr (Or.inr ⟨rfl, rfl⟩))
          · rw [fX9_pay, c1, gb1_some, if_pos rfl, c2, gb1_some, if_pos rfl, if_neg (by rw [i_0, J_lt _ _ (by omega) (by omega)]; omega), if_pos (by rw [i_9999, J_le _ _ (by omega) (by omega)]; omega), c_coinsOf hc.1 hI.1.1 hu, gb1_some, if_neg (by rw [J_le _ _ (by omega) (by omega)]; exact hle)]
          · rw [fX10_pay, e1, gb2_some, if_pos rfl, hm.1.1, e2, gb2_some, if_pos rfl, ew, gb1_some, Lt_eq, if_neg (by decide)]
            dsimp only
            rw [throws_no, gb2_some, if_pos rfl, i_17, J_add, if_neg mu, Lt_eq, J_nat _ (by omega), emu, if_neg (by rw [J_le _ _ (by omega) (by omega)]; exact hle)]
            dsimp only
            rw [throws_3, gb2_some, if_neg (by decide)]
      · have ew : fX10_within u3 0 9999 = some 0 := within_out (n := 9999) (by decide) ho3
        refine hno 2 2 ?_ ?_ (Or.inr (Or.inl ⟨rfl, rfl⟩))
        · rw [fX9_pay, c1, gb1_some, if_pos rfl, c2, gb1_some, if_pos rfl]
          rcases ho3 with c | ⟨j, j1, j2, rfl⟩
          · rw [if_pos c]
          · rw [if_neg (by rw [i_0, J_lt _ _ (by omega) (by omega)]; omega), if_neg (by rw [i_9999, J_le _ _ (by omega) (by omega)]; omega)]
        · rw [fX10_pay, e1, gb2_some, if_pos rfl, hm.1.1, e2, gb2_some, if_pos rfl, ew, gb1_some, Lt_eq, if_pos rfl]
          dsimp only
          rw [throws_2, gb2_some, if_neg (by decide)]
    · refine hno 1 1 ?_ ?_ (Or.inl ⟨rfl, rfl⟩)
      · rw [fX9_pay, c1, gb1_some, if_pos rfl, reqU_out hc.1.1 (by omega) ho2, gb1_some, if_neg (by decide)]
      · rw [fX10_pay, e1, gb2_some, if_pos rfl, hm.1.1, no_out (by omega) ho2, gb2_some, if_neg (by decide)]
  · refine hno 1 1 ?_ ?_ (Or.inl ⟨rfl, rfl⟩)
    · rw [fX9_pay, reqU_out hc.1.1 (by omega) ho, gb1_some, if_neg (by decide)]
    · rw [fX10_pay, noU_out hm.1.1 (by omega) ho, gb2_some, if_neg (by decide)]
theorem q_undo {A : aB} {b : tBk} {now : Nat → Int32} (hc : cBk A b) (hm : mB A now) (hI : Inv A) {h : Nat} {HA : Nat → aB} {Hs : tHist} {undo : Nat → Int32} (H : hHi A h HA Hs undo) (t0 : Int32) : ∃ (r time' chest' fund' : Int32) (st' sums' : Nat → Int32) (U' : tUsers) (P' : tPieces) (W' : tWords) (Hs' : tHist) (r2 t un' : Int32) (now' : Nat → Int32), fX9_undo b.1 b.2.1 b.2.2.1 b.2.2.2.1 b.2.2.2.2.1 b.2.2.2.2.2.1 b.2.2.2.2.2.2.1 b.2.2.2.2.2.2.2 Hs = some (r, time', chest', fund', st', sums', U', P', W', Hs') ∧ fX10_undo t0 (Int32.ofNat h) now undo = some (r2, t, un', now') ∧ r = r2 ∧ ∃ A' h' HA', cBk A' (time', chest', fund', st', sums', U', P', W') ∧ mB A' now' ∧ Inv A' ∧ same A A' ∧ hHi A h' HA' Hs' undo ∧ un' = Int32.ofNat h' := by
  obtain ⟨H1, H2, H3⟩ := H
  cases h with
  | zero =>
    refine ⟨-1, _, _, _, _, _, _, _, _, Hs, -1, 0, _, now, ?_, ?_, rfl, A, 0, HA, hc, hm, hI, same_refl A, ⟨H1, H2, H3⟩, rfl⟩
    · rw [fX9_undo, if_pos (by rw [H2]; rfl)]
    · rw [fX10_undo, if_pos (by rfl)]
  | succ g =>
    obtain ⟨a1, a2, a3, a4⟩ := H3 g (by omega)
    obtain ⟨r, r1, r2⟩ := c_copy a1 a3 b
    have hs1 : Int32.ofNat (g + 1) - 1 = Int32.ofNat g := by rw [i_1, J_sub _ _ (by omega)]; rfl
    have e2 : (365 : Int32) * Int32.ofNat g = Int32.ofNat (365 * g) := J_lmul g 365
    refine ⟨Int32.ofNat g, r.1, r.2.1, r.2.2.1, r.2.2.2.1, r.2.2.2.2.1, r.2.2.2.2.2.1, r.2.2.2.2.2.2.1, r.2.2.2.2.2.2.2, (Int32.ofNat g, Hs.2.1, Hs.2.2), Int32.ofNat g, 0, Int32.ofNat g, va_cpy undo now (365 * g) 0 365, ?_, ?_, rfl, HA g, g, HA, r2, ?_, a3, a4, ⟨by omega, rfl, fun j hj => H3 j (by omega)⟩, rfl⟩
    · rw [fX9_undo, if_neg (by rw [H2, i_0, J_eq _ _ (by omega) (by omega)]; omega), fX3_takeBack, if_neg (by rw [H2, i_0, J_le _ _ (by omega) (by omega)]; omega), H2, hs1, if_neg (inck (n := 10) (by omega) (by omega) (by omega)), J_nat _ (by omega), r1]
      rfl
    · rw [fX10_undo, if_neg (by rw [i_0, J_eq _ _ (by omega) (by omega)]; omega), hs1, e2, i_0, m_copies (by omega) (by omega) (by omega) (by omega), gb1_some]
    · refine mB_ext a2 a3 (fun k hk => ?_)
      rw [cpy_in _ _ _ _ _ _ (by omega) (by omega)]
      unfold blk
      congr 1
theorem nar1 : vp_nar .boolean 1 = 1 := by decide
theorem reqS_in {i : Nat} (hi : i < 2) : fX9_requireSlot (Int32.ofNat i) = some 0 := req_in (n := 2) hi (by omega)
theorem reqS_out {x : Int32} (h : x < 0 ∨ ∃ j, 2 ≤ j ∧ j < 2147483648 ∧ x = Int32.ofNat j) : fX9_requireSlot x = some 1 := req_out (n := 2) (by omega) h
theorem noS_in {i : Nat} (hi : i < 2) (t : Int32) : fX10_noSlot (Int32.ofNat i) t = some (0, 0) := by
  rw [fX10_noSlot, show fX10_no (Int32.ofNat i) 2 0 = some (0, 0) from no_in (n := 2) hi (by omega)]
  rfl
theorem noS_out {x : Int32} (h : x < 0 ∨ ∃ j, 2 ≤ j ∧ j < 2147483648 ∧ x = Int32.ofNat j) (t : Int32) : fX10_noSlot x t = some (1, 1) := by
  rw [fX10_noSlot, show fX10_no x 2 0 = some (1, 1) from no_out (n := 2) (by omega) h]
  rfl
theorem q_save {A : aB} {b : tBk} {now : Nat → Int32} (hc : cBk A b) (hm : mB A now) (hI : Inv A) {SA : Nat → aB} {fl : Nat → Nat} {Sl : tSlots} {filled slots isSaved : Nat → Int32} (H : hSl A SA fl Sl filled slots isSaved) (u1 t0 : Int32) : ∃ (x r : Int32) (Sl' : tSlots) (filled' : Nat → Int32) (r2 t : Int32) (slots' isSaved' : Nat → Int32), fX9_saveSnapshot u1 b.1 b.2.1 b.2.2.1 b.2.2.2.1 b.2.2.2.2.1 b.2.2.2.2.2.1 b.2.2.2.2.2.2.1 b.2.2.2.2.2.2.2 Sl filled = some (x, r, Sl', filled') ∧ fX10_saveSnapshot u1 t0 now slots isSaved = some (r2, t, slots', isSaved') ∧ ((x = 0 ∧ t = 0 ∧ r = r2) ∨ (x = 1 ∧ t = 1)) ∧ ∃ SA' fl', hSl A SA' fl' Sl' filled' slots' isSaved' := by
  rcases idx_cases u1 2 with ⟨i, hi, _, rfl⟩ | ho
  · obtain ⟨f1, f2, f3, f4⟩ := H i hi
    have hb : ∀ f, f ≤ 1 → Int32.ofNat f &&& 1 = Int32.ofNat f := by
      intro f hf
      have : f = 0 ∨ f = 1 := by omega
      rcases this with rfl | rfl <;> decide
    obtain ⟨r, r1, r2⟩ := c_copy hc hI (Sl.2 i)
    have e2 : (365 : Int32) * Int32.ofNat i = Int32.ofNat (365 * i) := J_lmul i 365
    have ki : ¬ (Int32.ofNat i < 0 ∨ 2 ≤ (Int32.ofNat i).toNatClampNeg) := inck (n := 2) (by omega) (by omega) (by omega)
    refine ⟨0, Int32.ofNat (fl i), (Sl.1, va_up Sl.2 i r), upd filled i 1, Int32.ofNat (fl i), 0, va_cpy now slots 0 (365 * i) 365, upd isSaved i 1, ?_, ?_, Or.inl ⟨rfl, rfl, rfl⟩, up SA i A, up fl i 1, fun j hj => ?_⟩
    · rw [fX9_saveSnapshot, reqS_in hi, gb1_some, if_pos rfl, if_neg ki, if_neg ki, J_nat _ (by omega), r1, nar1, f2]
      show (if Int32.ofNat i < 0 ∨ 2 ≤ i then none else if Int32.ofNat (fl i) &&& 1 = Int32.ofNat (fl i) then some (0, Int32.ofNat (fl i), (Sl.1, va_up Sl.2 i r), upd filled i 1) else none) = _
      rw [if_neg (inck' (n := 2) (by omega) (by omega) (by omega)), if_pos (hb _ f1)]
    · rw [fX10_saveSnapshot, noS_in hi, gb2_some, if_pos rfl, if_neg ki, e2, show fX10_copies 365 730 0 (Int32.ofNat (365 * i)) now slots = _ from m_copies (a := 0) (by omega) (by omega) (by omega) (by omega) now slots, gb1_some, J_nat _ (by omega), if_neg (inck' (n := 2) (by omega) (by omega) (by omega)), nar1, f3, Lt_eq, if_pos (hb _ f1)]
    · by_cases c : j = i
      · subst c
        rw [up_eq, upd_eq, upd_eq, up_eq]
        refine ⟨by omega, rfl, rfl, fun _ => ⟨?_, mB_ext hm hI (fun x hx => ?_), hI, same_refl A⟩⟩
        · show cBk A (va_up Sl.2 j r j)
          rw [vaup_eq]
          exact r2
        · show va_cpy now slots 0 (365 * j) 365 (365 * j + x) = now x
          rw [cpy_in _ _ _ _ _ _ (by omega) (by omega)]
          congr 1
          omega
      · obtain ⟨g1, g2, g3, g4⟩ := H j hj
        rw [up_ne _ _ _ _ c, upd_ne _ _ _ _ c, upd_ne _ _ _ _ c, up_ne _ _ _ _ c]
        refine ⟨g1, g2, g3, fun e => ?_⟩
        obtain ⟨d1, d2, d3, d4⟩ := g4 e
        refine ⟨?_, mB_ext d2 d3 (fun x hx => ?_), d3, d4⟩
        · show cBk (SA j) (va_up Sl.2 i r j)
          rw [vaup_ne _ _ _ _ c]
          exact d1
        · show va_cpy now slots 0 (365 * i) 365 (365 * j + x) = slots (365 * j + x)
          by_cases c2 : j < i
          · exact cpy_lo _ _ _ _ _ _ (by omega)
          · exact cpy_hi _ _ _ _ _ _ (by omega)
  · refine ⟨1, 0, Sl, filled, 0, 1, slots, isSaved, ?_, ?_, Or.inr ⟨rfl, rfl⟩, SA, fl, H⟩
    · rw [fX9_saveSnapshot, reqS_out ho, gb1_some, if_neg (by decide)]
    · rw [fX10_saveSnapshot, noS_out ho, gb2_some, if_neg (by decide)]
theorem q_restore {A : aB} {b : tBk} {now : Nat → Int32} (hc : cBk A b) (hm : mB A now) (hI : Inv A) {h : Nat} {HA : Nat → aB} {Hs : tHist} {undo : Nat → Int32} (HH : hHi A h HA Hs undo) {SA : Nat → aB} {fl : Nat → Nat} {Sl : tSlots} {filled slots isSaved : Nat → Int32} (H : hSl A SA fl Sl filled slots isSaved) (u1 t0 : Int32) : ∃ (x r time' chest' fund' : Int32) (st' sums' : Nat → Int32) (U' : tUsers) (P' : tPieces) (W' : tWords) (Hs' : tHist) (r2 t un' : Int32) (now' : Nat → Int32), fX9_restoreSnapshot u1 b.1 b.2.1 b.2.2.1 b.2.2.2.1 b.2.2.2.2.1 b.2.2.2.2.2.1 b.2.2.2.2.2.2.1 b.2.2.2.2.2.2.2 Hs Sl filled = some (x, r, time', chest', fund', st', sums', U', P', W', Hs') ∧ fX10_restoreSnapshot u1 t0 (Int32.ofNat h) now slots isSaved = some (r2, t, un', now') ∧ ((x = 0 ∧ t = 0 ∧ r = r2) ∨ (x = 1 ∧ t = 1) ∨ (x = 3 ∧ t = 2)) ∧ ∃ A' h' HA', cBk A' (time', chest', fund', st', sums', U', P', W') ∧ mB A' now' ∧ Inv A' ∧ same A A' ∧ hHi A h' HA' Hs' undo ∧ un' = Int32.ofNat h' := by
  rcases idx_cases u1 2 with ⟨i, hi, _, rfl⟩ | ho
  · obtain ⟨f1, f2, f3, f4⟩ := H i hi
    have ki : ¬ (Int32.ofNat i < 0 ∨ 2 ≤ (Int32.ofNat i).toNatClampNeg) := inck (n := 2) (by omega) (by omega) (by omega)
    by_cases c : fl i = 1
    · obtain ⟨d1, d2, d3, d4⟩ := f4 c
      obtain ⟨r, r1, r2⟩ := c_copy d1 d3 b
      have e2 : (365 : Int32) * Int32.ofNat i = Int32.ofNat (365 * i) := J_lmul i 365
      have hmB : mB (SA i) (va_cpy slots now (365 * i) 0 365) := by
        refine mB_ext d2 d3 (fun k hk => ?_)
        rw [cpy_in _ _ _ _ _ _ (by omega) (by omega)]
        unfold blk
        congr 1
      refine ⟨0, r.2.2.2.2.2.2.2.1, r.1, r.2.1, r.2.2.1, r.2.2.2.1, r.2.2.2.2.1, r.2.2.2.2.2.1, r.2.2.2.2.2.2.1, r.2.2.2.2.2.2.2, (0, Hs.2.1, Hs.2.2), va_cpy slots now (365 * i) 0 365 10, 0, 0, va_cpy slots now (365 * i) 0 365, ?_, ?_, Or.inl ⟨rfl, rfl, ?_⟩, SA i, 0, HA, r2, hmB, d3, d4, ⟨by omega, rfl, fun j hj => by omega⟩, rfl⟩
      · rw [fX9_restoreSnapshot, reqS_in hi, gb1_some, if_pos rfl, if_neg ki, J_nat _ (by omega), f2, if_neg (by rw [c]; decide), if_neg (inck' (n := 2) (by omega) (by omega) (by omega)), r1]
        rfl
      · rw [fX10_restoreSnapshot, noS_in hi, gb2_some, if_pos rfl, if_neg ki, Lt_eq, J_nat _ (by omega), f3, if_neg (by rw [c]; decide)]
        dsimp only
        rw [throws_no, gb2_some, if_pos rfl, e2]
        rw [show fX10_copies 730 365 (Int32.ofNat (365 * i)) 0 slots now = _ from m_copies (b := 0) (by omega) (by omega) (by omega) (by omega) slots now, gb1_some]
      · rw [r2.2.2.1.1, hmB.2.2.1.1]
    · have c0 : fl i = 0 := by omega
      refine ⟨3, 0, b.1, b.2.1, b.2.2.1, b.2.2.2.1, b.2.2.2.2.1, b.2.2.2.2.2.1, b.2.2.2.2.2.2.1, b.2.2.2.2.2.2.2, Hs, 0, 2, Int32.ofNat h, now, ?_, ?_, Or.inr (Or.inr ⟨rfl, rfl⟩), A, h, HA, hc, hm, hI, same_refl A, HH, rfl⟩
      · rw [fX9_restoreSnapshot, reqS_in hi, gb1_some, if_pos rfl, if_neg ki, J_nat _ (by omega), f2, if_pos (by rw [c0]; rfl)]
      · rw [fX10_restoreSnapshot, noS_in hi, gb2_some, if_pos rfl, if_neg ki, Lt_eq, J_nat _ (by omega), f3, if_pos (by rw [c0]; rfl)]
        dsimp only
        rw [throws_2, gb2_some, if_neg (by decide)]
  · refine ⟨1, 0, b.1, b.2.1, b.2.2.1, b.2.2.2.1, b.2.2.2.2.1, b.2.2.2.2.2.1, b.2.2.2.2.2.2.1, b.2.2.2.2.2.2.2, Hs, 0, 1, Int32.ofNat h, now, ?_, ?_, Or.inr (Or.inl ⟨rfl, rfl⟩), A, h, HA, hc, hm, hI, same_refl A, HH, rfl⟩
    · rw [fX9_restoreSnapshot, reqS_out ho, gb1_some, if_neg (by decide)]
    · rw [fX10_restoreSnapshot, noS_out ho, gb2_some, if_neg (by decide)]
