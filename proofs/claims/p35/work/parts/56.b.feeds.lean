/-! texts fed by twenties: the buffer then holds the text, blanks behind it; a word is taken -/
theorem i8_sx (v : Nat) : (Int32.ofNat v).toInt8.toInt32 = sxb (v % 256) := by
  unfold sxb
  congr 1
  apply Int8.toBitVec_inj.mp
  apply BitVec.eq_of_toNat_eq
  show ((BitVec.ofNat 32 v).signExtend 8).toNat = (BitVec.ofNat 8 (v % 256)).toNat
  rw [BitVec.signExtend_eq_setWidth_of_le _ (by decide), BitVec.toNat_setWidth, BitVec.toNat_ofNat, BitVec.toNat_ofNat]
  omega
theorem sB_of {w s : Nat} (hw : w < 2147483648) (hs : s < 32) : sB (Int32.ofNat w) s = sxb (w / 2 ^ s % 256) := by
  unfold sB
  rw [J_shr w s hw hs, i8_sx]
section FE
variable {X : List Nat}
theorem grp_bytes (hX : ∀ x ∈ X, x < 128) (q i : Nat) : grp X q i 4 < 2147483648 ∧ sB (Int32.ofNat (grp X q i 4)) 24 = sxb (pad X (q + 4 * i)) ∧ sB (Int32.ofNat (grp X q i 4)) 16 = sxb (pad X (q + 4 * i + 1)) ∧ sB (Int32.ofNat (grp X q i 4)) 8 = sxb (pad X (q + 4 * i + 2)) ∧ sB (Int32.ofNat (grp X q i 4)) 0 = sxb (pad X (q + 4 * i + 3)) := by
  have p0 := pad_lt hX (q + 4 * i)
  have p1 := pad_lt hX (q + 4 * i + 1)
  have p2 := pad_lt hX (q + 4 * i + 2)
  have p3 := pad_lt hX (q + 4 * i + 3)
  have e : grp X q i 4 = ((pad X (q + 4 * i) * 256 + pad X (q + 4 * i + 1)) * 256 + pad X (q + 4 * i + 2)) * 256 + pad X (q + 4 * i + 3) := by
    show (((0 * 256 + pad X (q + 4 * i + 0)) * 256 + _) * 256 + _) * 256 + _ = _
    rw [Nat.zero_mul, Nat.zero_add, Nat.add_zero]
  rw [e]
  generalize pad X (q + 4 * i) = a at *
  generalize pad X (q + 4 * i + 1) = b at *
  generalize pad X (q + 4 * i + 2) = c at *
  generalize pad X (q + 4 * i + 3) = d at *
  have hw : ((a * 256 + b) * 256 + c) * 256 + d < 2147483648 := by omega
  refine ⟨hw, ?_, ?_, ?_, ?_⟩
  · rw [sB_of hw (by decide)]
    congr 1
    show (((a * 256 + b) * 256 + c) * 256 + d) / 16777216 % 256 = a
    omega
  · rw [sB_of hw (by decide)]
    congr 1
    show (((a * 256 + b) * 256 + c) * 256 + d) / 65536 % 256 = b
    omega
  · rw [sB_of hw (by decide)]
    congr 1
    show (((a * 256 + b) * 256 + c) * 256 + d) / 256 % 256 = c
    omega
  · rw [sB_of hw (by decide)]
    congr 1
    show (((a * 256 + b) * 256 + c) * 256 + d) / 1 % 256 = d
    omega
/-- four bytes more -/
theorem ap4_bt (hX : ∀ x ∈ X, x < 128) {q i n : Nat} (hn : n + 4 ≤ 600) (hqn : n = q + 4 * i) {buf : Nat → Int32} (hb : ∀ j, j < n → buf j = sxb (pad X j)) : ∃ buf', fX9_appendFour (Int32.ofNat (grp X q i 4)) (Int32.ofNat n) buf = some (Int32.ofNat (n + 4), buf') ∧ ∀ j, j < n + 4 → buf' j = sxb (pad X j) := by
  obtain ⟨h0, h1, h2, h3, h4⟩ := grp_bytes hX q i
  refine ⟨_, c_ap4 _ n hn buf, fun j hj => ?_⟩
  rw [h1, h2, h3, h4, ← hqn]
  by_cases c3 : j = n + 3
  · rw [c3, upd_eq]
  · rw [upd_ne _ _ _ _ c3]
    by_cases c2 : j = n + 2
    · rw [c2, upd_eq]
    · rw [upd_ne _ _ _ _ c2]
      by_cases c1 : j = n + 1
      · rw [c1, upd_eq]
      · rw [upd_ne _ _ _ _ c1]
        by_cases c0 : j = n
        · rw [c0, upd_eq]
        · rw [upd_ne _ _ _ _ c0]
          exact hb j (by omega)
theorem z_append (hX : ∀ x ∈ X, x < 128) {q : Nat} (hq : q + 20 ≤ 600) {buf : Nat → Int32} (hb : ∀ j, j < q → buf j = sxb (pad X j)) : ∃ buf', fX9_append (Int32.ofNat (grp X q 0 4)) (Int32.ofNat (grp X q 1 4)) (Int32.ofNat (grp X q 2 4)) (Int32.ofNat (grp X q 3 4)) (Int32.ofNat (grp X q 4 4)) (Int32.ofNat q) buf = some (Int32.ofNat (q + 20), Int32.ofNat (q + 20), buf') ∧ ∀ j, j < q + 20 → buf' j = sxb (pad X j) := by
  obtain ⟨b0, e0, h0⟩ := ap4_bt hX (q := q) (i := 0) (n := q) (by omega) (by omega) hb
  obtain ⟨b1, e1, h1⟩ := ap4_bt hX (q := q) (i := 1) (n := q + 4) (by omega) (by omega) h0
  obtain ⟨b2, e2, h2⟩ := ap4_bt hX (q := q) (i := 2) (n := q + 4 + 4) (by omega) (by omega) h1
  obtain ⟨b3, e3, h3⟩ := ap4_bt hX (q := q) (i := 3) (n := q + 4 + 4 + 4) (by omega) (by omega) h2
  obtain ⟨b4, e4, h4⟩ := ap4_bt hX (q := q) (i := 4) (n := q + 4 + 4 + 4 + 4) (by omega) (by omega) h3
  refine ⟨b4, ?_, fun j hj => h4 j (by omega)⟩
  rw [fX9_append, i_20, J_add, if_pos (by rw [i_600, J_le _ _ (by omega) (by omega)]; omega), e0, gb2_some, e1, gb2_some, e2, gb2_some, e3, gb2_some, e4, gb2_some, show q + 4 + 4 + 4 + 4 + 4 = q + 20 by omega]
/-- as many rows of twenty as it takes -/
def rws (n : Nat) : Nat := (n + 19) / 20
theorem z_feeds_L (hX : ∀ x ∈ X, x < 128) (hlen : X.length ≤ 500) {k : Int32 → (Nat → Int32) → Nat → Nat → Option (Int32 × Int32 × (Nat → Int32))} {Q : Int32 × Int32 × (Nat → Int32) → Prop} (hk : ∀ buf, (∀ j, j < 20 * rws X.length → buf j = sxb (pad X j)) → Ok (k (Int32.ofNat (20 * rws X.length)) buf (rws X.length) (5 * rws X.length)) Q) : ∀ (d m r : Nat) (buf : Nat → Int32), r + d = rws X.length → d < m → (∀ j, j < 20 * r → buf j = sxb (pad X j)) → Ok (fL_feeds_L4 X k m (Int32.ofNat (20 * r)) (Int32.ofNat (20 * r)) (Int32.ofNat (20 * r)) buf r (5 * r)) Q := by
  have hr : rws X.length ≤ 25 ∧ X.length ≤ 20 * rws X.length ∧ ∀ r, r < rws X.length → 20 * r < X.length := by
    unfold rws
    exact ⟨by omega, by omega, fun r h => by omega⟩
  intro d
  induction d with
  | zero =>
    intro m r buf e hm hb
    obtain ⟨m, rfl⟩ : ∃ x, m = x + 1 := ⟨m - 1, by omega⟩
    have er : r = rws X.length := by omega
    rw [er] at hb ⊢
    rw [fL_feeds_L4, if_neg (by omega), if_pos (by rw [J_le _ _ (by omega) (by omega)]; omega)]
    exact hk buf hb
  | succ d ih =>
    intro m r buf e hm hb
    obtain ⟨m, rfl⟩ : ∃ x, m = x + 1 := ⟨m - 1, by omega⟩
    have := hr.2.2 r (by omega)
    rw [fL_feeds_L4, if_neg (by omega), if_neg (by rw [J_le _ _ (by omega) (by omega)]; omega), if_neg (by omega), show (0 : Int32) = Int32.ofNat 0 from rfl]
    refine z_row_L hX hlen (by omega) (by omega) (fun f hf => ?_) 20 FU 0 _ (by omega) (by simp only [FU]; omega) (fun i hi => by rw [show min 4 (0 - 4 * i) = 0 by omega]; rfl)
    obtain ⟨buf', e2, h2⟩ := z_append hX (q := 20 * r) (by omega) hb
    rw [hf 0 (by decide), hf 1 (by decide), hf 2 (by decide), hf 3 (by decide), hf 4 (by decide), e2, gb3_some, i_20, J_add, if_pos rfl, show 20 * r + 20 = 20 * (r + 1) by omega, show 5 * r + 5 = 5 * (r + 1) by omega]
    exact ih m (r + 1) buf' (by omega) (by omega) (fun j hj => h2 j (by omega))
theorem z_feeds (hX : ∀ x ∈ X, x < 128) (hlen : X.length ≤ 500) (buf : Nat → Int32) : ∃ buf', fL_feeds 0 buf X = some (1, Int32.ofNat (20 * rws X.length), buf') ∧ ∀ j, j < 20 * rws X.length → buf' j = sxb (pad X j) := by
  have hr : rws X.length ≤ 25 := by
    unfold rws
    omega
  have h := z_feeds_L (Q := fun r => r.1 = 1 ∧ r.2.1 = Int32.ofNat (20 * rws X.length) ∧ ∀ j, j < 20 * rws X.length → r.2.2 j = sxb (pad X j)) hX hlen (k := fun a b c d => if 26 < c ∨ 130 < d then none else some (1, a, b)) (fun b hb => by rw [if_neg (by omega)]; exact ok_some ⟨rfl, rfl, hb⟩) (rws X.length) FU 0 buf (by omega) (by simp only [FU]; omega) (fun j hj => absurd hj (by omega))
  obtain ⟨⟨r0, r1, r2⟩, e, q1, q2, q3⟩ := h
  simp only at q1 q2 q3
  subst q1 q2
  exact ⟨r2, e, q3⟩
/-- a word in the buffer is taken -/
theorem z_take {l : List Nat} (hl : ab l) (h9 : l.length ≤ 9) (h0 : 0 < l.length) {buf : Nat → Int32} (hb : ∀ j, j < 20 * rws (l.map (fun x => x + 96)).length → buf j = sxb (pad (l.map (fun x => x + 96)) j)) : fX9_takeWord (Int32.ofNat (20 * rws (l.map (fun x => x + 96)).length)) buf = some (L64 l, 0) := by
  have hlen : (l.map (fun x => x + 96)).length = l.length := List.length_map ..
  have hn : 20 * rws (l.map (fun x => x + 96)).length = 20 := by
    rw [hlen]
    unfold rws
    omega
  rw [hn] at hb ⊢
  have hX : ∀ x ∈ l.map (fun x => x + 96), x < 128 := by
    intro x hx
    obtain ⟨y, hy, rfl⟩ := List.mem_map.mp hx
    rcases hl y hy with c | c <;> omega
  have hpi : ∀ j (h : j < l.length), pad (l.map (fun x => x + 96)) j = l[j] + 96 := by
    intro j h
    unfold pad
    rw [if_pos (by rw [hlen]; exact h), List.getD_eq_getElem?_getD, List.getElem?_map, List.getElem?_eq_getElem h]
    rfl
  have hpo : ∀ j, l.length ≤ j → pad (l.map (fun x => x + 96)) j = 32 := by
    intro j h
    unfold pad
    rw [if_neg (by rw [hlen]; omega)]
  have hrun : ∀ (d i : Nat), i + d = 20 → i ≤ l.length → run pL (pad (l.map (fun x => x + 96))) i d = l.length := by
    intro d
    induction d with
    | zero => intro i e h; omega
    | succ d ih =>
      intro i e h
      rw [run]
      by_cases c : i < l.length
      · have hx := hl l[i] (List.getElem_mem c)
        rw [hpi i c, if_pos (by simp only [pL, decide_eq_true_eq]; omega)]
        exact ih (i + 1) (by omega) (by omega)
      · rw [hpo i (by omega), if_neg (by decide)]
        omega
  have hrunS : ∀ (d i : Nat), i + d = 20 → l.length ≤ i → run pS (pad (l.map (fun x => x + 96))) i d = 20 := by
    intro d
    induction d with
    | zero => intro i e h; exact e
    | succ d ih =>
      intro i e h
      rw [run, hpo i h, if_pos (by decide)]
      exact ih (i + 1) (by omega) (by omega)
  have hE : wE (pad (l.map (fun x => x + 96))) 20 = l.length := hrun 20 0 (by omega) (by omega)
  have hI : wIs (pad (l.map (fun x => x + 96))) 20 := by
    unfold wIs
    rw [hE]
    exact ⟨by omega, by omega, hrunS _ _ (by omega) (Nat.le_refl _)⟩
  have hL : wL (pad (l.map (fun x => x + 96))) 20 = l := by
    unfold wL
    rw [hE]
    apply List.ext_getElem
    · rw [lets_len]; omega
    · intro j h1 h2
      rw [lets_get _ _ _ _ h1, Nat.zero_add, hpi j h2, Nat.add_sub_cancel]
  rcases c_takeWord (n := 20) (by decide) (fun j hj => ⟨by have := pad_lt hX j; omega, hb j hj⟩) with ⟨_, h⟩ | ⟨h, _⟩
  · rw [h, hL]
  · exact absurd hI h
theorem z_feedsCode {l : List Nat} (hl : ab l) (h9 : l.length ≤ 9) (h0 : 0 < l.length) (buf : Nat → Int32) : ∃ bd buf', fL_feedsCode (Int32.ofNat (cd l)) 0 buf = some (1, bd, buf') ∧ fX9_takeWord bd buf' = some (L64 l, 0) := by
  have hX : ∀ x ∈ l.map (fun x => x + 96), x < 128 := by
    intro x hx
    obtain ⟨y, hy, rfl⟩ := List.mem_map.mp hx
    rcases hl y hy with c | c <;> omega
  obtain ⟨buf', e, h⟩ := z_feeds hX (by rw [List.length_map]; omega) buf
  refine ⟨_, buf', ?_, z_take hl h9 h0 h⟩
  rw [fL_feedsCode, z_add hl h9 [] (by simp; omega), gb1_some, List.nil_append, e, gb3_some]
end FE
