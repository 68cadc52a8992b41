/-! a row of letters as text, texts fed by twenties -/
theorem z_add_L {l : List Nat} (hl : ab l) (h9 : l.length ≤ 9) (k : List Nat → Nat → Nat → Option (List Nat)) : ∀ (d m j : Nat) (T : List Nat) (nc ns : Nat), j + d = l.length → d < m → nc + d ≤ 10 → ns + 1002 * d ≤ 10020 → T.length + d ≤ 500 → fL_add_L7 (Int32.ofNat (cd l)) k m (Int32.ofNat d + M1) T nc ns = k (T ++ (l.drop j).map (fun x => x + 96)) (nc + d) (ns + 1002 * d) := by
  intro d
  induction d with
  | zero =>
    intro m j T nc ns e hm hnc hns hT
    obtain ⟨m, rfl⟩ : ∃ x, m = x + 1 := ⟨m - 1, by omega⟩
    rw [fL_add_L7, J_dec0, if_pos (show M1 < 0 by decide), List.drop_eq_nil_of_le (by omega)]
    simp
  | succ d ih =>
    intro m j T nc ns e hm hnc hns hT
    obtain ⟨m, rfl⟩ : ∃ x, m = x + 1 := ⟨m - 1, by omega⟩
    have hj : j < l.length := by omega
    have hb := cd_bit hl h9 hj
    have e1 : (Int32.ofNat l.length - 1) - Int32.ofNat j = Int32.ofNat d := by
      rw [i_1, J_sub _ _ (by omega), J_sub _ _ (by omega)]
      congr 1
      omega
    rw [e1] at hb
    have ed : (l.drop j).map (fun x => x + 96) = (l[j] + 96) :: (l.drop (j + 1)).map (fun x => x + 96) := by
      rw [List.drop_eq_getElem_cons hj, List.map_cons]
    have hx := hl l[j] (List.getElem_mem hj)
    have ih2 := ih m (j + 1) (T ++ [l[j] + 96]) (nc + 1) (ns + 1002) (by omega) (by omega) (by omega) (by omega) (by rw [List.length_append]; simp; omega)
    rw [List.append_assoc, List.singleton_append, ← ed, show nc + 1 + d = nc + (d + 1) by omega, show ns + 1002 + 1002 * d = ns + 1002 * (d + 1) by omega] at ih2
    have step : ∀ v, v < 128 → v = l[j] + 96 → (if Int32.ofNat v < 0 ∨ 128 ≤ (Int32.ofNat v).toNatClampNeg then none else if 500 < (T ++ [(Int32.ofNat v).toNatClampNeg]).length then none else if 10 < nc + 1 ∨ 10020 < ns + 1002 then none else fL_add_L7 (Int32.ofNat (cd l)) k m (Int32.ofNat d + M1) (T ++ [(Int32.ofNat v).toNatClampNeg]) (nc + 1) (ns + 1002)) = k (T ++ (l.drop j).map (fun x => x + 96)) (nc + (d + 1)) (ns + 1002 * (d + 1)) := by
      intro v hv hve
      rw [J_nat v (by omega), if_neg (by rw [J_neg _ (by omega)]; simp; omega), if_neg (by rw [List.length_append]; simp; omega), if_neg (by omega), hve]
      exact ih2
    have hd : Int32.ofNat (d + 1) + M1 = Int32.ofNat d := by rw [J_dec _ (by omega)]; congr 1
    rw [hd, fL_add_L7, if_neg (by rw [J_neg _ (by omega)]; exact id), hb]
    simp only [Lt_eq]
    rcases hx with c | c
    · rw [c, if_pos (by decide)]
      exact step 97 (by decide) (by omega)
    · rw [c, if_neg (by decide)]
      exact step 98 (by decide) (by omega)
theorem z_add {l : List Nat} (hl : ab l) (h9 : l.length ≤ 9) (T : List Nat) (hT : T.length + l.length ≤ 500) : fL_add (Int32.ofNat (cd l)) T = some (T ++ l.map (fun x => x + 96)) := by
  by_cases h0 : l.length = 0
  · have : l = [] := List.length_eq_zero_iff.mp h0
    subst this
    have := z_add_L hl h9 (fun T_1 nc_1 ns_1 => if 10 < nc_1 ∨ 10020 < ns_1 then none else some T_1) 0 FU 0 T 0 0 rfl (by simp only [FU]; omega) (by omega) (by omega) (by simp at hT; omega)
    rw [fL_add, z_size hl h9, gb1_some]
    exact this
  · have := z_add_L hl h9 (fun T_1 nc_1 ns_1 => if 10 < nc_1 ∨ 10020 < ns_1 then none else some T_1) l.length FU 0 T 0 0 (by omega) (by simp only [FU]; omega) (by omega) (by omega) hT
    rw [fL_add, z_size hl h9, gb1_some, i_1, J_sub _ _ (by omega), ← J_dec _ (by omega), this, if_neg (by omega), List.drop_zero]
/-- a text, with blanks behind it -/
def pad (X : List Nat) (i : Nat) : Nat := if i < X.length then X.getD i 0 else 32
def grp (X : List Nat) (k i : Nat) : Nat → Nat
  | 0 => 0
  | c + 1 => grp X k i c * 256 + pad X (k + 4 * i + c)
theorem pad_lt {X : List Nat} (hX : ∀ x ∈ X, x < 128) (i : Nat) : pad X i < 128 := by
  unfold pad
  split
  · rename_i h
    rw [List.getD_eq_getElem?_getD, List.getElem?_eq_getElem h]
    exact hX _ (List.getElem_mem h)
  · decide
theorem grp_lt {X : List Nat} (hX : ∀ x ∈ X, x < 128) (k i : Nat) : ∀ c, c ≤ 3 → grp X k i c < 8388608 := by
  intro c hc
  have p0 := pad_lt hX (k + 4 * i + 0)
  have p1 := pad_lt hX (k + 4 * i + 1)
  have p2 := pad_lt hX (k + 4 * i + 2)
  rcases (show c = 0 ∨ c = 1 ∨ c = 2 ∨ c = 3 by omega) with rfl | rfl | rfl | rfl
  · show 0 < 8388608; decide
  · show 0 * 256 + pad X (k + 4 * i + 0) < 8388608; omega
  · show (0 * 256 + pad X (k + 4 * i + 0)) * 256 + pad X (k + 4 * i + 1) < 8388608; omega
  · show ((0 * 256 + pad X (k + 4 * i + 0)) * 256 + pad X (k + 4 * i + 1)) * 256 + pad X (k + 4 * i + 2) < 8388608; omega
theorem J_or31 (a b : Nat) (ha : a < 2147483648) (hb : b < 2147483648) : Int32.ofNat a ||| Int32.ofNat b = Int32.ofNat (a ||| b) := by
  apply Int32.toBitVec_inj.mp
  rw [Int32.toBitVec_or, tbN, tbN, tbN]
  apply BitVec.eq_of_toNat_eq
  have : a ||| b < 2 ^ 31 := Nat.or_lt_two_pow (by omega) (by omega)
  rw [BitVec.toNat_or, BitVec.toNat_ofNat, BitVec.toNat_ofNat, BitVec.toNat_ofNat, Nat.mod_eq_of_lt (by omega), Nat.mod_eq_of_lt (by omega), Nat.mod_eq_of_lt (by omega)]
theorem z_push {g v : Nat} (hg : g < 8388608) (hv : v < 128) : (Int32.ofNat g <<< ((8 : Int32) &&& 31)) ||| Int32.ofNat v = Int32.ofNat (g * 256 + v) := by
  rw [show (8 : Int32) = Int32.ofNat 8 from rfl, J_shl g 8 (by decide), J_or31 _ _ (by omega) (by omega)]
  have := Nat.two_pow_add_eq_or_of_lt (i := 8) (show v < 2 ^ 8 by omega) g
  rw [Nat.mul_comm g (2 ^ 8), ← this]
section FD
variable {X : List Nat} {nc ns : Nat}
theorem z_row_L (hX : ∀ x ∈ X, x < 128) (hlen : X.length ≤ 500) {x2 : Int32} {q : Nat} (hq : q ≤ 500) (hn : ¬ (26 < nc ∨ 130 < ns)) {k : (Nat → Int32) → Option (Int32 × Int32 × (Nat → Int32))} {Q : Int32 × Int32 × (Nat → Int32) → Prop} (hk : ∀ f, (∀ i, i < 5 → f i = Int32.ofNat (grp X q i 4)) → Ok (k f) Q) : ∀ (d m j : Nat) (f : Nat → Int32), j + d = 20 → d < m → (∀ i, i < 5 → f i = Int32.ofNat (grp X q i (min 4 (j - 4 * i)))) → Ok (fL_feeds_L20 x2 (Int32.ofNat q) X nc ns k m (Int32.ofNat j) f) Q := by
  intro d
  induction d with
  | zero =>
    intro m j f e hm hf
    obtain ⟨m, rfl⟩ : ∃ x, m = x + 1 := ⟨m - 1, by omega⟩
    rw [fL_feeds_L20, if_pos (by rw [i_20, J_le _ _ (by omega) (by omega)]; omega)]
    refine hk f (fun i hi => ?_)
    rw [hf i hi, show min 4 (j - 4 * i) = 4 by omega]
  | succ d ih =>
    intro m j f e hm hf
    obtain ⟨m, rfl⟩ : ∃ x, m = x + 1 := ⟨m - 1, by omega⟩
    have e4 : Int32.ofNat j / 4 = Int32.ofNat (j / 4) := by rw [i_4, J_div _ _ (by omega) (by omega)]
    have hix := setIx (show j / 4 < 5 by omega) (by decide)
    have hp := pad_lt hX (q + j)
    have hg := grp_lt hX q (j / 4) (j % 4) (by omega)
    have hfj := hf (j / 4) (by omega)
    rw [show min 4 (j - 4 * (j / 4)) = j % 4 by omega] at hfj
    rw [fL_feeds_L20, if_neg (by rw [i_20, J_le _ _ (by omega) (by omega)]; omega), e4, if_neg hix, if_neg hn, J_add]
    simp only [Lt_eq]
    have step : ∀ v, v = pad X (q + j) → Ok (if Int32.ofNat (j / 4) < 0 ∨ 5 ≤ (Int32.ofNat (j / 4)).toNatClampNeg then none else fL_feeds_L20 x2 (Int32.ofNat q) X nc ns k m (Int32.ofNat j + 1) (upd f (Int32.ofNat (j / 4)).toNatClampNeg ((f (Int32.ofNat (j / 4)).toNatClampNeg <<< ((8 : Int32) &&& 31)) ||| Int32.ofNat v))) Q := by
      intro v hv
      rw [if_neg hix, J_nat _ (by omega), hfj, hv, z_push hg hp, i_1, J_add]
      refine ih m (j + 1) _ (by omega) (by omega) (fun i hi => ?_)
      by_cases c : i = j / 4
      · subst c
        rw [upd_eq, show min 4 (j + 1 - 4 * (j / 4)) = j % 4 + 1 by omega]
        show _ = Int32.ofNat (grp X q (j / 4) (j % 4) * 256 + pad X (q + 4 * (j / 4) + j % 4))
        rw [show q + 4 * (j / 4) + j % 4 = q + j by omega]
      · rw [upd_ne _ _ _ _ c, hf i hi, show min 4 (j + 1 - 4 * i) = min 4 (j - 4 * i) by omega]
    by_cases g : q + j < X.length
    · rw [if_neg (by rw [J_le _ _ (by omega) (by omega)]; omega), if_neg (by rw [J_nat _ (by omega), J_neg _ (by omega)]; simp; omega), J_nat (q + j) (by omega)]
      exact step _ (by unfold pad; rw [if_pos g])
    · rw [if_pos (by rw [J_le _ _ (by omega) (by omega)]; omega)]
      exact step 32 (by unfold pad; rw [if_neg g])
end FD
