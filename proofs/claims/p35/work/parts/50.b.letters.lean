/-! rows of letters -/
def wf (l : List Nat) : Prop := ∀ a ∈ l, 1 ≤ a ∧ a ≤ 26
def leN : List Nat → Nat
  | [] => 0
  | a :: l => a + 32 * leN l
def beN (l : List Nat) : Nat := leN l.reverse
theorem wf_nil : wf [] := by intro a h; cases h
theorem wf_cons {a : Nat} {l : List Nat} : wf (a :: l) ↔ (1 ≤ a ∧ a ≤ 26) ∧ wf l := by simp [wf]
theorem wf_app {a b : List Nat} : wf (a ++ b) ↔ wf a ∧ wf b := by
  simp only [wf, List.mem_append]
  constructor
  · intro h
    exact ⟨fun x hx => h x (Or.inl hx), fun x hx => h x (Or.inr hx)⟩
  · rintro ⟨h1, h2⟩ x (hx | hx)
    · exact h1 x hx
    · exact h2 x hx
theorem wf_drop {l : List Nat} (k : Nat) (h : wf l) : wf (l.drop k) := fun a ha => h a (List.mem_of_mem_drop ha)
theorem wf_take {l : List Nat} (k : Nat) (h : wf l) : wf (l.take k) := fun a ha => h a (List.mem_of_mem_take ha)
theorem wf_rev {l : List Nat} (h : wf l) : wf l.reverse := fun a ha => h a (List.mem_reverse.mp ha)
theorem leN_lt : ∀ {l : List Nat}, wf l → leN l < 32 ^ l.length
  | [], _ => by simp [leN]
  | a :: l, h => by
    obtain ⟨h1, h2⟩ := wf_cons.mp h
    have := leN_lt h2
    simp only [leN, List.length_cons, Nat.pow_succ]
    omega
theorem leN_pos : ∀ {l : List Nat}, wf l → l ≠ [] → 0 < leN l
  | [], _, h => absurd rfl h
  | a :: l, h, _ => by
    obtain ⟨h1, h2⟩ := wf_cons.mp h
    simp only [leN]
    omega
theorem leN_app : ∀ (a b : List Nat), leN (a ++ b) = leN a + 32 ^ a.length * leN b
  | [], b => by simp [leN]
  | x :: a, b => by
    simp only [List.cons_append, leN, leN_app a b, List.length_cons, Nat.pow_succ]
    rw [Nat.mul_add, Nat.add_assoc, Nat.mul_comm (32 ^ a.length) 32, Nat.mul_assoc]
theorem leN_inj : ∀ {a b : List Nat}, wf a → wf b → leN a = leN b → a = b
  | [], [], _, _, _ => rfl
  | [], y :: b, _, hb, h => by
    have := leN_pos hb (by simp)
    simp only [leN] at h this
    omega
  | x :: a, [], ha, _, h => by
    have := leN_pos ha (by simp)
    simp only [leN] at h this
    omega
  | x :: a, y :: b, ha, hb, h => by
    obtain ⟨h1, h2⟩ := wf_cons.mp ha
    obtain ⟨h3, h4⟩ := wf_cons.mp hb
    simp only [leN] at h
    have e : x = y := by omega
    have e2 : leN a = leN b := by omega
    rw [e, leN_inj h2 h4 e2]
theorem leN_div : ∀ {l : List Nat} (k : Nat), wf l → leN l / 32 ^ k = leN (l.drop k)
  | [], k, _ => by simp [leN]
  | a :: l, 0, _ => by simp
  | a :: l, k + 1, h => by
    obtain ⟨h1, h2⟩ := wf_cons.mp h
    have := leN_div k h2
    simp only [List.drop_succ_cons, leN]
    rw [← this, Nat.pow_succ, Nat.mul_comm (32 ^ k) 32, ← Nat.div_div_eq_div_mul]
    congr 1
    omega
theorem leN_mod : ∀ {l : List Nat} (k : Nat), wf l → leN l % 32 ^ k = leN (l.take k)
  | [], k, _ => by simp [leN]
  | a :: l, 0, _ => by simp [leN, Nat.mod_one]
  | a :: l, k + 1, h => by
    obtain ⟨h1, h2⟩ := wf_cons.mp h
    have := leN_mod k h2
    simp only [List.take_succ_cons, leN]
    rw [← this, Nat.pow_succ, Nat.mul_comm (32 ^ k) 32, Nat.mod_mul]
    have e1 : (a + 32 * leN l) % 32 = a := by omega
    have e2 : (a + 32 * leN l) / 32 = leN l := by omega
    rw [e1, e2]
theorem beN_nil : beN [] = 0 := rfl
theorem beN_snoc (l : List Nat) (a : Nat) : beN (l ++ [a]) = a + 32 * beN l := by simp [beN, leN]
theorem beN_lt {l : List Nat} (h : wf l) : beN l < 32 ^ l.length := by
  have := leN_lt (wf_rev h)
  simpa [beN] using this
theorem beN_inj {a b : List Nat} (ha : wf a) (hb : wf b) (h : beN a = beN b) : a = b := by
  have := leN_inj (wf_rev ha) (wf_rev hb) h
  simpa using this
theorem beN_zero {a : List Nat} (ha : wf a) (h : beN a = 0) : a = [] := beN_inj ha wf_nil h
theorem pow12 {n : Nat} (h : n ≤ 12) : 32 ^ n ≤ 32 ^ 12 := Nat.pow_le_pow_right (by decide) h
theorem pow6 {n : Nat} (h : n ≤ 6) : 32 ^ n ≤ 32 ^ 6 := Nat.pow_le_pow_right (by decide) h
theorem p32 (k : Nat) : 32 ^ k = 2 ^ (5 * k) := by rw [Nat.pow_mul]
/-! longs -/
theorem Lo_bv (n : Nat) : (Int64.ofNat n).toBitVec = BitVec.ofNat 64 n := rfl
theorem Lo_inj {a b : Nat} (ha : a < 2 ^ 63) (hb : b < 2 ^ 63) (h : Int64.ofNat a = Int64.ofNat b) : a = b := by
  have h2 := congrArg Int64.toBitVec h
  rw [Lo_bv, Lo_bv] at h2
  have h3 := congrArg BitVec.toNat h2
  simp only [BitVec.toNat_ofNat] at h3
  omega
theorem Lo_and (a b : Nat) : Int64.ofNat a &&& Int64.ofNat b = Int64.ofNat (a &&& b) := by
  apply Int64.toBitVec_inj.mp
  rw [Int64.toBitVec_and, Lo_bv, Lo_bv, Lo_bv]
  apply BitVec.eq_of_toNat_eq
  simp only [BitVec.toNat_and, BitVec.toNat_ofNat]
  rw [Nat.and_mod_two_pow]
theorem Lo_or (a b : Nat) : Int64.ofNat a ||| Int64.ofNat b = Int64.ofNat (a ||| b) := by
  apply Int64.toBitVec_inj.mp
  rw [Int64.toBitVec_or, Lo_bv, Lo_bv, Lo_bv]
  apply BitVec.eq_of_toNat_eq
  simp only [BitVec.toNat_or, BitVec.toNat_ofNat]
  rw [Nat.or_mod_two_pow]
theorem sh_u : ∀ k : Nat, k < 64 → ((Int32.ofNat k).toInt64.toUInt64 &&& Int64.toUInt64 63) = UInt64.ofNat k := by decide +kernel
theorem sh_s : ∀ k : Nat, k < 64 → ((Int32.ofNat k).toInt64 &&& 63) = Int64.ofNat k := by decide +kernel
theorem Lo_ushr (n k : Nat) (hn : n < 2 ^ 63) (hk : k < 64) : glush (Int64.ofNat n) (Int32.ofNat k) = Int64.ofNat (n / 2 ^ k) := by
  unfold glush
  rw [sh_u k hk]
  apply Int64.toBitVec_inj.mp
  show ((Int64.ofNat n).toUInt64 >>> UInt64.ofNat k).toBitVec = BitVec.ofNat 64 (n / 2 ^ k)
  apply BitVec.eq_of_toNat_eq
  show ((Int64.ofNat n).toUInt64 >>> UInt64.ofNat k).toNat = _
  rw [UInt64.toNat_shiftRight]
  have e1 : ((Int64.ofNat n).toUInt64).toNat = n := by
    show (BitVec.ofNat 64 n).toNat = n
    rw [BitVec.toNat_ofNat]
    omega
  have e2 : (UInt64.ofNat k).toNat = k := by
    show (BitVec.ofNat 64 k).toNat = k
    rw [BitVec.toNat_ofNat]
    omega
  rw [e1, e2, Nat.mod_eq_of_lt hk, Nat.shiftRight_eq_div_pow, BitVec.toNat_ofNat]
  rw [Nat.mod_eq_of_lt (Nat.lt_of_le_of_lt (Nat.div_le_self _ _) (Nat.lt_trans hn (by decide)))]
theorem Lo_shl (n k : Nat) (hk : k < 64) : glshl (Int64.ofNat n) (Int32.ofNat k) = Int64.ofNat (n * 2 ^ k) := by
  unfold glshl
  rw [sh_s k hk]
  apply Int64.toBitVec_inj.mp
  rw [Lo_bv]
  show (Int64.ofNat n <<< Int64.ofNat k).toBitVec = _
  rw [Int64.toBitVec_shiftLeft]
  apply BitVec.eq_of_toNat_eq
  have e2 : ((Int64.ofNat k).toBitVec.smod 64).toNat = k := by
    have : ∀ k : Nat, k < 64 → ((Int64.ofNat k).toBitVec.smod 64).toNat = k := by decide +kernel
    exact this k hk
  rw [BitVec.shiftLeft_eq', BitVec.toNat_shiftLeft, e2, Lo_bv, BitVec.toNat_ofNat, BitVec.toNat_ofNat, Nat.shiftLeft_eq, Nat.mod_mul_mod]

def L64 (l : List Nat) : Int64 := Int64.ofNat (leN l)
def B64 (l : List Nat) : Int64 := Int64.ofNat (beN l)
def B32 (l : List Nat) : Int32 := Int32.ofNat (beN l)
theorem leN_63 {l : List Nat} (h : wf l) (hl : l.length ≤ 12) : leN l < 2 ^ 60 := Nat.lt_of_lt_of_le (leN_lt h) (pow12 hl)
theorem beN_63 {l : List Nat} (h : wf l) (hl : l.length ≤ 12) : beN l < 2 ^ 60 := Nat.lt_of_lt_of_le (beN_lt h) (pow12 hl)
theorem beN_31 {l : List Nat} (h : wf l) (hl : l.length ≤ 6) : beN l < 2 ^ 30 := Nat.lt_of_lt_of_le (beN_lt h) (pow6 hl)
theorem L64_inj {a b : List Nat} (ha : wf a) (hb : wf b) (la : a.length ≤ 12) (lb : b.length ≤ 12) : (L64 a = L64 b) = (a = b) := by
  apply propext
  refine ⟨fun h => leN_inj ha hb (Lo_inj ?_ ?_ h), fun h => by rw [h]⟩
  · have := leN_63 ha la; omega
  · have := leN_63 hb lb; omega
theorem B64_inj {a b : List Nat} (ha : wf a) (hb : wf b) (la : a.length ≤ 12) (lb : b.length ≤ 12) : (B64 a = B64 b) = (a = b) := by
  apply propext
  refine ⟨fun h => beN_inj ha hb (Lo_inj ?_ ?_ h), fun h => by rw [h]⟩
  · have := beN_63 ha la; omega
  · have := beN_63 hb lb; omega
theorem B32_inj {a b : List Nat} (ha : wf a) (hb : wf b) (la : a.length ≤ 6) (lb : b.length ≤ 6) : (B32 a = B32 b) = (a = b) := by
  apply propext
  refine ⟨fun h => beN_inj ha hb (J_inj ?_ ?_ h), fun h => by rw [h]⟩
  · have := beN_31 ha la; omega
  · have := beN_31 hb lb; omega
theorem cmp0 (x y : Int64) : (lg_cmp x y = 0) = (x = y) := by
  apply propext
  unfold lg_cmp
  constructor
  · intro h
    by_cases h1 : x > y
    · rw [if_pos h1] at h
      exact absurd h (by decide)
    · rw [if_neg h1] at h
      by_cases h2 : x = y
      · exact h2
      · rw [if_neg h2] at h
        exact absurd h (by decide)
  · intro h
    subst h
    rw [if_neg (by simp), if_pos rfl]
theorem cmpJ (x y : Int64) : (lg_cmp x y = Int32.ofNat 0) = (x = y) := cmp0 x y
theorem Lo_zero : (0 : Int64) = Int64.ofNat 0 := rfl
theorem L64_shr {l : List Nat} (h : wf l) (hl : l.length ≤ 12) (k : Nat) (hk : k ≤ 12) : glush (L64 l) (5 * Int32.ofNat k) = L64 (l.drop k) := by
  rw [J_lmul, L64, Lo_ushr _ _ (by have := leN_63 h hl; omega) (by omega), ← p32, leN_div k h, L64]
theorem L64_zero {l : List Nat} (h : wf l) (hl : l.length ≤ 12) : (L64 l = 0) = (l = []) := L64_inj h wf_nil hl (by simp)
theorem L64_shr5 {l : List Nat} (h : wf l) (hl : l.length ≤ 12) (k : Nat) (hk : k ≤ 12) : glush (L64 l) (Int32.ofNat (5 * k)) = L64 (l.drop k) := by
  rw [← L64_shr h hl k hk, J_lmul]
theorem L64_zero' {l : List Nat} (h : wf l) (hl : l.length ≤ 12) : (L64 l = (0 : Int64)) = (l = []) := L64_zero h hl
theorem c_lengthOf_L {l : List Nat} (h : wf l) (hl : l.length ≤ 12) (k : Int32 → Option Int32) : ∀ (d n j : Nat), j + d = l.length → d < n → fX4_lengthOf_L2 (L64 l) k n (Int32.ofNat j) = k (Int32.ofNat l.length)
  | d, 0, j, _, h2 => by omega
  | 0, n + 1, j, h1, _ => by
    have hj : j = l.length := by omega
    subst hj
    simp only [fX4_lengthOf_L2, cmp0, L64_shr h hl _ hl, List.drop_length]
    rw [if_pos (show L64 [] = 0 from rfl), ite_self]
  | d + 1, n + 1, j, h1, h2 => by
    have e : ¬ l.drop j = [] := by
      intro e
      have := congrArg List.length e
      simp at this
      omega
    simp (disch := omega) only [fX4_lengthOf_L2, L64_shr5 h hl j (by omega), L64_zero' (wf_drop _ h) (show (l.drop j).length ≤ 12 by simp; omega), e, J_lt, J_le, J_eq, J_nat, J_add, J_mul, J_sub, J_ne1, J_m1, J_le1, J_1le, J_1lt, J_lt1, J_dec, J_dec0, M1_def, M1_neg, n_leF, n_leT, n_ltF, n_ltT, false_or, or_false, true_or, or_true, and_true, true_and, false_and, and_false, not_true_eq_false, not_false_eq_true, if_true, if_false, ite_true, ite_false, Lt_eq, cmpJ, gb1_some, gb2_some, gb3_some, gb4_some, gb5_some, gb6_some, gb7_some, gb8_some, Nat.add_zero, Nat.zero_add, Nat.add_sub_cancel, i_0, i_1, i_2, i_3, i_4, i_5, i_6, i_7, i_8, i_9, i_10, i_11, i_12, i_13, i_14, i_15, i_16, i_17, i_18, i_19, i_20, i_21, i_22, i_23, i_24, i_25, i_26, i_27, i_28, i_29, i_31, i_32, i_48, i_57, i_59, i_61, i_63, i_72, i_96, i_97, i_99, i_100, i_122, i_128, i_141, i_160, i_192, i_255, i_256, i_365, i_600, i_730, i_3650, i_9999, i_1000000, -Int32.reduceOfNat]
    exact c_lengthOf_L h hl k d n (j + 1) (by omega) (by omega)
theorem c_lengthOf {l : List Nat} (h : wf l) (hl : l.length ≤ 12) : fX4_lengthOf (L64 l) = some (Int32.ofNat l.length) := by
  rw [fX4_lengthOf]
  exact c_lengthOf_L h hl _ l.length FU 0 (by omega) (by simp only [FU]; omega)
theorem c_section {l : List Nat} (h : wf l) (hl : l.length ≤ 12) {s n : Nat} (hs : s ≤ 12) (hn : n ≤ 12) : fX4_section (L64 l) (Int32.ofNat s) (Int32.ofNat n) = some (L64 ((l.drop s).take n)) := by
  rw [fX4_section, L64_shr h hl s hs, J_lmul]
  have e1 : glshl 1 (Int32.ofNat (5 * n)) - 1 = Int64.ofNat (2 ^ (5 * n) - 1) := by
    have : (1 : Int64) = Int64.ofNat 1 := rfl
    rw [this, Lo_shl _ _ (by omega)]
    have e : 1 * 2 ^ (5 * n) = 2 ^ (5 * n) - 1 + 1 := by have := Nat.two_pow_pos (5 * n); omega
    rw [e, Int64.ofNat_add]
    exact Int64.add_sub_cancel _ _
  rw [e1, L64, Lo_and, Nat.and_two_pow_sub_one_eq_mod, ← p32, leN_mod _ (wf_drop _ h), L64]
theorem c_join {a b : List Nat} (ha : wf a) (hb : wf b) (hl : a.length + b.length ≤ 12) : fX4_join (L64 a) (Int32.ofNat a.length) (L64 b) = some (L64 (a ++ b)) := by
  rw [fX4_join, J_lmul, L64, L64, L64, Lo_shl _ _ (by omega), Lo_or, leN_app]
  have h1 : leN a < 2 ^ (5 * a.length) := by rw [← p32]; exact leN_lt ha
  have := Nat.two_pow_add_eq_or_of_lt h1 (leN b)
  rw [Nat.or_comm, Nat.mul_comm, ← this, p32, Nat.add_comm]
