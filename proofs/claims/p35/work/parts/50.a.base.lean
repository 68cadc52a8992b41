/-! the pure layer: small numbers, weakest preconditions, loops with fuel -/
def Ok {α : Type} (x : Option α) (Q : α → Prop) : Prop := ∃ a, x = some a ∧ Q a
theorem ok_some {α : Type} {a : α} {Q : α → Prop} (h : Q a) : Ok (some a) Q := ⟨a, rfl, h⟩
theorem ok_mono {α : Type} {x : Option α} {Q R : α → Prop} (h : Ok x Q) (hr : ∀ a, Q a → R a) : Ok x R := by
  obtain ⟨a, e, q⟩ := h
  exact ⟨a, e, hr a q⟩
theorem ok_of_eq {α : Type} {x : Option α} {a : α} {Q : α → Prop} (e : x = some a) (h : Q a) : Ok x Q := ⟨a, e, h⟩
theorem ok_eq {α : Type} {x : Option α} {v : α} (h : Ok x (fun a => a = v)) : x = some v := by
  obtain ⟨a, e, q⟩ := h
  rw [e, q]
theorem ok_gb1 {α β : Type} {x : Option α} {k : α → Option β} {Q : β → Prop} (h : Ok x (fun a => Ok (k a) Q)) : Ok (gb1 x k) Q := by
  obtain ⟨a, e, q⟩ := h
  rw [e]
  exact q
theorem gb1_some {α β : Type} (a : α) (k : α → Option β) : gb1 (some a) k = k a := rfl
theorem gb2_some {α0 α1 β : Type} (a : α0) (b : α1) (k : α0 → α1 → Option β) : gb2 (some (a, b)) k = k a b := rfl
theorem gb3_some {α0 α1 α2 β : Type} (a : α0) (b : α1) (c : α2) (k : α0 → α1 → α2 → Option β) : gb3 (some (a, b, c)) k = k a b c := rfl
theorem gb4_some {α0 : Type} {α1 : Type} {α2 : Type} {α3 : Type} {β : Type} (a0 : α0) (a1 : α1) (a2 : α2) (a3 : α3) (k : α0 → α1 → α2 → α3 → Option β) : gb4 (some (a0, a1, a2, a3)) k = k a0 a1 a2 a3 := rfl
theorem gb5_some {α0 : Type} {α1 : Type} {α2 : Type} {α3 : Type} {α4 : Type} {β : Type} (a0 : α0) (a1 : α1) (a2 : α2) (a3 : α3) (a4 : α4) (k : α0 → α1 → α2 → α3 → α4 → Option β) : gb5 (some (a0, a1, a2, a3, a4)) k = k a0 a1 a2 a3 a4 := rfl
theorem gb6_some {α0 : Type} {α1 : Type} {α2 : Type} {α3 : Type} {α4 : Type} {α5 : Type} {β : Type} (a0 : α0) (a1 : α1) (a2 : α2) (a3 : α3) (a4 : α4) (a5 : α5) (k : α0 → α1 → α2 → α3 → α4 → α5 → Option β) : gb6 (some (a0, a1, a2, a3, a4, a5)) k = k a0 a1 a2 a3 a4 a5 := rfl
theorem gb7_some {α0 : Type} {α1 : Type} {α2 : Type} {α3 : Type} {α4 : Type} {α5 : Type} {α6 : Type} {β : Type} (a0 : α0) (a1 : α1) (a2 : α2) (a3 : α3) (a4 : α4) (a5 : α5) (a6 : α6) (k : α0 → α1 → α2 → α3 → α4 → α5 → α6 → Option β) : gb7 (some (a0, a1, a2, a3, a4, a5, a6)) k = k a0 a1 a2 a3 a4 a5 a6 := rfl
theorem gb8_some {α0 : Type} {α1 : Type} {α2 : Type} {α3 : Type} {α4 : Type} {α5 : Type} {α6 : Type} {α7 : Type} {β : Type} (a0 : α0) (a1 : α1) (a2 : α2) (a3 : α3) (a4 : α4) (a5 : α5) (a6 : α6) (a7 : α7) (k : α0 → α1 → α2 → α3 → α4 → α5 → α6 → α7 → Option β) : gb8 (some (a0, a1, a2, a3, a4, a5, a6, a7)) k = k a0 a1 a2 a3 a4 a5 a6 a7 := rfl
theorem gb9_some {α0 : Type} {α1 : Type} {α2 : Type} {α3 : Type} {α4 : Type} {α5 : Type} {α6 : Type} {α7 : Type} {α8 : Type} {β : Type} (a0 : α0) (a1 : α1) (a2 : α2) (a3 : α3) (a4 : α4) (a5 : α5) (a6 : α6) (a7 : α7) (a8 : α8) (k : α0 → α1 → α2 → α3 → α4 → α5 → α6 → α7 → α8 → Option β) : gb9 (some (a0, a1, a2, a3, a4, a5, a6, a7, a8)) k = k a0 a1 a2 a3 a4 a5 a6 a7 a8 := rfl
theorem gb10_some {α0 : Type} {α1 : Type} {α2 : Type} {α3 : Type} {α4 : Type} {α5 : Type} {α6 : Type} {α7 : Type} {α8 : Type} {α9 : Type} {β : Type} (a0 : α0) (a1 : α1) (a2 : α2) (a3 : α3) (a4 : α4) (a5 : α5) (a6 : α6) (a7 : α7) (a8 : α8) (a9 : α9) (k : α0 → α1 → α2 → α3 → α4 → α5 → α6 → α7 → α8 → α9 → Option β) : gb10 (some (a0, a1, a2, a3, a4, a5, a6, a7, a8, a9)) k = k a0 a1 a2 a3 a4 a5 a6 a7 a8 a9 := rfl
theorem Lt_eq {α β : Type} (v : α) (k : α → β) : Lt v k = k v := rfl
theorem loop_rule {ι R : Type} {F : Nat → ι → Option R} {Q : R → Prop} (m : ι → Nat) (Inv : ι → Prop) (hs : ∀ n x, Inv x → (∀ y, Inv y → m y < m x → Ok (F n y) Q) → Ok (F (n + 1) x) Q) : ∀ (n : Nat) (x : ι), m x < n → Inv x → Ok (F n x) Q := by
  intro n
  induction n with
  | zero => intro x h; omega
  | succ n ih =>
    intro x h hi
    exact hs n x hi (fun y hy hm => ih y (by omega) hy)
theorem J_int (a : Nat) (h : a < 2147483648) : (Int32.ofNat a).toInt = a := Int32.toInt_ofNat_of_lt h
theorem J_nat (a : Nat) (h : a < 2147483648) : (Int32.ofNat a).toNatClampNeg = a := by
  show (Int32.ofNat a).toInt.toNat = a
  rw [J_int a h]; rfl
theorem J_lt (a b : Nat) (ha : a < 2147483648) (hb : b < 2147483648) : (Int32.ofNat a < Int32.ofNat b) = (a < b) := by
  rw [Int32.lt_iff_toInt_lt, J_int a ha, J_int b hb]; simp
theorem J_le (a b : Nat) (ha : a < 2147483648) (hb : b < 2147483648) : (Int32.ofNat a ≤ Int32.ofNat b) = (a ≤ b) := by
  rw [Int32.le_iff_toInt_le, J_int a ha, J_int b hb]; simp
theorem J_inj {a b : Nat} (ha : a < 2147483648) (hb : b < 2147483648) (h : Int32.ofNat a = Int32.ofNat b) : a = b := by
  have := congrArg Int32.toInt h
  rw [J_int a ha, J_int b hb] at this
  omega
theorem J_eq (a b : Nat) (ha : a < 2147483648) (hb : b < 2147483648) : (Int32.ofNat a = Int32.ofNat b) = (a = b) := by
  apply propext
  exact ⟨fun h => J_inj ha hb h, fun h => by rw [h]⟩
theorem J_lit (n : Nat) : (OfNat.ofNat n : Int32) = Int32.ofNat (OfNat.ofNat n : Nat) := rfl
theorem J_ltl (a n : Nat) (ha : a < 2147483648) (hb : (OfNat.ofNat n : Nat) < 2147483648) : (Int32.ofNat a < (OfNat.ofNat n : Int32)) = (a < (OfNat.ofNat n : Nat)) := J_lt a n ha hb
theorem J_lel (a n : Nat) (ha : a < 2147483648) (hb : (OfNat.ofNat n : Nat) < 2147483648) : (Int32.ofNat a ≤ (OfNat.ofNat n : Int32)) = (a ≤ (OfNat.ofNat n : Nat)) := J_le a n ha hb
theorem J_llt (a n : Nat) (ha : a < 2147483648) (hb : (OfNat.ofNat n : Nat) < 2147483648) : ((OfNat.ofNat n : Int32) < Int32.ofNat a) = ((OfNat.ofNat n : Nat) < a) := J_lt n a hb ha
theorem J_lle (a n : Nat) (ha : a < 2147483648) (hb : (OfNat.ofNat n : Nat) < 2147483648) : ((OfNat.ofNat n : Int32) ≤ Int32.ofNat a) = ((OfNat.ofNat n : Nat) ≤ a) := J_le n a hb ha
theorem J_eql (a n : Nat) (ha : a < 2147483648) (hb : (OfNat.ofNat n : Nat) < 2147483648) : (Int32.ofNat a = (OfNat.ofNat n : Int32)) = (a = (OfNat.ofNat n : Nat)) := J_eq a n ha hb
def M1 : Int32 := -1
theorem M1_int : M1.toInt = -1 := by decide
theorem M1_def : (-1 : Int32) = M1 := rfl
theorem M1_neg : -(Int32.ofNat 1) = M1 := rfl
theorem J_ne1 (a : Nat) (ha : a < 2147483648) : (Int32.ofNat a = M1) = False := by
  apply eq_false
  intro h
  have := congrArg Int32.toInt h
  rw [J_int a ha, M1_int] at this
  omega
theorem J_m1 (a : Nat) (ha : a < 2147483648) : (M1 = Int32.ofNat a) = False := by
  apply eq_false
  intro h
  have := congrArg Int32.toInt h
  rw [J_int a ha, M1_int] at this
  omega
theorem J_le1 (a : Nat) (ha : a < 2147483648) : (Int32.ofNat a ≤ M1) = False := by
  apply eq_false
  rw [Int32.le_iff_toInt_le, J_int a ha, M1_int]
  omega
theorem J_1le (a : Nat) (ha : a < 2147483648) : (M1 ≤ Int32.ofNat a) = True := by
  apply eq_true
  rw [Int32.le_iff_toInt_le, J_int a ha, M1_int]
  omega
theorem J_1lt (a : Nat) (ha : a < 2147483648) : (M1 < Int32.ofNat a) = True := by
  apply eq_true
  rw [Int32.lt_iff_toInt_lt, J_int a ha, M1_int]
  omega
theorem J_lt1 (a : Nat) (ha : a < 2147483648) : (Int32.ofNat a < M1) = False := by
  apply eq_false
  rw [Int32.lt_iff_toInt_lt, J_int a ha, M1_int]
  omega
theorem J_add (a b : Nat) : Int32.ofNat a + Int32.ofNat b = Int32.ofNat (a + b) := by rw [Int32.ofNat_add]
theorem J_addl (a n : Nat) : Int32.ofNat a + (OfNat.ofNat n : Int32) = Int32.ofNat (a + (OfNat.ofNat n : Nat)) := J_add a n
theorem J_ladd (a n : Nat) : (OfNat.ofNat n : Int32) + Int32.ofNat a = Int32.ofNat ((OfNat.ofNat n : Nat) + a) := J_add n a
theorem J_mul (a b : Nat) : Int32.ofNat a * Int32.ofNat b = Int32.ofNat (a * b) := by rw [Int32.ofNat_mul]
theorem J_mull (a n : Nat) : Int32.ofNat a * (OfNat.ofNat n : Int32) = Int32.ofNat (a * (OfNat.ofNat n : Nat)) := J_mul a n
theorem J_lmul (a n : Nat) : (OfNat.ofNat n : Int32) * Int32.ofNat a = Int32.ofNat ((OfNat.ofNat n : Nat) * a) := J_mul n a
theorem J_sub (a b : Nat) (h : b ≤ a) : Int32.ofNat a - Int32.ofNat b = Int32.ofNat (a - b) := by
  have : Int32.ofNat a = Int32.ofNat (a - b) + Int32.ofNat b := by rw [J_add]; congr 1; omega
  rw [this]
  exact Int32.add_sub_cancel _ _
theorem J_subl (a n : Nat) (h : (OfNat.ofNat n : Nat) ≤ a) : Int32.ofNat a - (OfNat.ofNat n : Int32) = Int32.ofNat (a - (OfNat.ofNat n : Nat)) := J_sub a n h
theorem J_lsub (a n : Nat) (h : a ≤ (OfNat.ofNat n : Nat)) : (OfNat.ofNat n : Int32) - Int32.ofNat a = Int32.ofNat ((OfNat.ofNat n : Nat) - a) := J_sub n a h
theorem J_dec (a : Nat) (h : 1 ≤ a) : Int32.ofNat a + M1 = Int32.ofNat (a - 1) := by
  have : Int32.ofNat a = Int32.ofNat (a - 1) + 1 := by
    show _ = Int32.ofNat (a - 1) + Int32.ofNat 1
    rw [J_add]; congr 1; omega
  rw [this, Int32.add_assoc]
  have : (1 : Int32) + M1 = 0 := by decide
  rw [this, Int32.add_zero]
theorem J_dec0 : Int32.ofNat 0 + M1 = M1 := by decide
theorem J_neg (a : Nat) (h : a < 2147483648) : (Int32.ofNat a < 0) = False := by
  apply eq_false
  rw [Int32.lt_iff_toInt_lt, J_int a h]
  have : (0 : Int32).toInt = 0 := by decide
  rw [this]; omega
theorem n_leF {a n : Nat} (h : a < n) : (n ≤ a) = False := eq_false (by omega)
theorem n_leT {a n : Nat} (h : n ≤ a) : (n ≤ a) = True := eq_true h
theorem n_ltF {a n : Nat} (h : n ≤ a) : (a < n) = False := eq_false (by omega)
theorem n_ltT {a n : Nat} (h : a < n) : (a < n) = True := eq_true h
theorem n_eqF {a n : Nat} (h : a ≠ n) : (a = n) = False := eq_false h
theorem n_eqT {a n : Nat} (h : a = n) : (a = n) = True := eq_true h
theorem iteT {α : Type} {c : Prop} [Decidable c] (a b : α) (h : c = True) : (if c then a else b) = a := by rw [if_pos (by rw [h]; trivial)]
theorem upd_eq (f : Nat → Int32) (k : Nat) (x : Int32) : upd f k x k = x := by simp [upd]
theorem upd_ne (f : Nat → Int32) (k : Nat) (x : Int32) (j : Nat) (h : j ≠ k) : upd f k x j = f j := by simp [upd, h]
theorem updL_eq (f : Nat → Int64) (k : Nat) (x : Int64) : vp_updL f k x k = x := by simp [vp_updL]
theorem updL_ne (f : Nat → Int64) (k : Nat) (x : Int64) (j : Nat) (h : j ≠ k) : vp_updL f k x j = f j := by simp [vp_updL, h]
theorem cpy_in {α : Type} (f g : Nat → α) (sp dp n k : Nat) (h : dp ≤ k) (h2 : k < dp + n) : va_cpy f g sp dp n k = f (sp + (k - dp)) := by simp [va_cpy, h, h2]
theorem cpy_lo {α : Type} (f g : Nat → α) (sp dp n k : Nat) (h : k < dp) : va_cpy f g sp dp n k = g k := by
  unfold va_cpy
  rw [if_neg (by omega)]
theorem cpy_hi {α : Type} (f g : Nat → α) (sp dp n k : Nat) (h : dp + n ≤ k) : va_cpy f g sp dp n k = g k := by
  unfold va_cpy
  rw [if_neg (by omega)]
theorem i_0 : (0 : Int32) = Int32.ofNat 0 := rfl
theorem i_1 : (1 : Int32) = Int32.ofNat 1 := rfl
theorem i_2 : (2 : Int32) = Int32.ofNat 2 := rfl
theorem i_3 : (3 : Int32) = Int32.ofNat 3 := rfl
theorem i_4 : (4 : Int32) = Int32.ofNat 4 := rfl
theorem i_5 : (5 : Int32) = Int32.ofNat 5 := rfl
theorem i_6 : (6 : Int32) = Int32.ofNat 6 := rfl
theorem i_7 : (7 : Int32) = Int32.ofNat 7 := rfl
theorem i_8 : (8 : Int32) = Int32.ofNat 8 := rfl
theorem i_9 : (9 : Int32) = Int32.ofNat 9 := rfl
theorem i_10 : (10 : Int32) = Int32.ofNat 10 := rfl
theorem i_11 : (11 : Int32) = Int32.ofNat 11 := rfl
theorem i_12 : (12 : Int32) = Int32.ofNat 12 := rfl
theorem i_13 : (13 : Int32) = Int32.ofNat 13 := rfl
theorem i_14 : (14 : Int32) = Int32.ofNat 14 := rfl
theorem i_15 : (15 : Int32) = Int32.ofNat 15 := rfl
theorem i_16 : (16 : Int32) = Int32.ofNat 16 := rfl
theorem i_17 : (17 : Int32) = Int32.ofNat 17 := rfl
theorem i_18 : (18 : Int32) = Int32.ofNat 18 := rfl
theorem i_19 : (19 : Int32) = Int32.ofNat 19 := rfl
theorem i_20 : (20 : Int32) = Int32.ofNat 20 := rfl
theorem i_21 : (21 : Int32) = Int32.ofNat 21 := rfl
theorem i_22 : (22 : Int32) = Int32.ofNat 22 := rfl
theorem i_23 : (23 : Int32) = Int32.ofNat 23 := rfl
theorem i_24 : (24 : Int32) = Int32.ofNat 24 := rfl
theorem i_25 : (25 : Int32) = Int32.ofNat 25 := rfl
theorem i_26 : (26 : Int32) = Int32.ofNat 26 := rfl
theorem i_27 : (27 : Int32) = Int32.ofNat 27 := rfl
theorem i_28 : (28 : Int32) = Int32.ofNat 28 := rfl
theorem i_29 : (29 : Int32) = Int32.ofNat 29 := rfl
theorem i_31 : (31 : Int32) = Int32.ofNat 31 := rfl
theorem i_32 : (32 : Int32) = Int32.ofNat 32 := rfl
theorem i_48 : (48 : Int32) = Int32.ofNat 48 := rfl
theorem i_57 : (57 : Int32) = Int32.ofNat 57 := rfl
theorem i_59 : (59 : Int32) = Int32.ofNat 59 := rfl
theorem i_61 : (61 : Int32) = Int32.ofNat 61 := rfl
theorem i_63 : (63 : Int32) = Int32.ofNat 63 := rfl
theorem i_72 : (72 : Int32) = Int32.ofNat 72 := rfl
theorem i_96 : (96 : Int32) = Int32.ofNat 96 := rfl
theorem i_97 : (97 : Int32) = Int32.ofNat 97 := rfl
theorem i_99 : (99 : Int32) = Int32.ofNat 99 := rfl
theorem i_100 : (100 : Int32) = Int32.ofNat 100 := rfl
theorem i_122 : (122 : Int32) = Int32.ofNat 122 := rfl
theorem i_128 : (128 : Int32) = Int32.ofNat 128 := rfl
theorem i_141 : (141 : Int32) = Int32.ofNat 141 := rfl
theorem i_160 : (160 : Int32) = Int32.ofNat 160 := rfl
theorem i_192 : (192 : Int32) = Int32.ofNat 192 := rfl
theorem i_255 : (255 : Int32) = Int32.ofNat 255 := rfl
theorem i_256 : (256 : Int32) = Int32.ofNat 256 := rfl
theorem i_365 : (365 : Int32) = Int32.ofNat 365 := rfl
theorem i_600 : (600 : Int32) = Int32.ofNat 600 := rfl
theorem i_730 : (730 : Int32) = Int32.ofNat 730 := rfl
theorem i_3650 : (3650 : Int32) = Int32.ofNat 3650 := rfl
theorem i_9999 : (9999 : Int32) = Int32.ofNat 9999 := rfl
theorem i_1000000 : (1000000 : Int32) = Int32.ofNat 1000000 := rfl
