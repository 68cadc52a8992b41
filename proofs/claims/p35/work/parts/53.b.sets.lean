/-! cuttings as sets of places: places behind which a word is cut, as bits -/
def ctF (s L : Nat) : Nat → Nat → Nat → List Nat
  | 0, _, _ => []
  | d + 1, f, k => if k < L ∧ s / 2 ^ k % 2 = 0 then ctF s L d f (k + 1) else (k - f) :: ctF s L d k (k + 1)
def cuts (s L : Nat) : List Nat := ctF s L L 0 1
def setL (L : Nat) : Nat → List Nat → Nat
  | _, [] => 0
  | i, n :: r => (if i + n < L then 2 ^ (i + n) else 0) + setL L (i + n) r
def revF (s : Nat) : Nat → Nat
  | 0 => 0
  | p + 1 => revF s p + (if s / 2 ^ p % 2 = 0 then 0 else 2 ^ (10 - p))
/-- the lowest place counts most -/
def rev (s : Nat) : Nat := revF s 10
def pcF (s : Nat) : Nat → Nat
  | 0 => 0
  | p + 1 => pcF s p + s / 2 ^ p % 2
def pc (s : Nat) : Nat := pcF s 10
def comF : Nat → Nat → List (List Nat)
  | 0, L => if L = 0 then [[]] else []
  | f + 1, L => if L = 0 then [[]] else (List.range L).flatMap (fun n => (comF f (L - (n + 1))).map (fun r => (n + 1) :: r))
def com (L : Nat) : List (List Nat) := comF L L
theorem com_mem : ∀ (f : Nat) (ns : List Nat) (L : Nat), L ≤ f → ns.sum = L → (∀ n ∈ ns, 1 ≤ n) → ns ∈ comF f L
  | 0, [], L, _, h, _ => by
    have : L = 0 := h.symm
    subst this
    simp [comF]
  | 0, n :: r, L, h0, h, hp => by
    have := hp n List.mem_cons_self
    rw [List.sum_cons] at h
    omega
  | f + 1, [], L, _, h, _ => by
    have : L = 0 := h.symm
    subst this
    simp [comF]
  | f + 1, n :: r, L, h0, h, hp => by
    have h1 := hp n List.mem_cons_self
    rw [List.sum_cons] at h
    unfold comF
    rw [if_neg (by omega)]
    refine List.mem_flatMap.mpr ⟨n - 1, List.mem_range.mpr (by omega), List.mem_map.mpr ⟨r, ?_, by congr 1; omega⟩⟩
    exact com_mem f r _ (by omega) (by omega) (fun x hx => hp x (List.mem_cons_of_mem _ hx))
theorem com_all : ∀ L, L < 10 → ∀ ns ∈ com L, setL L 0 ns < 512 ∧ setL L 0 ns % 2 = 0 ∧ (0 < L → setL L 0 ns < 2 ^ L ∧ cuts (setL L 0 ns) L = ns) := by decide +kernel
def cutsB (L t : Nat) : Bool := decide ((cuts (2 * t) L).sum = L) && (cuts (2 * t) L).all (fun n => decide (1 ≤ n)) && decide (setL L 0 (cuts (2 * t) L) = 2 * t) && decide ((cuts (2 * t) L).length = pc (2 * t) + 1) && decide (rbs L 0 (cuts (2 * t) L) * 2 ^ (10 - L) = rev (2 * t)) && decide (rev (2 * t) < 1024) && decide (pc (2 * t) < 10)
theorem cuts_allB : (List.range 10).all (fun L => decide (L = 0) || (List.range (2 ^ (L - 1))).all (fun t => cutsB L t)) = true := by decide +kernel
theorem cuts_all (L : Nat) (hL : L < 10) (h0 : 0 < L) (t : Nat) (_ : t < 256) (ht : 2 * t < 2 ^ L) : (cuts (2 * t) L).sum = L ∧ (∀ n ∈ cuts (2 * t) L, 1 ≤ n) ∧ setL L 0 (cuts (2 * t) L) = 2 * t ∧ (cuts (2 * t) L).length = pc (2 * t) + 1 ∧ rbs L 0 (cuts (2 * t) L) * 2 ^ (10 - L) = rev (2 * t) ∧ rev (2 * t) < 1024 ∧ pc (2 * t) < 10 := by
  have h1 := List.all_eq_true.mp cuts_allB L (List.mem_range.mpr hL)
  have eL : 2 ^ L = 2 * 2 ^ (L - 1) := by
    rw [← Nat.pow_succ']
    congr 1
    omega
  have h2 : (List.range (2 ^ (L - 1))).all (fun t => cutsB L t) = true := by
    rcases Bool.or_eq_true_iff.mp h1 with z | z
    · have := of_decide_eq_true z
      omega
    · exact z
  have h3 := List.all_eq_true.mp h2 t (List.mem_range.mpr (by omega))
  unfold cutsB at h3
  simp only [Bool.and_eq_true, decide_eq_true_eq, List.all_eq_true] at h3
  obtain ⟨⟨⟨⟨⟨⟨a, b⟩, c⟩, d⟩, e⟩, f⟩, g⟩ := h3
  exact ⟨a, b, c, d, e, f, g⟩
theorem pc_lt : ∀ t, t < 256 → pc (2 * t) < 10 := by decide +kernel
theorem pc_lt' : ∀ s, s < 512 → pc s < 10 := by decide +kernel
theorem rev_inj : ∀ a, a < 256 → ∀ b, b < 256 → rev (2 * a) = rev (2 * b) → a = b := by decide +kernel
def lowN (a b : Nat) : Bool := decide ((2 * a) &&& (((2 * a) ^^^ (2 * b)) &&& (4294967296 - ((2 * a) ^^^ (2 * b)))) = 0)
def lowB (k : Nat) : Bool := (List.range 16).all fun a => (List.range 256).all fun b => decide (16 * k + a = b) || lowN (16 * k + a) b == decide (rev (2 * (16 * k + a)) < rev (2 * b))
theorem lowB_0 : lowB 0 = true := by decide +kernel
theorem lowB_1 : lowB 1 = true := by decide +kernel
theorem lowB_2 : lowB 2 = true := by decide +kernel
theorem lowB_3 : lowB 3 = true := by decide +kernel
theorem lowB_4 : lowB 4 = true := by decide +kernel
theorem lowB_5 : lowB 5 = true := by decide +kernel
theorem lowB_6 : lowB 6 = true := by decide +kernel
theorem lowB_7 : lowB 7 = true := by decide +kernel
theorem lowB_8 : lowB 8 = true := by decide +kernel
theorem lowB_9 : lowB 9 = true := by decide +kernel
theorem lowB_10 : lowB 10 = true := by decide +kernel
theorem lowB_11 : lowB 11 = true := by decide +kernel
theorem lowB_12 : lowB 12 = true := by decide +kernel
theorem lowB_13 : lowB 13 = true := by decide +kernel
theorem lowB_14 : lowB 14 = true := by decide +kernel
theorem lowB_15 : lowB 15 = true := by decide +kernel
theorem lowB_all (k : Nat) (h : k < 16) : lowB k = true := by
  rcases (show k = 0 ∨ k = 1 ∨ k = 2 ∨ k = 3 ∨ k = 4 ∨ k = 5 ∨ k = 6 ∨ k = 7 ∨ k = 8 ∨ k = 9 ∨ k = 10 ∨ k = 11 ∨ k = 12 ∨ k = 13 ∨ k = 14 ∨ k = 15 by omega) with rfl | rfl | rfl | rfl | rfl | rfl | rfl | rfl | rfl | rfl | rfl | rfl | rfl | rfl | rfl | rfl
  · exact lowB_0
  · exact lowB_1
  · exact lowB_2
  · exact lowB_3
  · exact lowB_4
  · exact lowB_5
  · exact lowB_6
  · exact lowB_7
  · exact lowB_8
  · exact lowB_9
  · exact lowB_10
  · exact lowB_11
  · exact lowB_12
  · exact lowB_13
  · exact lowB_14
  · exact lowB_15
theorem low_nat (a b : Nat) (ha : a < 256) (hb : b < 256) (hne : a ≠ b) : (Int32.ofNat (2 * a) &&& ((Int32.ofNat (2 * a) ^^^ Int32.ofNat (2 * b)) &&& (-(Int32.ofNat (2 * a) ^^^ Int32.ofNat (2 * b)))) = 0) ↔ (2 * a) &&& (((2 * a) ^^^ (2 * b)) &&& (4294967296 - ((2 * a) ^^^ (2 * b)))) = 0 := by
  have hx : (2 * a) ^^^ (2 * b) < 2 ^ 9 := Nat.xor_lt_two_pow (by omega) (by omega)
  have hx0 : 0 < (2 * a) ^^^ (2 * b) := by
    rcases Nat.eq_zero_or_pos ((2 * a) ^^^ (2 * b)) with z | z
    · have hh : 2 * a = 2 * b := by
        apply Nat.eq_of_testBit_eq
        intro i
        have h9 := congrArg (fun x => Nat.testBit x i) z
        simp only [Nat.testBit_xor, Nat.zero_testBit] at h9
        cases h1 : Nat.testBit (2 * a) i <;> cases h2 : Nat.testBit (2 * b) i <;> simp only [h1, h2] at h9 ⊢ <;> exact absurd h9 (by decide)
      omega
    · exact z
  rw [← Int32.toBitVec_inj]
  have e : (Int32.ofNat (2 * a) &&& ((Int32.ofNat (2 * a) ^^^ Int32.ofNat (2 * b)) &&& (-(Int32.ofNat (2 * a) ^^^ Int32.ofNat (2 * b))))).toBitVec.toNat = (2 * a) &&& (((2 * a) ^^^ (2 * b)) &&& (4294967296 - ((2 * a) ^^^ (2 * b)))) := by
    rw [Int32.toBitVec_and, Int32.toBitVec_and, Int32.toBitVec_neg, Int32.toBitVec_xor]
    show (BitVec.ofNat 32 (2 * a) &&& ((BitVec.ofNat 32 (2 * a) ^^^ BitVec.ofNat 32 (2 * b)) &&& (-(BitVec.ofNat 32 (2 * a) ^^^ BitVec.ofNat 32 (2 * b))))).toNat = _
    rw [BitVec.toNat_and, BitVec.toNat_and, BitVec.toNat_neg, BitVec.toNat_xor, BitVec.toNat_ofNat, BitVec.toNat_ofNat, Nat.mod_eq_of_lt (show 2 * a < 2 ^ 32 by omega), Nat.mod_eq_of_lt (show 2 * b < 2 ^ 32 by omega), Nat.mod_eq_of_lt (show 2 ^ 32 - ((2 * a) ^^^ (2 * b)) < 2 ^ 32 by omega)]
  constructor
  · intro z
    rw [← e, z]
    rfl
  · intro z
    apply BitVec.eq_of_toNat_eq
    rw [e, z]
    rfl
theorem low_rev (a : Nat) (ha : a < 256) (b : Nat) (hb : b < 256) (hne : a ≠ b) : ((Int32.ofNat (2 * a) &&& ((Int32.ofNat (2 * a) ^^^ Int32.ofNat (2 * b)) &&& (-(Int32.ofNat (2 * a) ^^^ Int32.ofNat (2 * b))))) = 0) ↔ rev (2 * a) < rev (2 * b) := by
  rw [low_nat a b ha hb hne]
  have h1 := List.all_eq_true.mp (lowB_all (a / 16) (by omega)) (a % 16) (List.mem_range.mpr (by omega))
  have h2 := List.all_eq_true.mp h1 b (List.mem_range.mpr hb)
  rw [Nat.div_add_mod] at h2
  rcases Bool.or_eq_true_iff.mp h2 with z | z
  · exact absurd (of_decide_eq_true z) hne
  · have z2 := eq_of_beq z
    unfold lowN at z2
    exact decide_eq_decide.mp z2
theorem bc_all : ∀ s, s < 512 → fJ6_bitCount_0f7a4 (Int32.ofNat s) = some (Int32.ofNat (pc s)) := by decide +kernel
theorem size_all : ∀ c, c < 1024 → 0 < c → fX10_size (Int32.ofNat c) = some (Int32.ofNat c.log2) := by decide +kernel
theorem com_perm : ∀ L, L < 10 → 0 < L → ((List.range' 0 (2 ^ (L - 1))).map (fun t => cuts (2 * t) L)).Perm (com L) := by decide +kernel
