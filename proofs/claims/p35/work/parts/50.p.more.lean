/-! of the reference half: what the class half needs -/
theorem Ji_bv (n : Nat) : (Int32.ofNat n).toBitVec = BitVec.ofNat 32 n := rfl
theorem J_and31 (a : Nat) : Int32.ofNat a &&& 31 = Int32.ofNat (a % 32) := by
  rw [i_31]
  apply Int32.toBitVec_inj.mp
  rw [Int32.toBitVec_and, Ji_bv, Ji_bv, Ji_bv]
  apply BitVec.eq_of_toNat_eq
  simp only [BitVec.toNat_and, BitVec.toNat_ofNat]
  rw [← Nat.and_mod_two_pow, show (31 : Nat) = 2 ^ 5 - 1 from rfl, Nat.and_two_pow_sub_one_eq_mod]
theorem sm32 : ∀ k : Nat, k < 32 → ((Int32.ofNat k).toBitVec.smod 32).toNat = k := by decide +kernel
theorem wf_get {l : List Nat} (h : wf l) {k : Nat} (hk : k < l.length) : 1 ≤ l[k] ∧ l[k] ≤ 26 := h _ (List.getElem_mem hk)
theorem leN_head : ∀ {r : List Nat}, wf r → (h : 0 < r.length) → leN r % 32 = r[0]
  | [], _, h => by simp at h
  | a :: r, hw, _ => by
    obtain ⟨h1, h2⟩ := wf_cons.mp hw
    simp only [leN, List.getElem_cons_zero]
    omega
def aBuy (A : aB) (u : Nat) (s : List Nat) : aB :=
  ((A.1.1, A.1.2.1, up A.1.2.2 u (A.1.2.2 u - (A.2.2.2.1 0 + A.2.2.2.1 1 * s.length))), pBuy A.2.2.2.1 (Int32.ofNat u) A.2.2.2.2.2.1 A.2.1 s, A.2.2.1, A.2.2.2.1, sBuy A.2.2.2.2.1 (A.2.2.2.1 0 + A.2.2.2.1 1 * s.length) 1, A.2.2.2.2.2.1, A.2.2.2.2.2.2.1 + Int32.ofNat (A.2.2.2.1 0 + A.2.2.2.1 1 * s.length), A.2.2.2.2.2.2.2)
theorem TB_sS {A : aB} (hI : Inv A) {l : List Nat} (hl : l.length ≤ 12) : (TB (sC A.2.1.1 A.2.1.2.1 A.2.2.2.1 true l) (A.2.2.2.1 2) l.length 0).1 < 1000000 := by
  have := TB_bought (np := A.2.1.1) (pl := A.2.1.2.1) hI.2.2.2.2.1.1 hI.2.2.2.2.1.2.1 hI.2.2.2.2.1.2.2.2.1 hl l.length 0 (by omega)
  omega
def sS (A : aB) (l : List Nat) : List (List Nat) := CL (sC A.2.1.1 A.2.1.2.1 A.2.2.2.1 true l) (A.2.2.2.1 2) l
theorem sS_ok {A : aB} (hI : Inv A) {l : List Nat} (hw : wf l) (hl : l.length ≤ 12) : (sS A l).flatten = l ∧ (sS A l).length ≤ 12 ∧ ∀ s ∈ sS A l, wf s ∧ 1 ≤ s.length ∧ s.length ≤ 6 := by
  have hf := TB_sS hI hl
  obtain ⟨o1, o2, o3⟩ := CL_ok hl hf
  refine ⟨o1, CL_len hl hf, fun s hs => ?_⟩
  obtain ⟨s1, s2, j, m, s3, _⟩ := o3 s hs
  exact ⟨mem_wf hw s3, s1, s2⟩
