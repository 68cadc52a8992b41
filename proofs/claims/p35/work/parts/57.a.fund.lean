/-! the fund is what all deposits make: kept by every change -/
def fdN (A : aB) : Nat := sm (fun i => A.2.2.2.1 2 * (A.2.2.1.2.2.2 i).length) A.2.2.1.1
def fE (A : aB) : Prop := A.2.2.2.2.2.2.2 = Int32.ofNat (fdN A)
theorem fE_hel {A : aB} (h : fE A) (hI : Inv A) : A.2.2.2.2.2.2.2 = Int32.ofNat (sm (hel A) A.1.1) := by
  rw [hel_sum hI]
  exact h
theorem fE_time {A : aB} (h : fE A) : fE (aTime A) := h
theorem fE_send {A : aB} (h : fE A) (q : Nat) : fE (aSend A q) := by
  unfold fE fdN at h ⊢
  show A.2.2.2.2.2.2.2 = Int32.ofNat (sm (fun i => A.2.2.2.1 2 * (gap q (A.2.2.1.2.2.2 i)).length) A.2.2.1.1)
  rw [h]
  congr 1
  exact sm_congr (fun i _ => by
    show A.2.2.2.1 2 * _ = A.2.2.2.1 2 * _
    unfold gap
    rw [List.length_map])
theorem fE_tk : ∀ (d q : Nat) (A : aB), fE A → fE (aTk d q A)
  | 0, _, _, h => h
  | d + 1, q, A, h => by
    unfold aTk
    split
    · exact fE_tk d q (aSend A q) (fE_send h q)
    · exact fE_tk d (q + 1) A h
theorem I_sub (a b : Nat) : Int32.ofNat (a + b) - Int32.ofNat b = Int32.ofNat a := by
  rw [← J_add, Int32.add_sub_cancel]
theorem fE_end {A : aB} (h : fE A) {i : Nat} (hi : i < A.2.2.1.1) : fE (aEnd A i) := by
  unfold fE at h ⊢
  show A.2.2.2.2.2.2.2 - Int32.ofNat (A.2.2.2.1 2 * (A.2.2.1.2.2.2 i).length) = Int32.ofNat (sm (fun k => A.2.2.2.1 2 * (sh A.2.2.1.2.2.2 i k).length) (A.2.2.1.1 - 1))
  have e := sm_sh (fun k => A.2.2.2.1 2 * (A.2.2.1.2.2.2 k).length) i (A.2.2.1.1 - 1) (by omega)
  rw [show A.2.2.1.1 - 1 + 1 = A.2.2.1.1 by omega] at e
  have e2 : sm (fun k => A.2.2.2.1 2 * (sh A.2.2.1.2.2.2 i k).length) (A.2.2.1.1 - 1) = sm (sh (fun k => A.2.2.2.1 2 * (A.2.2.1.2.2.2 k).length) i) (A.2.2.1.1 - 1) := sm_congr (fun k _ => by
    unfold sh
    split <;> rfl)
  rw [h, e2]
  unfold fdN
  rw [← e, I_sub]
theorem fE_cut {A : aB} (h : fE A) {i : Nat} (hi : i < A.2.2.1.1) {idx : List Nat} (hle : idx.length ≤ (A.2.2.1.2.2.2 i).length) : fE (aCut A i idx) := by
  unfold fE at h ⊢
  show A.2.2.2.2.2.2.2 - Int32.ofNat (A.2.2.2.1 2 * ((A.2.2.1.2.2.2 i).length - idx.length)) = Int32.ofNat (sm (fun k => A.2.2.2.1 2 * (up A.2.2.1.2.2.2 i idx k).length) A.2.2.1.1)
  have e := sm_up (fun k => A.2.2.2.1 2 * (A.2.2.1.2.2.2 k).length) i (A.2.2.2.1 2 * idx.length) A.2.2.1.1 hi
  have e2 : sm (fun k => A.2.2.2.1 2 * (up A.2.2.1.2.2.2 i idx k).length) A.2.2.1.1 = sm (up (fun k => A.2.2.2.1 2 * (A.2.2.1.2.2.2 k).length) i (A.2.2.2.1 2 * idx.length)) A.2.2.1.1 := sm_congr (fun k _ => by
    by_cases c : k = i
    · rw [c, up_eq, up_eq]
    · rw [up_ne _ _ _ _ c, up_ne _ _ _ _ c])
  have e3 : A.2.2.2.1 2 * ((A.2.2.1.2.2.2 i).length - idx.length) + A.2.2.2.1 2 * idx.length = A.2.2.2.1 2 * (A.2.2.1.2.2.2 i).length := by
    rw [← Nat.mul_add]
    congr 1
    omega
  rw [h, e2]
  unfold fdN
  have e4 : sm (fun k => A.2.2.2.1 2 * (A.2.2.1.2.2.2 k).length) A.2.2.1.1 = sm (up (fun k => A.2.2.2.1 2 * (A.2.2.1.2.2.2 k).length) i (A.2.2.2.1 2 * idx.length)) A.2.2.1.1 + A.2.2.2.1 2 * ((A.2.2.1.2.2.2 i).length - idx.length) := by
    have e5 : (fun k => A.2.2.2.1 2 * (A.2.2.1.2.2.2 k).length) i = A.2.2.2.1 2 * (A.2.2.1.2.2.2 i).length := rfl
    omega
  rw [e4, I_sub]
theorem fE_store {A : aB} (h : fE A) (u : Nat) (l : List Nat) (ps : List (List Nat)) : fE (aStore A u l ps) := by
  unfold fE at h ⊢
  show A.2.2.2.2.2.2.2 + Int32.ofNat (A.2.2.2.1 2 * ps.length) = Int32.ofNat (sm (fun k => A.2.2.2.1 2 * (up A.2.2.1.2.2.2 A.2.2.1.1 (stI A.2.2.2.1 (Int32.ofNat u) A.2.2.2.2.2.1 A.2.1 ps) k).length) (A.2.2.1.1 + 1))
  rw [sm_succ, up_eq, h, J_add]
  have e2 : sm (fun k => A.2.2.2.1 2 * (up A.2.2.1.2.2.2 A.2.2.1.1 (stI A.2.2.2.1 (Int32.ofNat u) A.2.2.2.2.2.1 A.2.1 ps) k).length) A.2.2.1.1 = fdN A := sm_congr (fun k hk => by rw [up_ne _ _ _ _ (by omega)])
  rw [e2]
  congr 3
  unfold stI
  rw [List.length_map]
theorem fE_buy {A : aB} (h : fE A) (u : Nat) (s : List Nat) : fE (aBuy A u s) := h
theorem fE_pay {A : aB} (h : fE A) (u v x : Nat) : fE (aPay A u v x) := h
/-- a piece is bought by itself -/
theorem Iv_buy {A : aB} (h : Iv A) {s : List Nat} (hs : oR s) {u : Nat} (hu : u < A.1.1) (hno : ¬ fnd A.2.1.1 A.2.1.2.1 s < A.2.1.1) (h24 : A.2.1.1 < 24) (hco : A.2.2.2.1 0 + A.2.2.2.1 1 * s.length ≤ A.1.2.2 u) (hI : Inv (aBuy A u s)) : Iv (aBuy A u s) := by
  obtain ⟨v, h1, h2, h3, h4, h5⟩ := h
  refine ⟨hI, fun m hm => ?_, Dp_add h2 hno _ _ _, h3, h4, h5⟩
  have hm' : m < A.2.1.1 + 1 := hm
  show ab (up A.2.1.2.1 A.2.1.1 s m)
  by_cases c : m = A.2.1.1
  · rw [c, up_eq]
    exact hs.1
  · rw [up_ne _ _ _ _ c]
    exact h1 m (by omega)
theorem Iv_pay {A : aB} (h : Iv A) {u v x : Nat} (hu : u < A.1.1) (hv : v < A.1.1) (hx : x ≤ A.1.2.2 u) : Iv (aPay A u v x) := by
  obtain ⟨i, h1, h2, h3, h4, h5⟩ := h
  exact ⟨Inv_pay i hu hv hx, h1, h2, h3, h4, h5⟩
/-- the law refuses a word where the class does -/
theorem z_why {A : aB} {price letter deposit keep refund users pieces words time chest fund : Int32} {coins accounts code paid owner uses idle user word cut : Nat → Int32} (hB : lB A price letter deposit keep refund users pieces words time chest fund coins accounts code paid owner uses idle user word cut) (hI : Iv A) {l : List Nat} (hl : ab l) (h9 : l.length ≤ 9) (hn0 : 0 < l.length) {u : Nat} (hu : u < A.1.1) : ∃ s, fX10_best (Int32.ofNat (cd l)) 1 0 price letter deposit pieces code = some (Int32.ofNat s) ∧ isS l s (sS A l) ∧ fX10_why (Int32.ofNat u) (Int32.ofNat (cd l)) (Int32.ofNat s) price letter deposit pieces words coins code = some (Int32.ofNat (aRef A u (sS A l))) := by
  have o := Iv_oP hI
  have hco := co_bd hI.1 hu
  obtain ⟨⟨i1, i2, i3, i4, i5, i6⟩, j2, j3, j4, j5, j6⟩ := hI
  obtain ⟨s0, s1, s2', s2, s3, s4⟩ := i5
  obtain ⟨⟨b1, b2, b3, b4, b5⟩, b6, b7, b8, b9, b10, b11, b12, b13⟩ := hB
  subst b1 b2 b3
  have hC := lC_of b8 o
  have hf := TB_b (np := A.2.1.1) (pl := A.2.1.2.1) (l := l) s0 s1 s2 h9
  obtain ⟨s, e1, hS, es⟩ := z_best0 hC s0 s1 s2 hl h9 hn0 true hf
  have hSS : isS l s (sS A l) := hS
  refine ⟨s, by rw [b8.1]; exact e1, hSS, ?_⟩
  have f0 := z_fresh hC s0 s1 hl h9 hSS false
  have f1 := z_fresh hC s0 s1 hl h9 hSS true
  have hlen : (sS A l).length ≤ 10 ∧ 1 ≤ (sS A l).length := by
    have := hSS.2.2
    have := pc_lt' s hSS.1
    omega
  have hfl := frs_len A.2.1.1 A.2.1.2.1 [] (sS A l)
  rw [List.length_nil] at hfl
  have hab := isS_ab hl hSS
  have hpr := prS_le (st := A.2.2.2.1) s0 s1 (l := frs A.2.1.1 A.2.1.2.1 [] (sS A l)) (fun x hx => by
    rcases (frs_iff A.2.1.1 A.2.1.2.1 x (sS A l) []).mp hx with z | ⟨z, _⟩
    · exact absurd z List.not_mem_nil
    · have := (hab x z).2
      omega)
  have hum : A.2.2.2.1 2 * (sS A l).length ≤ 9 * 10 := Nat.mul_le_mul s2 hlen.1
  have h24 := i2.1
  have h16 := i3.1
  have hux := setIx (show u < 4 by omega) (by decide)
  rw [fX10_why, b9.1]
  unfold aRef
  by_cases g1 : A.2.2.1.1 < 16
  · rw [if_neg (by rw [i_16, J_eq _ _ (by omega) (by omega)]; omega), b8.1, show (0 : Int32) = bI false from rfl, f0, gb1_some, if_neg (show ¬ ¬ A.2.2.1.1 < 16 by omega)]
    have e0 : fsum A.2.2.2.1 false (frs A.2.1.1 A.2.1.2.1 [] (sS A l)) = (frs A.2.1.1 A.2.1.2.1 [] (sS A l)).length := rfl
    have e1' : fsum A.2.2.2.1 true (frs A.2.1.1 A.2.1.2.1 [] (sS A l)) = prS A.2.2.2.1 (frs A.2.1.1 A.2.1.2.1 [] (sS A l)) := rfl
    rw [e0, J_add]
    by_cases g2 : A.2.1.1 + (frs A.2.1.1 A.2.1.2.1 [] (sS A l)).length ≤ 24
    · rw [if_pos (by rw [i_24, J_le _ _ (by omega) (by omega)]; exact g2), show bI false = (0 : Int32) from rfl, if_neg hux, show (1 : Int32) = bI true from rfl, f1, gb1_some, z_bc hSS, gb1_some, show bI true = Int32.ofNat 1 from rfl, J_add, show (sS A l).length - 1 + 1 = (sS A l).length by omega, J_mul, e1', J_add, J_nat u (by omega), b7 u hu, if_neg (show ¬ ¬ A.2.1.1 + (frs A.2.1.1 A.2.1.2.1 [] (sS A l)).length ≤ 24 from fun z => z g2)]
      by_cases g3 : prS A.2.2.2.1 (frs A.2.1.1 A.2.1.2.1 [] (sS A l)) + A.2.2.2.1 2 * (sS A l).length ≤ A.1.2.2 u
      · rw [if_pos (by rw [J_le _ _ (by omega) (by omega)]; exact g3), if_pos g3]
        rfl
      · rw [if_neg (by rw [J_le _ _ (by omega) (by omega)]; exact g3), if_neg g3]
        rfl
    · rw [if_neg (by rw [i_24, J_le _ _ (by omega) (by omega)]; exact g2), if_pos g2]
      rfl
  · rw [if_pos (by rw [i_16, J_eq _ _ (by omega) (by omega)]; omega), if_pos g1]
    rfl
