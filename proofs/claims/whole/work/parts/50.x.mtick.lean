/-! pieces that go back: the reference -/
def shf (old : Nat → Int32) (c a j : Nat) : Nat → Int32 := fun x => if a ≤ x ∧ x < j then old (x + c) else old x
theorem shf_lo (old : Nat → Int32) (c a j x : Nat) (h : ¬ (a ≤ x ∧ x < j)) : shf old c a j x = old x := if_neg h
theorem shf_in (old : Nat → Int32) (c a j x : Nat) (h1 : a ≤ x) (h2 : x < j) : shf old c a j x = old (x + c) := if_pos ⟨h1, h2⟩
theorem shf_step (old : Nat → Int32) (c a j : Nat) (h : a ≤ j) : upd (shf old c a j) j (shf old c a j (j + c)) = shf old c a (j + 1) := by
  funext x
  by_cases cx : x = j
  · subst cx
    rw [upd_eq, shf_lo _ _ _ _ _ (by omega), shf_in _ _ _ _ _ h (by omega)]
  · rw [upd_ne _ _ _ _ cx]
    by_cases c2 : a ≤ x ∧ x < j
    · rw [shf_in _ _ _ _ _ c2.1 c2.2, shf_in _ _ _ _ _ c2.1 (by omega)]
    · rw [shf_lo _ _ _ _ _ c2, shf_lo _ _ _ _ _ (by omega)]
theorem shf_0 (old : Nat → Int32) (c a : Nat) : shf old c a a = old := by
  funext x
  exact shf_lo _ _ _ _ _ (by omega)
theorem m_back89 {old : Nat → Int32} {np a : Nat} (h9 : old 9 = Int32.ofNat np) (hn : np < 24) (ha : 21 ≤ a) {x1 : Int32} (k : (Nat → Int32) → Option (Nat → Int32)) : ∀ (d j n : Nat), j + d = 21 + 5 * np → a ≤ j → d < n → fX10_goesBack_L89 x1 k n (Int32.ofNat j) (shf old 5 a j) = k (shf old 5 a (21 + 5 * np))
  | d, j, 0, _, _, h2 => by omega
  | 0, j, n + 1, h1, h2, _ => by
    have : j = 21 + 5 * np := by omega
    subst this
    rw [fX10_goesBack_L89, shf_lo _ _ _ _ _ (by omega), h9, J_lmul, i_21, J_add, if_pos (by rw [J_le _ _ (by omega) (by omega)]; omega)]
  | d + 1, j, n + 1, h1, h2, h3 => by
    rw [fX10_goesBack_L89, shf_lo old 5 a j 9 (by omega), h9, J_lmul, i_21, J_add, if_neg (by rw [J_le _ _ (by omega) (by omega)]; omega), i_5, J_add, if_neg (by rw [i_0, J_lt _ _ (by omega) (by omega), J_nat _ (by omega)]; omega), if_neg (by rw [i_0, J_lt _ _ (by omega) (by omega), J_nat _ (by omega)]; omega), Lt_eq, J_nat _ (by omega), J_nat _ (by omega), shf_step _ _ _ _ h2, i_1, J_add]
    exact m_back89 h9 hn ha k d (j + 1) n (by omega) (by omega) (by omega)
theorem mP_shift {p : aPs} {now old : Nat → Int32} (hP : mP p now) (hn : p.1 ≤ 24) {q : Nat} (hq : q < p.1) (ho : ∀ x, 21 ≤ x → x < 141 → old x = now x) (h9 : old 9 = Int32.ofNat (p.1 - 1)) : mP (pDrop p q) (shf old 5 (21 + 5 * q) (21 + 5 * (p.1 - 1))) := by
  refine ⟨by rw [shf_lo _ _ _ _ _ (by omega), h9]; rfl, fun x hx => ?_⟩
  simp only [pDrop] at hx ⊢
  by_cases c : x < q
  · simp only [sh_lo _ _ _ c]
    rw [shf_lo _ _ _ _ _ (by omega), shf_lo _ _ _ _ _ (by omega), shf_lo _ _ _ _ _ (by omega), shf_lo _ _ _ _ _ (by omega), shf_lo _ _ _ _ _ (by omega), ho _ (by omega) (by omega), ho _ (by omega) (by omega), ho _ (by omega) (by omega), ho _ (by omega) (by omega), ho _ (by omega) (by omega)]
    exact hP.2 x (by omega)
  · simp only [sh_hi _ _ _ (show q ≤ x by omega)]
    rw [shf_in _ _ _ _ _ (by omega) (by omega), shf_in _ _ _ _ _ (by omega) (by omega), shf_in _ _ _ _ _ (by omega) (by omega), shf_in _ _ _ _ _ (by omega) (by omega), shf_in _ _ _ _ _ (by omega) (by omega), ho _ (by omega) (by omega), ho _ (by omega) (by omega), ho _ (by omega) (by omega), ho _ (by omega) (by omega), ho _ (by omega) (by omega)]
    have := hP.2 (x + 1) (by omega)
    rw [show 21 + 5 * (x + 1) = 21 + 5 * x + 5 by omega] at this
    rw [show 21 + 5 * x + 1 + 5 = 21 + 5 * x + 5 + 1 by omega, show 21 + 5 * x + 2 + 5 = 21 + 5 * x + 5 + 2 by omega, show 21 + 5 * x + 3 + 5 = 21 + 5 * x + 5 + 3 by omega, show 21 + 5 * x + 4 + 5 = 21 + 5 * x + 5 + 4 by omega]
    exact this
def gpv (q x : Nat) : Nat := if q < x then x - 1 else x
theorem m_back146 {i : Nat} (hi : i < 16) {q : Nat} (hq : q < 24) {idx : List Nat} (h12 : idx.length ≤ 12) (hlt : ∀ x ∈ idx, x < 24) {old : Nat → Int32} (hlen : old (141 + 14 * i + 1) = Int32.ofNat idx.length) {k : (Nat → Int32) → Option (Nat → Int32)} {Q : (Nat → Int32) → Prop} (hk : ∀ now, (∀ m (h : m < idx.length), now (141 + 14 * i + 2 + m) = Int32.ofNat (gpv q (idx[m]))) → (∀ x, ¬ (141 + 14 * i + 2 ≤ x ∧ x < 141 + 14 * i + 14) → now x = old x) → Ok (k now) Q) : ∀ (d j n : Nat) (now : Nat → Int32), j + d = idx.length → d < n → (∀ m (h : m < idx.length), now (141 + 14 * i + 2 + m) = Int32.ofNat (if m < j then gpv q (idx[m]) else idx[m])) → (∀ x, ¬ (141 + 14 * i + 2 ≤ x ∧ x < 141 + 14 * i + 14) → now x = old x) → Ok (fX10_goesBack_L146 (Int32.ofNat q) (Int32.ofNat i) k n (Int32.ofNat j) now) Q
  | d, j, 0, now, _, h2, _, _ => by omega
  | 0, j, n + 1, now, h1, _, hp, hf => by
    rw [fX10_goesBack_L146, i_1, m_ofWord now hi (by omega), gb1_some, hf _ (by omega), hlen, if_pos (by rw [J_le _ _ (by omega) (by omega)]; omega)]
    exact hk now (fun m hm => by rw [hp m hm, if_pos (by omega)]) hf
  | d + 1, j, n + 1, now, h1, h2, hp, hf => by
    have hj : j < idx.length := by omega
    have hx := hlt _ (List.getElem_mem hj)
    have e := hp j hj
    rw [if_neg (by omega)] at e
    have ew : fX10_ofWord (Int32.ofNat i) (2 + Int32.ofNat j) now = some (Int32.ofNat (idx[j])) := by
      rw [i_2, J_add, m_ofWord now hi (by omega), ← e]
      congr 2
      omega
    have eb : (141 : Int32) + 14 * Int32.ofNat i + 2 + Int32.ofNat j = Int32.ofNat (141 + 14 * i + 2 + j) := by
      rw [J_lmul, i_141, J_add, i_2, J_add, J_add]
    have hck : ¬ (Int32.ofNat (141 + 14 * i + 2 + j) < 0 ∨ 365 ≤ (Int32.ofNat (141 + 14 * i + 2 + j)).toNatClampNeg) := by
      rw [i_0, J_lt _ _ (by omega) (by omega), J_nat _ (by omega)]
      omega
    have hck' : ¬ (Int32.ofNat (141 + 14 * i + 2 + j) < 0 ∨ 365 ≤ 141 + 14 * i + 2 + j) := by
      rw [i_0, J_lt _ _ (by omega) (by omega)]
      omega
    rw [fX10_goesBack_L146, i_1, m_ofWord now hi (by omega), gb1_some, hf _ (by omega), hlen, if_neg (by rw [J_le _ _ (by omega) (by omega)]; omega), eb, if_neg hck, ew, gb1_some]
    simp only [Lt_eq, if_neg hck, J_nat (141 + 14 * i + 2 + j) (show 141 + 14 * i + 2 + j < 2147483648 by omega), e]
    have key : ∀ v, v = gpv q (idx[j]) → Ok (fX10_goesBack_L146 (Int32.ofNat q) (Int32.ofNat i) k n (Int32.ofNat j + Int32.ofNat 1) (upd now (141 + 14 * i + 2 + j) (Int32.ofNat v))) Q := by
      intro v hv
      rw [J_add]
      refine m_back146 hi hq h12 hlt hlen hk d (j + 1) n _ (by omega) (by omega) (fun m hm => ?_) (fun x hx => ?_)
      · by_cases cm : m = j
        · subst cm
          rw [upd_eq, if_pos (by omega), hv]
        · rw [upd_ne _ _ _ _ (by omega), hp m hm]
          by_cases c2 : m < j
          · rw [if_pos c2, if_pos (by omega)]
          · rw [if_neg c2, if_neg (by omega)]
      · rw [upd_ne _ _ _ _ (by omega)]
        exact hf x hx
    by_cases c : idx[j] ≤ q
    · rw [if_pos (by rw [J_le _ _ (by omega) (by omega)]; omega), if_neg hck', i_0, J_sub _ _ (by omega), Nat.sub_zero]
      exact key _ (by rw [gpv, if_neg (by omega)])
    · rw [if_neg (by rw [J_le _ _ (by omega) (by omega)]; omega), if_neg hck', J_sub _ _ (by omega)]
      exact key _ (by rw [gpv, if_pos (by omega)])
theorem m_back131 {w : aWs} (h16 : w.1 ≤ 16) {q : Nat} (hq : q < 24) (hl : ∀ i, i < w.1 → (w.2.2.2 i).length ≤ 12) (hlt : ∀ i, i < w.1 → ∀ x ∈ w.2.2.2 i, x < 24) {old : Nat → Int32} (h10 : old 10 = Int32.ofNat w.1) {k : (Nat → Int32) → Option (Nat → Int32)} {Q : (Nat → Int32) → Prop} (hk : ∀ now, mW (wGap w q) now → (∀ x, x < 141 → now x = old x) → Ok (k now) Q) : ∀ (d j n : Nat) (now : Nat → Int32), j + d = w.1 → d < n → (∀ i, i < w.1 → mR (w.2.2.1 i) (if i < j then gap q (w.2.2.2 i) else w.2.2.2 i) i now) → (∀ x, x < 141 → now x = old x) → Ok (fX10_goesBack_L131 (Int32.ofNat q) k n (Int32.ofNat j) now) Q
  | d, j, 0, now, _, h2, _, _ => by omega
  | 0, j, n + 1, now, h1, _, hp, hf => by
    rw [fX10_goesBack_L131, hf 10 (by omega), h10, if_pos (by rw [J_le _ _ (by omega) (by omega)]; omega)]
    refine hk now ⟨by rw [hf 10 (by omega)]; exact h10, fun i hi => ?_⟩ hf
    have hi2 : i < w.1 := hi
    have := hp i hi2
    rw [if_pos (by omega)] at this
    exact this
  | d + 1, j, n + 1, now, h1, h2, hp, hf => by
    have hj : j < w.1 := by omega
    have hrow := hp j hj
    rw [if_neg (by omega)] at hrow
    obtain ⟨r1, r2, r3⟩ := hrow
    rw [fX10_goesBack_L131, hf 10 (by omega), h10, if_neg (by rw [J_le _ _ (by omega) (by omega)]; omega)]
    refine m_back146 (show j < 16 by omega) hq (hl j hj) (hlt j hj) (old := now) r2 ?_ (w.2.2.2 j).length 0 FU now (by omega) (by have := hl j hj; simp only [FU]; omega) (fun m hm => by rw [if_neg (by omega)]; exact r3 m hm) (fun _ _ => rfl)
    intro now1 g1 g2
    rw [i_1, J_add]
    refine m_back131 h16 hq hl hlt h10 hk d (j + 1) n now1 (by omega) (by omega) (fun i hi => ?_) (fun x hx => by rw [g2 x (by omega)]; exact hf x hx)
    by_cases ci : i = j
    · subst ci
      rw [if_pos (by omega)]
      refine ⟨by rw [g2 _ (by omega)]; exact r1, by rw [g2 _ (by omega), r2, gap, List.length_map], fun m hm => ?_⟩
      simp only [gap, List.length_map] at hm
      rw [g1 m hm]
      simp only [gap, List.getElem_map, gpv]
    · have := hp i hi
      have hle : (if i < j then gap q (w.2.2.2 i) else w.2.2.2 i).length ≤ 12 := by
        split
        · rw [gap, List.length_map]; exact hl i hi
        · exact hl i hi
      have e : (if i < j + 1 then gap q (w.2.2.2 i) else w.2.2.2 i) = (if i < j then gap q (w.2.2.2 i) else w.2.2.2 i) := by
        by_cases c2 : i < j
        · rw [if_pos c2, if_pos (by omega)]
        · rw [if_neg c2, if_neg (by omega)]
      rw [e]
      exact mR_fr this hle (fun x h1 h2 => g2 x (by omega))
theorem m_goesBack {A : aB} {now : Nat → Int32} (hB : mB A now) (hI : Inv A) {q : Nat} (hq : q < A.2.1.1) (hg : aGo A q) : Ok (fX10_goesBack (Int32.ofNat q) now) (fun r => mB (aSend A q) r) := by
  obtain ⟨b1, b2, b3, b4, b5, b6, b7, b8⟩ := hB
  obtain ⟨_, _, _, pd, po⟩ := hI.2.1.2 q hq
  obtain ⟨u, hu, eu⟩ := po.resolve_left hg.1
  have h4 := hI.1.1
  have h24 := hI.2.1.1
  have h16 := hI.2.2.1.1
  have hm : A.2.1.2.2.1 q * A.2.2.2.1 4 ≤ 1000 * 100 := Nat.mul_le_mul pd hI.2.2.2.2.1.2.2.2.2.2
  obtain ⟨_, p1, p2, _, _⟩ := b2.2 q hq
  have er : Int32.ofNat (A.2.1.2.2.1 q) * now 4 / 100 = Int32.ofNat (A.2.1.2.2.1 q * A.2.2.2.1 4 / 100) := by
    rw [b4 4 (by omega), J_mul, i_100, J_div _ _ (by omega) (by omega)]
  have hck : ¬ (Int32.ofNat (17 + u) < 0 ∨ 365 ≤ (Int32.ofNat (17 + u)).toNatClampNeg) := by
    rw [i_0, J_lt _ _ (by omega) (by omega), J_nat _ (by omega)]
    omega
  rw [fX10_goesBack, i_2, m_ofPiece now (by omega) (by omega), gb1_some, p2, eu, i_1, m_ofPiece now (by omega) (by omega), gb1_some, p1, er, Lt_eq, i_17, J_add, if_neg hck, if_neg hck, Lt_eq, Lt_eq, Lt_eq, Lt_eq, J_nat _ (by omega), J_lmul, i_21, J_add]
  generalize hv : A.2.1.2.2.1 q * A.2.2.2.1 4 / 100 = v
  generalize hn5 : upd (upd (upd (upd (upd now 7 (now 7 - Int32.ofNat v)) (17 + u) (upd now 7 (now 7 - Int32.ofNat v) (17 + u) + Int32.ofNat v)) 12 (upd (upd now 7 (now 7 - Int32.ofNat v)) (17 + u) (upd now 7 (now 7 - Int32.ofNat v) (17 + u) + Int32.ofNat v) 12 + Int32.ofNat v)) 16 (upd (upd (upd now 7 (now 7 - Int32.ofNat v)) (17 + u) (upd now 7 (now 7 - Int32.ofNat v) (17 + u) + Int32.ofNat v)) 12 (upd (upd now 7 (now 7 - Int32.ofNat v)) (17 + u) (upd now 7 (now 7 - Int32.ofNat v) (17 + u) + Int32.ofNat v) 12 + Int32.ofNat v) 16 + Int32.ofNat 1)) 9 (upd (upd (upd (upd now 7 (now 7 - Int32.ofNat v)) (17 + u) (upd now 7 (now 7 - Int32.ofNat v) (17 + u) + Int32.ofNat v)) 12 (upd (upd now 7 (now 7 - Int32.ofNat v)) (17 + u) (upd now 7 (now 7 - Int32.ofNat v) (17 + u) + Int32.ofNat v) 12 + Int32.ofNat v)) 16 (upd (upd (upd now 7 (now 7 - Int32.ofNat v)) (17 + u) (upd now 7 (now 7 - Int32.ofNat v) (17 + u) + Int32.ofNat v)) 12 (upd (upd now 7 (now 7 - Int32.ofNat v)) (17 + u) (upd now 7 (now 7 - Int32.ofNat v) (17 + u) + Int32.ofNat v) 12 + Int32.ofNat v) 16 + Int32.ofNat 1) 9 - Int32.ofNat 1) = now5
  have f5 : ∀ x, x ≠ 7 → x ≠ 17 + u → x ≠ 12 → x ≠ 16 → x ≠ 9 → now5 x = now x := by
    intro x h1 h2 h3 h4 h5
    rw [← hn5, upd_ne _ _ _ _ h5, upd_ne _ _ _ _ h4, upd_ne _ _ _ _ h3, upd_ne _ _ _ _ h2, upd_ne _ _ _ _ h1]
  have g7 : now5 7 = now 7 - Int32.ofNat v := by
    rw [← hn5]
    simp (disch := omega) only [upd_ne, upd_eq]
  have gu : now5 (17 + u) = now (17 + u) + Int32.ofNat v := by
    rw [← hn5]
    simp (disch := omega) only [upd_ne, upd_eq]
  have g12 : now5 12 = now 12 + Int32.ofNat v := by
    rw [← hn5]
    simp (disch := omega) only [upd_ne, upd_eq]
  have g16 : now5 16 = now 16 + Int32.ofNat 1 := by
    rw [← hn5]
    simp (disch := omega) only [upd_ne, upd_eq]
  have g9 : now5 9 = Int32.ofNat (A.2.1.1 - 1) := by
    rw [← hn5]
    simp (disch := omega) only [upd_ne, upd_eq]
    rw [b2.1, J_sub _ _ (by omega)]
  have t := m_back89 (old := now5) (np := A.2.1.1 - 1) (a := 21 + 5 * q) g9 (by omega) (by omega) (x1 := Int32.ofNat q) (fun now_6 => fX10_goesBack_L131 (Int32.ofNat q) (fun now_7 => some now_7) FU 0 now_6) (21 + 5 * (A.2.1.1 - 1) - (21 + 5 * q)) (21 + 5 * q) FU (by omega) (Nat.le_refl _) (by simp only [FU]; omega)
  rw [shf_0] at t
  have tt : fX10_goesBack_L89 (Int32.ofNat q) (fun now_6 => fX10_goesBack_L131 (Int32.ofNat q) (fun now_7 => some now_7) FU (Int32.ofNat 0) now_6) FU (Int32.ofNat (21 + 5 * q)) now5 = _ := t
  rw [i_0, tt]
  have hP6 := mP_shift (old := now5) b2 h24 hq (fun x h1 h2 => f5 x (by omega) (by omega) (by omega) (by omega) (by omega)) g9
  have s6 : ∀ x, ¬ (21 ≤ x ∧ x < 141) → shf now5 5 (21 + 5 * q) (21 + 5 * (A.2.1.1 - 1)) x = now5 x := fun x hx => shf_lo _ _ _ _ _ (by omega)
  refine m_back131 (w := A.2.2.1) h16 (show q < 24 by omega) (fun i hi => iW_len hI hi) (w_24 hI) (old := shf now5 5 (21 + 5 * q) (21 + 5 * (A.2.1.1 - 1))) (by rw [s6 10 (by omega), f5 10 (by omega) (by omega) (by omega) (by omega) (by omega)]; exact b3.1) ?_ A.2.2.1.1 0 FU _ (by omega) (by simp only [FU]; omega) (fun i hi => by
    rw [if_neg (by omega)]
    refine mR_fr (b3.2 i hi) (iW_len hI hi) (fun x h1 h2 => ?_)
    rw [s6 x (by omega), f5 x (by omega) (by omega) (by omega) (by omega) (by omega)]) (fun _ _ => rfl)
  intro now7 hW7 f7
  have f7' : ∀ x, x < 21 → now7 x = now5 x := fun x hx => by rw [f7 x (by omega), s6 x (by omega)]
  refine ok_some ⟨⟨?_, fun x hx => ?_⟩, ?_, hW7, fun x hx => ?_, fun x hx => ?_, ?_, ?_, ?_⟩
  · rw [f7' 5 (by omega), f5 5 (by omega) (by omega) (by omega) (by omega) (by omega)]; exact b1.1
  · have hx2 : x < A.1.1 := hx
    show _ = Int32.ofNat (up A.1.2.2 (A.2.1.2.2.2.1 q).toNatClampNeg _ x)
    rw [eu, J_nat _ (by omega), hv, f7' _ (by omega)]
    by_cases c : x = u
    · subst c
      rw [up_eq, gu, b1.2 x hx2, J_add]
    · rw [up_ne _ _ _ _ c, f5 _ (by omega) (by omega) (by omega) (by omega) (by omega)]
      exact b1.2 x hx2
  · exact mP_fr hP6 (show A.2.1.1 - 1 ≤ 24 by omega) (fun x hx => f7 x (by omega))
  · rw [f7' x (by omega), f5 x (by omega) (by omega) (by omega) (by omega) (by omega)]; exact b4 x hx
  · rw [f7' _ (by omega)]
    simp only [aSend, sAdd, hv]
    have := b5 x hx
    by_cases c5 : x = 5
    · subst c5
      rw [if_pos rfl, if_neg (by decide)]
      rw [show 11 + 5 = 16 from rfl] at this ⊢
      rw [g16, this]
    · rw [if_neg c5]
      by_cases c1 : x = 1
      · subst c1
        rw [if_pos rfl]
        rw [show 11 + 1 = 12 from rfl] at this ⊢
        rw [g12, this]
      · rw [if_neg c1, f5 _ (by omega) (by omega) (by omega) (by omega) (by omega)]
        exact this
  · rw [f7' 6 (by omega), f5 6 (by omega) (by omega) (by omega) (by omega) (by omega)]; exact b6
  · rw [f7' 7 (by omega), g7, b7]
    simp only [aSend, hv]
  · rw [f7' 8 (by omega), f5 8 (by omega) (by omega) (by omega) (by omega) (by omega)]; exact b8
theorem m_ticks_L {k : Int32 → (Nat → Int32) → Option (Int32 × (Nat → Int32))} {Q : Int32 × (Nat → Int32) → Prop} : ∀ (d q n cnt : Nat) (A : aB) (now : Nat → Int32), A.2.1.1 = q + d → d < n → Inv A → mB A now → (∀ now', mB (aTk d q A) now' → Ok (k (Int32.ofNat (cnt + (A.2.1.1 - (aTk d q A).2.1.1))) now') Q) → Ok (fX10_ticks_L15 k n (Int32.ofNat cnt) (Int32.ofNat q) now) Q
  | d, q, 0, cnt, A, now, _, h, _, _, _ => by omega
  | 0, q, n + 1, cnt, A, now, h1, _, hI, hB, hk => by
    have h24 := hI.2.1.1
    rw [fX10_ticks_L15, if_pos (by rw [hB.2.1.1, J_le _ _ (by omega) (by omega)]; omega)]
    have := hk now hB
    rw [aTk, Nat.sub_self, Nat.add_zero] at this
    exact this
  | d + 1, q, n + 1, cnt, A, now, h1, h2, hI, hB, hk => by
    have h24 := hI.2.1.1
    have hq : q < A.2.1.1 := by omega
    have hub := uses_bd hI hq
    obtain ⟨_, _, e2, e3, e4⟩ := hB.2.1.2 q hq
    have hne : ∀ v : Int32, (v = -1) = (v = M1) := fun v => rfl
    rw [fX10_ticks_L15, if_neg (by rw [hB.2.1.1, J_le _ _ (by omega) (by omega)]; omega), i_2, m_ofPiece now (by omega) (by omega), gb1_some, e2, i_3, m_ofPiece now (by omega) (by omega), i_4, m_ofPiece now (by omega) (by omega)]
    simp only [Lt_eq, M1_def, gb1_some, e3, e4, hB.2.2.2.2.2.1, hB.2.2.2.1 3 (show 3 < 5 by omega)]
    rw [aTk] at hk
    have hn1 : ∀ now', mB (aTk d (q + 1) A) now' → Ok (k (Int32.ofNat (cnt + (A.2.1.1 - (aTk d (q + 1) A).2.1.1))) now') Q → Ok (k (Int32.ofNat (cnt + (A.2.1.1 - (aTk d (q + 1) A).2.1.1))) now') Q := fun _ _ h => h
    by_cases c1 : A.2.1.2.2.2.1 q = M1
    · rw [if_neg (fun h => h.1 c1)] at hk
      rw [if_pos c1, if_pos trivial, i_1, J_add]
      exact m_ticks_L d (q + 1) n cnt A now (by omega) (by omega) hI hB hk
    · rw [if_neg c1]
      by_cases c2 : A.2.1.2.2.2.2.1 q = 0
      · rw [if_pos (by rw [c2]; rfl)]
        by_cases c3 : A.2.2.2.2.2.1 - A.2.1.2.2.2.2.2 q ≤ Int32.ofNat (A.2.2.2.1 3)
        · rw [if_neg (fun h => h.2.2 c3)] at hk
          rw [if_pos c3, if_pos trivial, i_1, J_add]
          exact m_ticks_L d (q + 1) n cnt A now (by omega) (by omega) hI hB hk
        · have hg : A.2.1.2.2.2.1 q ≠ M1 ∧ A.2.1.2.2.2.2.1 q = 0 ∧ ¬ (A.2.2.2.2.2.1 - A.2.1.2.2.2.2.2 q ≤ Int32.ofNat (A.2.2.2.1 3)) := ⟨c1, c2, c3⟩
          rw [if_pos hg] at hk
          rw [if_neg c3, if_neg (by decide)]
          apply ok_gb1
          refine ok_mono (m_goesBack hB hI hq hg) ?_
          intro now1 hB1
          rw [i_1, J_add]
          have hn : (aSend A q).2.1.1 = A.2.1.1 - 1 := rfl
          refine m_ticks_L d q n (cnt + 1) (aSend A q) now1 (by rw [hn]; omega) (by omega) (Inv_send hI hq hg) hB1 ?_
          intro now' h
          have hle := (Inv_tk d q (aSend A q) (by rw [hn]; omega) (Inv_send hI hq hg)).2.1
          rw [hn] at hle ⊢
          have := hk now' h
          rw [show cnt + 1 + (A.2.1.1 - 1 - (aTk d q (aSend A q)).2.1.1) = cnt + (A.2.1.1 - (aTk d q (aSend A q)).2.1.1) by omega]
          exact this
      · rw [if_neg (fun h => c2 h.2.1)] at hk
        rw [if_neg (by rw [i_0, J_eq _ _ (by omega) (by omega)]; exact c2), if_pos trivial, i_1, J_add]
        exact m_ticks_L d (q + 1) n cnt A now (by omega) (by omega) hI hB hk
theorem m_ticks {A : aB} {now : Nat → Int32} (hB : mB A now) (hI : Inv A) : Ok (fX10_ticks now) (fun r => r.1 = Int32.ofNat (A.2.1.1 - (aTk A.2.1.1 0 (aTime A)).2.1.1) ∧ mB (aTk A.2.1.1 0 (aTime A)) r.2) := by
  obtain ⟨b1, b2, b3, b4, b5, b6, b7, b8⟩ := hB
  have h24 := hI.2.1.1
  have hB2 : mB (aTime A) (upd now 6 (now 6 + 1)) := by
    refine ⟨mU_fr b1 hI.1.1 (fun k hk => upd_ne _ _ _ _ (by omega)), mP_fr b2 h24 (fun k hk => upd_ne _ _ _ _ (by omega)), mW_fr b3 (fun k hk => upd_ne _ _ _ _ (by omega)), mS_fr b4 (fun k hk => upd_ne _ _ _ _ (by omega)), mA_fr b5 (fun k h1 h2 => upd_ne _ _ _ _ (by omega)), ?_, ?_, ?_⟩
    · rw [upd_eq, b6]; rfl
    · rw [upd_ne _ _ _ _ (by decide)]; exact b7
    · rw [upd_ne _ _ _ _ (by decide)]; exact b8
  rw [fX10_ticks, Lt_eq]
  refine m_ticks_L A.2.1.1 0 FU 0 (aTime A) _ (by simp only [aTime]; omega) (by simp only [FU]; omega) (Inv_time hI) hB2 ?_
  intro now' h
  refine ok_some ⟨?_, h⟩
  rw [Nat.zero_add]
  rfl
