/-! favourite, richest, isWhole, shared -/
def bm (f : Nat → Nat) : Nat → Option Nat
  | 0 => none
  | n + 1 => match bm f n with
    | none => some n
    | some b => if f b < f n then some n else some b
def oI : Option Nat → Int32
  | none => M1
  | some b => Int32.ofNat b
def oM (f : Nat → Nat) : Option Nat → Int32
  | none => M1
  | some b => Int32.ofNat (f b)
theorem bm_lt (f : Nat → Nat) : ∀ (n b : Nat), bm f n = some b → b < n
  | 0, b, h => by simp [bm] at h
  | n + 1, b, h => by
    unfold bm at h
    split at h
    · simp at h; omega
    · rename_i c hc
      have := bm_lt f n c hc
      split at h
      · simp at h; omega
      · simp at h; omega
theorem bm_none (f : Nat → Nat) {n : Nat} (h : bm f n = none) : bm f (n + 1) = some n := by rw [bm, h]
theorem bm_some (f : Nat → Nat) {n b : Nat} (h : bm f n = some b) : bm f (n + 1) = if f b < f n then some n else some b := by rw [bm, h]
theorem c_most_L {p : aPs} {P : tPieces} (hP : cP p P) (hn : p.1 ≤ 24) (hb : ∀ q, q < p.1 → p.2.2.2.2.1 q < 1000000) (k : Int32 → Option Int32) : ∀ (d j n : Nat), j + d = p.1 → d < n → fX6_mostUsed_L6 P k n (oI (bm p.2.2.2.2.1 j)) (oM p.2.2.2.2.1 (bm p.2.2.2.2.1 j)) (Int32.ofNat j) = k (oI (bm p.2.2.2.2.1 p.1))
  | d, j, 0, _, h2 => by omega
  | 0, j, n + 1, h1, _ => by
    have : j = p.1 := by omega
    rw [fX6_mostUsed_L6, if_pos (by rw [hP.1, J_le _ _ (by omega) (by omega)]; omega), this]
  | d + 1, j, n + 1, h1, h2 => by
    have hj : j < p.1 := by omega
    obtain ⟨_, _, _, e, _⟩ := hP.2 j hj
    have hbj := hb j hj
    have ih := c_most_L hP hn hb k d (j + 1) n (by omega) (by omega)
    rw [fX6_mostUsed_L6, if_neg (by rw [hP.1, J_le _ _ (by omega) (by omega)]; omega), if_neg (inck hj hn (by omega)), J_nat _ (by omega), e, i_1, J_add]
    cases hbm : bm p.2.2.2.2.1 j with
    | none =>
      rw [bm_none _ hbm] at ih
      rw [if_neg (by simp only [oM]; rw [J_le1 _ (by omega)]; exact fun h => h), if_neg (inck' hj hn (by omega))]
      exact ih
    | some c =>
      have hc := bm_lt _ _ _ hbm
      have hbc := hb c (by omega)
      rw [bm_some _ hbm] at ih
      rw [show oM p.2.2.2.2.1 (some c) = Int32.ofNat (p.2.2.2.2.1 c) from rfl]
      by_cases cc : p.2.2.2.2.1 c < p.2.2.2.2.1 j
      · rw [if_pos cc] at ih
        rw [if_neg (by rw [J_le _ _ (by omega) (by omega)]; omega), if_neg (inck' hj hn (by omega))]
        exact ih
      · rw [if_neg cc] at ih
        rw [if_pos (by rw [J_le _ _ (by omega) (by omega)]; omega)]
        exact ih
def wea (A : aB) (u : Nat) : Nat := A.1.2.2 u + hel A u
theorem wea_bd {A : aB} (hI : Inv A) {u : Nat} (hu : u < A.1.1) : wea A u < 1000000 := by
  have h1 := co_bd hI hu
  have h2 := sm_le (fun i => if A.2.2.1.2.2.1 i = u then (A.2.2.1.2.2.2 i).length else 0) 12 A.2.2.1.1 (fun i hi => by
    have := iW_len hI hi
    split <;> omega)
  have h3 : hel A u ≤ 9 * (12 * 16) := by
    unfold hel
    refine Nat.mul_le_mul hI.2.2.2.2.1.2.2.2.1 (Nat.le_trans h2 ?_)
    exact Nat.mul_le_mul_left _ hI.2.2.1.1
  unfold wea
  omega
theorem c_rich_L {A : aB} {U : tUsers} {W : tWords} {settings : Nat → Int32} (hU : cU A.1 U) (hW : cW A.2.2.1 W) (hs : cS A.2.2.2.1 settings) (hI : Inv A) (k : Int32 → Option Int32) : ∀ (d j n : Nat), j + d = A.1.1 → d < n → fX9_richest_L6 settings U W k n (oI (bm (wea A) j)) (oM (wea A) (bm (wea A) j)) (Int32.ofNat j) = k (oI (bm (wea A) A.1.1))
  | d, j, 0, _, h2 => by omega
  | 0, j, n + 1, h1, _ => by
    have h4 := hI.1.1
    have : j = A.1.1 := by omega
    rw [fX9_richest_L6, if_pos (by rw [hU.1, J_le _ _ (by omega) (by omega)]; omega), this]
  | d + 1, j, n + 1, h1, h2 => by
    have h4 := hI.1.1
    have hj : j < A.1.1 := by omega
    have hbj := wea_bd hI hj
    have ew : A.1.2.2 j + hel A j = wea A j := rfl
    have ih := c_rich_L hU hW hs hI k d (j + 1) n (by omega) (by omega)
    rw [fX9_richest_L6, if_neg (by rw [hU.1, J_le _ _ (by omega) (by omega)]; omega), c_coinsOf hU h4 hj, gb1_some, c_held' hW hs hI (by omega), gb1_some, J_add, ew, i_1, J_add]
    cases hbm : bm (wea A) j with
    | none =>
      rw [bm_none _ hbm] at ih
      rw [if_neg (by simp only [oM]; rw [J_le1 _ (by omega)]; exact fun h => h)]
      exact ih
    | some c =>
      have hc := bm_lt _ _ _ hbm
      have hbc := wea_bd hI (show c < A.1.1 by omega)
      rw [bm_some _ hbm] at ih
      rw [show oM (wea A) (some c) = Int32.ofNat (wea A c) from rfl]
      by_cases cc : wea A c < wea A j
      · rw [if_pos cc] at ih
        rw [if_neg (by rw [J_le _ _ (by omega) (by omega)]; omega)]
        exact ih
      · rw [if_neg cc] at ih
        rw [if_pos (by rw [J_le _ _ (by omega) (by omega)]; omega)]
        exact ih
/-! isWhole -/
theorem sm_const0 : ∀ n, sm (fun _ => 0) n = 0
  | 0 => rfl
  | n + 1 => by rw [sm_succ, sm_const0 n]
theorem sm_one (o c : Nat) : ∀ n, sm (fun u => if o = u then c else 0) n = if o < n then c else 0
  | 0 => by rw [sm_zero, if_neg (by omega)]
  | n + 1 => by
    rw [sm_succ, sm_one o c n]
    by_cases h : o = n
    · rw [if_neg (by omega), if_pos h, if_pos (by omega)]; omega
    · rw [if_neg h]
      by_cases h2 : o < n
      · rw [if_pos h2, if_pos (by omega), Nat.add_zero]
      · rw [if_neg h2, if_neg (by omega)]
theorem sm_swap {wo len : Nat → Nat} {nu : Nat} : ∀ (nw : Nat), (∀ i, i < nw → wo i < nu) → sm (fun u => sm (fun i => if wo i = u then len i else 0) nw) nu = sm len nw
  | 0, _ => by
    have : sm (fun u => sm (fun i => if wo i = u then len i else 0) 0) nu = sm (fun _ => 0) nu := sm_congr (fun _ _ => rfl)
    rw [this, sm_const0]; rfl
  | nw + 1, h => by
    have e : sm (fun u => sm (fun i => if wo i = u then len i else 0) (nw + 1)) nu = sm (fun u => sm (fun i => if wo i = u then len i else 0) nw + (if wo nw = u then len nw else 0)) nu := sm_congr (fun u _ => sm_succ _ _)
    rw [e, sm_add, sm_swap nw (fun i hi => h i (by omega)), sm_one, if_pos (h nw (by omega)), sm_succ]
theorem hel_sum {A : aB} (hI : Inv A) : sm (hel A) A.1.1 = sm (fun i => A.2.2.2.1 2 * (A.2.2.1.2.2.2 i).length) A.2.2.1.1 := by
  have e : sm (hel A) A.1.1 = A.2.2.2.1 2 * sm (fun u => sm (fun i => if A.2.2.1.2.2.1 i = u then (A.2.2.1.2.2.2 i).length else 0) A.2.2.1.1) A.1.1 := by
    rw [← sm_mul]; rfl
  rw [e, sm_swap (len := fun i => (A.2.2.1.2.2.2 i).length) A.2.2.1.1 (fun i hi => (hI.2.2.1.2 i hi).1), sm_mul]
