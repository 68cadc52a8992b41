/-! favourite, richest, isWhole, shared -/
def bm (f : Nat → Nat) : Nat → Option Nat
  | 0 => none
  | n + 1 => match bm f n with
    | none => some n
    | some b => if f b < f n then some n else some b
def oI : Option Nat → Int32
  | none => M1
  | some b => Int32.ofNat b
def oM (f : Nat → Nat) : Option Nat → Int32
  | none => M1
  | some b => Int32.ofNat (f b)
theorem bm_lt (f : Nat → Nat) : ∀ (n b : Nat), bm f n = some b → b < n
  | 0, b, h => by simp [bm] at h
  | n + 1, b, h => by
    unfold bm at h
    split at h
    · simp at h; omega
    · rename_i c hc
      have := bm_lt f n c hc
      split at h
      · simp at h; omega
      · simp at h; omega
theorem bm_none (f : Nat → Nat) {n : Nat} (h : bm f n = none) : bm f (n + 1) = some n := by rw [bm, h]
theorem bm_some (f : Nat → Nat) {n b : Nat} (h : bm f n = some b) : bm f (n + 1) = if f b < f n then some n else some b := by rw [bm, h]
theorem c_most_L {p : aPs} {P : tPieces} (hP : cP p P) (hn : p.1 ≤ 24) (hb : ∀ q, q < p.1 → p.2.2.2.2.1 q < 1000000) (k : Int32 → Option Int32) : ∀ (d j n : Nat), j + d = p.1 → d < n → fX6_mostUsed_L6 P k n (oI (bm p.2.2.2.2.1 j)) (oM p.2.2.2.2.1 (bm p.2.2.2.2.1 j)) (Int32.ofNat j) = k (oI (bm p.2.2.2.2.1 p.1))
  | d, j, 0, _, h2 => by omega
  | 0, j, n + 1, h1, _ => by
    have : j = p.1 := by omega
    rw [fX6_mostUsed_L6, if_pos (by rw [hP.1, J_le _ _ (by omega) (by omega)]; omega), this]
  | d + 1, j, n + 1, h1, h2 => by
    have hj : j < p.1 := by omega
    obtain ⟨_, _, _, e, _⟩ := hP.2 j hj
    have hbj := hb j hj
    have ih := c_most_L hP hn hb k d (j + 1) n (by omega) (by omega)
    rw [fX6_mostUsed_L6, if_neg (by rw [hP.1, J_le _ _ (by omega) (by omega)]; omega), if_neg (inck hj hn (by omega)), J_nat _ (by omega), e, i_1, J_add]
    cases hbm : bm p.2.2.2.2.1 j with
    | none =>
      rw [bm_none _ hbm] at ih
      rw [if_neg (by simp only [oM]; rw [J_le1 _ (by omega)]; exact fun h => h), if_neg (inck' hj hn (by omega))]
      exact ih
    | some c =>
      have hc := bm_lt _ _ _ hbm
      have hbc := hb c (by omega)
      rw [bm_some _ hbm] at ih
      rw [show oM p.2.2.2.2.1 (some c) = Int32.ofNat (p.2.2.2.2.1 c) from rfl]
      by_cases cc : p.2.2.2.2.1 c < p.2.2.2.2.1 j
      · rw [if_pos cc] at ih
        rw [if_neg (by rw [J_le _ _ (by omega) (by omega)]; omega), if_neg (inck' hj hn (by omega))]
        exact ih
      · rw [if_neg cc] at ih
        rw [if_pos (by rw [J_le _ _ (by omega) (by omega)]; omega)]
        exact ih
theorem m_fav_L {A : aB} {now : Nat → Int32} (hm : mB A now) (hI : Inv A) (k : Int32 → Option (Int32 × Int32)) : ∀ (d j n : Nat), j + d = A.2.1.1 → d < n → fX10_favourite_L9 now k n (oI (bm A.2.1.2.2.2.2.1 j)) (Int32.ofNat j) = k (oI (bm A.2.1.2.2.2.2.1 A.2.1.1))
  | d, j, 0, _, h2 => by omega
  | 0, j, n + 1, h1, _ => by
    have h24 := hI.2.1.1
    have : j = A.2.1.1 := by omega
    rw [fX10_favourite_L9, hm.2.1.1, if_pos (by rw [J_le _ _ (by omega) (by omega)]; omega), this]
  | d + 1, j, n + 1, h1, h2 => by
    have h24 := hI.2.1.1
    have hj : j < A.2.1.1 := by omega
    have hbj := uses_bd hI hj
    have ih := m_fav_L hm hI k d (j + 1) n (by omega) (by omega)
    have ej := m_ofPiece (q := j) (w := 3) now (by omega) (by omega)
    rw [(hm.2.1.2 j hj).2.2.2.1] at ej
    rw [fX10_favourite_L9, hm.2.1.1, if_neg (by rw [J_le _ _ (by omega) (by omega)]; omega), Lt_eq, i_1, J_add]
    cases hbm : bm A.2.1.2.2.2.2.1 j with
    | none =>
      rw [bm_none _ hbm] at ih
      rw [if_pos (by rfl)]
      exact ih
    | some c =>
      have hc := bm_lt _ _ _ hbm
      have hbc := uses_bd hI (show c < A.2.1.1 by omega)
      have ec := m_ofPiece (q := c) (w := 3) now (by omega) (by omega)
      rw [(hm.2.1.2 c (by omega)).2.2.2.1] at ec
      rw [bm_some _ hbm] at ih
      rw [show oI (some c) = Int32.ofNat c from rfl]
      rw [if_neg (show ¬ (Int32.ofNat c = -Int32.ofNat 1) by rw [M1_neg, J_ne1 _ (by omega)]; exact fun h => h), i_3, ej, gb1_some, ec, gb1_some]
      by_cases cc : A.2.1.2.2.2.2.1 c < A.2.1.2.2.2.2.1 j
      · rw [if_pos cc] at ih
        rw [if_neg (by rw [J_le _ _ (by omega) (by omega)]; omega)]
        exact ih
      · rw [if_neg cc] at ih
        rw [if_pos (by rw [J_le _ _ (by omega) (by omega)]; omega)]
        exact ih
theorem q_favourite {A : aB} {b : tBk} {now : Nat → Int32} (hc : cBk A b) (hm : mB A now) (hI : Inv A) (t0 : Int32) : ∃ (r r2 t : Int32), fX9_favourite b.2.2.2.2.2.2.1 = some r ∧ fX10_favourite t0 now = some (r2, t) ∧ r = r2 := by
  have h24 := hI.2.1.1
  refine ⟨_, _, 0, ?_, m_fav_L hm hI (fun x1_1 => some (x1_1, 0)) A.2.1.1 0 FU (by omega) (by simp only [FU]; omega), rfl⟩
  have e : fX6_mostUsed b.2.2.2.2.2.2.1 = some (oI (bm A.2.1.2.2.2.2.1 A.2.1.1)) := c_most_L hc.2.1 h24 (fun q hq => by have := uses_bd hI hq; omega) (fun x1_1 => some x1_1) A.2.1.1 0 FU (by omega) (by simp only [FU]; omega)
  rw [fX9_favourite, e, gb1_some]
def wea (A : aB) (u : Nat) : Nat := A.1.2.2 u + hel A u
theorem wea_bd {A : aB} (hI : Inv A) {u : Nat} (hu : u < A.1.1) : wea A u < 1000000 := by
  have h1 := co_bd hI hu
  have h2 := sm_le (fun i => if A.2.2.1.2.2.1 i = u then (A.2.2.1.2.2.2 i).length else 0) 12 A.2.2.1.1 (fun i hi => by
    have := iW_len hI hi
    split <;> omega)
  have h3 : hel A u ≤ 9 * (12 * 16) := by
    unfold hel
    refine Nat.mul_le_mul hI.2.2.2.2.1.2.2.2.1 (Nat.le_trans h2 ?_)
    exact Nat.mul_le_mul_left _ hI.2.2.1.1
  unfold wea
  omega
theorem c_rich_L {A : aB} {U : tUsers} {W : tWords} {settings : Nat → Int32} (hU : cU A.1 U) (hW : cW A.2.2.1 W) (hs : cS A.2.2.2.1 settings) (hI : Inv A) (k : Int32 → Option Int32) : ∀ (d j n : Nat), j + d = A.1.1 → d < n → fX9_richest_L6 settings U W k n (oI (bm (wea A) j)) (oM (wea A) (bm (wea A) j)) (Int32.ofNat j) = k (oI (bm (wea A) A.1.1))
  | d, j, 0, _, h2 => by omega
  | 0, j, n + 1, h1, _ => by
    have h4 := hI.1.1
    have : j = A.1.1 := by omega
    rw [fX9_richest_L6, if_pos (by rw [hU.1, J_le _ _ (by omega) (by omega)]; omega), this]
  | d + 1, j, n + 1, h1, h2 => by
    have h4 := hI.1.1
    have hj : j < A.1.1 := by omega
    have hbj := wea_bd hI hj
    have ew : A.1.2.2 j + hel A j = wea A j := rfl
    have ih := c_rich_L hU hW hs hI k d (j + 1) n (by omega) (by omega)
    rw [fX9_richest_L6, if_neg (by rw [hU.1, J_le _ _ (by omega) (by omega)]; omega), c_coinsOf hU h4 hj, gb1_some, c_held' hW hs hI (by omega), gb1_some, J_add, ew, i_1, J_add]
    cases hbm : bm (wea A) j with
    | none =>
      rw [bm_none _ hbm] at ih
      rw [if_neg (by simp only [oM]; rw [J_le1 _ (by omega)]; exact fun h => h)]
      exact ih
    | some c =>
      have hc := bm_lt _ _ _ hbm
      have hbc := wea_bd hI (show c < A.1.1 by omega)
      rw [bm_some _ hbm] at ih
      rw [show oM (wea A) (some c) = Int32.ofNat (wea A c) from rfl]
      by_cases cc : wea A c < wea A j
      · rw [if_pos cc] at ih
        rw [if_neg (by rw [J_le _ _ (by omega) (by omega)]; omega)]
        exact ih
      · rw [if_neg cc] at ih
        rw [if_pos (by rw [J_le _ _ (by omega) (by omega)]; omega)]
        exact ih
theorem m_wealth {A : aB} {now : Nat → Int32} (hm : mB A now) (hI : Inv A) {u : Nat} (hu : u < A.1.1) : fX10_wealth (Int32.ofNat u) now = some (Int32.ofNat (wea A u)) := by
  have h4 := hI.1.1
  rw [fX10_wealth, i_17, J_add, if_neg (inck (i := 17 + u) (n := 300) (by omega) (by omega) (by omega)), m_ofUser2 hm hI (by omega), gb1_some, J_nat _ (by omega), hm.1.2 u hu, J_add]
  rfl
theorem m_rich_L {A : aB} {now : Nat → Int32} (hm : mB A now) (hI : Inv A) (k : Int32 → Option (Int32 × Int32)) : ∀ (d j n : Nat), j + d = A.1.1 → d < n → fX10_richest_L9 now k n (oI (bm (wea A) j)) (Int32.ofNat j) = k (oI (bm (wea A) A.1.1))
  | d, j, 0, _, h2 => by omega
  | 0, j, n + 1, h1, _ => by
    have h4 := hI.1.1
    have : j = A.1.1 := by omega
    rw [fX10_richest_L9, hm.1.1, if_pos (by rw [J_le _ _ (by omega) (by omega)]; omega), this]
  | d + 1, j, n + 1, h1, h2 => by
    have h4 := hI.1.1
    have hj : j < A.1.1 := by omega
    have hbj := wea_bd hI hj
    have ih := m_rich_L hm hI k d (j + 1) n (by omega) (by omega)
    rw [fX10_richest_L9, hm.1.1, if_neg (by rw [J_le _ _ (by omega) (by omega)]; omega), Lt_eq, i_1, J_add]
    cases hbm : bm (wea A) j with
    | none =>
      rw [bm_none _ hbm] at ih
      rw [if_pos (by rfl)]
      exact ih
    | some c =>
      have hc := bm_lt _ _ _ hbm
      have hbc := wea_bd hI (show c < A.1.1 by omega)
      rw [bm_some _ hbm] at ih
      rw [show oI (some c) = Int32.ofNat c from rfl]
      rw [if_neg (show ¬ (Int32.ofNat c = -Int32.ofNat 1) by rw [M1_neg, J_ne1 _ (by omega)]; exact fun h => h), m_wealth hm hI hj, gb1_some, m_wealth hm hI (show c < A.1.1 by omega), gb1_some]
      by_cases cc : wea A c < wea A j
      · rw [if_pos cc] at ih
        rw [if_neg (by rw [J_le _ _ (by omega) (by omega)]; omega)]
        exact ih
      · rw [if_neg cc] at ih
        rw [if_pos (by rw [J_le _ _ (by omega) (by omega)]; omega)]
        exact ih
theorem q_richest {A : aB} {b : tBk} {now : Nat → Int32} (hc : cBk A b) (hm : mB A now) (hI : Inv A) (t0 : Int32) : ∃ (r r2 t : Int32), fX9_richest b.2.2.2.1 b.2.2.2.2.2.1 b.2.2.2.2.2.2.2 = some r ∧ fX10_richest t0 now = some (r2, t) ∧ r = r2 := by
  have h4 := hI.1.1
  exact ⟨_, _, 0, c_rich_L hc.1 hc.2.2.1 hc.2.2.2.1 hI (fun x1_1 => some x1_1) A.1.1 0 FU (by omega) (by simp only [FU]; omega), m_rich_L hm hI (fun x1_1 => some (x1_1, 0)) A.1.1 0 FU (by omega) (by simp only [FU]; omega), rfl⟩
/-! isWhole -/
theorem sm_const0 : ∀ n, sm (fun _ => 0) n = 0
  | 0 => rfl
  | n + 1 => by rw [sm_succ, sm_const0 n]
theorem sm_one (o c : Nat) : ∀ n, sm (fun u => if o = u then c else 0) n = if o < n then c else 0
  | 0 => by rw [sm_zero, if_neg (by omega)]
  | n + 1 => by
    rw [sm_succ, sm_one o c n]
    by_cases h : o = n
    · rw [if_neg (by omega), if_pos h, if_pos (by omega)]; omega
    · rw [if_neg h]
      by_cases h2 : o < n
      · rw [if_pos h2, if_pos (by omega), Nat.add_zero]
      · rw [if_neg h2, if_neg (by omega)]
theorem sm_swap {wo len : Nat → Nat} {nu : Nat} : ∀ (nw : Nat), (∀ i, i < nw → wo i < nu) → sm (fun u => sm (fun i => if wo i = u then len i else 0) nw) nu = sm len nw
  | 0, _ => by
    have : sm (fun u => sm (fun i => if wo i = u then len i else 0) 0) nu = sm (fun _ => 0) nu := sm_congr (fun _ _ => rfl)
    rw [this, sm_const0]; rfl
  | nw + 1, h => by
    have e : sm (fun u => sm (fun i => if wo i = u then len i else 0) (nw + 1)) nu = sm (fun u => sm (fun i => if wo i = u then len i else 0) nw + (if wo nw = u then len nw else 0)) nu := sm_congr (fun u _ => sm_succ _ _)
    rw [e, sm_add, sm_swap nw (fun i hi => h i (by omega)), sm_one, if_pos (h nw (by omega)), sm_succ]
theorem hel_sum {A : aB} (hI : Inv A) : sm (hel A) A.1.1 = sm (fun i => A.2.2.2.1 2 * (A.2.2.1.2.2.2 i).length) A.2.2.1.1 := by
  have e : sm (hel A) A.1.1 = A.2.2.2.1 2 * sm (fun u => sm (fun i => if A.2.2.1.2.2.1 i = u then (A.2.2.1.2.2.2 i).length else 0) A.2.2.1.1) A.1.1 := by
    rw [← sm_mul]; rfl
  rw [e, sm_swap (len := fun i => (A.2.2.1.2.2.2 i).length) A.2.2.1.1 (fun i hi => (hI.2.2.1.2 i hi).1), sm_mul]
theorem m_told18 {A : aB} {now : Nat → Int32} (hm : mB A now) (hI : Inv A) {q w : Nat} (hq : q < 24) (hw : w < A.2.2.1.1) (k : Int32 → Option Int32) : ∀ (d j n acc : Nat), j + d = (A.2.2.1.2.2.2 w).length → d < n → fX10_usesTold_L18 (Int32.ofNat q) (Int32.ofNat w) now k n (Int32.ofNat acc) (Int32.ofNat j) = k (Int32.ofNat (acc + ((A.2.2.1.2.2.2 w).drop j).count q))
  | d, j, 0, acc, _, h2 => by omega
  | 0, j, n + 1, acc, h1, _ => by
    have h16 := hI.2.2.1.1
    have h12 := iW_len hI hw
    obtain ⟨_, g1, _⟩ := hm.2.2.1.2 w hw
    rw [fX10_usesTold_L18, i_1, m_ofWord now (by omega) (by omega), gb1_some, g1, if_pos (by rw [J_le _ _ (by omega) (by omega)]; omega), List.drop_eq_nil_of_le (by omega)]
    rfl
  | d + 1, j, n + 1, acc, h1, h2 => by
    have h16 := hI.2.2.1.1
    have h12 := iW_len hI hw
    obtain ⟨_, g1, g2⟩ := hm.2.2.1.2 w hw
    have hj : j < (A.2.2.1.2.2.2 w).length := by omega
    have hx := w_24 hI w hw _ (List.getElem_mem hj)
    have ew : fX10_ofWord (Int32.ofNat w) (2 + Int32.ofNat j) now = some (Int32.ofNat ((A.2.2.1.2.2.2 w)[j])) := by
      rw [i_2, J_add, m_ofWord now (by omega) (by omega), ← g2 j hj]
      congr 2
      omega
    have ih := fun a => m_told18 hm hI hq hw k d (j + 1) n a (by omega) (by omega)
    rw [fX10_usesTold_L18, i_1, m_ofWord now (by omega) (by omega), gb1_some, g1, if_neg (by rw [J_le _ _ (by omega) (by omega)]; omega), ew, gb1_some, List.drop_eq_getElem_cons hj, List.count_cons]
    by_cases c : (A.2.2.1.2.2.2 w)[j] = q
    · rw [if_pos (by rw [c]), if_pos (by simp [c]), J_add, J_add, ih]
      congr 2
      omega
    · rw [if_neg (by rw [J_eq _ _ (by omega) (by omega)]; exact c), if_neg (by simp [c]), i_0, J_add, J_add, ih]
      simp only [Nat.add_zero]
theorem m_told4 {A : aB} {now : Nat → Int32} (hm : mB A now) (hI : Inv A) {q : Nat} (hq : q < 24) (k : Int32 → Option Int32) : ∀ (d j n acc : Nat), j + d = A.2.2.1.1 → d < n → fX10_usesTold_L4 (Int32.ofNat q) now k n (Int32.ofNat acc) (Int32.ofNat j) = k (Int32.ofNat (acc + smF (fun i => (A.2.2.1.2.2.2 i).count q) j d))
  | d, j, 0, acc, _, h2 => by omega
  | 0, j, n + 1, acc, h1, _ => by
    have h16 := hI.2.2.1.1
    rw [fX10_usesTold_L4, hm.2.2.1.1, if_pos (by rw [J_le _ _ (by omega) (by omega)]; omega)]
    rfl
  | d + 1, j, n + 1, acc, h1, h2 => by
    have h16 := hI.2.2.1.1
    have hj : j < A.2.2.1.1 := by omega
    have h12 := iW_len hI hj
    rw [fX10_usesTold_L4, hm.2.2.1.1, if_neg (by rw [J_le _ _ (by omega) (by omega)]; omega), i_0, m_told18 hm hI hq hj _ (A.2.2.1.2.2.2 j).length 0 FU acc (by omega) (by simp only [FU]; omega), i_1, J_add, m_told4 hm hI hq k d (j + 1) n _ (by omega) (by omega), smF, List.drop_zero, Nat.add_assoc]
theorem m_told {A : aB} {now : Nat → Int32} (hm : mB A now) (hI : Inv A) {q : Nat} (hq : q < A.2.1.1) : fX10_usesTold (Int32.ofNat q) now = some (Int32.ofNat (A.2.1.2.2.2.2.1 q)) := by
  have h16 := hI.2.2.1.1
  have h24 := hI.2.1.1
  have e := m_told4 hm hI (show q < 24 by omega) (fun x2_1 => some x2_1) A.2.2.1.1 0 FU 0 (by omega) (by simp only [FU]; omega)
  rw [Nat.zero_add] at e
  rw [hI.2.2.2.1 q hq]
  exact e
theorem m_whole74 {A : aB} {now : Nat → Int32} (hm : mB A now) (hI : Inv A) {x1 : Int32} (k : Int32 → Option (Int32 × Int32 × Int32 × (Nat → Int32))) : ∀ (d j n : Nat), j + d = A.2.1.1 → d < n → fX10_isWhole_L74 x1 now k n 1 (Int32.ofNat j) = k 1
  | d, j, 0, _, h2 => by omega
  | 0, j, n + 1, h1, _ => by
    have h24 := hI.2.1.1
    rw [fX10_isWhole_L74, hm.2.1.1, if_pos (by rw [J_le _ _ (by omega) (by omega)]; omega)]
  | d + 1, j, n + 1, h1, h2 => by
    have h24 := hI.2.1.1
    have hj : j < A.2.1.1 := by omega
    have ej := m_ofPiece (q := j) (w := 3) now (by omega) (by omega)
    rw [(hm.2.1.2 j hj).2.2.2.1] at ej
    rw [fX10_isWhole_L74, hm.2.1.1, if_neg (by rw [J_le _ _ (by omega) (by omega)]; omega), if_neg (by decide), m_told hm hI hj, gb1_some, show (3 : Int32) = Int32.ofNat 3 from rfl, ej, gb1_some, if_pos rfl, show Int32.ofNat j + 1 = Int32.ofNat (j + 1) from J_add j 1]
    exact m_whole74 hm hI k d (j + 1) n (by omega) (by omega)
theorem m_whole11 {A : aB} {now : Nat → Int32} (hm : mB A now) (hI : Inv A) {k : Int32 → Int32 → Int32 → (Nat → Int32) → Option (Int32 × Int32 × Int32 × (Nat → Int32))} {Q : Int32 × Int32 × Int32 × (Nat → Int32) → Prop} (hk : ∀ many spl, Ok (k (Int32.ofNat (sm (fun i => A.2.2.2.1 2 * (A.2.2.1.2.2.2 i).length) A.2.2.1.1)) 1 many spl) Q) : ∀ (d j n acc : Nat) (many : Int32) (spl : Nat → Int32), j + d = A.2.2.1.1 → d < n → acc + smF (fun i => A.2.2.2.1 2 * (A.2.2.1.2.2.2 i).length) j d = sm (fun i => A.2.2.2.1 2 * (A.2.2.1.2.2.2 i).length) A.2.2.1.1 → Ok (fX10_isWhole_L11 now k n (Int32.ofNat acc) 1 (Int32.ofNat j) many spl) Q
  | d, j, 0, acc, many, spl, _, h2, _ => by omega
  | 0, j, n + 1, acc, many, spl, h1, _, ha => by
    have h16 := hI.2.2.1.1
    rw [fX10_isWhole_L11, hm.2.2.1.1, if_pos (by rw [J_le _ _ (by omega) (by omega)]; omega)]
    rw [smF, Nat.add_zero] at ha
    rw [ha]
    exact hk many spl
  | d + 1, j, n + 1, acc, many, spl, h1, h2, ha => by
    have h16 := hI.2.2.1.1
    have hj : j < A.2.2.1.1 := by omega
    have h12 := iW_len hI hj
    obtain ⟨_, g1, _⟩ := hm.2.2.1.2 j hj
    obtain ⟨w1, w2, w3, w4, w5⟩ := hI.2.2.1.2 j hj
    have hpos : 1 ≤ (A.2.2.1.2.1 j).length := by
      rcases Nat.eq_zero_or_pos (A.2.2.1.2.1 j).length with h | h
      · exact absurd (List.length_eq_zero_iff.mp h) w4
      · exact h
    have e1 := m_ofWord (i := j) (w := 1) now (by omega) (by omega)
    rw [g1] at e1
    rw [fX10_isWhole_L11, hm.2.2.1.1, if_neg (by rw [J_le _ _ (by omega) (by omega)]; omega), show fX10_ofWord (Int32.ofNat j) 1 now = _ from e1, gb1_some]
    apply ok_gb2
    refine ok_mono (m_spellsWord hm hI hj many spl) ?_
    rintro ⟨many1, spl1⟩ ⟨f1, _⟩
    simp only at f1 ⊢
    subst f1
    have ew : fX10_within (Int32.ofNat (A.2.2.1.2.1 j).length) 1 12 = some 1 := by
      rw [fX10_within, i_1, i_12, if_neg (by rw [J_lt _ _ (by omega) (by omega)]; omega), if_neg (by rw [J_lt _ _ (by omega) (by omega)]; omega)]
    rw [if_neg (by decide), ew, gb1_some, if_neg (by decide), hm.2.2.2.1 2 (by omega), J_mul, J_add, show Int32.ofNat j + 1 = Int32.ofNat (j + 1) from J_add j 1]
    rw [smF] at ha
    exact m_whole11 hm hI hk d (j + 1) n _ _ _ (by omega) (by omega) (by omega)
theorem q_isWhole {A : aB} {b : tBk} {now : Nat → Int32} (hc : cBk A b) (hm : mB A now) (hI : Inv A) (t0 many : Int32) (spl : Nat → Int32) : ∃ (r r2 t many' : Int32) (spl' : Nat → Int32), fX9_isWhole b.2.2.1 b.2.2.2.1 b.2.2.2.2.2.1 b.2.2.2.2.2.2.1 b.2.2.2.2.2.2.2 = some r ∧ fX10_isWhole t0 many now spl = some (r2, t, many', spl') ∧ r = r2 := by
  have h16 := hI.2.2.1.1
  have h24 := hI.2.1.1
  have key : Ok (fX10_isWhole t0 many now spl) (fun r => r.1 = if b.2.2.1 = Int32.ofNat (sm (hel A) A.1.1) then 1 else 0) := by
    rw [fX10_isWhole]
    refine m_whole11 hm hI (fun many1 spl1 => ?_) A.2.2.1.1 0 FU 0 many spl (by omega) (by simp only [FU]; omega) (by rw [Nat.zero_add]; rfl)
    have := m_whole74 (x1 := Int32.ofNat (sm (fun i => A.2.2.2.1 2 * (A.2.2.1.2.2.2 i).length) A.2.2.1.1)) hm hI (fun x2_2 => (if x2_2 = 0 then (some (0, 0, many1, spl1)) else (if Int32.ofNat (sm (fun i => A.2.2.2.1 2 * (A.2.2.1.2.2.2 i).length) A.2.2.1.1) = (now 8) then (some (1, 0, many1, spl1)) else (some (0, 0, many1, spl1))))) A.2.1.1 0 FU (by omega) (by simp only [FU]; omega)
    show Ok (fX10_isWhole_L74 _ now _ FU 1 (Int32.ofNat 0)) _
    rw [this, if_neg (by decide)]
    rw [hel_sum hI, hm.2.2.2.2.2.2.2, hc.2.2.2.2.2.2.2]
    by_cases c : A.2.2.2.2.2.2.2 = Int32.ofNat (sm (fun i => A.2.2.2.1 2 * (A.2.2.1.2.2.2 i).length) A.2.2.1.1)
    · rw [if_pos c.symm, if_pos c]
      exact ok_some rfl
    · rw [if_neg (fun h => c h.symm), if_neg c]
      exact ok_some rfl
  obtain ⟨⟨r2, t, many', spl'⟩, e1, e2⟩ := key
  refine ⟨if b.2.2.1 = Int32.ofNat (sm (hel A) A.1.1) then 1 else 0, r2, t, many', spl', ?_, e1, e2.symm⟩
  rw [fX9_isWhole, c_wordsMade hc.2.1 hc.2.2.1 hI, gb1_some, if_neg (by decide), c_usesTrue hc.2.1 hc.2.2.1 hI, gb1_some, if_neg (by decide), c_fundIsTrue hc.1 hc.2.2.1 hc.2.2.2.1 hI, gb1_some]
  by_cases c : b.2.2.1 = Int32.ofNat (sm (hel A) A.1.1)
  · rw [if_pos c, if_neg (by decide)]
  · rw [if_neg c, if_pos rfl]
