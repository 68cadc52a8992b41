/-! bytes, and the word in the buffer -/
theorem sx255 : ∀ v : Nat, v < 256 → sxb v &&& 255 = Int32.ofNat v := by decide +kernel
theorem sxlet : ∀ v : Nat, v < 256 → fX4_isLetter (sxb v) = some (if 97 ≤ v ∧ v ≤ 122 then 1 else 0) := by decide +kernel
theorem sx32 : ∀ v : Nat, v < 256 → ((sxb v = 32) ↔ v = 32) := by decide +kernel
theorem sxlo : ∀ v : Nat, v < 128 → sxb v = Int32.ofNat v := by decide +kernel
def run (p : Nat → Bool) (bt : Nat → Nat) : Nat → Nat → Nat
  | i, 0 => i
  | i, d + 1 => if p (bt i) = true then run p bt (i + 1) d else i
theorem run_le (p : Nat → Bool) (bt : Nat → Nat) : ∀ (d i : Nat), i ≤ run p bt i d ∧ run p bt i d ≤ i + d
  | 0, i => by simp [run]
  | d + 1, i => by
    rw [run]
    split
    · have := run_le p bt d (i + 1); omega
    · omega
theorem run_in (p : Nat → Bool) (bt : Nat → Nat) : ∀ (d i j : Nat), i ≤ j → j < run p bt i d → p (bt j) = true
  | 0, i, j, h1, h2 => by simp [run] at h2; omega
  | d + 1, i, j, h1, h2 => by
    rw [run] at h2
    split at h2
    · rename_i h
      by_cases c : j = i
      · rw [c]; exact h
      · exact run_in p bt d (i + 1) j (by omega) h2
    · omega
def pL (v : Nat) : Bool := decide (97 ≤ v ∧ v ≤ 122)
def pS (v : Nat) : Bool := decide (v = 32)
def lets (bt : Nat → Nat) (a b : Nat) : List Nat := (List.range (b - a)).map fun k => bt (a + k) - 96
theorem lets_len (bt : Nat → Nat) (a b : Nat) : (lets bt a b).length = b - a := by simp [lets]
theorem lets_get (bt : Nat → Nat) (a b k : Nat) (h : k < (lets bt a b).length) : (lets bt a b)[k] = bt (a + k) - 96 := by simp [lets]
theorem lets_wf {bt : Nat → Nat} {a b : Nat} (h : ∀ j, a ≤ j → j < b → pL (bt j) = true) : wf (lets bt a b) := by
  intro x hx
  obtain ⟨k, hk, e⟩ := List.mem_map.mp hx
  rw [List.mem_range] at hk
  have := h (a + k) (by omega) (by omega)
  simp only [pL, decide_eq_true_eq] at this
  omega
theorem lets_take (bt : Nat → Nat) (a b j : Nat) (h : a + j ≤ b) : (lets bt a b).take j = lets bt a (a + j) := by
  unfold lets
  rw [← List.map_take, List.take_range, Nat.min_eq_left (by omega), Nat.add_sub_cancel_left]
theorem L64_push {l : List Nat} (hw : wf l) (a : Nat) (ha : 1 ≤ a ∧ a ≤ 26) (hl : l.length + 1 ≤ 12) : L64 l ||| glshl (Int64.ofNat a) (Int32.ofNat (5 * l.length)) = L64 (l ++ [a]) := by
  have h := c_join hw (b := [a]) (wf_cons.mpr ⟨ha, wf_nil⟩) (by simpa using hl)
  rw [fX4_join, J_lmul] at h
  have e : L64 [a] = Int64.ofNat a := by simp [L64, leN]
  rw [e] at h
  exact Option.some.inj h
theorem c_read_L {bt : Nat → Nat} {N : Nat} {buf : Nat → Int32} {a b : Nat} (hN : N ≤ 1000) (hab : a ≤ b) (hb : b ≤ N) (h12 : b - a ≤ 12) (hlet : ∀ j, a ≤ j → j < b → pL (bt j) = true) (hbuf : ∀ j, j < b → buf j = sxb (bt j)) (k : Int64 → Option Int64) : ∀ (d j n : Nat), a + j + d = b → d < n → fX4_read_L5 N (Int32.ofNat a) (Int32.ofNat b) buf k n (L64 ((lets bt a b).take j)) (Int32.ofNat (a + j)) = k (L64 (lets bt a b))
  | d, j, 0, _, h2 => by omega
  | 0, j, n + 1, h1, _ => by
    rw [List.take_of_length_le (by rw [lets_len]; omega), fX4_read_L5, if_pos (by rw [J_le _ _ (by omega) (by omega)]; omega)]
  | d + 1, j, n + 1, h1, h2 => by
    have hp := hlet (a + j) (by omega) (by omega)
    simp only [pL, decide_eq_true_eq] at hp
    have hj : j < (lets bt a b).length := by rw [lets_len]; omega
    have hwt : wf ((lets bt a b).take j) := wf_take _ (lets_wf hlet)
    have hlen : ((lets bt a b).take j).length = j := by rw [List.length_take]; omega
    have e1 : ((buf (a + j) - 97) + 1).toInt64 = Int64.ofNat (bt (a + j) - 96) := by
      rw [hbuf _ (by omega), sxlo _ (by omega), i_97, J_sub _ _ (by omega), i_1, J_add]
      have : ∀ v : Nat, v < 123 → 97 ≤ v → (Int32.ofNat (v - 97 + 1)).toInt64 = Int64.ofNat (v - 96) := by decide +kernel
      exact this _ (by omega) (by omega)
    rw [fX4_read_L5, if_neg (by rw [J_le _ _ (by omega) (by omega)]; omega), if_neg (inck (n := N) (by omega) (Nat.le_refl _) hN), J_nat _ (by omega), e1, J_sub _ _ (by omega), Nat.add_sub_cancel_left, J_lmul]
    have e2 := L64_push hwt (bt (a + j) - 96) (by omega) (by omega)
    rw [hlen] at e2
    rw [e2, i_1, J_add]
    have e3 : (lets bt a b).take j ++ [bt (a + j) - 96] = (lets bt a b).take (j + 1) := by
      rw [List.take_succ_eq_append_getElem hj, lets_get]
    rw [e3]
    exact c_read_L hN hab hb h12 hlet hbuf k d (j + 1) n (by omega) (by omega)
theorem c_read {bt : Nat → Nat} {N : Nat} {buf : Nat → Int32} {a b : Nat} (hN : N ≤ 1000) (hab : a ≤ b) (hb : b ≤ N) (h12 : b - a ≤ 12) (hlet : ∀ j, a ≤ j → j < b → pL (bt j) = true) (hbuf : ∀ j, j < b → buf j = sxb (bt j)) : fX4_read N (Int32.ofNat a) (Int32.ofNat b) buf = some (L64 (lets bt a b)) := by
  have := c_read_L hN hab hb h12 hlet hbuf (fun x => some x) (b - a) 0 FU (by omega) (by simp only [FU]; omega)
  exact this
theorem c_tw12 {bt : Nat → Nat} {n : Nat} {buf : Nat → Int32} (hn : n ≤ 600) (hbuf : ∀ j, j < n → bt j < 256 ∧ buf j = sxb (bt j)) (k : Int32 → Option (Int64 × Int32)) : ∀ (d i f : Nat), i + d = n → d < f → fX9_takeWord_L12 (Int32.ofNat n) buf k f (Int32.ofNat i) = k (Int32.ofNat (run pL bt i d))
  | d, i, 0, _, h => by omega
  | 0, i, f + 1, h1, _ => by
    rw [fX9_takeWord_L12, if_pos (by rw [J_le _ _ (by omega) (by omega)]; omega)]
    rfl
  | d + 1, i, f + 1, h1, h2 => by
    obtain ⟨b1, b2⟩ := hbuf i (by omega)
    rw [fX9_takeWord_L12, if_neg (by rw [J_le _ _ (by omega) (by omega)]; omega), if_neg (inck (i := i) (n := n) (by omega) hn (by omega)), J_nat _ (by omega), b2, sxlet _ b1, gb1_some, run]
    by_cases c : 97 ≤ bt i ∧ bt i ≤ 122
    · have : pL (bt i) = true := by simpa [pL] using c
      rw [if_pos c, if_neg (by decide), if_pos this, i_1, J_add]
      exact c_tw12 hn hbuf k d (i + 1) f (by omega) (by omega)
    · have : ¬ pL (bt i) = true := by simpa [pL] using c
      rw [if_neg c, if_pos rfl, if_neg this]
theorem c_tw37 {bt : Nat → Nat} {n : Nat} {buf : Nat → Int32} (hn : n ≤ 600) (hbuf : ∀ j, j < n → bt j < 256 ∧ buf j = sxb (bt j)) {x2 D : Int32} (k : Option (Int64 × Int32)) : ∀ (d i f : Nat), i + d = n → d < f → fX9_takeWord_L37 (Int32.ofNat n) x2 D buf k f (Int32.ofNat i) = if run pS bt i d = n then k else some (0, D)
  | d, i, 0, _, h => by omega
  | 0, i, f + 1, h1, _ => by
    rw [fX9_takeWord_L37, if_pos (by rw [J_le _ _ (by omega) (by omega)]; omega), run, if_pos (by omega)]
  | d + 1, i, f + 1, h1, h2 => by
    obtain ⟨b1, b2⟩ := hbuf i (by omega)
    rw [fX9_takeWord_L37, if_neg (by rw [J_le _ _ (by omega) (by omega)]; omega), if_neg (inck (i := i) (n := n) (by omega) hn (by omega)), J_nat _ (by omega), b2, run]
    by_cases c : bt i = 32
    · have : pS (bt i) = true := by simpa [pS] using c
      rw [if_pos ((sx32 _ b1).mpr c), if_pos this, i_1, J_add]
      exact c_tw37 hn hbuf k d (i + 1) f (by omega) (by omega)
    · have : ¬ pS (bt i) = true := by simpa [pS] using c
      rw [if_neg (fun h => c ((sx32 _ b1).mp h)), if_neg this, if_neg (by omega)]
def wE (bt : Nat → Nat) (n : Nat) : Nat := run pL bt 0 n
def wIs (bt : Nat → Nat) (n : Nat) : Prop := 1 ≤ wE bt n ∧ wE bt n ≤ 12 ∧ run pS bt (wE bt n) (n - wE bt n) = n
def wL (bt : Nat → Nat) (n : Nat) : List Nat := lets bt 0 (wE bt n)
theorem wL_ok {bt : Nat → Nat} {n : Nat} (h : wIs bt n) : wf (wL bt n) ∧ (wL bt n).length = wE bt n ∧ wL bt n ≠ [] := by
  have hl : (wL bt n).length = wE bt n := by rw [wL, lets_len, Nat.sub_zero]
  refine ⟨lets_wf (fun j _ hj => run_in pL bt n 0 j (Nat.zero_le _) hj), hl, ?_⟩
  intro e
  rw [e] at hl
  have := h.1
  simp at hl
  omega
theorem c_takeWord {bt : Nat → Nat} {n : Nat} {buf : Nat → Int32} (hn : n ≤ 600) (hbuf : ∀ j, j < n → bt j < 256 ∧ buf j = sxb (bt j)) : (wIs bt n ∧ fX9_takeWord (Int32.ofNat n) buf = some (L64 (wL bt n), 0)) ∨ (¬ wIs bt n ∧ fX9_takeWord (Int32.ofNat n) buf = some (0, 0)) := by
  have hle := run_le pL bt n 0
  have hwe : wE bt n ≤ n := by unfold wE; omega
  have e1 := c_tw12 hn hbuf (fun x2_1 => fX9_takeWord_L37 (Int32.ofNat n) x2_1 0 buf (if x2_1 ≤ 12 then (gb1 (fX4_read 600 0 x2_1 buf) fun (r_1 : Int64) => some (r_1, 0)) else (some (0, 0))) FU x2_1) n 0 FU (by omega) (by simp only [FU]; omega)
  have e2 : fX9_takeWord (Int32.ofNat n) buf = fX9_takeWord_L37 (Int32.ofNat n) (Int32.ofNat (wE bt n)) 0 buf (if Int32.ofNat (wE bt n) ≤ 12 then (gb1 (fX4_read 600 0 (Int32.ofNat (wE bt n)) buf) fun (r_1 : Int64) => some (r_1, 0)) else (some (0, 0))) FU (Int32.ofNat (wE bt n)) := e1
  rw [c_tw37 hn hbuf _ (n - wE bt n) (wE bt n) FU (by omega) (by simp only [FU]; omega)] at e2
  by_cases hs : run pS bt (wE bt n) (n - wE bt n) = n
  · rw [if_pos hs] at e2
    by_cases h12 : wE bt n ≤ 12
    · rw [if_pos (by rw [i_12, J_le _ _ (by omega) (by omega)]; exact h12)] at e2
      have hr := c_read (bt := bt) (N := 600) (buf := buf) (a := 0) (b := wE bt n) (by omega) (Nat.zero_le _) (by omega) (by omega) (fun j _ hj => run_in pL bt n 0 j (Nat.zero_le _) hj) (fun j hj => (hbuf j (by omega)).2)
      rw [show fX4_read 600 0 (Int32.ofNat (wE bt n)) buf = some (L64 (lets bt 0 (wE bt n))) from hr, gb1_some] at e2
      by_cases h0 : 1 ≤ wE bt n
      · exact Or.inl ⟨⟨h0, h12, hs⟩, e2⟩
      · refine Or.inr ⟨fun h => h0 h.1, ?_⟩
        have : wE bt n = 0 := by omega
        rw [e2, this]
        rfl
    · rw [if_neg (by rw [i_12, J_le _ _ (by omega) (by omega)]; exact h12)] at e2
      exact Or.inr ⟨fun h => h12 h.2.1, e2⟩
  · rw [if_neg hs] at e2
    exact Or.inr ⟨fun h => hs h.2.2, e2⟩
/-! the reference reads it -/
