/-! the table's cutting is the first of all cuttings in the order (what it costs, how many pieces, the longer first piece) -/
def vld (sc : Nat → Nat → Nat) (L : Nat) : Nat → List Nat → Prop
  | i, [] => i = L
  | i, n :: r => 1 ≤ n ∧ n ≤ 6 ∧ sc i n < 1000000 ∧ vld sc L (i + n) r
def cst (sc : Nat → Nat → Nat) (dep : Nat) : Nat → List Nat → Nat
  | _, [] => 0
  | i, n :: r => dep + sc i n + cst sc dep (i + n) r
def rbs (L : Nat) : Nat → List Nat → Nat
  | _, [] => 0
  | i, n :: r => (if i + n < L then 2 ^ (L - (i + n)) else 0) + rbs L (i + n) r
def lx (a b : Nat × Nat × Nat) : Prop := a.1 < b.1 ∨ (a.1 = b.1 ∧ (a.2.1 < b.2.1 ∨ (a.2.1 = b.2.1 ∧ a.2.2 ≤ b.2.2)))
theorem vld_le {sc : Nat → Nat → Nat} {L : Nat} : ∀ (ns : List Nat) (i : Nat), vld sc L i ns → i + ns.length ≤ L
  | [], i, h => by rw [show i = L from h]; simp
  | n :: r, i, h => by
    obtain ⟨h1, _, _, h4⟩ := h
    have := vld_le r (i + n) h4
    rw [List.length_cons]
    omega
theorem rbs_lt {sc : Nat → Nat → Nat} {L : Nat} : ∀ (ns : List Nat) (i : Nat), vld sc L i ns → rbs L i ns < 2 ^ (L - i)
  | [], i, h => by
    rw [show i = L from h]
    simp [rbs]
  | n :: r, i, h => by
    obtain ⟨h1, _, _, h4⟩ := h
    have ih := rbs_lt r (i + n) h4
    have hl := vld_le r (i + n) h4
    unfold rbs
    by_cases c : i + n < L
    · rw [if_pos c]
      have e : 2 ^ (L - i) = 2 ^ (L - (i + n)) * 2 ^ n := by rw [← Nat.pow_add]; congr 1; omega
      have e2 : 2 ≤ 2 ^ n := by
        calc 2 = 2 ^ 1 := rfl
          _ ≤ 2 ^ n := Nat.pow_le_pow_right (by decide) h1
      have := Nat.mul_le_mul_left (2 ^ (L - (i + n))) e2
      omega
    · rw [if_neg c]
      have e : L - (i + n) = 0 := by omega
      rw [e] at ih
      have e2 : 0 < 2 ^ (L - i) := Nat.pow_pos (by decide)
      omega
/-- the inner loop keeps the first of all -/
theorem inn_first {sc : Nat → Nat → Nat} {dep : Nat} {T : Nat → Nat × Nat × Nat} {i N : Nat} : ∀ (n : Nat) (cur : Nat × Nat × Nat), cur.1 ≤ 1000000 → (cur.1 < 1000000 → n < cur.2.2) →
    (∀ m, n < m → m ≤ N → dep + sc i m + (T (i + m)).1 < 1000000 → cur.1 < dep + sc i m + (T (i + m)).1 ∨ (cur.1 = dep + sc i m + (T (i + m)).1 ∧ (cur.2.1 < 1 + (T (i + m)).2.1 ∨ (cur.2.1 = 1 + (T (i + m)).2.1 ∧ m ≤ cur.2.2)))) →
    ∀ m, 1 ≤ m → m ≤ N → dep + sc i m + (T (i + m)).1 < 1000000 → (inn sc dep T i n cur).1 < dep + sc i m + (T (i + m)).1 ∨ ((inn sc dep T i n cur).1 = dep + sc i m + (T (i + m)).1 ∧ ((inn sc dep T i n cur).2.1 < 1 + (T (i + m)).2.1 ∨ ((inn sc dep T i n cur).2.1 = 1 + (T (i + m)).2.1 ∧ m ≤ (inn sc dep T i n cur).2.2)))
  | 0, cur, _, _, h, m, h1, h2, h3 => h m (by omega) h2 h3
  | n + 1, cur, hc, hn, h, m, h1, h2, h3 => by
    unfold inn
    unfold stp
    by_cases g1 : 1000000 ≤ dep + sc i (n + 1) + (T (i + (n + 1))).1
    · rw [if_pos g1]
      refine inn_first n cur hc (fun z => by have := hn z; omega) (fun k k1 k2 k3 => ?_) m h1 h2 h3
      by_cases e : k = n + 1
      · subst e
        omega
      · exact h k (by omega) k2 k3
    · rw [if_neg g1]
      by_cases g2 : dep + sc i (n + 1) + (T (i + (n + 1))).1 < cur.1 ∨ (dep + sc i (n + 1) + (T (i + (n + 1))).1 = cur.1 ∧ 1 + (T (i + (n + 1))).2.1 < cur.2.1)
      · rw [if_pos g2]
        refine inn_first n _ (by simp only; omega) (fun _ => by simp only; omega) (fun k k1 k2 k3 => ?_) m h1 h2 h3
        simp only
        by_cases e : k = n + 1
        · subst e
          omega
        · have := h k (by omega) k2 k3
          omega
      · rw [if_neg g2]
        refine inn_first n cur hc (fun z => by have := hn z; omega) (fun k k1 k2 k3 => ?_) m h1 h2 h3
        by_cases e : k = n + 1
        · subst e
          by_cases z : cur.1 < 1000000
          · have := hn z
            omega
          · omega
        · exact h k (by omega) k2 k3
def tl (fi : Nat → Nat) (L : Nat) : Nat → Nat → List Nat
  | 0, _ => []
  | f + 1, i => if i < L ∧ 0 < fi i then fi i :: tl fi L f (i + fi i) else []
theorem tl_stable (fi : Nat → Nat) (L : Nat) : ∀ (f g i : Nat), L - i < f → L - i < g → tl fi L f i = tl fi L g i
  | 0, g, i, h, _ => by omega
  | f + 1, 0, i, _, h => by omega
  | f + 1, g + 1, i, h1, h2 => by
    unfold tl
    by_cases c : i < L ∧ 0 < fi i
    · rw [if_pos c, if_pos c, tl_stable fi L f g (i + fi i) (by omega) (by omega)]
    · rw [if_neg c, if_neg c]
def tlT (sc : Nat → Nat → Nat) (dep L i : Nat) : List Nat := tl (fun x => (TB sc dep L x).2.2) L (L + 1) i
theorem tlT_L (sc : Nat → Nat → Nat) (dep L : Nat) : tlT sc dep L L = [] := by
  unfold tlT tl
  rw [if_neg (by omega)]
theorem tlT_cons {sc : Nat → Nat → Nat} {dep L i : Nat} (h : i < L) (hf : (TB sc dep L i).1 < 1000000) : tlT sc dep L i = (TB sc dep L i).2.2 :: tlT sc dep L (i + (TB sc dep L i).2.2) := by
  obtain ⟨a, b, c, _⟩ := TB_fin h hf
  have e := tl_stable (fun x => (TB sc dep L x).2.2) L L (L + 1) (i + (TB sc dep L i).2.2) (by omega) (by omega)
  unfold tlT
  rw [tl, if_pos ⟨h, by omega⟩, e]
/-- the table's own cutting -/
theorem tlT_ok {sc : Nat → Nat → Nat} {dep L : Nat} : ∀ (d i : Nat), i + d = L → (TB sc dep L i).1 < 1000000 → vld sc L i (tlT sc dep L i) ∧ cst sc dep i (tlT sc dep L i) = (TB sc dep L i).1 ∧ (tlT sc dep L i).length = (TB sc dep L i).2.1 := by
  intro d
  induction d using Nat.strongRecOn with
  | _ d ih =>
    intro i hi hf
    by_cases c : i < L
    · obtain ⟨a, b, c1, c2, c3⟩ := TB_fin c hf
      have hlt : (TB sc dep L (i + (TB sc dep L i).2.2)).1 < 1000000 := by omega
      obtain ⟨i1, i2, i3⟩ := ih (L - (i + (TB sc dep L i).2.2)) (by omega) (i + (TB sc dep L i).2.2) (by omega) hlt
      rw [tlT_cons c hf]
      refine ⟨⟨a, b, by omega, i1⟩, ?_, ?_⟩
      · rw [cst, i2]
        exact c2.symm
      · rw [List.length_cons, i3, c3]
        omega
    · have e : i = L := by omega
      subst e
      rw [tlT_L, TB_L]
      exact ⟨rfl, rfl, rfl⟩
theorem tlT_first {sc : Nat → Nat → Nat} {dep L : Nat} : ∀ (ns : List Nat) (i : Nat), i ≤ L → vld sc L i ns → cst sc dep i ns < 1000000 → (TB sc dep L i).1 < 1000000 ∧ lx ((TB sc dep L i).1, (TB sc dep L i).2.1, rbs L i (tlT sc dep L i)) (cst sc dep i ns, ns.length, rbs L i ns)
  | [], i, hi, h, hc => by
    have e : i = L := h
    subst e
    rw [TB_L, tlT_L]
    exact ⟨by decide, Or.inr ⟨rfl, Or.inr ⟨rfl, Nat.le_refl _⟩⟩⟩
  | n :: r, i, hi, h, hc => by
    obtain ⟨h1, h2, h3, h4⟩ := h
    have hl := vld_le r (i + n) h4
    have hc' : dep + sc i n + cst sc dep (i + n) r < 1000000 := hc
    obtain ⟨j1, j2⟩ := tlT_first (dep := dep) r (i + n) (by omega) h4 (by omega)
    have hiL : i < L := by omega
    have j3 : (TB sc dep L (i + n)).1 ≤ cst sc dep (i + n) r := by
      rcases j2 with j | ⟨j, _⟩ <;> simp only at j <;> omega
    have hlt : dep + sc i n + (TB sc dep L (i + n)).1 < 1000000 := by omega
    have key := inn_first (sc := sc) (dep := dep) (T := TB sc dep L) (i := i) (N := lg L i) (lg L i) (1000000, 0, 0) (Nat.le_refl _) (fun z => absurd z (Nat.lt_irrefl _)) (fun m k1 k2 _ => by omega) n h1 ((lg_le L i).2.2 n h2 (by omega)) hlt
    rw [← TB_eq hiL] at key
    have hf : (TB sc dep L i).1 < 1000000 := by
      rcases key with k | ⟨k, _⟩ <;> omega
    refine ⟨hf, ?_⟩
    obtain ⟨a, b, c1, c2, c3⟩ := TB_fin hiL hf
    have hlt2 : (TB sc dep L (i + (TB sc dep L i).2.2)).1 < 1000000 := by omega
    have ht := (tlT_ok (sc := sc) (dep := dep) (L := L) (L - (i + (TB sc dep L i).2.2)) (i + (TB sc dep L i).2.2) (by omega) hlt2).1
    have hrb := rbs_lt _ _ ht
    have hrb2 := rbs_lt _ _ h4
    rw [tlT_cons hiL hf]
    unfold lx
    simp only [cst, rbs, List.length_cons]
    rcases key with k | ⟨k, k' | ⟨k', k''⟩⟩
    · left; omega
    · unfold lx at j2
      simp only at j2
      omega
    · unfold lx at j2
      simp only at j2
      by_cases e : n = (TB sc dep L i).2.2
      · rw [← e]
        rw [← e] at hrb
        omega
      · have hn : n < (TB sc dep L i).2.2 := by omega
        have e1 : i + n < L := by omega
        rw [if_pos e1]
        have e3 : 2 ^ (L - (i + n)) = 2 ^ (L - (i + (TB sc dep L i).2.2)) * 2 ^ ((TB sc dep L i).2.2 - n) := by rw [← Nat.pow_add]; congr 1; omega
        have e2 : 2 ≤ 2 ^ ((TB sc dep L i).2.2 - n) := by
          calc 2 = 2 ^ 1 := rfl
            _ ≤ 2 ^ ((TB sc dep L i).2.2 - n) := Nat.pow_le_pow_right (by decide) (by omega)
        have e4 := Nat.mul_le_mul_left (2 ^ (L - (i + (TB sc dep L i).2.2))) e2
        have hS : (if i + (TB sc dep L i).2.2 < L then 2 ^ (L - (i + (TB sc dep L i).2.2)) else 0) ≤ 2 ^ (L - (i + (TB sc dep L i).2.2)) := by
          split
          · exact Nat.le_refl _
          · exact Nat.zero_le _
        omega
/-- the pieces that a list of lengths cuts -/
def sl (l : List Nat) : Nat → List Nat → List (List Nat)
  | _, [] => []
  | i, n :: r => (l.drop i).take n :: sl l (i + n) r
theorem CL_sl {sc : Nat → Nat → Nat} {dep : Nat} {l : List Nat} (hl : l.length ≤ 12) : CL sc dep l = sl l 0 (tlT sc dep l.length 0) := by
  have key : ∀ (f i : Nat), cl (fun i => (TB sc dep l.length i).2.2) l f i = sl l i (tl (fun i => (TB sc dep l.length i).2.2) l.length f i) := by
    intro f
    induction f with
    | zero => intro i; rfl
    | succ f ih =>
      intro i
      unfold cl tl
      by_cases c : i < l.length ∧ 0 < (TB sc dep l.length i).2.2
      · rw [if_pos c, if_pos c, sl, ih]
      · rw [if_neg c, if_neg c, sl]
  unfold CL tlT
  rw [key, tl_stable _ l.length 13 (l.length + 1) 0 (by omega) (by omega)]
