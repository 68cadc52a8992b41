/-! ways counted over all sets are the table's ways -/
theorem smF_cg {f g : Nat → Nat} : ∀ (d j : Nat), (∀ m, j ≤ m → m < j + d → f m = g m) → smF f j d = smF g j d
  | 0, j, _ => rfl
  | d + 1, j, h => by
    rw [smF, smF, h j (Nat.le_refl _) (by omega), smF_cg d (j + 1) (fun m a b => h m (by omega) (by omega))]
theorem sum_rg (g : Nat → Nat) : ∀ (d : Nat), ((List.range d).map (fun n => g (n + 1))).sum = smF g 1 d
  | 0 => rfl
  | d + 1 => by
    rw [List.range_succ, List.map_append, List.sum_append, sum_rg g d, smF_snoc]
    simp [Nat.add_comm]
theorem smF_six {g : Nat → Nat} (h : ∀ n, 6 < n → g n = 0) : ∀ (d : Nat), smF g 1 (6 + d) = smF g 1 6
  | 0 => rfl
  | d + 1 => by
    rw [show 6 + (d + 1) = (6 + d) + 1 by omega, smF_snoc, smF_six h d, h (1 + (6 + d)) (by omega), Nat.add_zero]
theorem wt_st {sc : Nat → Nat → Nat} {L x : Nat} (hx : x ≤ L) {j : Nat} (hj : L - x ≤ j) : ∀ (e : Nat), j + e ≤ L → wt sc L (j + e) x = wt sc L j x
  | 0, _ => rfl
  | e + 1, h => by
    show up _ _ _ x = _
    rw [up_ne _ _ _ _ (by have : Nat.add j e = j + e := rfl; omega)]
    exact wt_st hx hj e (by omega)
theorem wt_L {sc : Nat → Nat → Nat} (L : Nat) : wt sc L L L = 1 := by
  have := wt_st (sc := sc) (L := L) (x := L) (Nat.le_refl _) (j := 0) (by omega) L (by omega)
  rw [Nat.zero_add] at this
  rw [this]
  exact up_eq _ _ _
theorem wt_step {sc : Nat → Nat → Nat} {L x : Nat} (h : x < L) : wt sc L L x = smF (fun m => if sc x m < 1000000 then wt sc L L (x + m) else 0) 1 (lg L x) := by
  obtain ⟨j, hj⟩ : ∃ j, L = x + (j + 1) := ⟨L - x - 1, by omega⟩
  have h1 := wt_st (sc := sc) (L := L) (x := x) (by omega) (j := j + 1) (by omega) x (by omega)
  rw [show j + 1 + x = L by omega] at h1
  rw [h1]
  have ex : L - (j + 1) = x := by omega
  show up _ (L - (j + 1)) _ x = _
  rw [ex, up_eq]
  refine smF_cg _ _ (fun m a b => ?_)
  have hl := lg_le L x
  have h2 := wt_st (sc := sc) (L := L) (x := x + m) (by omega) (j := j) (by omega) (x + 1) (by omega)
  rw [show j + (x + 1) = L by omega] at h2
  rw [h2]
theorem nv_eq {sc : Nat → Nat → Nat} {dep L : Nat} : ∀ (f rem i : Nat), i + rem = L → rem ≤ f → (comF f rem).countP (fun ns => (cO sc dep i ns).isSome) = wt sc L L i
  | 0, rem, i, h, hf => by
    have : rem = 0 := by omega
    subst this
    have : i = L := by omega
    subst this
    rw [wt_L]
    rfl
  | f + 1, rem, i, h, hf => by
    unfold comF
    by_cases c : rem = 0
    · have : i = L := by omega
      subst this
      rw [if_pos c, wt_L]
      rfl
    · rw [if_neg c, List.countP_flatMap, wt_step (by omega)]
      have e : ∀ n, n < rem → (List.countP (fun ns => (cO sc dep i ns).isSome) ∘ fun n => (comF f (rem - (n + 1))).map (fun r => (n + 1) :: r)) n = (fun m => if m ≤ 6 then (if sc i m < 1000000 then wt sc L L (i + m) else 0) else 0) (n + 1) := by
        intro n hn
        show List.countP _ (List.map _ _) = _
        rw [List.countP_map]
        have ih := nv_eq (sc := sc) (dep := dep) (L := L) f (rem - (n + 1)) (i + (n + 1)) (by omega) (by omega)
        have e2 : ((fun ns => (cO sc dep i ns).isSome) ∘ fun r => (n + 1) :: r) = fun r => if 6 < n + 1 ∨ ¬ sc i (n + 1) < 1000000 then false else (cO sc dep (i + (n + 1)) r).isSome := by
          funext r
          show (cO sc dep i ((n + 1) :: r)).isSome = _
          rw [cO]
          by_cases g : 6 < n + 1 ∨ ¬ sc i (n + 1) < 1000000
          · rw [if_pos g, if_pos g]
            rfl
          · rw [if_neg g, if_neg g, Option.isSome_map]
        rw [e2]
        by_cases g : 6 < n + 1 ∨ ¬ sc i (n + 1) < 1000000
        · simp only [if_pos g]
          rw [List.countP_false]
          by_cases g1 : n + 1 ≤ 6
          · rw [if_pos g1, if_neg (by omega)]
            rfl
          · rw [if_neg g1]
            rfl
        · simp only [if_neg g]
          rw [ih, if_pos (by omega), if_pos (by omega)]
      have e3 : (List.map (List.countP (fun ns => (cO sc dep i ns).isSome) ∘ fun n => (comF f (rem - (n + 1))).map (fun r => (n + 1) :: r)) (List.range rem)) = (List.range rem).map (fun n => (fun m => if m ≤ 6 then (if sc i m < 1000000 then wt sc L L (i + m) else 0) else 0) (n + 1)) := by
        apply List.map_congr_left
        intro n hn
        exact e n (List.mem_range.mp hn)
      rw [e3, sum_rg (fun m => if m ≤ 6 then (if sc i m < 1000000 then wt sc L L (i + m) else 0) else 0)]
      have hlg : lg L i = if rem < 6 then rem else 6 := by
        unfold lg
        rw [show L - i = rem by omega]
      have e4 : smF (fun m => if m ≤ 6 then (if sc i m < 1000000 then wt sc L L (i + m) else 0) else 0) 1 rem = smF (fun m => if m ≤ 6 then (if sc i m < 1000000 then wt sc L L (i + m) else 0) else 0) 1 (lg L i) := by
        rw [hlg]
        split
        · rfl
        · have := smF_six (g := fun m => if m ≤ 6 then (if sc i m < 1000000 then wt sc L L (i + m) else 0) else 0) (fun n hn => if_neg (by omega)) (rem - 6)
          rw [show 6 + (rem - 6) = rem by omega] at this
          exact this
      rw [e4]
      refine smF_cg _ _ (fun m a b => ?_)
      have := (lg_le L i).1
      rw [if_pos (by omega)]
section ZW
variable {np : Nat} {pl : Nat → List Nat} {st : Nat → Nat} {code : Nat → Int32} {l : List Nat}
theorem z_ways_L (hC : lC np pl code) (h0 : st 0 ≤ 99) (h1 : st 1 ≤ 9) (h2 : st 2 ≤ 9) (hl : ab l) (h9 : l.length ≤ 9) (hn0 : 0 < l.length) (k : Int32 → Option Int32) : ∀ (d n t acc : Nat), t + d = 2 ^ (l.length - 1) → d < n → fX10_ways_L4 (Int32.ofNat (cd l)) (Int32.ofNat (st 0)) (Int32.ofNat (st 1)) (Int32.ofNat (st 2)) (Int32.ofNat np) code k n (Int32.ofNat acc) (Int32.ofNat (2 * t)) = k (Int32.ofNat (acc + (List.range' t d).countP (fun u => (vt (sC np pl st false l) (st 2) l.length u).isSome))) := by
  have eL : 2 ^ l.length = 2 * 2 ^ (l.length - 1) := by
    rw [← Nat.pow_succ']
    congr 1
    omega
  have p9 := (pw9 h9).1
  intro d
  induction d with
  | zero =>
    intro n t acc e hn
    obtain ⟨n, rfl⟩ : ∃ m, n = m + 1 := ⟨n - 1, by omega⟩
    rw [fX10_ways_L4, z_size hl h9, gb1_some, show (1 : Int32) = Int32.ofNat 1 from rfl, J_shl 1 _ (by omega), Nat.one_mul, if_pos (by rw [J_le _ _ (by omega) (by omega)]; omega)]
    rfl
  | succ d ih =>
    intro n t acc e hn
    obtain ⟨n, rfl⟩ : ∃ m, n = m + 1 := ⟨n - 1, by omega⟩
    have ht2 : 2 * t < 512 := by omega
    have hz := z_cost (b := false) (al := none) hC h0 h1 hl h9 (fun _ z => by cases z) ht2
    rw [fX10_ways_L4, z_size hl h9, gb1_some, show (1 : Int32) = Int32.ofNat 1 from rfl, J_shl 1 _ (by omega), Nat.one_mul, if_neg (by rw [J_le _ _ (by omega) (by omega)]; omega), List.range'_succ, List.countP_cons]
    rw [s35_none] at hz
    rw [show fX10_costOf (Int32.ofNat (cd l)) (Int32.ofNat (2 * t)) 0 0 (Int32.ofNat (st 0)) (Int32.ofNat (st 1)) (Int32.ofNat (st 2)) (Int32.ofNat np) code = _ from hz, gb1_some]
    cases hv : cO (sC np pl st false l) (st 2) 0 (cuts (2 * t) l.length) with
    | none =>
      show (if (-1 : Int32) < 0 then _ else _) = _
      rw [if_pos (by decide), i_2, J_add, show 2 * t + 2 = 2 * (t + 1) by omega, ih n (t + 1) acc (by omega) (by omega)]
      rw [show vt (sC np pl st false l) (st 2) l.length t = none from hv]
      simp
    | some c =>
      have hs : ∀ i n, n ≤ 6 → sC np pl st false l i n < 1000000 → sC np pl st false l i n ≤ 200 := by
        rw [← s35_none]
        exact s35_le h0 h1
      obtain ⟨_, _, hc⟩ := vt_le (t := t) (c := c) (show l.length < 10 by omega) hn0 hs h2 (by omega) hv
      show (if Int32.ofNat c < 0 then _ else _) = _
      rw [if_neg (by rw [J_neg _ (by omega)]; exact id), i_2, J_add, J_add, show 2 * t + 2 = 2 * (t + 1) by omega, ih n (t + 1) (acc + 1) (by omega) (by omega)]
      rw [show vt (sC np pl st false l) (st 2) l.length t = some c from hv]
      congr 2
      simp
      omega
theorem z_ways (hC : lC np pl code) (h0 : st 0 ≤ 99) (h1 : st 1 ≤ 9) (h2 : st 2 ≤ 9) (hl : ab l) (h9 : l.length ≤ 9) (hn0 : 0 < l.length) : fX10_ways (Int32.ofNat (cd l)) (Int32.ofNat (st 0)) (Int32.ofNat (st 1)) (Int32.ofNat (st 2)) (Int32.ofNat np) code = some (Int32.ofNat (wt (sC np pl st false l) l.length l.length 0)) := by
  have p9 := (pw9 h9).1
  have p8 : 2 ^ (l.length - 1) ≤ 2 ^ l.length := Nat.pow_le_pow_right (by decide) (by omega)
  have := z_ways_L hC h0 h1 h2 hl h9 hn0 (fun x => some x) (2 ^ (l.length - 1)) FU 0 0 (by omega) (by simp only [FU]; omega)
  rw [fX10_ways, show (0 : Int32) = Int32.ofNat 0 from rfl]
  rw [show Int32.ofNat (2 * 0) = Int32.ofNat 0 from rfl] at this
  rw [this, Nat.zero_add]
  have e1 := (com_perm l.length (by omega) hn0).countP_eq (fun ns => (cO (sC np pl st false l) (st 2) 0 ns).isSome)
  rw [List.countP_map] at e1
  have e2 := nv_eq (sc := sC np pl st false l) (dep := st 2) (L := l.length) l.length l.length 0 (by omega) (Nat.le_refl _)
  rw [show comF l.length l.length = com l.length from rfl, ← e1] at e2
  rw [← e2]
  rfl
end ZW
