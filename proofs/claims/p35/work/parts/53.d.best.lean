/-! the law's costs and best cutting -/
theorem bit_and (s k : Nat) (hs : s < 512) (hk : k < 32) : ((Int32.ofNat s >>> (Int32.ofNat k &&& 31)) &&& 1) = Int32.ofNat (s / 2 ^ k % 2) := by
  have : s / 2 ^ k ≤ s := Nat.div_le_self _ _
  rw [J_shr _ _ (by omega) hk, show (1 : Int32) = Int32.ofNat 1 from rfl, J_and _ _ (by omega) (by omega), Nat.and_one_is_mod]
def alC (al : Option (List Nat)) : Int32 := match al with
  | none => 0
  | some s => Int32.ofNat (cd s)
def alO (al : Option (List Nat)) : Prop := ∀ s, al = some s → ab s ∧ s.length ≤ 9
theorem al_eq {al : Option (List Nat)} (ha : alO al) {s : List Nat} (h : ab s) (hl : s.length ≤ 9) : (Int32.ofNat (cd s) = alC al) = (al = some s) := by
  have hs := cd_sm h hl
  cases al with
  | none =>
    show (Int32.ofNat (cd s) = 0) = _
    rw [i_0, J_eq _ _ (by omega) (by omega)]
    apply propext
    constructor
    · intro z; omega
    · intro z; cases z
  | some t =>
    obtain ⟨a, b⟩ := ha t rfl
    have ht := cd_sm a b
    show (Int32.ofNat (cd s) = Int32.ofNat (cd t)) = _
    rw [J_eq _ _ (by omega) (by omega)]
    apply propext
    constructor
    · intro z; rw [cd_inj h a z]
    · intro z; rw [Option.some.inj z]
section Z
variable {np : Nat} {pl : Nat → List Nat} {st : Nat → Nat} {code : Nat → Int32} {l : List Nat} {al : Option (List Nat)} {b : Bool}
def bI (b : Bool) : Int32 := if b = true then 1 else 0
theorem z_cost_L (hC : lC np pl code) (h0 : st 0 ≤ 99) (h1 : st 1 ≤ 9) (hl : ab l) (h9 : l.length ≤ 9) (ha : alO al) {s : Nat} (hs : s < 512) (k : Int32 → Option Int32) : ∀ (d n f sum c : Nat), c + d = l.length + 1 → d < n → f < c → fX10_costOf_L9 (Int32.ofNat (cd l)) (Int32.ofNat s) (bI b) (alC al) (Int32.ofNat (st 0)) (Int32.ofNat (st 1)) (Int32.ofNat (st 2)) (Int32.ofNat np) code k n (Int32.ofNat f) (Int32.ofNat sum) (Int32.ofNat c) = match cO (s35 np pl st b al l) (st 2) f (ctF s l.length d f c) with
    | some v => k (Int32.ofNat (sum + v))
    | none => some (-1)
  | d, 0, f, sum, c, _, h2, _ => by omega
  | 0, n + 1, f, sum, c, h3, _, _ => by
    rw [fX10_costOf_L9, z_size hl h9, gb1_some, if_pos (by rw [J_lt _ _ (by omega) (by omega)]; omega)]
    rfl
  | d + 1, n + 1, f, sum, c, h3, h4, h5 => by
    have hp := ab_sub hl f (c - f)
    have hpl : ((l.drop f).take (c - f)).length = c - f := by simp; omega
    rw [fX10_costOf_L9, z_size hl h9, gb1_some, if_neg (by rw [J_lt _ _ (by omega) (by omega)]; omega), z_part hl h9 h5 (by omega)]
    simp only [gb1_some, Lt_eq]
    rw [z_find hC hp (by omega), bit_and s c hs (by omega)]
    unfold ctF
    have hbit : s / 2 ^ c % 2 < 2 := Nat.mod_lt _ (by decide)
    have rec1 := z_cost_L hC h0 h1 hl h9 ha hs k d n f sum (c + 1) (by omega) (by omega) (by omega)
    by_cases g : c < l.length ∧ s / 2 ^ c % 2 = 0
    · rw [if_pos g, ← rec1, i_1, J_add]
      rw [if_neg (by rw [J_le _ _ (by omega) (by omega)]; omega), if_pos (by rw [g.2]; rfl)]
    · rw [if_neg g]
      -- the piece from f up to c
      have rec2 := fun w => z_cost_L hC h0 h1 hl h9 ha hs k d n c (sum + w) (c + 1) (by omega) (by omega) (by omega)
      unfold cO
      have ej : f + (c - f) = c := by omega
      rw [ej]
      have esub : Int32.ofNat c - Int32.ofNat f = Int32.ofNat (c - f) := J_sub _ _ (by omega)
      have e6 : ((6 : Int32) < Int32.ofNat (c - f)) = (6 < c - f) := by rw [i_6, J_lt _ _ (by omega) (by omega)]
      have hth : s35 np pl st b al l f (c - f) = if al = some ((l.drop f).take (c - f)) ∨ fnd np pl ((l.drop f).take (c - f)) < np then 0 else if b = true then st 0 + st 1 * (c - f) else 1000000 := rfl
      have hmul : st 1 * (c - f) ≤ 9 * 9 := Nat.mul_le_mul h1 (by omega)
      have key : ∀ (J : Option Int32), (J = match (if 6 < c - f ∨ ¬ s35 np pl st b al l f (c - f) < 1000000 then none else (cO (s35 np pl st b al l) (st 2) c (ctF s l.length d c (c + 1))).map (fun v => st 2 + s35 np pl st b al l f (c - f) + v)) with
        | some v => k (Int32.ofNat (sum + v))
        | none => some (-1)) → (if Int32.ofNat l.length ≤ Int32.ofNat c then J else (if Int32.ofNat (s / 2 ^ c % 2) = 0 then fX10_costOf_L9 (Int32.ofNat (cd l)) (Int32.ofNat s) (bI b) (alC al) (Int32.ofNat (st 0)) (Int32.ofNat (st 1)) (Int32.ofNat (st 2)) (Int32.ofNat np) code k n (Int32.ofNat f) (Int32.ofNat sum) (Int32.ofNat c + 1) else J)) = match (if 6 < c - f ∨ ¬ s35 np pl st b al l f (c - f) < 1000000 then none else (cO (s35 np pl st b al l) (st 2) c (ctF s l.length d c (c + 1))).map (fun v => st 2 + s35 np pl st b al l f (c - f) + v)) with
        | some v => k (Int32.ofNat (sum + v))
        | none => some (-1) := by
        intro J hJ
        rw [← hJ]
        by_cases g1 : l.length ≤ c
        · rw [if_pos (by rw [J_le _ _ (by omega) (by omega)]; exact g1)]
        · rw [if_neg (by rw [J_le _ _ (by omega) (by omega)]; exact g1), if_neg (by rw [i_0, J_eq _ _ (by omega) (by omega)]; omega)]
      refine key _ ?_
      -- one of three: there, bought, or neither
      have big : ∀ (T : Int32) (w : Nat), (6 < c - f ∨ ¬ s35 np pl st b al l f (c - f) < 1000000 → 6 < c - f ∨ (bI b = 0 ∧ T = 0)) → True := fun _ _ _ => trivial
      simp only [al_eq ha hp (show ((l.drop f).take (c - f)).length ≤ 9 by omega), esub, e6]
      have goOn : ∀ w, w < 1000000 → fX10_costOf_L9 (Int32.ofNat (cd l)) (Int32.ofNat s) (bI b) (alC al) (Int32.ofNat (st 0)) (Int32.ofNat (st 1)) (Int32.ofNat (st 2)) (Int32.ofNat np) code k n (Int32.ofNat c) (Int32.ofNat sum + (Int32.ofNat (st 2) + Int32.ofNat w)) (Int32.ofNat c + 1) = match (cO (s35 np pl st b al l) (st 2) c (ctF s l.length d c (c + 1))).map (fun v => st 2 + w + v) with
        | some v => k (Int32.ofNat (sum + v))
        | none => some (-1) := by
        intro w _
        rw [J_add, J_add, i_1, J_add, rec2 (st 2 + w)]
        cases cO (s35 np pl st b al l) (st 2) c (ctF s l.length d c (c + 1)) with
        | none => rfl
        | some v => show k _ = k _; rw [Nat.add_assoc]
      by_cases t1 : al = some ((l.drop f).take (c - f))
      · rw [if_pos t1]
        have es : s35 np pl st b al l f (c - f) = 0 := by rw [hth, if_pos (Or.inl t1)]
        rw [es]
        by_cases g6 : 6 < c - f
        · rw [if_pos g6, if_pos (Or.inl g6)]
        · rw [if_neg g6, if_neg (show ¬ (6 < c - f ∨ ¬ 0 < 1000000) by omega)]
          simp only [if_neg (show ¬ (1 : Int32) = 0 by decide), ite_self]
          rw [show (0 : Int32) = Int32.ofNat 0 from rfl, goOn 0 (by decide)]
      · rw [if_neg t1]
        by_cases t2 : fnd np pl ((l.drop f).take (c - f)) < np
        · have es : s35 np pl st b al l f (c - f) = 0 := by rw [hth, if_pos (Or.inr t2)]
          have hnr : nr np pl ((l.drop f).take (c - f)) = Int32.ofNat (fnd np pl ((l.drop f).take (c - f))) := by unfold nr; rw [if_pos t2]
          have h24 := hC.1
          rw [hnr, gb1_some, if_neg (by rw [i_0, J_lt _ _ (by omega) (by omega)]; omega), es]
          by_cases g6 : 6 < c - f
          · rw [if_pos g6, if_pos (Or.inl g6)]
          · rw [if_neg g6, if_neg (show ¬ (6 < c - f ∨ ¬ 0 < 1000000) by omega)]
            simp only [if_neg (show ¬ (1 : Int32) = 0 by decide), ite_self]
            rw [show (0 : Int32) = Int32.ofNat 0 from rfl, goOn 0 (by decide)]
        · have hnr : nr np pl ((l.drop f).take (c - f)) = M1 := by unfold nr; rw [if_neg t2]
          rw [hnr, gb1_some, if_pos (show M1 < 0 by decide)]
          have hno : ¬ (al = some ((l.drop f).take (c - f)) ∨ fnd np pl ((l.drop f).take (c - f)) < np) := by
            rintro (z | z)
            · exact t1 z
            · exact t2 z
          by_cases g6 : 6 < c - f
          · rw [if_pos g6, if_pos (Or.inl g6)]
          · rw [if_neg g6]
            cases b with
            | true =>
              have es : s35 np pl st true al l f (c - f) = st 0 + st 1 * (c - f) := by rw [hth, if_neg hno, if_pos rfl]
              rw [es, if_neg (show ¬ bI true = 0 by decide), if_pos trivial, z_price hp (by omega), gb1_some, hpl, goOn _ (by omega), if_neg (by omega)]
            | false =>
              have es : s35 np pl st false al l f (c - f) = 1000000 := by rw [hth, if_neg hno, if_neg (by decide)]
              rw [es, if_pos (show bI false = 0 by decide), if_pos trivial, if_pos (by omega)]
theorem z_cost (hC : lC np pl code) (h0 : st 0 ≤ 99) (h1 : st 1 ≤ 9) (hl : ab l) (h9 : l.length ≤ 9) (ha : alO al) {s : Nat} (hs : s < 512) : fX10_costOf (Int32.ofNat (cd l)) (Int32.ofNat s) (bI b) (alC al) (Int32.ofNat (st 0)) (Int32.ofNat (st 1)) (Int32.ofNat (st 2)) (Int32.ofNat np) code = some (match cO (s35 np pl st b al l) (st 2) 0 (cuts s l.length) with
    | some v => Int32.ofNat v
    | none => -1) := by
  have := z_cost_L (b := b) hC h0 h1 hl h9 ha hs (fun x => some x) l.length FU 0 0 1 (by omega) (by simp only [FU]; omega) (by omega)
  rw [fX10_costOf, show (0 : Int32) = Int32.ofNat 0 from rfl, i_1, this]
  unfold cuts
  cases cO (s35 np pl st b al l) (st 2) 0 (ctF s l.length l.length 0 1) with
  | none => rfl
  | some v => show some _ = some _; rw [Nat.zero_add]
end Z
