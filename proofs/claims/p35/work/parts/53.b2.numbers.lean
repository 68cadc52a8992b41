/-! letters as a number -/
/-- letters as a number: a one and then a bit for each letter -/
def cdF : List Nat → Nat → Nat
  | [], a => a
  | x :: l, a => cdF l (2 * a + (x - 1))
def cd (l : List Nat) : Nat := cdF l 1
def ab (l : List Nat) : Prop := ∀ x ∈ l, x = 1 ∨ x = 2
theorem cdF_eq : ∀ (l : List Nat) (a : Nat), cdF l a = a * 2 ^ l.length + cdF l 0
  | [], a => by simp [cdF]
  | x :: l, a => by
    have h1 := cdF_eq l (2 * a + (x - 1))
    have h2 := cdF_eq l (2 * 0 + (x - 1))
    unfold cdF
    rw [h1, h2, List.length_cons, Nat.pow_succ, Nat.add_mul]
    have : 2 * a * 2 ^ l.length = a * (2 ^ l.length * 2) := by rw [Nat.mul_comm 2 a, Nat.mul_assoc, Nat.mul_comm 2]
    rw [this]
    simp
    omega
theorem cdF_lt : ∀ (l : List Nat), ab l → cdF l 0 < 2 ^ l.length
  | [], _ => by simp [cdF]
  | x :: l, h => by
    have ih := cdF_lt l (fun y hy => h y (List.mem_cons_of_mem _ hy))
    have hx := h x List.mem_cons_self
    unfold cdF
    rw [cdF_eq, List.length_cons, Nat.pow_succ]
    have : x - 1 ≤ 1 := by omega
    have := Nat.mul_le_mul_right (2 ^ l.length) this
    simp only [Nat.mul_zero, Nat.zero_add]
    omega
theorem cd_bd {l : List Nat} (h : ab l) : 2 ^ l.length ≤ cd l ∧ cd l < 2 * 2 ^ l.length := by
  have := cdF_eq l 1
  have := cdF_lt l h
  unfold cd
  omega
theorem cd_app (a b : List Nat) : cd (a ++ b) = cd a * 2 ^ b.length + cdF b 0 := by
  have key : ∀ (a : List Nat) (x : Nat), cdF (a ++ b) x = cdF b (cdF a x) := by
    intro a
    induction a with
    | nil => intro x; rfl
    | cons y a ih => intro x; show cdF (a ++ b) _ = _; rw [ih]; rfl
  unfold cd
  rw [key, cdF_eq]
theorem cdF_inj : ∀ (a b : List Nat), ab a → ab b → a.length = b.length → cdF a 0 = cdF b 0 → a = b
  | [], [], _, _, _, _ => rfl
  | [], y :: b, _, _, h, _ => by simp at h
  | x :: a, [], _, _, h, _ => by simp at h
  | x :: a, y :: b, ha, hb, hl, h => by
    have hl' : a.length = b.length := by simpa using hl
    have ha' : ab a := fun z hz => ha z (List.mem_cons_of_mem _ hz)
    have hb' : ab b := fun z hz => hb z (List.mem_cons_of_mem _ hz)
    have hx := ha x List.mem_cons_self
    have hy := hb y List.mem_cons_self
    unfold cdF at h
    rw [cdF_eq a, cdF_eq b, hl'] at h
    have l1 := cdF_lt a ha'
    have l2 := cdF_lt b hb'
    rw [hl'] at l1
    simp only [Nat.mul_zero, Nat.zero_add] at h
    have hxy : x - 1 = y - 1 := by
      rcases hx with rfl | rfl <;> rcases hy with rfl | rfl <;> simp at h ⊢ <;> omega
    have e : x = y := by omega
    subst e
    have : cdF a 0 = cdF b 0 := by omega
    rw [cdF_inj a b ha' hb' hl' this]
theorem cd_inj {a b : List Nat} (ha : ab a) (hb : ab b) (h : cd a = cd b) : a = b := by
  have h1 := cd_bd ha
  have h2 := cd_bd hb
  have hl : a.length = b.length := by
    rcases Nat.lt_trichotomy a.length b.length with c | c | c
    · have : 2 ^ (a.length + 1) ≤ 2 ^ b.length := Nat.pow_le_pow_right (by decide) c
      rw [Nat.pow_succ] at this
      omega
    · exact c
    · have : 2 ^ (b.length + 1) ≤ 2 ^ a.length := Nat.pow_le_pow_right (by decide) c
      rw [Nat.pow_succ] at this
      omega
  refine cdF_inj a b ha hb hl ?_
  have e1 := cdF_eq a 1
  have e2 := cdF_eq b 1
  unfold cd at h
  rw [hl] at e1
  omega
theorem cd_log {l : List Nat} (h : ab l) : (cd l).log2 = l.length := by
  have hb := cd_bd h
  have hne : cd l ≠ 0 := by
    have : 0 < 2 ^ l.length := Nat.pow_pos (by decide)
    omega
  exact (Nat.log2_eq_iff hne).mpr ⟨hb.1, by rw [Nat.pow_succ]; omega⟩
theorem ab_sub {l : List Nat} (h : ab l) (i n : Nat) : ab ((l.drop i).take n) := fun x hx => h x (List.mem_of_mem_drop (List.mem_of_mem_take hx))
/-- a part of a number, its letters from f up to k -/
def prt (c f k : Nat) : Nat := 2 ^ (k - f) + c / 2 ^ (c.log2 - k) % 2 ^ (k - f)
theorem cd_prt {l : List Nat} (h : ab l) {f k : Nat} (hf : f ≤ k) (hk : k ≤ l.length) : prt (cd l) f k = cd ((l.drop f).take (k - f)) := by
  have hb := ab_sub h f (k - f)
  have el : ((l.drop f).take (k - f)).length = k - f := by simp; omega
  have e1 : l = l.take f ++ ((l.drop f).take (k - f) ++ l.drop k) := by
    have : l.drop f = (l.drop f).take (k - f) ++ (l.drop f).drop (k - f) := (List.take_append_drop _ _).symm
    rw [List.drop_drop, show f + (k - f) = k by omega] at this
    rw [← this, List.take_append_drop]
  unfold prt
  rw [cd_log h]
  have e2 : cd l = cd (l.take f ++ (l.drop f).take (k - f)) * 2 ^ (l.length - k) + cdF (l.drop k) 0 := by
    have := cd_app (l.take f ++ (l.drop f).take (k - f)) (l.drop k)
    rw [List.append_assoc, ← e1, List.length_drop] at this
    exact this
  have hl2 : cdF (l.drop k) 0 < 2 ^ (l.length - k) := by
    have := cdF_lt (l.drop k) (fun x hx => h x (List.mem_of_mem_drop hx))
    rw [List.length_drop] at this
    exact this
  have hp : 0 < 2 ^ (l.length - k) := Nat.pow_pos (by decide)
  have e3 : cd l / 2 ^ (l.length - k) = cd (l.take f ++ (l.drop f).take (k - f)) := by
    rw [e2, Nat.mul_comm, Nat.mul_add_div hp, Nat.div_eq_of_lt hl2, Nat.add_zero]
  rw [e3, cd_app, el]
  have hl3 : cdF ((l.drop f).take (k - f)) 0 < 2 ^ (k - f) := by
    have := cdF_lt _ hb
    rw [el] at this
    exact this
  rw [Nat.mul_comm, Nat.mul_add_mod, Nat.mod_eq_of_lt hl3]
  have e4 := cdF_eq ((l.drop f).take (k - f)) 1
  rw [el] at e4
  unfold cd
  omega
