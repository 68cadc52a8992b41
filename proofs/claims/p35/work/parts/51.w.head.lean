/-! the head of a text -/
theorem fu6 : ∃ m, FU = m + 6 := ⟨FU - 6, by simp only [FU]⟩
variable {bt : Nat → Nat} {N : Nat} {tc tm : Nat → Int32}
theorem lt5 {i : Nat} (h : i < 5) : i = 0 ∨ i = 1 ∨ i = 2 ∨ i = 3 ∨ i = 4 := by omega
def sF5 (a b c d e : Nat) : Nat → Nat := fun i => if i = 0 then a else if i = 1 then b else if i = 2 then c else if i = 3 then d else e
