/-! pay, undo, snapshots -/
def aPay (A : aB) (u v x : Nat) : aB := ((A.1.1, A.1.2.1, up (up A.1.2.2 u (A.1.2.2 u - x)) v (up A.1.2.2 u (A.1.2.2 u - x) v + x)), A.2)
theorem Inv_pay {A : aB} (h : Inv A) {u v x : Nat} (hu : u < A.1.1) (hv : v < A.1.1) (hx : x ≤ A.1.2.2 u) : Inv (aPay A u v x) := by
  obtain ⟨h1, h2, h3, h4, h5, h6⟩ := h
  refine ⟨h1, h2, h3, h4, h5, ?_⟩
  unfold iT at h6 ⊢
  have s1 := sm_up A.1.2.2 u (A.1.2.2 u - x) A.1.1 hu
  have s2 := sm_up (up A.1.2.2 u (A.1.2.2 u - x)) v (up A.1.2.2 u (A.1.2.2 u - x) v + x) A.1.1 hv
  show sm (up (up A.1.2.2 u (A.1.2.2 u - x)) v (up A.1.2.2 u (A.1.2.2 u - x) v + x)) A.1.1 + sm A.2.1.2.2.1 A.2.1.1 + A.2.2.2.1 2 * sm (fun i => (A.2.2.1.2.2.2 i).length) A.2.2.1.1 ≤ 40000
  omega
theorem nar1 : vp_nar .boolean 1 = 1 := by decide
