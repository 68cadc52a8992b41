/-! lines of a text: words -/
variable {bt : Nat → Nat} {N : Nat} {tc tm : Nat → Int32}
theorem tot_store {A : aB} {u : Nat} (hu : u < A.1.1) {row : List Nat} {ps : List (List Nat)} (hcoin : prS A.2.2.2.1 (frs A.2.1.1 A.2.1.2.1 [] ps) + A.2.2.2.1 2 * ps.length ≤ A.1.2.2 u) : tot (aStore A u row ps) = tot A := by
  have hpaid := pBuys_paid A.2.2.2.1 (Int32.ofNat u) A.2.2.2.2.2.1 (frs A.2.1.1 A.2.1.2.1 [] ps) A.2.1
  have hun := pUses_n (stI A.2.2.2.1 (Int32.ofNat u) A.2.2.2.2.2.1 A.2.1 ps) (stB A.2.2.2.1 (Int32.ofNat u) A.2.2.2.2.2.1 A.2.1 ps)
  have huo := pUses_o (stI A.2.2.2.1 (Int32.ofNat u) A.2.2.2.2.2.1 A.2.1 ps) (stB A.2.2.2.1 (Int32.ofNat u) A.2.2.2.2.2.1 A.2.1 ps)
  have hli : (stI A.2.2.2.1 (Int32.ofNat u) A.2.2.2.2.2.1 A.2.1 ps).length = ps.length := by rw [stI, List.length_map]
  unfold tot
  simp only [aStore, hun.1, huo.1]
  have s1 := sm_up A.1.2.2 u (A.1.2.2 u - prS A.2.2.2.1 (frs A.2.1.1 A.2.1.2.1 [] ps) - A.2.2.2.1 2 * ps.length) A.1.1 hu
  have s2 : sm (stB A.2.2.2.1 (Int32.ofNat u) A.2.2.2.2.2.1 A.2.1 ps).2.2.1 (stB A.2.2.2.1 (Int32.ofNat u) A.2.2.2.2.2.1 A.2.1 ps).1 = sm A.2.1.2.2.1 A.2.1.1 + prS A.2.2.2.1 (frs A.2.1.1 A.2.1.2.1 [] ps) := hpaid
  have s3 : sm (fun j => (up A.2.2.1.2.2.2 A.2.2.1.1 (stI A.2.2.2.1 (Int32.ofNat u) A.2.2.2.2.2.1 A.2.1 ps) j).length) (A.2.2.1.1 + 1) = sm (fun j => (A.2.2.1.2.2.2 j).length) A.2.2.1.1 + ps.length := by
    rw [sm_succ, up_eq, hli]
    congr 1
    exact sm_congr (fun j hj => by rw [up_ne _ _ _ _ (by omega)])
  rw [s2, s3, Nat.mul_add]
  omega
