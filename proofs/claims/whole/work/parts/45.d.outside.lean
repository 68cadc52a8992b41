theorem z_nm {args : Array Value} {s : State} (hts : ∀ w ∈ lw_tbl, w.before args s = true) : ∀ q ∈ gNm, va_Nw (.methodLinkNest q.1 q.2.1 q.2.2.1 q.2.2.2) s := by
  have h : ∀ q ∈ gNm, Cond.methodLinkNest q.1 q.2.1 q.2.2.1 q.2.2.2 ∈ lw_tbl := by decide +kernel
  exact fun q hq => va_Nw.of rfl (hts _ (h q hq))
theorem z_nf {args : Array Value} {s : State} (hts : ∀ w ∈ lw_tbl, w.before args s = true) : ∀ q ∈ gNf, va_Nw (.fieldLinkNest q.1 q.2.1 q.2.2.1 q.2.2.2.1 q.2.2.2.2.1 q.2.2.2.2.2) s := by
  have h : ∀ q ∈ gNf, Cond.fieldLinkNest q.1 q.2.1 q.2.2.1 q.2.2.2.1 q.2.2.2.2.1 q.2.2.2.2.2 ∈ lw_tbl := by decide +kernel
  exact fun q hq => va_Nw.of rfl (hts _ (h q hq))
theorem z_ca {args : Array Value} {s : State} (hts : ∀ w ∈ lw_tbl, w.before args s = true) : ∀ X ∈ gEx, va_Nw (.castable X X) s := by
  have h : ∀ X ∈ gEx, Cond.castable X X ∈ lw_tbl := by decide +kernel
  exact fun q hq => va_Nw.of rfl (hts _ (h q hq))
theorem z_de {args : Array Value} {s : State} (hts : ∀ w ∈ lw_tbl, w.before args s = true) : ∀ n ∈ gNd, va_Nw (.declares (Bundle.init0 n)) s := by
  have h : ∀ n ∈ gNd, Cond.declares (Bundle.init0 n) ∈ lw_tbl := by decide +kernel
  exact fun q hq => va_Nw.of rfl (hts _ (h q hq))
theorem z_ai {args : Array Value} {s : State} (hts : ∀ w ∈ lw_tbl, w.before args s = true) : va_AOA .int s := hts (.arrayOver (.array .int)) (by decide +kernel)
theorem z_ab {args : Array Value} {s : State} (hts : ∀ w ∈ lw_tbl, w.before args s = true) : va_AO "PieceDeposits$Book" s := va_AO.of (hts (.arrayOver (.object "PieceDeposits$Book")) (by decide +kernel))
theorem z_nc {args : Array Value} {s : State} (hg : (Jvm.Cond.and given_1 narrow_1).before args s = true) : ∀ X ∈ gEx, ∀ Y ∈ gEx, X ≠ Y → va_Nc X Y s := by
  have hs := flat_of_before _ hg
  intro X hX Y hY hne
  refine va_Nc.of (args := args) (hs _ ?_)
  revert X Y
  decide +kernel
