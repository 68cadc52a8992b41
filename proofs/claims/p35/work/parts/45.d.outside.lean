theorem z_nm {args : Array Value} {s : State} (hts : ∀ w ∈ lw_tblP, w.before args s = true) : ∀ q ∈ gNm, va_Nw (.methodLinkNest q.1 q.2.1 q.2.2.1 q.2.2.2) s := by
  have h : ∀ q ∈ gNm, Cond.methodLinkNest q.1 q.2.1 q.2.2.1 q.2.2.2 ∈ lw_tblP := by decide +kernel
  exact fun q hq => va_Nw.of rfl (hts _ (h q hq))
theorem z_nf {args : Array Value} {s : State} (hts : ∀ w ∈ lw_tblP, w.before args s = true) : ∀ q ∈ gNf, va_Nw (.fieldLinkNest q.1 q.2.1 q.2.2.1 q.2.2.2.1 q.2.2.2.2.1 q.2.2.2.2.2) s := by
  have h : ∀ q ∈ gNf, Cond.fieldLinkNest q.1 q.2.1 q.2.2.1 q.2.2.2.1 q.2.2.2.2.1 q.2.2.2.2.2 ∈ lw_tblP := by decide +kernel
  exact fun q hq => va_Nw.of rfl (hts _ (h q hq))
theorem z_de {args : Array Value} {s : State} (hts : ∀ w ∈ lw_tblP, w.before args s = true) : ∀ n ∈ gNd, va_Nw (.declares (Bundle.init0 n)) s := by
  have h : ∀ n ∈ gNd, Cond.declares (Bundle.init0 n) ∈ lw_tblP := by decide +kernel
  exact fun q hq => va_Nw.of rfl (hts _ (h q hq))
theorem z_ai {args : Array Value} {s : State} (hts : ∀ w ∈ lw_tblP, w.before args s = true) : va_AOA .int s := hts (.arrayOver (.array .int)) (by decide +kernel)
theorem z_ab {args : Array Value} {s : State} (hts : ∀ w ∈ lw_tblP, w.before args s = true) : va_AO "PieceDeposits$Book" s := va_AO.of (hts (.arrayOver (.object "PieceDeposits$Book")) (by decide +kernel))
theorem z_cl {args : Array Value} {s : State} (hts : ∀ w ∈ lw_tblP, w.before args s = true) : va_Nw (.castable "[B" "java/lang/Cloneable") s := va_Nw.of rfl (hts _ (by decide +kernel))
