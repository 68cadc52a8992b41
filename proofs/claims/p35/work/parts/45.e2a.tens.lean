theorem z_dt1 : ∀ j, j < 34 → Cond.eq (.elem (.static "java/lang/Integer" "DigitTens" "[B") (.int (Int32.ofNat j))) (.int (gDT j)) ∈ flatC (Jvm.Cond.and given_1 narrow_1) := by decide +kernel
