set_option maxRecDepth 20000
theorem wsX30_tin : ∀ w ∈ wsX30, w ∈ lw_tblP := lwT_places [(2, 82), (2, 84)] (by decide +kernel)
theorem wsX70_tin : ∀ w ∈ wsX70, w ∈ lw_tblP := lwT_places [(1, 55), (1, 57), (1, 59)] (by decide +kernel)
theorem wsX60_tin : ∀ w ∈ wsX60, w ∈ lw_tblP := lwT_places [(1, 88), (1, 90), (1, 92), (1, 94), (1, 96), (1, 98)] (by decide +kernel)
