set_option maxRecDepth 20000
theorem wsL_law0_r49_in : ∀ w ∈ wsL_law0_r49, w ∈ lw_tblP := lwT_places [(7, 48)] (by decide +kernel)
theorem wsX90_tin : ∀ w ∈ wsX90, w ∈ lw_tblP := lwT_places [(2, 97), (2, 99), (2, 101), (2, 103), (2, 105), (2, 107), (2, 109), (2, 111), (2, 113), (2, 115)] (by decide +kernel)
theorem wsX10_tin : ∀ w ∈ wsX10, w ∈ lw_tblP := lwT_places [(1, 156), (1, 158), (1, 160), (1, 162), (1, 164), (1, 166), (1, 168), (1, 170)] (by decide +kernel)
