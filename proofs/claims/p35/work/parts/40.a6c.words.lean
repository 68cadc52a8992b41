set_option maxRecDepth 20000
theorem wsX50_tin : ∀ w ∈ wsX50, w ∈ lw_tblP := lwT_places [(2, 6), (2, 8), (2, 10), (2, 12), (2, 14), (2, 16), (2, 18), (2, 20), (2, 22), (2, 24), (2, 26)] (by decide +kernel)
theorem wsX20_tin : ∀ w ∈ wsX20, w ∈ lw_tblP := lwT_places [(1, 208), (1, 210), (1, 212), (1, 214), (1, 216), (1, 218), (1, 220), (1, 222), (1, 224), (1, 226), (1, 228), (1, 230)] (by decide +kernel)
theorem wsX00_tin : ∀ w ∈ wsX00, w ∈ lw_tblP := lwT_places [(2, 51), (2, 53), (2, 55), (2, 57), (2, 59), (2, 61), (2, 63), (2, 65), (2, 67)] (by decide +kernel)
