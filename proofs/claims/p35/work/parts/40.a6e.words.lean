set_option maxRecDepth 20000
theorem wsX80_tin : ∀ w ∈ wsX80, w ∈ lw_tblP := lwT_places [(1, 122), (1, 124), (1, 126), (1, 128), (1, 130)] (by decide +kernel)
theorem wsJ40_tin : ∀ w ∈ wsJ40, w ∈ lw_tblP := lwT_places [(2, 144), (2, 146), (2, 148), (2, 150)] (by decide +kernel)
theorem wsX100_tin : ∀ w ∈ wsX100, w ∈ lw_tblP := lwT_places [(2, 203), (2, 205), (2, 207), (2, 209), (2, 211), (2, 213), (2, 215), (2, 217), (2, 219), (2, 221), (2, 223), (2, 225), (2, 227), (2, 229), (2, 231), (2, 233), (2, 235), (2, 237), (2, 239), (3, 1), (3, 3)] (by decide +kernel)
