set_option maxRecDepth 20000
theorem lbc_wsX10_store : GoodIn wsL_book wsX10_store := (lb_one 12 4 (by decide +kernel) (by decide +kernel) (goodIn_app (goodIn_app lbc_wsX10_store_r1 (goodIn_app lbc_wsX10_store_r2 lbc_wsX10_store_r3)) lbk_13))
theorem gL_book_X10_store : GoodIn wsL_book (wsV RL 114 RX10 yX10_store wsX10_store) := goodIn_app (goodIn_sub (lb_places [(12, 1), (12, 2), (12, 3), (0, 2)] (by decide +kernel)) (by decide +kernel)) lbc_wsX10_store
