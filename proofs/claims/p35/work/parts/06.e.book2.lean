set_option maxRecDepth 20000
theorem gL_book_X10_store : GoodIn wsL_book (wsV RL 114 RX10 yX10_store wsX10_store) := goodIn_app (goodIn_sub (lb_places [(12, 1), (12, 2), (12, 3), (0, 2)] (by decide +kernel)) (by decide +kernel)) lbc_wsX10_store
