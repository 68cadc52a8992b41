set_option maxRecDepth 20000
theorem gL_law_L_plays : GoodIn wsL_law (va_wsS RL 26 yL_plays wsL_plays) := goodIn_app (goodIn_sub (lc_places [(5, 16), (5, 17), (5, 18)] (by decide +kernel)) (by decide +kernel)) lcc_wsL_plays
