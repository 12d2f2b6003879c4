/-! the words of the law, 2 -/
set_option maxRecDepth 20000 in
theorem lin_2 : GoodIn lw_tbl wsL_law_r2 := goodIn_p wsL_law_r2 [104] (by decide +kernel) (by decide +kernel)
set_option maxRecDepth 20000 in
theorem lin_3 : GoodIn lw_tbl wsL_law_r3 := goodIn_p wsL_law_r3 [139, 142, 145, 165] (by decide +kernel) (by decide +kernel)
