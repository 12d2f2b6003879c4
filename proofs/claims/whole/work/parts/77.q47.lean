/-! the words of the law, 1 -/
set_option maxRecDepth 20000 in
theorem lin_1 : GoodIn lw_tbl wsL_law_r1 := goodIn_p wsL_law_r1 [96, 99] (by decide +kernel) (by decide +kernel)
