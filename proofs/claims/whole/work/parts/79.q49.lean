/-! the words of the law, 3 -/
set_option maxRecDepth 20000 in
theorem lin_4 : GoodIn lw_tbl wsL_law_r4 := goodIn_p wsL_law_r4 [184, 190, 281] (by decide +kernel) (by decide +kernel)
set_option maxRecDepth 20000 in
theorem lin_5 : GoodIn lw_tbl wsL_law_r5 := goodIn_p wsL_law_r5 [285, 990] (by decide +kernel) (by decide +kernel)
set_option maxRecDepth 20000 in
theorem lin_6 : GoodIn lw_tbl wsL_law_r6 := goodIn_p wsL_law_r6 [] (by decide +kernel) (by decide +kernel)
set_option maxRecDepth 20000 in
theorem lin_7 : GoodIn lw_tbl wsL_law_r7 := goodIn_p wsL_law_r7 [356, 360, 1176, 364] (by decide +kernel) (by decide +kernel)
set_option maxRecDepth 20000 in
theorem lin_8 : GoodIn lw_tbl wsL_law_r8 := goodIn_p wsL_law_r8 [367, 371, 375, 381] (by decide +kernel) (by decide +kernel)
