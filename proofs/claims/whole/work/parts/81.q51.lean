/-! the words of the law, 5 -/
set_option maxRecDepth 20000 in
theorem lin_15 : GoodIn lw_tbl wsL_law_r15 := goodIn_p wsL_law_r15 [564, 568, 572, 576, 580] (by decide +kernel) (by decide +kernel)
set_option maxRecDepth 20000 in
theorem lin_16 : GoodIn lw_tbl wsL_law_r16 := goodIn_p wsL_law_r16 [584, 588, 592, 596, 599] (by decide +kernel) (by decide +kernel)
set_option maxRecDepth 20000 in
theorem lin_17 : GoodIn lw_tbl wsL_law_r17 := goodIn_p wsL_law_r17 [604, 607, 625, 639] (by decide +kernel) (by decide +kernel)
set_option maxRecDepth 20000 in
theorem lin_18 : GoodIn lw_tbl wsL_law_r18 := goodIn_p wsL_law_r18 [664, 668, 671, 676] (by decide +kernel) (by decide +kernel)
set_option maxRecDepth 20000 in
theorem lin_19 : GoodIn lw_tbl wsL_law_r19 := goodIn_p wsL_law_r19 [680, 684, 1180, 1184] (by decide +kernel) (by decide +kernel)
set_option maxRecDepth 20000 in
theorem lin_20 : GoodIn lw_tbl wsL_law_r20 := goodIn_p wsL_law_r20 [1188, 1192, 1195, 1199, 1205] (by decide +kernel) (by decide +kernel)
