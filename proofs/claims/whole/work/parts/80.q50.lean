/-! the words of the law, 4 -/
set_option maxRecDepth 20000 in
theorem lin_9 : GoodIn lw_tbl wsL_law_r9 := goodIn_p wsL_law_r9 [385, 389, 393, 398, 402] (by decide +kernel) (by decide +kernel)
set_option maxRecDepth 20000 in
theorem lin_10 : GoodIn lw_tbl wsL_law_r10 := goodIn_p wsL_law_r10 [405, 416, 420, 424, 430] (by decide +kernel) (by decide +kernel)
set_option maxRecDepth 20000 in
theorem lin_11 : GoodIn lw_tbl wsL_law_r11 := goodIn_p wsL_law_r11 [434, 437, 440, 445, 448, 451, 454] (by decide +kernel) (by decide +kernel)
set_option maxRecDepth 20000 in
theorem lin_12 : GoodIn lw_tbl wsL_law_r12 := goodIn_p wsL_law_r12 [458, 468, 472, 477] (by decide +kernel) (by decide +kernel)
set_option maxRecDepth 20000 in
theorem lin_13 : GoodIn lw_tbl wsL_law_r13 := goodIn_p wsL_law_r13 [524, 528, 532, 536] (by decide +kernel) (by decide +kernel)
set_option maxRecDepth 20000 in
theorem lin_14 : GoodIn lw_tbl wsL_law_r14 := goodIn_p wsL_law_r14 [540, 544, 547, 551, 555, 560] (by decide +kernel) (by decide +kernel)
