/-! the words of the law, 8 -/
set_option maxRecDepth 20000 in
theorem lin_34 : GoodIn lw_tbl wsL_law_r34 := goodIn_p wsL_law_r34 [1301, 1305, 1310, 876, 881, 1315] (by decide +kernel) (by decide +kernel)
set_option maxRecDepth 20000 in
theorem lin_35 : GoodIn lw_tbl wsL_law_r35 := goodIn_p wsL_law_r35 [886, 889, 893, 897, 1320] (by decide +kernel) (by decide +kernel)
set_option maxRecDepth 20000 in
theorem lin_36 : GoodIn lw_tbl wsL_law_r36 := goodIn_p wsL_law_r36 [902, 906, 910, 914, 918, 1324] (by decide +kernel) (by decide +kernel)
set_option maxRecDepth 20000 in
theorem lin_37 : GoodIn lw_tbl wsL_law_r37 := goodIn_p wsL_law_r37 [922, 926, 1328, 931, 1332] (by decide +kernel) (by decide +kernel)
set_option maxRecDepth 20000 in
theorem lin_38 : GoodIn lw_tbl wsL_law_r38 := goodIn_p wsL_law_r38 [935, 1336, 939, 945, 948] (by decide +kernel) (by decide +kernel)
set_option maxRecDepth 20000 in
theorem lin_39 : GoodIn lw_tbl wsL_law_r39 := goodIn_p wsL_law_r39 [952, 955, 1340, 1345, 959, 1349] (by decide +kernel) (by decide +kernel)
set_option maxRecDepth 20000 in
theorem lin_40 : GoodIn lw_tbl wsL_law_r40 := goodIn_p wsL_law_r40 [963, 969, 973, 977] (by decide +kernel) (by decide +kernel)
set_option maxRecDepth 20000 in
theorem lin_41 : GoodIn lw_tbl wsL_law_r41 := goodIn_p wsL_law_r41 [1353, 981, 1357, 985, 1361] (by decide +kernel) (by decide +kernel)
