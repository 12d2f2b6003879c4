/-! the words of the law, 6 -/
set_option maxRecDepth 20000 in
theorem lin_21 : GoodIn lw_tbl wsL_law_r21 := goodIn_p wsL_law_r21 [1209, 1213, 1217, 1221, 1225, 1229] (by decide +kernel) (by decide +kernel)
set_option maxRecDepth 20000 in
theorem lin_22 : GoodIn lw_tbl wsL_law_r22 := goodIn_p wsL_law_r22 [1233, 1237, 689, 1241, 693] (by decide +kernel) (by decide +kernel)
set_option maxRecDepth 20000 in
theorem lin_23 : GoodIn lw_tbl wsL_law_r23 := goodIn_p wsL_law_r23 [1245, 697, 1249, 701, 705] (by decide +kernel) (by decide +kernel)
set_option maxRecDepth 20000 in
theorem lin_24 : GoodIn lw_tbl wsL_law_r24 := goodIn_p wsL_law_r24 [708, 711, 715, 720, 1253] (by decide +kernel) (by decide +kernel)
set_option maxRecDepth 20000 in
theorem lin_25 : GoodIn lw_tbl wsL_law_r25 := goodIn_p wsL_law_r25 [1256, 747, 751, 756] (by decide +kernel) (by decide +kernel)
set_option maxRecDepth 20000 in
theorem lin_26 : GoodIn lw_tbl wsL_law_r26 := goodIn_p wsL_law_r26 [760, 763, 768, 772] (by decide +kernel) (by decide +kernel)
