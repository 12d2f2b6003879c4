/-! the words of the law, 7 -/
set_option maxRecDepth 20000 in
theorem lin_27 : GoodIn lw_tbl wsL_law_r27 := goodIn_p wsL_law_r27 [779, 786, 791] (by decide +kernel) (by decide +kernel)
set_option maxRecDepth 20000 in
theorem lin_28 : GoodIn lw_tbl wsL_law_r28 := goodIn_p wsL_law_r28 [795, 799, 803, 807] (by decide +kernel) (by decide +kernel)
set_option maxRecDepth 20000 in
theorem lin_29 : GoodIn lw_tbl wsL_law_r29 := goodIn_p wsL_law_r29 [811, 816, 820, 825] (by decide +kernel) (by decide +kernel)
set_option maxRecDepth 20000 in
theorem lin_30 : GoodIn lw_tbl wsL_law_r30 := goodIn_p wsL_law_r30 [829, 833, 837, 841, 845, 849] (by decide +kernel) (by decide +kernel)
set_option maxRecDepth 20000 in
theorem lin_31 : GoodIn lw_tbl wsL_law_r31 := goodIn_p wsL_law_r31 [853, 858, 863, 867, 872] (by decide +kernel) (by decide +kernel)
set_option maxRecDepth 20000 in
theorem lin_32 : GoodIn lw_tbl wsL_law_r32 := goodIn_p wsL_law_r32 [1260, 1264, 1268, 1272, 1277] (by decide +kernel) (by decide +kernel)
set_option maxRecDepth 20000 in
theorem lin_33 : GoodIn lw_tbl wsL_law_r33 := goodIn_p wsL_law_r33 [1281, 1285, 1289, 1293, 1297] (by decide +kernel) (by decide +kernel)
