set_option maxRecDepth 20000 in
theorem lin_wsX80 : GoodIn lw_tbl wsX80 := goodIn_p wsX80 [] (by decide +kernel) (by decide +kernel)
set_option maxRecDepth 20000 in
theorem lin_wsX90 : GoodIn lw_tbl wsX90 := goodIn_p wsX90 [] (by decide +kernel) (by decide +kernel)
set_option maxRecDepth 20000 in
theorem lin_wsX40 : GoodIn lw_tbl wsX40 := goodIn_p wsX40 [] (by decide +kernel) (by decide +kernel)
set_option maxRecDepth 20000 in
theorem lin_wsJx4a65c0 : GoodIn lw_tbl wsJx4a65c0 := goodIn_p wsJx4a65c0 [] (by decide +kernel) (by decide +kernel)
set_option maxRecDepth 20000 in
theorem lin_wsX60 : GoodIn lw_tbl wsX60 := goodIn_p wsX60 [] (by decide +kernel) (by decide +kernel)
set_option maxRecDepth 20000 in
theorem lin_wsX70 : GoodIn lw_tbl wsX70 := goodIn_p wsX70 [] (by decide +kernel) (by decide +kernel)
set_option maxRecDepth 20000 in
theorem lin_wsX50 : GoodIn lw_tbl wsX50 := goodIn_p wsX50 [] (by decide +kernel) (by decide +kernel)
set_option maxRecDepth 20000 in
theorem lin_wsX10 : GoodIn lw_tbl wsX10 := goodIn_p wsX10 [] (by decide +kernel) (by decide +kernel)
set_option maxRecDepth 20000 in
theorem lin_wsX00 : GoodIn lw_tbl wsX00 := goodIn_p wsX00 [] (by decide +kernel) (by decide +kernel)
set_option maxRecDepth 20000 in
theorem lin_wsX20 : GoodIn lw_tbl wsX20 := goodIn_p wsX20 [] (by decide +kernel) (by decide +kernel)
set_option maxRecDepth 20000 in
theorem lin_wsX30 : GoodIn lw_tbl wsX30 := goodIn_p wsX30 [] (by decide +kernel) (by decide +kernel)
theorem wsL_law_in : ∀ w ∈ wsL_law, w ∈ lw_tbl := fun w h => ((goodIn_app (goodIn_app (goodIn_app (goodIn_app (goodIn_app (goodIn_app (goodIn_app (goodIn_app (goodIn_app (goodIn_app (goodIn_app (goodIn_app (goodIn_app lin_1 (goodIn_app lin_2 (goodIn_app lin_3 (goodIn_app lin_4 (goodIn_app lin_5 (goodIn_app lin_6 (goodIn_app lin_7 (goodIn_app lin_8 (goodIn_app lin_9 (goodIn_app lin_10 (goodIn_app lin_11 (goodIn_app lin_12 (goodIn_app lin_13 (goodIn_app lin_14 (goodIn_app lin_15 (goodIn_app lin_16 (goodIn_app lin_17 (goodIn_app lin_18 (goodIn_app lin_19 (goodIn_app lin_20 (goodIn_app lin_21 (goodIn_app lin_22 (goodIn_app lin_23 (goodIn_app lin_24 (goodIn_app lin_25 (goodIn_app lin_26 (goodIn_app lin_27 (goodIn_app lin_28 (goodIn_app lin_29 (goodIn_app lin_30 (goodIn_app lin_31 (goodIn_app lin_32 (goodIn_app lin_33 (goodIn_app lin_34 (goodIn_app lin_35 (goodIn_app lin_36 (goodIn_app lin_37 (goodIn_app lin_38 (goodIn_app lin_39 (goodIn_app lin_40 (lin_41))))))))))))))))))))))))))))))))))))))))) lin_wsX80) lin_wsX90) lin_wsX40) lin_wsJx4a65c0) lin_wsX60) lin_wsX70) lin_wsX50) lin_wsX10) lin_wsX00) lin_wsX20) lin_wsX30) (fun w h => absurd h (List.not_mem_nil)) : GoodIn lw_tbl wsL_law) w h).1
