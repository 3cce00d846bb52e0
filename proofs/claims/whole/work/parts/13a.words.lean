/-! the law's words among the tables' -/
set_option maxRecDepth 100000 in
theorem lin_1 : GoodIn lw_tbl wsL_law_r1 := goodIn_p _ [50, 53, 305] (by decide +kernel) (by decide +kernel)
set_option maxRecDepth 100000 in
theorem lin_2 : GoodIn lw_tbl wsL_law_r2 := goodIn_p _ [66, 72, 78] (by decide +kernel) (by decide +kernel)
set_option maxRecDepth 100000 in
theorem lin_3 : GoodIn lw_tbl wsL_law_r3 := goodIn_p _ [82, 87, 322, 327] (by decide +kernel) (by decide +kernel)
set_option maxRecDepth 100000 in
theorem lin_4 : GoodIn lw_tbl wsL_law_r4 := goodIn_p _ [332, 113, 117, 121, 125, 129] (by decide +kernel) (by decide +kernel)
