/-! the law's words among the tables' -/
set_option maxRecDepth 100000 in
theorem lin_5 : GoodIn lw_tbl wsL_law_r5 := goodIn_p _ [133, 136, 339, 343, 346, 349, 141] (by decide +kernel) (by decide +kernel)
set_option maxRecDepth 100000 in
theorem lin_6 : GoodIn lw_tbl wsL_law_r6 := goodIn_p _ [145, 353, 149, 152, 155, 159, 163] (by decide +kernel) (by decide +kernel)
set_option maxRecDepth 100000 in
theorem lin_7 : GoodIn lw_tbl wsL_law_r7 := goodIn_p _ [167, 171, 174, 178, 183, 187] (by decide +kernel) (by decide +kernel)
set_option maxRecDepth 100000 in
theorem lin_8 : GoodIn lw_tbl wsL_law_r8 := goodIn_p _ [191, 195, 198, 202, 206, 210, 214] (by decide +kernel) (by decide +kernel)
