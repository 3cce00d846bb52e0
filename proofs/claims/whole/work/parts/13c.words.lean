/-! the law's words among the tables' -/
set_option maxRecDepth 100000 in
theorem lin_9 : GoodIn lw_tbl wsL_law_r9 := goodIn_p _ [218, 221, 224, 228, 234, 238, 242] (by decide +kernel) (by decide +kernel)
set_option maxRecDepth 100000 in
theorem lin_10 : GoodIn lw_tbl wsL_law_r10 := goodIn_p _ [246, 250, 357, 361, 364, 367, 370] (by decide +kernel) (by decide +kernel)
set_option maxRecDepth 100000 in
theorem lin_11 : GoodIn lw_tbl wsL_law_r11 := goodIn_p _ [374, 377, 380, 383, 386, 392] (by decide +kernel) (by decide +kernel)
