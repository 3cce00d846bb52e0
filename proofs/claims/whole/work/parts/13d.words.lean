/-! the law's words among the tables' -/
set_option maxRecDepth 100000 in
theorem lin_12 : GoodIn lw_tbl wsL_law_r12 := goodIn_p _ [395, 254, 258, 262, 292, 295, 266, 269] (by decide +kernel) (by decide +kernel)
set_option maxRecDepth 100000 in
theorem lin_13 : GoodIn lw_tbl wsL_law_r13 := goodIn_p _ [272, 279, 283, 289, 399] (by decide +kernel) (by decide +kernel)
set_option maxRecDepth 100000 in
theorem lin_14 : GoodIn lw_tbl wsL_law_r14 := goodIn_p _ [402, 405, 408, 299, 412] (by decide +kernel) (by decide +kernel)
set_option maxRecDepth 100000 in
theorem lin_wsX20 : GoodIn lw_tbl wsX20 := goodIn_p _ [] (by decide +kernel) (by decide +kernel)
set_option maxRecDepth 100000 in
theorem lin_wsX30 : GoodIn lw_tbl wsX30 := goodIn_p _ [] (by decide +kernel) (by decide +kernel)
set_option maxRecDepth 100000 in
theorem lin_wsX00 : GoodIn lw_tbl wsX00 := goodIn_p _ [] (by decide +kernel) (by decide +kernel)
theorem wsL_law_good : GoodIn lw_tbl wsL_law := goodIn_app (goodIn_app (goodIn_app (goodIn_app (goodIn_app lin_1 (goodIn_app lin_2 (goodIn_app lin_3 (goodIn_app lin_4 (goodIn_app lin_5 (goodIn_app lin_6 (goodIn_app lin_7 (goodIn_app lin_8 (goodIn_app lin_9 (goodIn_app lin_10 (goodIn_app lin_11 (goodIn_app lin_12 (goodIn_app lin_13 (lin_14)))))))))))))) lin_wsX20) lin_wsX30) lin_wsX00) (fun _ h => absurd h List.not_mem_nil)
theorem wsL_law_in : ∀ w ∈ wsL_law, w ∈ lw_tbl := fun w h => (wsL_law_good w h).1
