/-! the law's words among the tables' -/
set_option maxRecDepth 20000 in
theorem wsL_tab_1 : GoodIn lw_tbl wsL_law0_r1 := goodIn_p _ [52, 55] (by decide +kernel) (by decide +kernel)
set_option maxRecDepth 20000 in
theorem wsL_tab_2 : GoodIn lw_tbl wsL_law0_r2 := goodIn_p _ [60, 99] (by decide +kernel) (by decide +kernel)
set_option maxRecDepth 20000 in
theorem wsL_tab_3 : GoodIn lw_tbl wsL_law0_r3 := goodIn_p _ [119] (by decide +kernel) (by decide +kernel)
set_option maxRecDepth 20000 in
theorem wsL_tab_4 : GoodIn lw_tbl wsL_law0_r4 := goodIn_p _ [185, 199, 679] (by decide +kernel) (by decide +kernel)
set_option maxRecDepth 20000 in
theorem wsL_tab_5 : GoodIn lw_tbl wsL_law0_r5 := goodIn_p _ [246] (by decide +kernel) (by decide +kernel)
set_option maxRecDepth 20000 in
theorem wsL_tab_6 : GoodIn lw_tbl wsL_law0_r6 := goodIn_p _ [249, 337, 764, 767, 771] (by decide +kernel) (by decide +kernel)
set_option maxRecDepth 20000 in
theorem wsL_tab_7 : GoodIn lw_tbl wsL_law0_r7 := goodIn_p _ [760, 345, 349, 372] (by decide +kernel) (by decide +kernel)
