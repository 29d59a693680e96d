/-! the law's words among the tables' -/
set_option maxRecDepth 20000 in
theorem wsL_tab_22 : GoodIn lw_tbl wsL_law0_r22 := goodIn_p _ [870, 605, 874, 612] (by decide +kernel) (by decide +kernel)
set_option maxRecDepth 20000 in
theorem wsL_tab_23 : GoodIn lw_tbl wsL_law0_r23 := goodIn_p _ [878, 620, 882, 627] (by decide +kernel) (by decide +kernel)
set_option maxRecDepth 20000 in
theorem wsL_tab_24 : GoodIn lw_tbl wsL_law0_r24 := goodIn_p _ [886, 634, 890, 642, 645] (by decide +kernel) (by decide +kernel)
set_option maxRecDepth 20000 in
theorem wsL_tab_25 : GoodIn lw_tbl wsL_law0_r25 := goodIn_p _ [649, 653, 894, 661] (by decide +kernel) (by decide +kernel)
set_option maxRecDepth 20000 in
theorem wsL_tab_26 : GoodIn lw_tbl wsL_law0_r26 := goodIn_p _ [664, 898, 673, 903] (by decide +kernel) (by decide +kernel)
