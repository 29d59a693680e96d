/-! the law's words among the tables' -/
set_option maxRecDepth 20000 in
theorem wsL_tab_15 : GoodIn lw_tbl wsL_law0_r15 := goodIn_p _ [485, 489, 493, 497, 501, 505] (by decide +kernel) (by decide +kernel)
set_option maxRecDepth 20000 in
theorem wsL_tab_16 : GoodIn lw_tbl wsL_law0_r16 := goodIn_p _ [510, 514, 519, 523, 527, 532] (by decide +kernel) (by decide +kernel)
set_option maxRecDepth 20000 in
theorem wsL_tab_17 : GoodIn lw_tbl wsL_law0_r17 := goodIn_p _ [539, 543, 548, 553] (by decide +kernel) (by decide +kernel)
set_option maxRecDepth 20000 in
theorem wsL_tab_18 : GoodIn lw_tbl wsL_law0_r18 := goodIn_p _ [826, 830, 834, 838, 842] (by decide +kernel) (by decide +kernel)
set_option maxRecDepth 20000 in
theorem wsL_tab_19 : GoodIn lw_tbl wsL_law0_r19 := goodIn_p _ [846, 561, 565, 569, 850] (by decide +kernel) (by decide +kernel)
set_option maxRecDepth 20000 in
theorem wsL_tab_20 : GoodIn lw_tbl wsL_law0_r20 := goodIn_p _ [854, 579, 585, 589] (by decide +kernel) (by decide +kernel)
set_option maxRecDepth 20000 in
theorem wsL_tab_21 : GoodIn lw_tbl wsL_law0_r21 := goodIn_p _ [594, 598, 858, 862, 866, 237] (by decide +kernel) (by decide +kernel)
