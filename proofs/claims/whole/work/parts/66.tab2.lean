/-! the law's words among the tables' -/
set_option maxRecDepth 20000 in
theorem wsL_tab_8 : GoodIn lw_tbl wsL_law0_r8 := goodIn_p _ [775, 779, 379, 383, 783] (by decide +kernel) (by decide +kernel)
set_option maxRecDepth 20000 in
theorem wsL_tab_9 : GoodIn lw_tbl wsL_law0_r9 := goodIn_p _ [786, 392, 790, 400] (by decide +kernel) (by decide +kernel)
set_option maxRecDepth 20000 in
theorem wsL_tab_10 : GoodIn lw_tbl wsL_law0_r10 := goodIn_p _ [406, 794, 413, 419, 424] (by decide +kernel) (by decide +kernel)
set_option maxRecDepth 20000 in
theorem wsL_tab_11 : GoodIn lw_tbl wsL_law0_r11 := goodIn_p _ [428, 432, 436, 440, 444] (by decide +kernel) (by decide +kernel)
set_option maxRecDepth 20000 in
theorem wsL_tab_12 : GoodIn lw_tbl wsL_law0_r12 := goodIn_p _ [448, 452, 456, 460, 798] (by decide +kernel) (by decide +kernel)
set_option maxRecDepth 20000 in
theorem wsL_tab_13 : GoodIn lw_tbl wsL_law0_r13 := goodIn_p _ [802, 806, 810, 814, 467] (by decide +kernel) (by decide +kernel)
set_option maxRecDepth 20000 in
theorem wsL_tab_14 : GoodIn lw_tbl wsL_law0_r14 := goodIn_p _ [471, 475, 818, 822] (by decide +kernel) (by decide +kernel)
