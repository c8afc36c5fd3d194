set_option maxRecDepth 20000 in
theorem gwsL_law_r1 : GoodIn lw_tbl wsL_law_r1 := goodIn_p _ [27, 30] (by decide +kernel) (by decide +kernel)
set_option maxRecDepth 20000 in
theorem gwsL_law_r2 : GoodIn lw_tbl wsL_law_r2 := goodIn_p _ [35, 54] (by decide +kernel) (by decide +kernel)
set_option maxRecDepth 20000 in
theorem gwsL_law_r3 : GoodIn lw_tbl wsL_law_r3 := goodIn_p _ [91, 97] (by decide +kernel) (by decide +kernel)
set_option maxRecDepth 20000 in
theorem gwsL_law_r4 : GoodIn lw_tbl wsL_law_r4 := goodIn_p _ [142, 448] (by decide +kernel) (by decide +kernel)
set_option maxRecDepth 20000 in
theorem gwsL_law_r5 : GoodIn lw_tbl wsL_law_r5 := goodIn_p _ [195, 198, 202, 514, 517] (by decide +kernel) (by decide +kernel)
set_option maxRecDepth 20000 in
theorem gwsL_law_r6 : GoodIn lw_tbl wsL_law_r6 := goodIn_p _ [206, 210, 214, 217, 521, 525] (by decide +kernel) (by decide +kernel)
