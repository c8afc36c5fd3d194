set_option maxRecDepth 20000 in
theorem gwsL_law_r19 : GoodIn lw_tbl wsL_law_r19 := goodIn_p _ [407, 609, 412, 613, 417] (by decide +kernel) (by decide +kernel)
set_option maxRecDepth 20000 in
theorem gwsL_law_r20 : GoodIn lw_tbl wsL_law_r20 := goodIn_p _ [617, 421, 425, 621, 430, 434] (by decide +kernel) (by decide +kernel)
set_option maxRecDepth 20000 in
theorem gwsL_law_r21 : GoodIn lw_tbl wsL_law_r21 := goodIn_p _ [625, 438, 443, 629] (by decide +kernel) (by decide +kernel)
