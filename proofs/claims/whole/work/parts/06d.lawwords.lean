set_option maxRecDepth 20000 in
theorem gwsL_law_r13 : GoodIn lw_tbl wsL_law_r13 := goodIn_p _ [558, 311, 316, 320] (by decide +kernel) (by decide +kernel)
set_option maxRecDepth 20000 in
theorem gwsL_law_r14 : GoodIn lw_tbl wsL_law_r14 := goodIn_p _ [326, 330, 334, 338, 343, 348] (by decide +kernel) (by decide +kernel)
set_option maxRecDepth 20000 in
theorem gwsL_law_r15 : GoodIn lw_tbl wsL_law_r15 := goodIn_p _ [352, 357, 361, 366, 370] (by decide +kernel) (by decide +kernel)
set_option maxRecDepth 20000 in
theorem gwsL_law_r16 : GoodIn lw_tbl wsL_law_r16 := goodIn_p _ [375, 380, 581, 585] (by decide +kernel) (by decide +kernel)
set_option maxRecDepth 20000 in
theorem gwsL_law_r17 : GoodIn lw_tbl wsL_law_r17 := goodIn_p _ [589, 593, 597, 384, 388] (by decide +kernel) (by decide +kernel)
set_option maxRecDepth 20000 in
theorem gwsL_law_r18 : GoodIn lw_tbl wsL_law_r18 := goodIn_p _ [395, 601, 554, 399, 403] (by decide +kernel) (by decide +kernel)
