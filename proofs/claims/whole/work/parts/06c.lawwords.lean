set_option maxRecDepth 20000 in
theorem gwsL_law_r7 : GoodIn lw_tbl wsL_law_r7 := goodIn_p _ [221, 224, 228, 233, 237, 240] (by decide +kernel) (by decide +kernel)
set_option maxRecDepth 20000 in
theorem gwsL_law_r8 : GoodIn lw_tbl wsL_law_r8 := goodIn_p _ [243, 249, 529, 533, 536] (by decide +kernel) (by decide +kernel)
set_option maxRecDepth 20000 in
theorem gwsL_law_r9 : GoodIn lw_tbl wsL_law_r9 := goodIn_p _ [253, 257, 542, 261, 265] (by decide +kernel) (by decide +kernel)
set_option maxRecDepth 20000 in
theorem gwsL_law_r10 : GoodIn lw_tbl wsL_law_r10 := goodIn_p _ [546, 269, 550, 273, 277, 281] (by decide +kernel) (by decide +kernel)
set_option maxRecDepth 20000 in
theorem gwsL_law_r11 : GoodIn lw_tbl wsL_law_r11 := goodIn_p _ [285, 290, 295, 300, 304] (by decide +kernel) (by decide +kernel)
set_option maxRecDepth 20000 in
theorem gwsL_law_r12 : GoodIn lw_tbl wsL_law_r12 := goodIn_p _ [307, 562, 567, 570, 573, 577] (by decide +kernel) (by decide +kernel)
