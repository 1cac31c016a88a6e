set_option maxRecDepth 20000 in
theorem wg_wsL_law0_r1 : GoodIn lw_tbl wsL_law0_r1 := goodIn_p _ [162, 165] (by decide +kernel) (by decide +kernel)
set_option maxRecDepth 20000 in
theorem wg_wsL_law0_r2 : GoodIn lw_tbl wsL_law0_r2 := goodIn_p _ [] (by decide +kernel) (by decide +kernel)
set_option maxRecDepth 20000 in
theorem wg_wsL_law0_r3 : GoodIn lw_tbl wsL_law0_r3 := goodIn_p _ [170, 176, 233] (by decide +kernel) (by decide +kernel)
set_option maxRecDepth 20000 in
theorem wg_wsL_law0_r4 : GoodIn lw_tbl wsL_law0_r4 := goodIn_p _ [239, 301] (by decide +kernel) (by decide +kernel)
set_option maxRecDepth 20000 in
theorem wg_wsL_law0_r5 : GoodIn lw_tbl wsL_law0_r5 := goodIn_p _ [305, 356] (by decide +kernel) (by decide +kernel)
set_option maxRecDepth 20000 in
theorem wg_wsL_law0_r6 : GoodIn lw_tbl wsL_law0_r6 := goodIn_p _ [402, 421, 447] (by decide +kernel) (by decide +kernel)
set_option maxRecDepth 20000 in
theorem wg_wsL_law0_r7 : GoodIn lw_tbl wsL_law0_r7 := goodIn_p _ [479, 1440] (by decide +kernel) (by decide +kernel)
set_option maxRecDepth 20000 in
theorem wg_wsL_law0_r8 : GoodIn lw_tbl wsL_law0_r8 := goodIn_p _ [] (by decide +kernel) (by decide +kernel)
set_option maxRecDepth 20000 in
theorem wg_wsL_law0_r9 : GoodIn lw_tbl wsL_law0_r9 := goodIn_p _ [1445, 560, 564, 1427, 1432] (by decide +kernel) (by decide +kernel)
set_option maxRecDepth 20000 in
theorem wg_wsL_law0_r10 : GoodIn lw_tbl wsL_law0_r10 := goodIn_p _ [568, 1436, 572, 576, 580] (by decide +kernel) (by decide +kernel)
set_option maxRecDepth 20000 in
theorem wg_wsL_law0_r11 : GoodIn lw_tbl wsL_law0_r11 := goodIn_p _ [584, 594, 588, 591] (by decide +kernel) (by decide +kernel)
set_option maxRecDepth 20000 in
theorem wg_wsL_law0_r12 : GoodIn lw_tbl wsL_law0_r12 := goodIn_p _ [597, 600, 604, 607, 610, 615] (by decide +kernel) (by decide +kernel)
set_option maxRecDepth 20000 in
theorem wg_wsL_law0_r13 : GoodIn lw_tbl wsL_law0_r13 := goodIn_p _ [619, 625, 629, 634] (by decide +kernel) (by decide +kernel)
set_option maxRecDepth 20000 in
theorem wg_wsL_law0_r14 : GoodIn lw_tbl wsL_law0_r14 := goodIn_p _ [638, 642, 646, 653, 657, 660, 666] (by decide +kernel) (by decide +kernel)
set_option maxRecDepth 20000 in
theorem wg_wsL_law0_r15 : GoodIn lw_tbl wsL_law0_r15 := goodIn_p _ [672, 676, 680, 687] (by decide +kernel) (by decide +kernel)
set_option maxRecDepth 20000 in
theorem wg_wsL_law0_r16 : GoodIn lw_tbl wsL_law0_r16 := goodIn_p _ [692, 696, 1607, 1611] (by decide +kernel) (by decide +kernel)
set_option maxRecDepth 20000 in
theorem wg_wsL_law0_r17 : GoodIn lw_tbl wsL_law0_r17 := goodIn_p _ [1615, 1619, 1622, 1625, 1629] (by decide +kernel) (by decide +kernel)
set_option maxRecDepth 20000 in
theorem wg_wsL_law0_r18 : GoodIn lw_tbl wsL_law0_r18 := goodIn_p _ [1635, 1639, 1642, 1645, 1649, 1653, 1657] (by decide +kernel) (by decide +kernel)
set_option maxRecDepth 20000 in
theorem wg_wsL_law0_r19 : GoodIn lw_tbl wsL_law0_r19 := goodIn_p _ [1661, 1665, 1668, 1672, 1675, 1679] (by decide +kernel) (by decide +kernel)
set_option maxRecDepth 20000 in
theorem wg_wsL_law0_r20 : GoodIn lw_tbl wsL_law0_r20 := goodIn_p _ [1683, 1687, 1690, 1694, 1698, 1702] (by decide +kernel) (by decide +kernel)
