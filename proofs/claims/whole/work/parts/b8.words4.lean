set_option maxRecDepth 20000 in
theorem wg_wsL_law0_r61 : GoodIn lw_tbl wsL_law0_r61 := goodIn_p _ [1259, 1266, 1285] (by decide +kernel) (by decide +kernel)
set_option maxRecDepth 20000 in
theorem wg_wsL_law0_r62 : GoodIn lw_tbl wsL_law0_r62 := goodIn_p _ [1295, 2052, 2056, 2076, 2060] (by decide +kernel) (by decide +kernel)
set_option maxRecDepth 20000 in
theorem wg_wsL_law0_r63 : GoodIn lw_tbl wsL_law0_r63 := goodIn_p _ [2068, 2072, 2064, 2080, 2084, 1300] (by decide +kernel) (by decide +kernel)
set_option maxRecDepth 20000 in
theorem wg_wsL_law0_r64 : GoodIn lw_tbl wsL_law0_r64 := goodIn_p _ [1304, 1308, 1312, 1317] (by decide +kernel) (by decide +kernel)
set_option maxRecDepth 20000 in
theorem wg_wsL_law0_r65 : GoodIn lw_tbl wsL_law0_r65 := goodIn_p _ [2088, 2092, 1321, 1325, 2096] (by decide +kernel) (by decide +kernel)
set_option maxRecDepth 20000 in
theorem wg_wsL_law0_r66 : GoodIn lw_tbl wsL_law0_r66 := goodIn_p _ [1332, 2100, 704, 2104] (by decide +kernel) (by decide +kernel)
set_option maxRecDepth 20000 in
theorem wg_wsX110 : GoodIn lw_tbl wsX110 := goodIn_p _ [] (by decide +kernel) (by decide +kernel)
set_option maxRecDepth 20000 in
theorem wg_wsX120 : GoodIn lw_tbl wsX120 := goodIn_p _ [] (by decide +kernel) (by decide +kernel)
set_option maxRecDepth 20000 in
theorem wg_wsX90 : GoodIn lw_tbl wsX90 := goodIn_p _ [] (by decide +kernel) (by decide +kernel)
set_option maxRecDepth 20000 in
theorem wg_wsX60 : GoodIn lw_tbl wsX60 := goodIn_p _ [] (by decide +kernel) (by decide +kernel)
set_option maxRecDepth 20000 in
theorem wg_wsX10 : GoodIn lw_tbl wsX10 := goodIn_p _ [] (by decide +kernel) (by decide +kernel)
set_option maxRecDepth 20000 in
theorem wg_wsX40 : GoodIn lw_tbl wsX40 := goodIn_p _ [] (by decide +kernel) (by decide +kernel)
set_option maxRecDepth 20000 in
theorem wg_wsX30 : GoodIn lw_tbl wsX30 := goodIn_p _ [] (by decide +kernel) (by decide +kernel)
set_option maxRecDepth 20000 in
theorem wg_wsX00 : GoodIn lw_tbl wsX00 := goodIn_p _ [] (by decide +kernel) (by decide +kernel)
set_option maxRecDepth 20000 in
theorem wg_wsX80 : GoodIn lw_tbl wsX80 := goodIn_p _ [] (by decide +kernel) (by decide +kernel)
set_option maxRecDepth 20000 in
theorem wg_wsX20 : GoodIn lw_tbl wsX20 := goodIn_p _ [] (by decide +kernel) (by decide +kernel)
set_option maxRecDepth 20000 in
theorem wg_wsX70 : GoodIn lw_tbl wsX70 := goodIn_p _ [] (by decide +kernel) (by decide +kernel)
set_option maxRecDepth 20000 in
theorem wg_wsX50 : GoodIn lw_tbl wsX50 := goodIn_p _ [] (by decide +kernel) (by decide +kernel)
