set_option maxRecDepth 20000 in
theorem wg_wsL_law0_r41 : GoodIn lw_tbl wsL_law0_r41 := goodIn_p _ [977, 1893, 1896, 983, 1900] (by decide +kernel) (by decide +kernel)
set_option maxRecDepth 20000 in
theorem wg_wsL_law0_r42 : GoodIn lw_tbl wsL_law0_r42 := goodIn_p _ [987, 991, 1904, 1908, 1912, 995] (by decide +kernel) (by decide +kernel)
set_option maxRecDepth 20000 in
theorem wg_wsL_law0_r43 : GoodIn lw_tbl wsL_law0_r43 := goodIn_p _ [999, 1004, 1008, 1012, 1016] (by decide +kernel) (by decide +kernel)
set_option maxRecDepth 20000 in
theorem wg_wsL_law0_r44 : GoodIn lw_tbl wsL_law0_r44 := goodIn_p _ [1020, 1023, 1916, 1920, 1924, 1027, 1928] (by decide +kernel) (by decide +kernel)
set_option maxRecDepth 20000 in
theorem wg_wsL_law0_r45 : GoodIn lw_tbl wsL_law0_r45 := goodIn_p _ [1031, 1932, 1035, 1039] (by decide +kernel) (by decide +kernel)
set_option maxRecDepth 20000 in
theorem wg_wsL_law0_r46 : GoodIn lw_tbl wsL_law0_r46 := goodIn_p _ [1049, 1053, 1058, 1062, 1936, 1940] (by decide +kernel) (by decide +kernel)
set_option maxRecDepth 20000 in
theorem wg_wsL_law0_r47 : GoodIn lw_tbl wsL_law0_r47 := goodIn_p _ [1066, 1070, 1944, 1413, 1419] (by decide +kernel) (by decide +kernel)
set_option maxRecDepth 20000 in
theorem wg_wsL_law0_r48 : GoodIn lw_tbl wsL_law0_r48 := goodIn_p _ [1948, 1951, 1074, 1078, 1081, 1085] (by decide +kernel) (by decide +kernel)
set_option maxRecDepth 20000 in
theorem wg_wsL_law0_r49 : GoodIn lw_tbl wsL_law0_r49 := goodIn_p _ [1090, 1094, 1098, 1104, 1108] (by decide +kernel) (by decide +kernel)
set_option maxRecDepth 20000 in
theorem wg_wsL_law0_r50 : GoodIn lw_tbl wsL_law0_r50 := goodIn_p _ [1111, 1114, 1119, 1122, 1125, 1128] (by decide +kernel) (by decide +kernel)
set_option maxRecDepth 20000 in
theorem wg_wsL_law0_r51 : GoodIn lw_tbl wsL_law0_r51 := goodIn_p _ [1132, 1143, 1955, 1959, 1963] (by decide +kernel) (by decide +kernel)
set_option maxRecDepth 20000 in
theorem wg_wsL_law0_r52 : GoodIn lw_tbl wsL_law0_r52 := goodIn_p _ [1967, 1971, 1975, 1150, 1979, 865] (by decide +kernel) (by decide +kernel)
set_option maxRecDepth 20000 in
theorem wg_wsL_law0_r53 : GoodIn lw_tbl wsL_law0_r53 := goodIn_p _ [869, 873, 877, 1983, 1987] (by decide +kernel) (by decide +kernel)
set_option maxRecDepth 20000 in
theorem wg_wsL_law0_r54 : GoodIn lw_tbl wsL_law0_r54 := goodIn_p _ [1991, 1995, 2000, 1154, 2004] (by decide +kernel) (by decide +kernel)
set_option maxRecDepth 20000 in
theorem wg_wsL_law0_r55 : GoodIn lw_tbl wsL_law0_r55 := goodIn_p _ [2008, 2012, 1159, 1163, 1168] (by decide +kernel) (by decide +kernel)
set_option maxRecDepth 20000 in
theorem wg_wsL_law0_r56 : GoodIn lw_tbl wsL_law0_r56 := goodIn_p _ [1172, 1177, 1191] (by decide +kernel) (by decide +kernel)
set_option maxRecDepth 20000 in
theorem wg_wsL_law0_r57 : GoodIn lw_tbl wsL_law0_r57 := goodIn_p _ [1204, 1208, 2016, 2020] (by decide +kernel) (by decide +kernel)
set_option maxRecDepth 20000 in
theorem wg_wsL_law0_r58 : GoodIn lw_tbl wsL_law0_r58 := goodIn_p _ [2024, 2028, 2032, 2036, 2040, 2044] (by decide +kernel) (by decide +kernel)
set_option maxRecDepth 20000 in
theorem wg_wsL_law0_r59 : GoodIn lw_tbl wsL_law0_r59 := goodIn_p _ [1220, 2048, 1224, 1228, 1234] (by decide +kernel) (by decide +kernel)
set_option maxRecDepth 20000 in
theorem wg_wsL_law0_r60 : GoodIn lw_tbl wsL_law0_r60 := goodIn_p _ [1281, 1238, 1242, 1245, 1250] (by decide +kernel) (by decide +kernel)
