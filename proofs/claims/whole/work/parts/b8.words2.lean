set_option maxRecDepth 20000 in
theorem wg_wsL_law0_r21 : GoodIn lw_tbl wsL_law0_r21 := goodIn_p _ [1706, 700, 1710, 1340] (by decide +kernel) (by decide +kernel)
set_option maxRecDepth 20000 in
theorem wg_wsL_law0_r22 : GoodIn lw_tbl wsL_law0_r22 := goodIn_p _ [759, 1044, 775, 779, 897] (by decide +kernel) (by decide +kernel)
set_option maxRecDepth 20000 in
theorem wg_wsL_law0_r23 : GoodIn lw_tbl wsL_law0_r23 := goodIn_p _ [741, 901, 905, 909, 1714] (by decide +kernel) (by decide +kernel)
set_option maxRecDepth 20000 in
theorem wg_wsL_law0_r24 : GoodIn lw_tbl wsL_law0_r24 := goodIn_p _ [1718, 1722, 1726, 1730, 1734, 1738] (by decide +kernel) (by decide +kernel)
set_option maxRecDepth 20000 in
theorem wg_wsL_law0_r25 : GoodIn lw_tbl wsL_law0_r25 := goodIn_p _ [1742, 1746, 1750, 1753, 1423, 708] (by decide +kernel) (by decide +kernel)
set_option maxRecDepth 20000 in
theorem wg_wsL_law0_r26 : GoodIn lw_tbl wsL_law0_r26 := goodIn_p _ [712, 716, 720, 1757, 1761] (by decide +kernel) (by decide +kernel)
set_option maxRecDepth 20000 in
theorem wg_wsL_law0_r27 : GoodIn lw_tbl wsL_law0_r27 := goodIn_p _ [1765, 725, 729, 733, 737] (by decide +kernel) (by decide +kernel)
set_option maxRecDepth 20000 in
theorem wg_wsL_law0_r28 : GoodIn lw_tbl wsL_law0_r28 := goodIn_p _ [747, 751, 1769, 1773, 1777, 1781] (by decide +kernel) (by decide +kernel)
set_option maxRecDepth 20000 in
theorem wg_wsL_law0_r29 : GoodIn lw_tbl wsL_law0_r29 := goodIn_p _ [755, 763, 767, 771, 783, 787] (by decide +kernel) (by decide +kernel)
set_option maxRecDepth 20000 in
theorem wg_wsL_law0_r30 : GoodIn lw_tbl wsL_law0_r30 := goodIn_p _ [1785, 1789, 1793, 1797, 1801, 1805] (by decide +kernel) (by decide +kernel)
set_option maxRecDepth 20000 in
theorem wg_wsL_law0_r31 : GoodIn lw_tbl wsL_law0_r31 := goodIn_p _ [1809, 1812, 1816, 792, 796, 800] (by decide +kernel) (by decide +kernel)
set_option maxRecDepth 20000 in
theorem wg_wsL_law0_r32 : GoodIn lw_tbl wsL_law0_r32 := goodIn_p _ [1820, 805, 809, 1824, 813, 817] (by decide +kernel) (by decide +kernel)
set_option maxRecDepth 20000 in
theorem wg_wsL_law0_r33 : GoodIn lw_tbl wsL_law0_r33 := goodIn_p _ [1828, 821, 825, 1832, 829, 833] (by decide +kernel) (by decide +kernel)
set_option maxRecDepth 20000 in
theorem wg_wsL_law0_r34 : GoodIn lw_tbl wsL_law0_r34 := goodIn_p _ [1836, 837, 841, 1840, 845, 849] (by decide +kernel) (by decide +kernel)
set_option maxRecDepth 20000 in
theorem wg_wsL_law0_r35 : GoodIn lw_tbl wsL_law0_r35 := goodIn_p _ [853, 857, 861, 1848, 1852] (by decide +kernel) (by decide +kernel)
set_option maxRecDepth 20000 in
theorem wg_wsL_law0_r36 : GoodIn lw_tbl wsL_law0_r36 := goodIn_p _ [1856, 1860, 885, 889, 1844, 893] (by decide +kernel) (by decide +kernel)
set_option maxRecDepth 20000 in
theorem wg_wsL_law0_r37 : GoodIn lw_tbl wsL_law0_r37 := goodIn_p _ [914, 918, 922, 926, 930] (by decide +kernel) (by decide +kernel)
set_option maxRecDepth 20000 in
theorem wg_wsL_law0_r38 : GoodIn lw_tbl wsL_law0_r38 := goodIn_p _ [1864, 1868, 1872, 935, 1876, 939] (by decide +kernel) (by decide +kernel)
set_option maxRecDepth 20000 in
theorem wg_wsL_law0_r39 : GoodIn lw_tbl wsL_law0_r39 := goodIn_p _ [943, 947, 951, 955, 1880] (by decide +kernel) (by decide +kernel)
set_option maxRecDepth 20000 in
theorem wg_wsL_law0_r40 : GoodIn lw_tbl wsL_law0_r40 := goodIn_p _ [1884, 959, 1889, 963, 967, 970] (by decide +kernel) (by decide +kernel)
