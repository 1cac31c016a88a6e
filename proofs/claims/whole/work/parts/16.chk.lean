def am_mpl : List (List (Nat × Nat × Nat × Nat × Nat)) := [
  [(150, 149, 0, 39, 2), (1071, 1069, 1070, 39, 0), (1111, 1109, 1110, 39, 0), (1092, 1090, 1091, 39, 0), (1080, 1078, 1079, 39, 0), (1084, 1082, 1083, 39, 0), (1088, 1086, 1087, 39, 0), (122, 121, 0, 27, 2), (676, 674, 675, 27, 0), (693, 691, 692, 27, 0), (853, 851, 852, 27, 0), (365, 363, 364, 27, 0), (79, 78, 0, 68, 2), (347, 345, 346, 68, 0), (605, 603, 604, 68, 0), (509, 507, 508, 68, 0)],
  [(884, 882, 883, 68, 0), (1016, 1014, 1015, 68, 0), (233, 231, 232, 68, 0), (289, 287, 288, 68, 0), (298, 296, 297, 68, 0), (325, 323, 324, 68, 0), (335, 333, 334, 68, 0), (339, 337, 338, 68, 0), (308, 306, 307, 68, 0), (329, 327, 328, 68, 0), (1321, 1319, 1320, 68, 0), (312, 310, 311, 68, 0), (316, 314, 315, 68, 0), (139, 138, 0, 35, 2), (532, 530, 531, 35, 0), (547, 545, 546, 35, 0)],
  [(543, 541, 542, 35, 0), (990, 988, 989, 35, 0), (652, 650, 651, 35, 0), (648, 646, 647, 35, 0), (954, 952, 953, 35, 0), (965, 963, 964, 35, 0), (868, 866, 867, 35, 0), (880, 878, 879, 35, 0), (872, 870, 871, 35, 0), (876, 874, 875, 35, 0), (915, 913, 914, 35, 0), (919, 917, 918, 35, 0), (927, 925, 926, 35, 0), (923, 921, 922, 35, 0), (130, 129, 0, 31, 2), (1309, 1307, 1308, 31, 0)],
  [(1315, 1313, 1314, 31, 0), (1324, 1323, 0, 31, 1), (1334, 1332, 1333, 31, 0), (1344, 1342, 1343, 31, 0), (1348, 1346, 1347, 31, 0), (111, 110, 0, 76, 2), (361, 359, 360, 76, 0), (1465, 1463, 1464, 76, 0), (1408, 1406, 1407, 76, 0), (1415, 1413, 1414, 76, 0), (1426, 1419, 1420, 76, 0), (1431, 1429, 1430, 76, 0), (1435, 1434, 0, 76, 1), (1438, 1437, 0, 76, 1), (1444, 1443, 0, 76, 1), (1449, 1448, 0, 76, 1)],
  [(1459, 1457, 1458, 76, 0), (1425, 1423, 1424, 76, 0), (1515, 1513, 1514, 76, 0), (1520, 1518, 1519, 76, 0), (1524, 1522, 1523, 76, 0), (1531, 1530, 0, 76, 1), (63, 62, 0, 21, 2), (1550, 1548, 1549, 21, 0), (94, 93, 0, 72, 2), (355, 353, 354, 72, 0), (680, 678, 679, 72, 0), (522, 520, 521, 72, 0), (518, 516, 517, 72, 0), (684, 682, 683, 72, 0), (737, 735, 736, 72, 0), (743, 741, 742, 72, 0)],
  [(755, 753, 754, 72, 0), (767, 765, 766, 72, 0), (779, 777, 778, 72, 0), (791, 789, 790, 72, 0), (803, 801, 802, 72, 0), (815, 813, 814, 72, 0), (819, 817, 818, 72, 0), (824, 822, 823, 72, 0), (1249, 1247, 1248, 72, 0), (1253, 1251, 1252, 72, 0), (1257, 1255, 1256, 72, 0), (513, 511, 512, 72, 0), (539, 537, 538, 72, 0), (609, 607, 608, 72, 0), (636, 634, 635, 72, 0), (613, 611, 612, 72, 0)],
  [(640, 638, 639, 72, 0), (644, 642, 643, 72, 0), (58, 57, 0, 55, 2), (202, 200, 201, 55, 0), (258, 256, 257, 55, 0), (51, 50, 0, 15, 2), (238, 236, 237, 15, 0), (246, 244, 245, 15, 0), (271, 269, 270, 15, 0), (303, 301, 302, 15, 0), (343, 341, 342, 15, 0), (320, 318, 319, 15, 0), (261, 260, 0, 15, 1), (264, 263, 0, 15, 1), (267, 266, 0, 15, 1), (285, 284, 0, 15, 1)],
  [(277, 275, 0, 276, 1), (1147, 1146, 0, 276, 1), (9, 8, 0, 2, 2), (197, 195, 196, 2, 0), (216, 214, 215, 2, 0), (224, 222, 223, 2, 0), (485, 483, 484, 2, 0), (1569, 1567, 1568, 2, 0), (498, 496, 497, 2, 0), (598, 596, 597, 2, 0), (629, 627, 628, 2, 0), (672, 670, 671, 2, 0), (733, 731, 732, 2, 0), (751, 749, 750, 2, 0), (763, 761, 762, 2, 0), (775, 773, 774, 2, 0)],
  [(787, 785, 786, 2, 0), (799, 797, 798, 2, 0), (811, 809, 810, 2, 0), (1245, 1243, 1244, 2, 0), (849, 847, 848, 2, 0), (689, 687, 688, 2, 0), (829, 827, 828, 2, 0), (527, 525, 526, 2, 0), (861, 859, 860, 2, 0), (902, 900, 901, 2, 0), (910, 908, 909, 2, 0), (941, 939, 940, 2, 0), (950, 948, 949, 2, 0), (978, 976, 977, 2, 0), (986, 984, 985, 2, 0), (1122, 1120, 1121, 2, 0)],
  [(1127, 1126, 0, 2, 1), (1006, 1004, 1005, 2, 0), (1020, 1018, 1019, 2, 0), (1010, 1008, 1009, 2, 0), (1024, 1022, 1023, 2, 0), (1028, 1026, 1027, 2, 0), (1032, 1030, 1031, 2, 0), (1051, 1049, 1050, 2, 0), (1059, 1057, 1058, 2, 0), (1067, 1065, 1066, 2, 0), (1107, 1105, 1106, 2, 0), (1138, 1136, 1137, 2, 0), (1237, 1235, 1236, 2, 0), (1151, 1149, 1150, 2, 0), (1155, 1153, 1154, 2, 0), (1144, 1142, 1143, 2, 0)],
  [(1208, 1206, 1207, 2, 0), (1287, 1285, 1286, 2, 0), (1304, 1302, 1303, 2, 0), (1395, 1393, 1394, 2, 0), (1403, 1401, 1402, 2, 0), (1510, 1508, 1509, 2, 0), (1545, 1543, 1544, 2, 0), (1561, 1559, 1560, 2, 0), (331, 330, 0, 2, 1), (594, 592, 593, 5, 0), (559, 557, 558, 5, 0), (212, 210, 211, 5, 0), (206, 204, 205, 5, 0), (220, 218, 219, 5, 0), (385, 383, 384, 5, 0), (450, 449, 0, 5, 1)],
  [(465, 464, 0, 5, 1), (974, 973, 0, 5, 1), (725, 724, 0, 5, 1), (1134, 1133, 0, 5, 1), (405, 403, 404, 5, 0), (401, 400, 0, 5, 1), (398, 397, 0, 5, 1), (389, 387, 388, 5, 0), (419, 418, 0, 5, 1), (416, 415, 0, 5, 1), (413, 411, 412, 5, 0), (481, 479, 480, 5, 0), (439, 437, 438, 5, 0), (431, 429, 430, 5, 0), (446, 444, 445, 5, 0), (477, 475, 476, 5, 0)],
  [(377, 375, 376, 5, 0), (163, 162, 0, 5, 2), (193, 191, 192, 5, 0), (442, 441, 0, 5, 1), (435, 433, 434, 5, 0), (462, 460, 461, 5, 0), (427, 425, 426, 5, 0), (454, 452, 453, 5, 0), (423, 421, 422, 5, 0), (458, 456, 457, 5, 0), (469, 467, 468, 5, 0), (473, 471, 472, 5, 0), (409, 407, 408, 5, 0), (369, 367, 368, 5, 0), (489, 487, 488, 5, 0), (621, 619, 620, 5, 0)],
  [(555, 553, 554, 5, 0), (583, 581, 582, 5, 0), (567, 565, 566, 5, 0), (571, 569, 570, 5, 0), (579, 577, 578, 5, 0), (575, 573, 574, 5, 0), (590, 589, 0, 5, 1), (625, 623, 624, 5, 0), (563, 561, 562, 5, 0), (587, 585, 586, 5, 0), (551, 549, 550, 5, 0), (617, 615, 616, 5, 0), (660, 658, 659, 5, 0), (668, 666, 667, 5, 0), (664, 662, 663, 5, 0), (998, 996, 997, 5, 0)],
  [(656, 654, 655, 5, 0), (714, 712, 713, 5, 0), (710, 708, 709, 5, 0), (706, 704, 705, 5, 0), (722, 720, 721, 5, 0), (729, 727, 728, 5, 0), (718, 716, 717, 5, 0), (702, 700, 701, 5, 0), (698, 696, 697, 5, 0), (747, 745, 746, 5, 0), (759, 757, 758, 5, 0), (771, 769, 770, 5, 0), (783, 781, 782, 5, 0), (795, 793, 794, 5, 0), (807, 805, 806, 5, 0), (857, 855, 856, 5, 0)],
  [(845, 843, 844, 5, 0), (841, 839, 840, 5, 0), (837, 835, 836, 5, 0), (833, 831, 832, 5, 0), (894, 892, 893, 5, 0), (898, 896, 897, 5, 0), (889, 887, 888, 5, 0), (906, 904, 905, 5, 0), (937, 935, 936, 5, 0), (931, 929, 930, 5, 0), (946, 944, 945, 5, 0), (971, 969, 970, 5, 0), (982, 980, 981, 5, 0), (1002, 1000, 1001, 5, 0), (994, 992, 993, 5, 0), (1043, 1041, 1042, 5, 0)],
  [(1047, 1045, 1046, 5, 0), (1039, 1037, 1038, 5, 0), (1055, 1053, 1054, 5, 0), (1063, 1061, 1062, 5, 0), (1103, 1101, 1102, 5, 0), (1096, 1094, 1095, 5, 0), (1115, 1113, 1114, 5, 0), (1131, 1129, 1130, 5, 0), (1221, 1219, 1220, 5, 0), (1217, 1215, 1216, 5, 0), (1233, 1231, 1232, 5, 0), (1225, 1223, 1224, 5, 0), (1229, 1227, 1228, 5, 0), (1212, 1210, 1211, 5, 0), (1241, 1239, 1240, 5, 0), (1278, 1276, 1277, 5, 0)],
  [(1283, 1281, 1282, 5, 0), (1274, 1272, 1273, 5, 0), (1269, 1267, 1268, 5, 0), (1265, 1263, 1264, 5, 0), (1296, 1294, 1295, 5, 0), (1300, 1298, 1299, 5, 0), (1292, 1290, 1291, 5, 0), (1383, 1381, 1382, 5, 0), (1379, 1377, 1378, 5, 0), (1375, 1373, 1374, 5, 0), (1371, 1369, 1370, 5, 0), (1367, 1365, 1366, 5, 0), (1387, 1385, 1386, 5, 0), (1361, 1359, 1360, 5, 0), (1391, 1389, 1390, 5, 0), (1399, 1397, 1398, 5, 0)],
  [(1485, 1483, 1484, 5, 0), (1478, 1476, 1477, 5, 0), (1486, 1480, 1481, 5, 0), (1492, 1488, 1489, 5, 0), (1491, 1497, 1498, 5, 0), (1490, 1494, 1495, 5, 0), (1502, 1500, 1501, 5, 0), (1506, 1504, 1505, 5, 0), (1470, 1468, 1469, 5, 0), (1541, 1539, 1540, 5, 0), (1537, 1535, 1536, 5, 0), (1557, 1555, 1556, 5, 0), (1565, 1563, 1564, 5, 0), (1575, 1573, 1574, 5, 0), (958, 956, 0, 957, 1), (109, 107, 0, 108, 1)],
  [(0, 0, 0, 0, 9)]]
def am_mp (mid : Nat) : Nat × Nat × Nat × Nat × Nat := (am_mpl.getD (mid / 16) []).getD (mid % 16) (0, 0, 0, 0, 9)
/-! the tables hold what the words say -/
def am_ln (raw : Instr) (len : Nat) : Nat := match raw with
  | .iload _ => 2
  | .lload _ => 2
  | .aload _ => 2
  | .istore _ => 2
  | .lstore _ => 2
  | .astore _ => 2
  | .bipush _ => 2
  | .ldc _ => 2
  | .newarray _ => 2
  | .sipush _ => 3
  | .ldc_w _ => 3
  | .ldc2_w _ => 3
  | .iinc _ _ => 3
  | .if_icmp _ _ => 3
  | .ifCond _ _ => 3
  | .if_acmp _ _ => 3
  | .ifnonnull _ => 3
  | .goto _ => 3
  | .getfield _ => 3
  | .putfield _ => 3
  | .getstatic _ => 3
  | .new _ => 3
  | .anewarray _ => 3
  | .invokevirtual _ => 3
  | .invokespecial _ => 3
  | .invokestatic _ => 3
  | .tableswitch _ _ _ _ => len
  | .lookupswitch _ _ => len
  | .athrow => len
  | _ => 1
def am_wd (i : Nat) (w : Cond) : Bool := decide (wsL_law0[i]? = some w)
theorem am_wd_mem {i : Nat} {w : Cond} (h : am_wd i w = true) : w ∈ wsL_law0 := List.mem_of_getElem? (of_decide_eq_true h)
def am_nar (y : MethodName) (n : Nat) : Bool := decide ((parseMethodDescriptor y.desc).map (fun d => d.parameters.length) = some n)
def am_mlk (own : String) (idx : Nat) (y : MethodName) (c : Nat) : Bool := bif Nat.blt c 5000 then am_wd c (.methodLink own idx y) else am_nw.any (fun w => decide (w = .methodLinkNest own idx y "SequelShelf"))
def am_lnk (mid : Nat) (raw : Instr) (a b c : Nat) : Bool := match raw with
  | .getfield idx => match am_cl[a]? with
    | some (_, T, N) => Nat.blt b N && am_wd c (.fieldLink (am_mi mid).1 idx (T b).1 (T b).2.1 (T b).2.2.1)
    | none => false
  | .putfield idx => match am_cl[a]? with
    | some (_, T, N) => Nat.blt b N && am_wd c (.fieldLink (am_mi mid).1 idx (T b).1 (T b).2.1 (T b).2.2.1) && (!(T b).2.2.2 || (decide ((am_mi mid).2.1.name = "<init>") && decide ((T b).1 = (am_mi mid).1)))
    | none => false
  | .getstatic idx => Nat.ble 24 a || am_wd c (.fieldLink (am_mi mid).1 idx RX10 (am_wns.getD a "") "LSequelShelf$Word;")
  | .new idx => Nat.beq a 9999 || (match am_cl[a]? with
    | some (C, _, _) => am_wd c (.classLink (am_mi mid).1 idx C)
    | none => false)
  | .anewarray idx => (Nat.beq a 103 && am_wd c (.classLink (am_mi mid).1 idx RX7)) || (Nat.beq a 104 && am_wd c (.classLink (am_mi mid).1 idx RX6)) || (Nat.beq a 105 && am_wd c (.classLink (am_mi mid).1 idx RX10))
  | .newarray t => decide (t = .int ∧ a = 100) || decide (t = .long ∧ a = 101) || decide (t = .boolean ∧ a = 102)
  | .ldc idx => !(Nat.beq b 0) || am_wd c (.constant (am_mi mid).1 idx (Int32.ofNat a))
  | .ldc_w idx => !(Nat.beq b 0) || am_wd c (.constant (am_mi mid).1 idx (Int32.ofNat a))
  | .ldc2_w idx => am_wd c (.constantLong (am_mi mid).1 idx (Int64.ofNat a))
  | .invokevirtual idx => (Nat.blt a 9000 && Nat.blt a 304 && Nat.beq (am_mp a).2.2.2.2 0 && am_wd c (.methodLink (am_mi mid).1 idx (am_mi a).2.1) && Nat.blt 0 b && am_nar (am_mi a).2.1 (b - 1)) || Nat.ble 9000 a
  | .invokespecial idx => (Nat.blt a 9000 && Nat.blt a 304 && Nat.beq (am_mp a).2.2.2.2 2 && am_mlk (am_mi mid).1 idx (am_mi a).2.1 c && Nat.blt 0 b && am_nar (am_mi a).2.1 (b - 1)) || (Nat.beq a 9005 && am_wd c (.methodLink (am_mi mid).1 idx objectInit)) || Nat.beq a 9997
  | .invokestatic idx => (Nat.blt a 9000 && Nat.blt a 304 && Nat.beq (am_mp a).2.2.2.2 1 && am_mlk (am_mi mid).1 idx (am_mi a).2.1 c && am_nar (am_mi a).2.1 b) || ((Nat.beq a 9000 || Nat.beq a 9010) && am_wd c (.methodLink (am_mi mid).1 idx arraycopyName)) || (Nat.beq a 9008 && am_wd c (.methodLink (am_mi mid).1 idx Lib.Math.min.name)) || (Nat.beq a 9009 && am_wd c (.methodLink (am_mi mid).1 idx Lib.Math.max.name)) || (Nat.beq a 9004 && am_wd c (.methodLink (am_mi mid).1 idx yX10_of)) || (Nat.beq a 9006 && Nat.beq mid 304 && am_wd c (.methodLink (am_mi mid).1 idx yL_reader)) || (Nat.beq a 9007 && Nat.beq mid 304 && am_wd c (.methodLink (am_mi mid).1 idx yL_mean))
  | .ireturn => decide ((am_mi mid).2.2.2.2.1 = some .int) || decide ((am_mi mid).2.2.2.2.1 = some .boolean)
  | .return_ => decide ((am_mi mid).2.2.2.2.1 = none)
  | .lreturn => decide ((am_mi mid).2.2.2.2.1 = some .long)
  | _ => true
def am_chkR (mid : Nat) : Nat → List (Option am_I) → Bool
  | _, [] => true
  | pc, none :: t => am_chkR mid (pc + 1) t
  | pc, some (raw, len, a, b, c) :: t => decide (decode (am_mi mid).2.2.1 pc = .ok (raw, am_ln raw len)) && am_lnk mid raw a b c && am_chkR mid (pc + 1) t
def am_chkT (mid : Nat) : Nat → List (List (Option am_I)) → Bool
  | _, [] => true
  | q, r :: t => Nat.ble r.length 16 && am_chkR mid (16 * q) r && am_chkT mid (q + 1) t
def am_tab (mid : Nat) : List (List (Option am_I)) := (am_tabs.getD (mid / 16) []).getD (mid % 16) []
theorem am_chkR_at {mid : Nat} : ∀ (r : List (Option am_I)) (pc i : Nat) {raw : Instr} {len a b c : Nat}, am_chkR mid pc r = true → r[i]? = some (some (raw, len, a, b, c)) → decode (am_mi mid).2.2.1 (pc + i) = .ok (raw, am_ln raw len) ∧ am_lnk mid raw a b c = true := by
  intro r
  induction r with
  | nil => intro pc i raw len a b c _ h; simp at h
  | cons o t ih =>
    intro pc i raw len a b c hc h
    cases i with
    | zero =>
      cases h
      have hc : (decide (decode (am_mi mid).2.2.1 pc = .ok (raw, am_ln raw len)) && am_lnk mid raw a b c && am_chkR mid (pc + 1) t) = true := hc
      obtain ⟨hc, -⟩ := am_and3 hc
      obtain ⟨h1, h2⟩ := am_and3 hc
      exact ⟨of_decide_eq_true h1, h2⟩
    | succ i =>
      have h : t[i]? = some (some (raw, len, a, b, c)) := h
      have hc : am_chkR mid (pc + 1) t = true := by
        cases o with
        | none => exact hc
        | some q =>
          obtain ⟨q1, q2, q3, q4, q5⟩ := q
          exact (am_and3 hc).2
      have := ih (pc + 1) i hc h
      rw [show pc + 1 + i = pc + (i + 1) by omega] at this
      exact this
theorem am_chkT_at {mid : Nat} : ∀ (T : List (List (Option am_I))) (q0 q i : Nat) {raw : Instr} {len a b c : Nat}, am_chkT mid q0 T = true → (T.getD q [])[i]? = some (some (raw, len, a, b, c)) → decode (am_mi mid).2.2.1 (16 * (q0 + q) + i) = .ok (raw, am_ln raw len) ∧ am_lnk mid raw a b c = true := by
  intro T
  induction T with
  | nil => intro q0 q i raw len a b c _ h; simp at h
  | cons r t ih =>
    intro q0 q i raw len a b c hc h
    have hc : (Nat.ble r.length 16 && am_chkR mid (16 * q0) r && am_chkT mid (q0 + 1) t) = true := hc
    obtain ⟨hc, h3⟩ := am_and3 hc
    cases q with
    | zero => exact am_chkR_at r (16 * q0) i (am_and3 hc).2 h
    | succ q =>
      have h : (t.getD q [])[i]? = some (some (raw, len, a, b, c)) := h
      have := ih (q0 + 1) q i h3 h
      rw [show q0 + 1 + q = q0 + (q + 1) by omega] at this
      exact this
theorem am_cd_use {mid pc : Nat} {raw : Instr} {len a b c : Nat} (hc : am_chkT mid 0 (am_tab mid) = true) (h : am_cd mid pc = some (raw, len, a, b, c)) : decode (am_mi mid).2.2.1 pc = .ok (raw, am_ln raw len) ∧ am_lnk mid raw a b c = true := by
  have h1 : (((am_tab mid).getD (pc / 16) []))[pc % 16]? = some (some (raw, len, a, b, c)) := by
    have h : (((am_tab mid).getD (pc / 16) [])).getD (pc % 16) none = some (raw, len, a, b, c) := h
    rw [List.getD_eq_getElem?_getD] at h
    cases hq : (((am_tab mid).getD (pc / 16) []))[pc % 16]? with
    | none => rw [hq] at h; cases h
    | some o => rw [hq] at h; cases h; rfl
  have := am_chkT_at (am_tab mid) 0 (pc / 16) (pc % 16) hc h1
  rw [show 16 * (0 + pc / 16) + pc % 16 = pc by omega] at this
  exact this
/-- what a call asks of the called: its words by their places -/
def am_mok (mid : Nat) (q : Nat × Nat × Nat × Nat × Nat) : Bool :=
  am_wd q.1 (.code (am_mi mid).2.1 (am_mi mid).2.2.1 (am_mi mid).2.2.2.1 (am_mi mid).2.2.2.2.1) && am_wd q.2.2.2.1 (.initialized (am_mi mid).2.1.cls) && Nat.ble (am_mi mid).2.2.2.1 40 && plainName (am_mi mid).2.1.cls && decide ((am_mi mid).2.1.cls ≠ "java/lang/invoke/MethodHandle" ∧ (am_mi mid).2.1.cls ≠ "java/lang/invoke/VarHandle") && decide ((am_mi mid).1 = (am_mi mid).2.1.cls) &&
  (match q.2.2.2.2 with
    | 0 => am_wd q.2.1 (.instanceMethod (am_mi mid).2.1) && am_wd q.2.2.1 (.selects (am_mi mid).2.1.cls (am_mi mid).2.1 (am_mi mid).2.1) && (match am_cl[(am_mi mid).2.2.2.2.2]? with
      | some (C, _, _) => decide (C = (am_mi mid).2.1.cls)
      | none => false)
    | 1 => am_wd q.2.1 (.static (am_mi mid).2.1)
    | _ => am_wd q.2.1 (.instanceMethod (am_mi mid).2.1) && decide ((am_mi mid).2.1.name = "<init>") && decide ((am_mi mid).2.2.2.2.1 = none))

def am_chk (mid : Nat) : Bool := am_chkT mid 0 (am_tab mid) && am_mok mid (am_mp mid)
theorem aw_nat : (.native arraycopyName : Cond) ∈ wsL_law0 := List.mem_of_getElem? (i := 349) (by decide +kernel)
theorem aw_stc : (.static arraycopyName : Cond) ∈ wsL_law0 := List.mem_of_getElem? (i := 350) (by decide +kernel)
theorem aw_iSy : (.initialized "java/lang/System" : Cond) ∈ wsL_law0 := List.mem_of_getElem? (i := 351) (by decide +kernel)
theorem aw_sMin : (.static Lib.Math.min.name : Cond) ∈ wsL_law0 := List.mem_of_getElem? (i := 250) (by decide +kernel)
theorem aw_sMax : (.static Lib.Math.max.name : Cond) ∈ wsL_law0 := List.mem_of_getElem? (i := 1034) (by decide +kernel)
theorem aw_iMa : (.initialized "java/lang/Math" : Cond) ∈ wsL_law0 := List.mem_of_getElem? (i := 251) (by decide +kernel)
theorem aw_cMin : (.code Lib.Math.min.name Lib.Math.min.code 2 (some .int) : Cond) ∈ wsL_law0 := List.mem_of_getElem? (i := 252) (by decide +kernel)
theorem aw_cMax : (.code Lib.Math.max.name Lib.Math.max.code 2 (some .int) : Cond) ∈ wsL_law0 := List.mem_of_getElem? (i := 1035) (by decide +kernel)
theorem aw_imO : (.instanceMethod objectInit : Cond) ∈ wsL_law0 := List.mem_of_getElem? (i := 11) (by decide +kernel)
theorem aw_cdO : (.code objectInit ⟨#[0xb1]⟩ 1 none : Cond) ∈ wsL_law0 := List.mem_of_getElem? (i := 12) (by decide +kernel)
theorem aw_aI : (.arrayClass .int : Cond) ∈ wsL_law0 := List.mem_of_getElem? (i := 41) (by decide +kernel)
theorem aw_aJ : (.arrayClass .long : Cond) ∈ wsL_law0 := List.mem_of_getElem? (i := 6) (by decide +kernel)
theorem aw_aZ : (.arrayClass .boolean : Cond) ∈ wsL_law0 := List.mem_of_getElem? (i := 174) (by decide +kernel)
theorem ai_0 : ∀ w ∈ u_ws RX0 TX0 7, w ∈ wsL_law0 := fun _ h => List.mem_append_left _ (List.mem_append_left _ (List.mem_append_left _ (List.mem_append_left _ (List.mem_append_left _ (List.mem_append_right _ h)))))
theorem at_0 : ∀ k, k < 7 → am_tyOk (am_ft 0 k) (am_tyf 0 k) ∧ am_ft 0 k ≤ 4 := by
  intro k hk
  rcases (show k = 0 ∨ k = 1 ∨ k = 2 ∨ k = 3 ∨ k = 4 ∨ k = 5 ∨ k = 6 by omega) with rfl | rfl | rfl | rfl | rfl | rfl | rfl
  · exact ⟨⟨fun h => absurd h (by decide), fun h => absurd h (by decide), fun _ => (by first | exact Or.inl ⟨_, rfl⟩ | exact Or.inr ⟨_, rfl⟩), fun h => absurd h (by decide), fun h => absurd h (by decide)⟩, by decide⟩
  · exact ⟨⟨fun _ => rfl, fun h => absurd h (by decide), fun h => absurd h (by decide), fun h => absurd h (by decide), fun h => absurd h (by decide)⟩, by decide⟩
  · exact ⟨⟨fun h => absurd h (by decide), fun h => absurd h (by decide), fun _ => (by first | exact Or.inl ⟨_, rfl⟩ | exact Or.inr ⟨_, rfl⟩), fun h => absurd h (by decide), fun h => absurd h (by decide)⟩, by decide⟩
  · exact ⟨⟨fun h => absurd h (by decide), fun h => absurd h (by decide), fun _ => (by first | exact Or.inl ⟨_, rfl⟩ | exact Or.inr ⟨_, rfl⟩), fun h => absurd h (by decide), fun h => absurd h (by decide)⟩, by decide⟩
  · exact ⟨⟨fun h => absurd h (by decide), fun h => absurd h (by decide), fun _ => (by first | exact Or.inl ⟨_, rfl⟩ | exact Or.inr ⟨_, rfl⟩), fun h => absurd h (by decide), fun h => absurd h (by decide)⟩, by decide⟩
  · exact ⟨⟨fun h => absurd h (by decide), fun h => absurd h (by decide), fun _ => (by first | exact Or.inl ⟨_, rfl⟩ | exact Or.inr ⟨_, rfl⟩), fun h => absurd h (by decide), fun h => absurd h (by decide)⟩, by decide⟩
  · exact ⟨⟨fun _ => rfl, fun h => absurd h (by decide), fun h => absurd h (by decide), fun h => absurd h (by decide), fun h => absurd h (by decide)⟩, by decide⟩
theorem ai_1 : ∀ w ∈ u_ws RX1 TX1 3, w ∈ wsL_law0 := fun _ h => List.mem_append_left _ (List.mem_append_left _ (List.mem_append_left _ (List.mem_append_left _ (List.mem_append_left _ (List.mem_append_left _ (List.mem_append_left _ (List.mem_append_left _ (List.mem_append_right _ h))))))))
theorem at_1 : ∀ k, k < 3 → am_tyOk (am_ft 1 k) (am_tyf 1 k) ∧ am_ft 1 k ≤ 4 := by
  intro k hk
  rcases (show k = 0 ∨ k = 1 ∨ k = 2 by omega) with rfl | rfl | rfl
  · exact ⟨⟨fun h => absurd h (by decide), fun h => absurd h (by decide), fun _ => (by first | exact Or.inl ⟨_, rfl⟩ | exact Or.inr ⟨_, rfl⟩), fun h => absurd h (by decide), fun h => absurd h (by decide)⟩, by decide⟩
  · exact ⟨⟨fun _ => rfl, fun h => absurd h (by decide), fun h => absurd h (by decide), fun h => absurd h (by decide), fun h => absurd h (by decide)⟩, by decide⟩
  · exact ⟨⟨fun _ => rfl, fun h => absurd h (by decide), fun h => absurd h (by decide), fun h => absurd h (by decide), fun h => absurd h (by decide)⟩, by decide⟩
theorem ai_2 : ∀ w ∈ u_ws RX2 TX2 11, w ∈ wsL_law0 := fun _ h => List.mem_append_left _ (List.mem_append_left _ (List.mem_append_left _ (List.mem_append_right _ h)))
theorem at_2 : ∀ k, k < 11 → am_tyOk (am_ft 2 k) (am_tyf 2 k) ∧ am_ft 2 k ≤ 4 := by
  intro k hk
  rcases (show k = 0 ∨ k = 1 ∨ k = 2 ∨ k = 3 ∨ k = 4 ∨ k = 5 ∨ k = 6 ∨ k = 7 ∨ k = 8 ∨ k = 9 ∨ k = 10 by omega) with rfl | rfl | rfl | rfl | rfl | rfl | rfl | rfl | rfl | rfl | rfl
  · exact ⟨⟨fun _ => rfl, fun h => absurd h (by decide), fun h => absurd h (by decide), fun h => absurd h (by decide), fun h => absurd h (by decide)⟩, by decide⟩
  · exact ⟨⟨fun _ => rfl, fun h => absurd h (by decide), fun h => absurd h (by decide), fun h => absurd h (by decide), fun h => absurd h (by decide)⟩, by decide⟩
  · exact ⟨⟨fun _ => rfl, fun h => absurd h (by decide), fun h => absurd h (by decide), fun h => absurd h (by decide), fun h => absurd h (by decide)⟩, by decide⟩
  · exact ⟨⟨fun _ => rfl, fun h => absurd h (by decide), fun h => absurd h (by decide), fun h => absurd h (by decide), fun h => absurd h (by decide)⟩, by decide⟩
  · exact ⟨⟨fun h => absurd h (by decide), fun h => absurd h (by decide), fun h => absurd h (by decide), fun h => absurd h (by decide), fun _ => rfl⟩, by decide⟩
  · exact ⟨⟨fun h => absurd h (by decide), fun h => absurd h (by decide), fun _ => (by first | exact Or.inl ⟨_, rfl⟩ | exact Or.inr ⟨_, rfl⟩), fun h => absurd h (by decide), fun h => absurd h (by decide)⟩, by decide⟩
  · exact ⟨⟨fun h => absurd h (by decide), fun h => absurd h (by decide), fun _ => (by first | exact Or.inl ⟨_, rfl⟩ | exact Or.inr ⟨_, rfl⟩), fun h => absurd h (by decide), fun h => absurd h (by decide)⟩, by decide⟩
  · exact ⟨⟨fun h => absurd h (by decide), fun h => absurd h (by decide), fun _ => (by first | exact Or.inl ⟨_, rfl⟩ | exact Or.inr ⟨_, rfl⟩), fun h => absurd h (by decide), fun h => absurd h (by decide)⟩, by decide⟩
  · exact ⟨⟨fun h => absurd h (by decide), fun h => absurd h (by decide), fun _ => (by first | exact Or.inl ⟨_, rfl⟩ | exact Or.inr ⟨_, rfl⟩), fun h => absurd h (by decide), fun h => absurd h (by decide)⟩, by decide⟩
  · exact ⟨⟨fun h => absurd h (by decide), fun h => absurd h (by decide), fun _ => (by first | exact Or.inl ⟨_, rfl⟩ | exact Or.inr ⟨_, rfl⟩), fun h => absurd h (by decide), fun h => absurd h (by decide)⟩, by decide⟩
  · exact ⟨⟨fun h => absurd h (by decide), fun h => absurd h (by decide), fun _ => (by first | exact Or.inl ⟨_, rfl⟩ | exact Or.inr ⟨_, rfl⟩), fun h => absurd h (by decide), fun h => absurd h (by decide)⟩, by decide⟩
theorem ai_3 : ∀ w ∈ u_ws RX3 TX3 7, w ∈ wsL_law0 := fun _ h => List.mem_append_left _ (List.mem_append_left _ (List.mem_append_left _ (List.mem_append_left _ (List.mem_append_left _ (List.mem_append_left _ (List.mem_append_right _ h))))))
theorem at_3 : ∀ k, k < 7 → am_tyOk (am_ft 3 k) (am_tyf 3 k) ∧ am_ft 3 k ≤ 4 := by
  intro k hk
  rcases (show k = 0 ∨ k = 1 ∨ k = 2 ∨ k = 3 ∨ k = 4 ∨ k = 5 ∨ k = 6 by omega) with rfl | rfl | rfl | rfl | rfl | rfl | rfl
  · exact ⟨⟨fun _ => rfl, fun h => absurd h (by decide), fun h => absurd h (by decide), fun h => absurd h (by decide), fun h => absurd h (by decide)⟩, by decide⟩
  · exact ⟨⟨fun h => absurd h (by decide), fun h => absurd h (by decide), fun _ => (by first | exact Or.inl ⟨_, rfl⟩ | exact Or.inr ⟨_, rfl⟩), fun h => absurd h (by decide), fun h => absurd h (by decide)⟩, by decide⟩
  · exact ⟨⟨fun h => absurd h (by decide), fun h => absurd h (by decide), fun _ => (by first | exact Or.inl ⟨_, rfl⟩ | exact Or.inr ⟨_, rfl⟩), fun h => absurd h (by decide), fun h => absurd h (by decide)⟩, by decide⟩
  · exact ⟨⟨fun h => absurd h (by decide), fun h => absurd h (by decide), fun _ => (by first | exact Or.inl ⟨_, rfl⟩ | exact Or.inr ⟨_, rfl⟩), fun h => absurd h (by decide), fun h => absurd h (by decide)⟩, by decide⟩
  · exact ⟨⟨fun _ => rfl, fun h => absurd h (by decide), fun h => absurd h (by decide), fun h => absurd h (by decide), fun h => absurd h (by decide)⟩, by decide⟩
  · exact ⟨⟨fun h => absurd h (by decide), fun h => absurd h (by decide), fun _ => (by first | exact Or.inl ⟨_, rfl⟩ | exact Or.inr ⟨_, rfl⟩), fun h => absurd h (by decide), fun h => absurd h (by decide)⟩, by decide⟩
  · exact ⟨⟨fun _ => rfl, fun h => absurd h (by decide), fun h => absurd h (by decide), fun h => absurd h (by decide), fun h => absurd h (by decide)⟩, by decide⟩
theorem ai_4 : ∀ w ∈ u_ws RX4 TX4 6, w ∈ wsL_law0 := fun _ h => List.mem_append_left _ (List.mem_append_left _ (List.mem_append_left _ (List.mem_append_left _ (List.mem_append_left _ (List.mem_append_left _ (List.mem_append_left _ (List.mem_append_right _ h)))))))
theorem at_4 : ∀ k, k < 6 → am_tyOk (am_ft 4 k) (am_tyf 4 k) ∧ am_ft 4 k ≤ 4 := by
  intro k hk
  rcases (show k = 0 ∨ k = 1 ∨ k = 2 ∨ k = 3 ∨ k = 4 ∨ k = 5 by omega) with rfl | rfl | rfl | rfl | rfl | rfl
  · exact ⟨⟨fun _ => rfl, fun h => absurd h (by decide), fun h => absurd h (by decide), fun h => absurd h (by decide), fun h => absurd h (by decide)⟩, by decide⟩
  · exact ⟨⟨fun _ => rfl, fun h => absurd h (by decide), fun h => absurd h (by decide), fun h => absurd h (by decide), fun h => absurd h (by decide)⟩, by decide⟩
  · exact ⟨⟨fun h => absurd h (by decide), fun h => absurd h (by decide), fun _ => (by first | exact Or.inl ⟨_, rfl⟩ | exact Or.inr ⟨_, rfl⟩), fun h => absurd h (by decide), fun h => absurd h (by decide)⟩, by decide⟩
  · exact ⟨⟨fun h => absurd h (by decide), fun h => absurd h (by decide), fun _ => (by first | exact Or.inl ⟨_, rfl⟩ | exact Or.inr ⟨_, rfl⟩), fun h => absurd h (by decide), fun h => absurd h (by decide)⟩, by decide⟩
  · exact ⟨⟨fun h => absurd h (by decide), fun h => absurd h (by decide), fun _ => (by first | exact Or.inl ⟨_, rfl⟩ | exact Or.inr ⟨_, rfl⟩), fun h => absurd h (by decide), fun h => absurd h (by decide)⟩, by decide⟩
  · exact ⟨⟨fun h => absurd h (by decide), fun h => absurd h (by decide), fun _ => (by first | exact Or.inl ⟨_, rfl⟩ | exact Or.inr ⟨_, rfl⟩), fun h => absurd h (by decide), fun h => absurd h (by decide)⟩, by decide⟩
theorem ai_5 : ∀ w ∈ u_ws RX5 TX5 6, w ∈ wsL_law0 := fun _ h => List.mem_append_left _ (List.mem_append_right _ h)
theorem at_5 : ∀ k, k < 6 → am_tyOk (am_ft 5 k) (am_tyf 5 k) ∧ am_ft 5 k ≤ 4 := by
  intro k hk
  rcases (show k = 0 ∨ k = 1 ∨ k = 2 ∨ k = 3 ∨ k = 4 ∨ k = 5 by omega) with rfl | rfl | rfl | rfl | rfl | rfl
  · exact ⟨⟨fun _ => rfl, fun h => absurd h (by decide), fun h => absurd h (by decide), fun h => absurd h (by decide), fun h => absurd h (by decide)⟩, by decide⟩
  · exact ⟨⟨fun _ => rfl, fun h => absurd h (by decide), fun h => absurd h (by decide), fun h => absurd h (by decide), fun h => absurd h (by decide)⟩, by decide⟩
  · exact ⟨⟨fun h => absurd h (by decide), fun h => absurd h (by decide), fun _ => (by first | exact Or.inl ⟨_, rfl⟩ | exact Or.inr ⟨_, rfl⟩), fun h => absurd h (by decide), fun h => absurd h (by decide)⟩, by decide⟩
  · exact ⟨⟨fun h => absurd h (by decide), fun h => absurd h (by decide), fun _ => (by first | exact Or.inl ⟨_, rfl⟩ | exact Or.inr ⟨_, rfl⟩), fun h => absurd h (by decide), fun h => absurd h (by decide)⟩, by decide⟩
  · exact ⟨⟨fun h => absurd h (by decide), fun h => absurd h (by decide), fun _ => (by first | exact Or.inl ⟨_, rfl⟩ | exact Or.inr ⟨_, rfl⟩), fun h => absurd h (by decide), fun h => absurd h (by decide)⟩, by decide⟩
  · exact ⟨⟨fun h => absurd h (by decide), fun h => absurd h (by decide), fun _ => (by first | exact Or.inl ⟨_, rfl⟩ | exact Or.inr ⟨_, rfl⟩), fun h => absurd h (by decide), fun h => absurd h (by decide)⟩, by decide⟩
theorem ai_6 : ∀ w ∈ u_ws RX6 TX6 4, w ∈ wsL_law0 := fun _ h => List.mem_append_left _ (List.mem_append_left _ (List.mem_append_left _ (List.mem_append_left _ (List.mem_append_left _ (List.mem_append_left _ (List.mem_append_left _ (List.mem_append_left _ (List.mem_append_left _ (List.mem_append_right _ h)))))))))
theorem at_6 : ∀ k, k < 4 → am_tyOk (am_ft 6 k) (am_tyf 6 k) ∧ am_ft 6 k ≤ 4 := by
  intro k hk
  rcases (show k = 0 ∨ k = 1 ∨ k = 2 ∨ k = 3 by omega) with rfl | rfl | rfl | rfl
  · exact ⟨⟨fun h => absurd h (by decide), fun h => absurd h (by decide), fun h => absurd h (by decide), fun h => absurd h (by decide), fun _ => rfl⟩, by decide⟩
  · exact ⟨⟨fun h => absurd h (by decide), fun h => absurd h (by decide), fun _ => (by first | exact Or.inl ⟨_, rfl⟩ | exact Or.inr ⟨_, rfl⟩), fun h => absurd h (by decide), fun h => absurd h (by decide)⟩, by decide⟩
  · exact ⟨⟨fun h => absurd h (by decide), fun h => absurd h (by decide), fun _ => (by first | exact Or.inl ⟨_, rfl⟩ | exact Or.inr ⟨_, rfl⟩), fun h => absurd h (by decide), fun h => absurd h (by decide)⟩, by decide⟩
  · exact ⟨⟨fun h => absurd h (by decide), fun h => absurd h (by decide), fun _ => (by first | exact Or.inl ⟨_, rfl⟩ | exact Or.inr ⟨_, rfl⟩), fun h => absurd h (by decide), fun h => absurd h (by decide)⟩, by decide⟩
theorem ai_7 : ∀ w ∈ u_ws RX7 TX7 10, w ∈ wsL_law0 := fun _ h => List.mem_append_left _ (List.mem_append_left _ (List.mem_append_right _ h))
theorem at_7 : ∀ k, k < 10 → am_tyOk (am_ft 7 k) (am_tyf 7 k) ∧ am_ft 7 k ≤ 4 := by
  intro k hk
  rcases (show k = 0 ∨ k = 1 ∨ k = 2 ∨ k = 3 ∨ k = 4 ∨ k = 5 ∨ k = 6 ∨ k = 7 ∨ k = 8 ∨ k = 9 by omega) with rfl | rfl | rfl | rfl | rfl | rfl | rfl | rfl | rfl | rfl
  · exact ⟨⟨fun _ => rfl, fun h => absurd h (by decide), fun h => absurd h (by decide), fun h => absurd h (by decide), fun h => absurd h (by decide)⟩, by decide⟩
  · exact ⟨⟨fun _ => rfl, fun h => absurd h (by decide), fun h => absurd h (by decide), fun h => absurd h (by decide), fun h => absurd h (by decide)⟩, by decide⟩
  · exact ⟨⟨fun _ => rfl, fun h => absurd h (by decide), fun h => absurd h (by decide), fun h => absurd h (by decide), fun h => absurd h (by decide)⟩, by decide⟩
  · exact ⟨⟨fun _ => rfl, fun h => absurd h (by decide), fun h => absurd h (by decide), fun h => absurd h (by decide), fun h => absurd h (by decide)⟩, by decide⟩
  · exact ⟨⟨fun h => absurd h (by decide), fun h => absurd h (by decide), fun _ => (by first | exact Or.inl ⟨_, rfl⟩ | exact Or.inr ⟨_, rfl⟩), fun h => absurd h (by decide), fun h => absurd h (by decide)⟩, by decide⟩
  · exact ⟨⟨fun h => absurd h (by decide), fun h => absurd h (by decide), fun _ => (by first | exact Or.inl ⟨_, rfl⟩ | exact Or.inr ⟨_, rfl⟩), fun h => absurd h (by decide), fun h => absurd h (by decide)⟩, by decide⟩
  · exact ⟨⟨fun h => absurd h (by decide), fun h => absurd h (by decide), fun _ => (by first | exact Or.inl ⟨_, rfl⟩ | exact Or.inr ⟨_, rfl⟩), fun h => absurd h (by decide), fun h => absurd h (by decide)⟩, by decide⟩
  · exact ⟨⟨fun h => absurd h (by decide), fun h => absurd h (by decide), fun _ => (by first | exact Or.inl ⟨_, rfl⟩ | exact Or.inr ⟨_, rfl⟩), fun h => absurd h (by decide), fun h => absurd h (by decide)⟩, by decide⟩
  · exact ⟨⟨fun h => absurd h (by decide), fun h => absurd h (by decide), fun _ => (by first | exact Or.inl ⟨_, rfl⟩ | exact Or.inr ⟨_, rfl⟩), fun h => absurd h (by decide), fun h => absurd h (by decide)⟩, by decide⟩
  · exact ⟨⟨fun _ => rfl, fun h => absurd h (by decide), fun h => absurd h (by decide), fun h => absurd h (by decide), fun h => absurd h (by decide)⟩, by decide⟩
theorem ai_8 : ∀ w ∈ u_ws RX8 TX8 2, w ∈ wsL_law0 := fun _ h => List.mem_append_left _ (List.mem_append_left _ (List.mem_append_left _ (List.mem_append_left _ (List.mem_append_right _ h))))
theorem at_8 : ∀ k, k < 2 → am_tyOk (am_ft 8 k) (am_tyf 8 k) ∧ am_ft 8 k ≤ 4 := by
  intro k hk
  rcases (show k = 0 ∨ k = 1 by omega) with rfl | rfl
  · exact ⟨⟨fun _ => rfl, fun h => absurd h (by decide), fun h => absurd h (by decide), fun h => absurd h (by decide), fun h => absurd h (by decide)⟩, by decide⟩
  · exact ⟨⟨fun h => absurd h (by decide), fun h => absurd h (by decide), fun _ => (by first | exact Or.inl ⟨_, rfl⟩ | exact Or.inr ⟨_, rfl⟩), fun h => absurd h (by decide), fun h => absurd h (by decide)⟩, by decide⟩
theorem ai_9 : ∀ w ∈ u_ws RX9 TX9 10, w ∈ wsL_law0 := fun _ h => List.mem_append_left _ (List.mem_append_left _ (List.mem_append_left _ (List.mem_append_left _ (List.mem_append_left _ (List.mem_append_left _ (List.mem_append_left _ (List.mem_append_left _ (List.mem_append_left _ (List.mem_append_left _ (List.mem_append_right _ h))))))))))
theorem at_9 : ∀ k, k < 10 → am_tyOk (am_ft 9 k) (am_tyf 9 k) ∧ am_ft 9 k ≤ 4 := by
  intro k hk
  rcases (show k = 0 ∨ k = 1 ∨ k = 2 ∨ k = 3 ∨ k = 4 ∨ k = 5 ∨ k = 6 ∨ k = 7 ∨ k = 8 ∨ k = 9 by omega) with rfl | rfl | rfl | rfl | rfl | rfl | rfl | rfl | rfl | rfl
  · exact ⟨⟨fun _ => rfl, fun h => absurd h (by decide), fun h => absurd h (by decide), fun h => absurd h (by decide), fun h => absurd h (by decide)⟩, by decide⟩
  · exact ⟨⟨fun h => absurd h (by decide), fun h => absurd h (by decide), fun h => absurd h (by decide), fun _ => ⟨_, rfl⟩, fun h => absurd h (by decide)⟩, by decide⟩
  · exact ⟨⟨fun h => absurd h (by decide), fun _ => rfl, fun h => absurd h (by decide), fun h => absurd h (by decide), fun h => absurd h (by decide)⟩, by decide⟩
  · exact ⟨⟨fun _ => rfl, fun h => absurd h (by decide), fun h => absurd h (by decide), fun h => absurd h (by decide), fun h => absurd h (by decide)⟩, by decide⟩
  · exact ⟨⟨fun _ => rfl, fun h => absurd h (by decide), fun h => absurd h (by decide), fun h => absurd h (by decide), fun h => absurd h (by decide)⟩, by decide⟩
  · exact ⟨⟨fun _ => rfl, fun h => absurd h (by decide), fun h => absurd h (by decide), fun h => absurd h (by decide), fun h => absurd h (by decide)⟩, by decide⟩
  · exact ⟨⟨fun h => absurd h (by decide), fun h => absurd h (by decide), fun _ => (by first | exact Or.inl ⟨_, rfl⟩ | exact Or.inr ⟨_, rfl⟩), fun h => absurd h (by decide), fun h => absurd h (by decide)⟩, by decide⟩
  · exact ⟨⟨fun _ => rfl, fun h => absurd h (by decide), fun h => absurd h (by decide), fun h => absurd h (by decide), fun h => absurd h (by decide)⟩, by decide⟩
  · exact ⟨⟨fun _ => rfl, fun h => absurd h (by decide), fun h => absurd h (by decide), fun h => absurd h (by decide), fun h => absurd h (by decide)⟩, by decide⟩
  · exact ⟨⟨fun _ => rfl, fun h => absurd h (by decide), fun h => absurd h (by decide), fun h => absurd h (by decide), fun h => absurd h (by decide)⟩, by decide⟩
theorem ai_10 : ∀ w ∈ u_ws RX11 TX11 17, w ∈ wsL_law0 := fun _ h => List.mem_append_left _ (List.mem_append_left _ (List.mem_append_left _ (List.mem_append_left _ (List.mem_append_left _ (List.mem_append_left _ (List.mem_append_left _ (List.mem_append_left _ (List.mem_append_left _ (List.mem_append_left _ (List.mem_append_left _ (List.mem_append_left _ (List.mem_append_right _ h))))))))))))
theorem at_10 : ∀ k, k < 17 → am_tyOk (am_ft 10 k) (am_tyf 10 k) ∧ am_ft 10 k ≤ 4 := by
  intro k hk
  rcases (show k = 0 ∨ k = 1 ∨ k = 2 ∨ k = 3 ∨ k = 4 ∨ k = 5 ∨ k = 6 ∨ k = 7 ∨ k = 8 ∨ k = 9 ∨ k = 10 ∨ k = 11 ∨ k = 12 ∨ k = 13 ∨ k = 14 ∨ k = 15 ∨ k = 16 by omega) with rfl | rfl | rfl | rfl | rfl | rfl | rfl | rfl | rfl | rfl | rfl | rfl | rfl | rfl | rfl | rfl | rfl
  · exact ⟨⟨fun h => absurd h (by decide), fun h => absurd h (by decide), fun _ => (by first | exact Or.inl ⟨_, rfl⟩ | exact Or.inr ⟨_, rfl⟩), fun h => absurd h (by decide), fun h => absurd h (by decide)⟩, by decide⟩
  · exact ⟨⟨fun h => absurd h (by decide), fun h => absurd h (by decide), fun _ => (by first | exact Or.inl ⟨_, rfl⟩ | exact Or.inr ⟨_, rfl⟩), fun h => absurd h (by decide), fun h => absurd h (by decide)⟩, by decide⟩
  · exact ⟨⟨fun h => absurd h (by decide), fun h => absurd h (by decide), fun _ => (by first | exact Or.inl ⟨_, rfl⟩ | exact Or.inr ⟨_, rfl⟩), fun h => absurd h (by decide), fun h => absurd h (by decide)⟩, by decide⟩
  · exact ⟨⟨fun h => absurd h (by decide), fun h => absurd h (by decide), fun _ => (by first | exact Or.inl ⟨_, rfl⟩ | exact Or.inr ⟨_, rfl⟩), fun h => absurd h (by decide), fun h => absurd h (by decide)⟩, by decide⟩
  · exact ⟨⟨fun h => absurd h (by decide), fun h => absurd h (by decide), fun _ => (by first | exact Or.inl ⟨_, rfl⟩ | exact Or.inr ⟨_, rfl⟩), fun h => absurd h (by decide), fun h => absurd h (by decide)⟩, by decide⟩
  · exact ⟨⟨fun h => absurd h (by decide), fun h => absurd h (by decide), fun _ => (by first | exact Or.inl ⟨_, rfl⟩ | exact Or.inr ⟨_, rfl⟩), fun h => absurd h (by decide), fun h => absurd h (by decide)⟩, by decide⟩
  · exact ⟨⟨fun h => absurd h (by decide), fun h => absurd h (by decide), fun _ => (by first | exact Or.inl ⟨_, rfl⟩ | exact Or.inr ⟨_, rfl⟩), fun h => absurd h (by decide), fun h => absurd h (by decide)⟩, by decide⟩
  · exact ⟨⟨fun h => absurd h (by decide), fun h => absurd h (by decide), fun _ => (by first | exact Or.inl ⟨_, rfl⟩ | exact Or.inr ⟨_, rfl⟩), fun h => absurd h (by decide), fun h => absurd h (by decide)⟩, by decide⟩
  · exact ⟨⟨fun h => absurd h (by decide), fun h => absurd h (by decide), fun _ => (by first | exact Or.inl ⟨_, rfl⟩ | exact Or.inr ⟨_, rfl⟩), fun h => absurd h (by decide), fun h => absurd h (by decide)⟩, by decide⟩
  · exact ⟨⟨fun h => absurd h (by decide), fun h => absurd h (by decide), fun _ => (by first | exact Or.inl ⟨_, rfl⟩ | exact Or.inr ⟨_, rfl⟩), fun h => absurd h (by decide), fun h => absurd h (by decide)⟩, by decide⟩
  · exact ⟨⟨fun h => absurd h (by decide), fun h => absurd h (by decide), fun _ => (by first | exact Or.inl ⟨_, rfl⟩ | exact Or.inr ⟨_, rfl⟩), fun h => absurd h (by decide), fun h => absurd h (by decide)⟩, by decide⟩
  · exact ⟨⟨fun h => absurd h (by decide), fun h => absurd h (by decide), fun _ => (by first | exact Or.inl ⟨_, rfl⟩ | exact Or.inr ⟨_, rfl⟩), fun h => absurd h (by decide), fun h => absurd h (by decide)⟩, by decide⟩
  · exact ⟨⟨fun _ => rfl, fun h => absurd h (by decide), fun h => absurd h (by decide), fun h => absurd h (by decide), fun h => absurd h (by decide)⟩, by decide⟩
  · exact ⟨⟨fun _ => rfl, fun h => absurd h (by decide), fun h => absurd h (by decide), fun h => absurd h (by decide), fun h => absurd h (by decide)⟩, by decide⟩
  · exact ⟨⟨fun _ => rfl, fun h => absurd h (by decide), fun h => absurd h (by decide), fun h => absurd h (by decide), fun h => absurd h (by decide)⟩, by decide⟩
  · exact ⟨⟨fun _ => rfl, fun h => absurd h (by decide), fun h => absurd h (by decide), fun h => absurd h (by decide), fun h => absurd h (by decide)⟩, by decide⟩
  · exact ⟨⟨fun _ => rfl, fun h => absurd h (by decide), fun h => absurd h (by decide), fun h => absurd h (by decide), fun h => absurd h (by decide)⟩, by decide⟩
theorem ai_11 : ∀ w ∈ u_ws RX12 TX12 52, w ∈ wsL_law0 := fun _ h => List.mem_append_left _ (List.mem_append_left _ (List.mem_append_left _ (List.mem_append_left _ (List.mem_append_left _ (List.mem_append_left _ (List.mem_append_left _ (List.mem_append_left _ (List.mem_append_left _ (List.mem_append_left _ (List.mem_append_left _ (List.mem_append_right _ h)))))))))))
theorem at_11 : ∀ k, k < 52 → am_tyOk (am_ft 11 k) (am_tyf 11 k) ∧ am_ft 11 k ≤ 4 := by
  intro k hk
  rcases (show k = 0 ∨ k = 1 ∨ k = 2 ∨ k = 3 ∨ k = 4 ∨ k = 5 ∨ k = 6 ∨ k = 7 ∨ k = 8 ∨ k = 9 ∨ k = 10 ∨ k = 11 ∨ k = 12 ∨ k = 13 ∨ k = 14 ∨ k = 15 ∨ k = 16 ∨ k = 17 ∨ k = 18 ∨ k = 19 ∨ k = 20 ∨ k = 21 ∨ k = 22 ∨ k = 23 ∨ k = 24 ∨ k = 25 ∨ k = 26 ∨ k = 27 ∨ k = 28 ∨ k = 29 ∨ k = 30 ∨ k = 31 ∨ k = 32 ∨ k = 33 ∨ k = 34 ∨ k = 35 ∨ k = 36 ∨ k = 37 ∨ k = 38 ∨ k = 39 ∨ k = 40 ∨ k = 41 ∨ k = 42 ∨ k = 43 ∨ k = 44 ∨ k = 45 ∨ k = 46 ∨ k = 47 ∨ k = 48 ∨ k = 49 ∨ k = 50 ∨ k = 51 by omega) with rfl | rfl | rfl | rfl | rfl | rfl | rfl | rfl | rfl | rfl | rfl | rfl | rfl | rfl | rfl | rfl | rfl | rfl | rfl | rfl | rfl | rfl | rfl | rfl | rfl | rfl | rfl | rfl | rfl | rfl | rfl | rfl | rfl | rfl | rfl | rfl | rfl | rfl | rfl | rfl | rfl | rfl | rfl | rfl | rfl | rfl | rfl | rfl | rfl | rfl | rfl | rfl
  · exact ⟨⟨fun _ => rfl, fun h => absurd h (by decide), fun h => absurd h (by decide), fun h => absurd h (by decide), fun h => absurd h (by decide)⟩, by decide⟩
  · exact ⟨⟨fun h => absurd h (by decide), fun h => absurd h (by decide), fun _ => (by first | exact Or.inl ⟨_, rfl⟩ | exact Or.inr ⟨_, rfl⟩), fun h => absurd h (by decide), fun h => absurd h (by decide)⟩, by decide⟩
  · exact ⟨⟨fun _ => rfl, fun h => absurd h (by decide), fun h => absurd h (by decide), fun h => absurd h (by decide), fun h => absurd h (by decide)⟩, by decide⟩
  · exact ⟨⟨fun _ => rfl, fun h => absurd h (by decide), fun h => absurd h (by decide), fun h => absurd h (by decide), fun h => absurd h (by decide)⟩, by decide⟩
  · exact ⟨⟨fun _ => rfl, fun h => absurd h (by decide), fun h => absurd h (by decide), fun h => absurd h (by decide), fun h => absurd h (by decide)⟩, by decide⟩
  · exact ⟨⟨fun _ => rfl, fun h => absurd h (by decide), fun h => absurd h (by decide), fun h => absurd h (by decide), fun h => absurd h (by decide)⟩, by decide⟩
  · exact ⟨⟨fun _ => rfl, fun h => absurd h (by decide), fun h => absurd h (by decide), fun h => absurd h (by decide), fun h => absurd h (by decide)⟩, by decide⟩
  · exact ⟨⟨fun _ => rfl, fun h => absurd h (by decide), fun h => absurd h (by decide), fun h => absurd h (by decide), fun h => absurd h (by decide)⟩, by decide⟩
  · exact ⟨⟨fun _ => rfl, fun h => absurd h (by decide), fun h => absurd h (by decide), fun h => absurd h (by decide), fun h => absurd h (by decide)⟩, by decide⟩
  · exact ⟨⟨fun _ => rfl, fun h => absurd h (by decide), fun h => absurd h (by decide), fun h => absurd h (by decide), fun h => absurd h (by decide)⟩, by decide⟩
  · exact ⟨⟨fun _ => rfl, fun h => absurd h (by decide), fun h => absurd h (by decide), fun h => absurd h (by decide), fun h => absurd h (by decide)⟩, by decide⟩
  · exact ⟨⟨fun _ => rfl, fun h => absurd h (by decide), fun h => absurd h (by decide), fun h => absurd h (by decide), fun h => absurd h (by decide)⟩, by decide⟩
  · exact ⟨⟨fun h => absurd h (by decide), fun _ => rfl, fun h => absurd h (by decide), fun h => absurd h (by decide), fun h => absurd h (by decide)⟩, by decide⟩
  · exact ⟨⟨fun _ => rfl, fun h => absurd h (by decide), fun h => absurd h (by decide), fun h => absurd h (by decide), fun h => absurd h (by decide)⟩, by decide⟩
  · exact ⟨⟨fun h => absurd h (by decide), fun h => absurd h (by decide), fun _ => (by first | exact Or.inl ⟨_, rfl⟩ | exact Or.inr ⟨_, rfl⟩), fun h => absurd h (by decide), fun h => absurd h (by decide)⟩, by decide⟩
  · exact ⟨⟨fun h => absurd h (by decide), fun h => absurd h (by decide), fun _ => (by first | exact Or.inl ⟨_, rfl⟩ | exact Or.inr ⟨_, rfl⟩), fun h => absurd h (by decide), fun h => absurd h (by decide)⟩, by decide⟩
  · exact ⟨⟨fun h => absurd h (by decide), fun h => absurd h (by decide), fun _ => (by first | exact Or.inl ⟨_, rfl⟩ | exact Or.inr ⟨_, rfl⟩), fun h => absurd h (by decide), fun h => absurd h (by decide)⟩, by decide⟩
  · exact ⟨⟨fun h => absurd h (by decide), fun h => absurd h (by decide), fun _ => (by first | exact Or.inl ⟨_, rfl⟩ | exact Or.inr ⟨_, rfl⟩), fun h => absurd h (by decide), fun h => absurd h (by decide)⟩, by decide⟩
  · exact ⟨⟨fun h => absurd h (by decide), fun h => absurd h (by decide), fun _ => (by first | exact Or.inl ⟨_, rfl⟩ | exact Or.inr ⟨_, rfl⟩), fun h => absurd h (by decide), fun h => absurd h (by decide)⟩, by decide⟩
  · exact ⟨⟨fun h => absurd h (by decide), fun h => absurd h (by decide), fun _ => (by first | exact Or.inl ⟨_, rfl⟩ | exact Or.inr ⟨_, rfl⟩), fun h => absurd h (by decide), fun h => absurd h (by decide)⟩, by decide⟩
  · exact ⟨⟨fun h => absurd h (by decide), fun h => absurd h (by decide), fun _ => (by first | exact Or.inl ⟨_, rfl⟩ | exact Or.inr ⟨_, rfl⟩), fun h => absurd h (by decide), fun h => absurd h (by decide)⟩, by decide⟩
  · exact ⟨⟨fun h => absurd h (by decide), fun h => absurd h (by decide), fun _ => (by first | exact Or.inl ⟨_, rfl⟩ | exact Or.inr ⟨_, rfl⟩), fun h => absurd h (by decide), fun h => absurd h (by decide)⟩, by decide⟩
  · exact ⟨⟨fun h => absurd h (by decide), fun h => absurd h (by decide), fun _ => (by first | exact Or.inl ⟨_, rfl⟩ | exact Or.inr ⟨_, rfl⟩), fun h => absurd h (by decide), fun h => absurd h (by decide)⟩, by decide⟩
  · exact ⟨⟨fun h => absurd h (by decide), fun h => absurd h (by decide), fun h => absurd h (by decide), fun h => absurd h (by decide), fun _ => rfl⟩, by decide⟩
  · exact ⟨⟨fun _ => rfl, fun h => absurd h (by decide), fun h => absurd h (by decide), fun h => absurd h (by decide), fun h => absurd h (by decide)⟩, by decide⟩
  · exact ⟨⟨fun h => absurd h (by decide), fun h => absurd h (by decide), fun _ => (by first | exact Or.inl ⟨_, rfl⟩ | exact Or.inr ⟨_, rfl⟩), fun h => absurd h (by decide), fun h => absurd h (by decide)⟩, by decide⟩
  · exact ⟨⟨fun _ => rfl, fun h => absurd h (by decide), fun h => absurd h (by decide), fun h => absurd h (by decide), fun h => absurd h (by decide)⟩, by decide⟩
  · exact ⟨⟨fun h => absurd h (by decide), fun h => absurd h (by decide), fun _ => (by first | exact Or.inl ⟨_, rfl⟩ | exact Or.inr ⟨_, rfl⟩), fun h => absurd h (by decide), fun h => absurd h (by decide)⟩, by decide⟩
  · exact ⟨⟨fun h => absurd h (by decide), fun h => absurd h (by decide), fun _ => (by first | exact Or.inl ⟨_, rfl⟩ | exact Or.inr ⟨_, rfl⟩), fun h => absurd h (by decide), fun h => absurd h (by decide)⟩, by decide⟩
  · exact ⟨⟨fun _ => rfl, fun h => absurd h (by decide), fun h => absurd h (by decide), fun h => absurd h (by decide), fun h => absurd h (by decide)⟩, by decide⟩
  · exact ⟨⟨fun _ => rfl, fun h => absurd h (by decide), fun h => absurd h (by decide), fun h => absurd h (by decide), fun h => absurd h (by decide)⟩, by decide⟩
  · exact ⟨⟨fun _ => rfl, fun h => absurd h (by decide), fun h => absurd h (by decide), fun h => absurd h (by decide), fun h => absurd h (by decide)⟩, by decide⟩
  · exact ⟨⟨fun _ => rfl, fun h => absurd h (by decide), fun h => absurd h (by decide), fun h => absurd h (by decide), fun h => absurd h (by decide)⟩, by decide⟩
  · exact ⟨⟨fun h => absurd h (by decide), fun h => absurd h (by decide), fun _ => (by first | exact Or.inl ⟨_, rfl⟩ | exact Or.inr ⟨_, rfl⟩), fun h => absurd h (by decide), fun h => absurd h (by decide)⟩, by decide⟩
  · exact ⟨⟨fun h => absurd h (by decide), fun h => absurd h (by decide), fun _ => (by first | exact Or.inl ⟨_, rfl⟩ | exact Or.inr ⟨_, rfl⟩), fun h => absurd h (by decide), fun h => absurd h (by decide)⟩, by decide⟩
  · exact ⟨⟨fun h => absurd h (by decide), fun h => absurd h (by decide), fun _ => (by first | exact Or.inl ⟨_, rfl⟩ | exact Or.inr ⟨_, rfl⟩), fun h => absurd h (by decide), fun h => absurd h (by decide)⟩, by decide⟩
  · exact ⟨⟨fun h => absurd h (by decide), fun h => absurd h (by decide), fun _ => (by first | exact Or.inl ⟨_, rfl⟩ | exact Or.inr ⟨_, rfl⟩), fun h => absurd h (by decide), fun h => absurd h (by decide)⟩, by decide⟩
  · exact ⟨⟨fun _ => rfl, fun h => absurd h (by decide), fun h => absurd h (by decide), fun h => absurd h (by decide), fun h => absurd h (by decide)⟩, by decide⟩
  · exact ⟨⟨fun _ => rfl, fun h => absurd h (by decide), fun h => absurd h (by decide), fun h => absurd h (by decide), fun h => absurd h (by decide)⟩, by decide⟩
  · exact ⟨⟨fun h => absurd h (by decide), fun h => absurd h (by decide), fun h => absurd h (by decide), fun h => absurd h (by decide), fun _ => rfl⟩, by decide⟩
  · exact ⟨⟨fun h => absurd h (by decide), fun h => absurd h (by decide), fun _ => (by first | exact Or.inl ⟨_, rfl⟩ | exact Or.inr ⟨_, rfl⟩), fun h => absurd h (by decide), fun h => absurd h (by decide)⟩, by decide⟩
  · exact ⟨⟨fun _ => rfl, fun h => absurd h (by decide), fun h => absurd h (by decide), fun h => absurd h (by decide), fun h => absurd h (by decide)⟩, by decide⟩
  · exact ⟨⟨fun _ => rfl, fun h => absurd h (by decide), fun h => absurd h (by decide), fun h => absurd h (by decide), fun h => absurd h (by decide)⟩, by decide⟩
  · exact ⟨⟨fun h => absurd h (by decide), fun h => absurd h (by decide), fun _ => (by first | exact Or.inl ⟨_, rfl⟩ | exact Or.inr ⟨_, rfl⟩), fun h => absurd h (by decide), fun h => absurd h (by decide)⟩, by decide⟩
  · exact ⟨⟨fun h => absurd h (by decide), fun h => absurd h (by decide), fun _ => (by first | exact Or.inl ⟨_, rfl⟩ | exact Or.inr ⟨_, rfl⟩), fun h => absurd h (by decide), fun h => absurd h (by decide)⟩, by decide⟩
  · exact ⟨⟨fun _ => rfl, fun h => absurd h (by decide), fun h => absurd h (by decide), fun h => absurd h (by decide), fun h => absurd h (by decide)⟩, by decide⟩
  · exact ⟨⟨fun h => absurd h (by decide), fun h => absurd h (by decide), fun h => absurd h (by decide), fun h => absurd h (by decide), fun _ => rfl⟩, by decide⟩
  · exact ⟨⟨fun h => absurd h (by decide), fun h => absurd h (by decide), fun _ => (by first | exact Or.inl ⟨_, rfl⟩ | exact Or.inr ⟨_, rfl⟩), fun h => absurd h (by decide), fun h => absurd h (by decide)⟩, by decide⟩
  · exact ⟨⟨fun _ => rfl, fun h => absurd h (by decide), fun h => absurd h (by decide), fun h => absurd h (by decide), fun h => absurd h (by decide)⟩, by decide⟩
  · exact ⟨⟨fun _ => rfl, fun h => absurd h (by decide), fun h => absurd h (by decide), fun h => absurd h (by decide), fun h => absurd h (by decide)⟩, by decide⟩
  · exact ⟨⟨fun _ => rfl, fun h => absurd h (by decide), fun h => absurd h (by decide), fun h => absurd h (by decide), fun h => absurd h (by decide)⟩, by decide⟩
  · exact ⟨⟨fun _ => rfl, fun h => absurd h (by decide), fun h => absurd h (by decide), fun h => absurd h (by decide), fun h => absurd h (by decide)⟩, by decide⟩
theorem am_cls {ci : Nat} {C : String} {T : u_T} {N : Nat} (hc : am_cl[ci]? = some (C, T, N)) : am_clOk ci C T N ∧ (∀ k, k < N → am_ft ci k ≤ 4) ∧ Cond.instantiable C N ∈ wsL_law0 ∧ Cond.initialized C ∈ wsL_law0 := by
  have hlt : ci < 12 := (List.getElem?_eq_some_iff.mp hc).1
  rcases (show ci = 0 ∨ ci = 1 ∨ ci = 2 ∨ ci = 3 ∨ ci = 4 ∨ ci = 5 ∨ ci = 6 ∨ ci = 7 ∨ ci = 8 ∨ ci = 9 ∨ ci = 10 ∨ ci = 11 by omega) with rfl | rfl | rfl | rfl | rfl | rfl | rfl | rfl | rfl | rfl | rfl | rfl
  · cases hc; exact ⟨⟨ai_0, tyX0_ok, fun k hk => (at_0 k hk).1, nmX0, rfl, by decide⟩, fun k hk => (at_0 k hk).2, List.mem_of_getElem? (i := 38) (by decide +kernel), List.mem_of_getElem? (i := 39) (by decide +kernel)⟩
  · cases hc; exact ⟨⟨ai_1, tyX1_ok, fun k hk => (at_1 k hk).1, nmX1, rfl, by decide⟩, fun k hk => (at_1 k hk).2, List.mem_of_getElem? (i := 26) (by decide +kernel), List.mem_of_getElem? (i := 27) (by decide +kernel)⟩
  · cases hc; exact ⟨⟨ai_2, tyX2_ok, fun k hk => (at_2 k hk).1, nmX2, rfl, by decide⟩, fun k hk => (at_2 k hk).2, List.mem_of_getElem? (i := 67) (by decide +kernel), List.mem_of_getElem? (i := 68) (by decide +kernel)⟩
  · cases hc; exact ⟨⟨ai_3, tyX3_ok, fun k hk => (at_3 k hk).1, nmX3, rfl, by decide⟩, fun k hk => (at_3 k hk).2, List.mem_of_getElem? (i := 34) (by decide +kernel), List.mem_of_getElem? (i := 35) (by decide +kernel)⟩
  · cases hc; exact ⟨⟨ai_4, tyX4_ok, fun k hk => (at_4 k hk).1, nmX4, rfl, by decide⟩, fun k hk => (at_4 k hk).2, List.mem_of_getElem? (i := 30) (by decide +kernel), List.mem_of_getElem? (i := 31) (by decide +kernel)⟩
  · cases hc; exact ⟨⟨ai_5, tyX5_ok, fun k hk => (at_5 k hk).1, nmX5, rfl, by decide⟩, fun k hk => (at_5 k hk).2, List.mem_of_getElem? (i := 75) (by decide +kernel), List.mem_of_getElem? (i := 76) (by decide +kernel)⟩
  · cases hc; exact ⟨⟨ai_6, tyX6_ok, fun k hk => (at_6 k hk).1, nmX6, rfl, by decide⟩, fun k hk => (at_6 k hk).2, List.mem_of_getElem? (i := 20) (by decide +kernel), List.mem_of_getElem? (i := 21) (by decide +kernel)⟩
  · cases hc; exact ⟨⟨ai_7, tyX7_ok, fun k hk => (at_7 k hk).1, nmX7, rfl, by decide⟩, fun k hk => (at_7 k hk).2, List.mem_of_getElem? (i := 71) (by decide +kernel), List.mem_of_getElem? (i := 72) (by decide +kernel)⟩
  · cases hc; exact ⟨⟨ai_8, tyX8_ok, fun k hk => (at_8 k hk).1, nmX8, rfl, by decide⟩, fun k hk => (at_8 k hk).2, List.mem_of_getElem? (i := 54) (by decide +kernel), List.mem_of_getElem? (i := 55) (by decide +kernel)⟩
  · cases hc; exact ⟨⟨ai_9, tyX9_ok, fun k hk => (at_9 k hk).1, nmX9, rfl, by decide⟩, fun k hk => (at_9 k hk).2, List.mem_of_getElem? (i := 14) (by decide +kernel), List.mem_of_getElem? (i := 15) (by decide +kernel)⟩
  · cases hc; exact ⟨⟨ai_10, tyX11_ok, fun k hk => (at_10 k hk).1, nmX11, rfl, by decide⟩, fun k hk => (at_10 k hk).2, List.mem_of_getElem? (i := 1) (by decide +kernel), List.mem_of_getElem? (i := 2) (by decide +kernel)⟩
  · cases hc; exact ⟨⟨ai_11, tyX12_ok, fun k hk => (at_11 k hk).1, nmX12, rfl, by decide⟩, fun k hk => (at_11 k hk).2, List.mem_of_getElem? (i := 4) (by decide +kernel), List.mem_of_getElem? (i := 5) (by decide +kernel)⟩
theorem am_Kbig : ∀ q, (am_K q).2 ≤ 1000 := by
  have h1 : ∀ r ∈ am_Kl, ∀ x ∈ r, x.2 ≤ 1000 := by decide +kernel
  intro q
  unfold am_K
  rw [List.getD_eq_getElem?_getD]
  cases hq : (am_Kl.getD (q / 16) [])[q % 16]? with
  | none => exact Nat.zero_le _
  | some x =>
    have hx : x ∈ am_Kl.getD (q / 16) [] := List.mem_of_getElem? hq
    rw [List.getD_eq_getElem?_getD] at hx
    cases hr : am_Kl[q / 16]? with
    | none => rw [hr] at hx; cases hx
    | some r => rw [hr] at hx; exact h1 r (List.mem_of_getElem? hr) x hx
