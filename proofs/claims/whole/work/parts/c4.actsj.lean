/-! the acts, 9 -/
set_option maxRecDepth 20000 in
theorem lw_35 (N : Nat) (xs : Nat → Int32) (i : Int32) (g : gI i N) : lwS N xs i 1225 := by
  intro x5 x6 I J E hrel
  obtain ⟨v, I1, J1, E1, I2, J2, E2, e1, e2, hr2⟩ := rl_sentence (false, N, xs) 39 I J E hrel
  have e1 : am_ev (false, N, xs) (99, 164, 0, [some (.ref 0)], [], am_hp I J E) = some (true, some (.int v), am_hp I1 J1 E1) := e1
  have e2 : am_ev (false, N, xs) (99, 296, 0, [some (.ref 156), none], [], am_hp I1 J1 E1) = some (true, some (.int v), am_hp I2 J2 E2) := e2
  refine ⟨x5, x6, I2, J2, E2, hr2, ?_⟩
  refine lr_s (t := (100, 304, 1226, [some (.ref 60000), some (.ref 0), some (.ref 156), some (.ref 178), some (.int i), x5, x6], [.ref 0], am_hp I J E)) rfl ?_
  refine lr_c (s1 := (99, 164, 0, [some (.ref 0)], [], am_hp I J E)) (t := (100, 304, 1229, [some (.ref 60000), some (.ref 0), some (.ref 156), some (.ref 178), some (.int i), x5, x6], [.int v], am_hp I1 J1 E1)) e1 rfl rfl ?_
  refine lr_s (t := (100, 304, 1230, [some (.ref 60000), some (.ref 0), some (.ref 156), some (.ref 178), some (.int i), x5, x6], [.ref 156, .int v], am_hp I1 J1 E1)) rfl ?_
  refine lr_c (s1 := (99, 296, 0, [some (.ref 156), none], [], am_hp I1 J1 E1)) (t := (100, 304, 1233, [some (.ref 60000), some (.ref 0), some (.ref 156), some (.ref 178), some (.int i), x5, x6], [.int v, .int v], am_hp I2 J2 E2)) e2 rfl rfl ?_
  exact lr_b (t := (100, 304, 1338, [some (.ref 60000), some (.ref 0), some (.ref 156), some (.ref 178), some (.int i), x5, x6], [], am_hp I2 J2 E2)) (t' := (100, 304, 1236, [some (.ref 60000), some (.ref 0), some (.ref 156), some (.ref 178), some (.int i), x5, x6], [], am_hp I2 J2 E2)) (decide_eq_true (rfl : v = v)) rfl lr_e
set_option maxRecDepth 20000 in
theorem lw_36 (N : Nat) (xs : Nat → Int32) (i : Int32) (g : gI i N) : lwS N xs i 1238 := by
  intro x5 x6 I J E hrel
  obtain ⟨v, I1, J1, E1, I2, J2, E2, e1, e2, hr2⟩ := rl_said (false, N, xs) 39 I J E hrel (xs (i + Int32.ofInt 1).toNatClampNeg)
  have e1 : am_ev (false, N, xs) (99, 165, 0, [some (.ref 0), some (.int (xs (i + Int32.ofInt 1).toNatClampNeg)), none, none, none], [], am_hp I J E) = some (true, some (.int v), am_hp I1 J1 E1) := e1
  have e2 : am_ev (false, N, xs) (99, 298, 0, [some (.ref 156), some (.int (xs (i + Int32.ofInt 1).toNatClampNeg)), none, none], [], am_hp I1 J1 E1) = some (true, some (.int v), am_hp I2 J2 E2) := e2
  refine ⟨x5, x6, I2, J2, E2, hr2, ?_⟩
  refine lr_s (t := (100, 304, 1239, [some (.ref 60000), some (.ref 0), some (.ref 156), some (.ref 178), some (.int i), x5, x6], [.ref 0], am_hp I J E)) rfl ?_
  refine lr_s (t := (100, 304, 1240, [some (.ref 60000), some (.ref 0), some (.ref 156), some (.ref 178), some (.int i), x5, x6], [.ref 60000, .ref 0], am_hp I J E)) rfl ?_
  refine lr_s (t := (100, 304, 1242, [some (.ref 60000), some (.ref 0), some (.ref 156), some (.ref 178), some (.int i), x5, x6], [.int i, .ref 60000, .ref 0], am_hp I J E)) rfl ?_
  refine lr_s (t := (100, 304, 1243, [some (.ref 60000), some (.ref 0), some (.ref 156), some (.ref 178), some (.int i), x5, x6], [.int (Int32.ofInt 1), .int i, .ref 60000, .ref 0], am_hp I J E)) rfl ?_
  refine lr_s (t := (100, 304, 1244, [some (.ref 60000), some (.ref 0), some (.ref 156), some (.ref 178), some (.int i), x5, x6], [.int (i + Int32.ofInt 1), .ref 60000, .ref 0], am_hp I J E)) rfl ?_
  refine lr_g (t := (100, 304, 1245, [some (.ref 60000), some (.ref 0), some (.ref 156), some (.ref 178), some (.int i), x5, x6], [.int (xs (i + Int32.ofInt 1).toNatClampNeg), .ref 0], am_hp I J E)) (lr_in g.1) rfl ?_
  refine lr_c (s1 := (99, 165, 0, [some (.ref 0), some (.int (xs (i + Int32.ofInt 1).toNatClampNeg)), none, none, none], [], am_hp I J E)) (t := (100, 304, 1248, [some (.ref 60000), some (.ref 0), some (.ref 156), some (.ref 178), some (.int i), x5, x6], [.int v], am_hp I1 J1 E1)) e1 rfl rfl ?_
  refine lr_s (t := (100, 304, 1249, [some (.ref 60000), some (.ref 0), some (.ref 156), some (.ref 178), some (.int i), x5, x6], [.ref 156, .int v], am_hp I1 J1 E1)) rfl ?_
  refine lr_s (t := (100, 304, 1250, [some (.ref 60000), some (.ref 0), some (.ref 156), some (.ref 178), some (.int i), x5, x6], [.ref 60000, .ref 156, .int v], am_hp I1 J1 E1)) rfl ?_
  refine lr_s (t := (100, 304, 1252, [some (.ref 60000), some (.ref 0), some (.ref 156), some (.ref 178), some (.int i), x5, x6], [.int i, .ref 60000, .ref 156, .int v], am_hp I1 J1 E1)) rfl ?_
  refine lr_s (t := (100, 304, 1253, [some (.ref 60000), some (.ref 0), some (.ref 156), some (.ref 178), some (.int i), x5, x6], [.int (Int32.ofInt 1), .int i, .ref 60000, .ref 156, .int v], am_hp I1 J1 E1)) rfl ?_
  refine lr_s (t := (100, 304, 1254, [some (.ref 60000), some (.ref 0), some (.ref 156), some (.ref 178), some (.int i), x5, x6], [.int (i + Int32.ofInt 1), .ref 60000, .ref 156, .int v], am_hp I1 J1 E1)) rfl ?_
  refine lr_g (t := (100, 304, 1255, [some (.ref 60000), some (.ref 0), some (.ref 156), some (.ref 178), some (.int i), x5, x6], [.int (xs (i + Int32.ofInt 1).toNatClampNeg), .ref 156, .int v], am_hp I1 J1 E1)) (lr_in g.1) rfl ?_
  refine lr_c (s1 := (99, 298, 0, [some (.ref 156), some (.int (xs (i + Int32.ofInt 1).toNatClampNeg)), none, none], [], am_hp I1 J1 E1)) (t := (100, 304, 1258, [some (.ref 60000), some (.ref 0), some (.ref 156), some (.ref 178), some (.int i), x5, x6], [.int v, .int v], am_hp I2 J2 E2)) e2 rfl rfl ?_
  exact lr_b (t := (100, 304, 1338, [some (.ref 60000), some (.ref 0), some (.ref 156), some (.ref 178), some (.int i), x5, x6], [], am_hp I2 J2 E2)) (t' := (100, 304, 1261, [some (.ref 60000), some (.ref 0), some (.ref 156), some (.ref 178), some (.int i), x5, x6], [], am_hp I2 J2 E2)) (decide_eq_true (rfl : v = v)) rfl lr_e
set_option maxRecDepth 20000 in
theorem lw_37 (N : Nat) (xs : Nat → Int32) (i : Int32) (g : gI i N) : lwS N xs i 1263 := by
  intro x5 x6 I J E hrel
  obtain ⟨v, I1, J1, E1, I2, J2, E2, e1, e2, hr2⟩ := rl_image (false, N, xs) 39 I J E hrel (xs (i + Int32.ofInt 1).toNatClampNeg)
  have e1 : am_ev (false, N, xs) (99, 166, 0, [some (.ref 0), some (.int (xs (i + Int32.ofInt 1).toNatClampNeg))], [], am_hp I J E) = some (true, some (.int v), am_hp I1 J1 E1) := e1
  have e2 : am_ev (false, N, xs) (99, 299, 0, [some (.ref 156), some (.int (xs (i + Int32.ofInt 1).toNatClampNeg)), none], [], am_hp I1 J1 E1) = some (true, some (.int v), am_hp I2 J2 E2) := e2
  refine ⟨x5, x6, I2, J2, E2, hr2, ?_⟩
  refine lr_s (t := (100, 304, 1264, [some (.ref 60000), some (.ref 0), some (.ref 156), some (.ref 178), some (.int i), x5, x6], [.ref 0], am_hp I J E)) rfl ?_
  refine lr_s (t := (100, 304, 1265, [some (.ref 60000), some (.ref 0), some (.ref 156), some (.ref 178), some (.int i), x5, x6], [.ref 60000, .ref 0], am_hp I J E)) rfl ?_
  refine lr_s (t := (100, 304, 1267, [some (.ref 60000), some (.ref 0), some (.ref 156), some (.ref 178), some (.int i), x5, x6], [.int i, .ref 60000, .ref 0], am_hp I J E)) rfl ?_
  refine lr_s (t := (100, 304, 1268, [some (.ref 60000), some (.ref 0), some (.ref 156), some (.ref 178), some (.int i), x5, x6], [.int (Int32.ofInt 1), .int i, .ref 60000, .ref 0], am_hp I J E)) rfl ?_
  refine lr_s (t := (100, 304, 1269, [some (.ref 60000), some (.ref 0), some (.ref 156), some (.ref 178), some (.int i), x5, x6], [.int (i + Int32.ofInt 1), .ref 60000, .ref 0], am_hp I J E)) rfl ?_
  refine lr_g (t := (100, 304, 1270, [some (.ref 60000), some (.ref 0), some (.ref 156), some (.ref 178), some (.int i), x5, x6], [.int (xs (i + Int32.ofInt 1).toNatClampNeg), .ref 0], am_hp I J E)) (lr_in g.1) rfl ?_
  refine lr_c (s1 := (99, 166, 0, [some (.ref 0), some (.int (xs (i + Int32.ofInt 1).toNatClampNeg))], [], am_hp I J E)) (t := (100, 304, 1273, [some (.ref 60000), some (.ref 0), some (.ref 156), some (.ref 178), some (.int i), x5, x6], [.int v], am_hp I1 J1 E1)) e1 rfl rfl ?_
  refine lr_s (t := (100, 304, 1274, [some (.ref 60000), some (.ref 0), some (.ref 156), some (.ref 178), some (.int i), x5, x6], [.ref 156, .int v], am_hp I1 J1 E1)) rfl ?_
  refine lr_s (t := (100, 304, 1275, [some (.ref 60000), some (.ref 0), some (.ref 156), some (.ref 178), some (.int i), x5, x6], [.ref 60000, .ref 156, .int v], am_hp I1 J1 E1)) rfl ?_
  refine lr_s (t := (100, 304, 1277, [some (.ref 60000), some (.ref 0), some (.ref 156), some (.ref 178), some (.int i), x5, x6], [.int i, .ref 60000, .ref 156, .int v], am_hp I1 J1 E1)) rfl ?_
  refine lr_s (t := (100, 304, 1278, [some (.ref 60000), some (.ref 0), some (.ref 156), some (.ref 178), some (.int i), x5, x6], [.int (Int32.ofInt 1), .int i, .ref 60000, .ref 156, .int v], am_hp I1 J1 E1)) rfl ?_
  refine lr_s (t := (100, 304, 1279, [some (.ref 60000), some (.ref 0), some (.ref 156), some (.ref 178), some (.int i), x5, x6], [.int (i + Int32.ofInt 1), .ref 60000, .ref 156, .int v], am_hp I1 J1 E1)) rfl ?_
  refine lr_g (t := (100, 304, 1280, [some (.ref 60000), some (.ref 0), some (.ref 156), some (.ref 178), some (.int i), x5, x6], [.int (xs (i + Int32.ofInt 1).toNatClampNeg), .ref 156, .int v], am_hp I1 J1 E1)) (lr_in g.1) rfl ?_
  refine lr_c (s1 := (99, 299, 0, [some (.ref 156), some (.int (xs (i + Int32.ofInt 1).toNatClampNeg)), none], [], am_hp I1 J1 E1)) (t := (100, 304, 1283, [some (.ref 60000), some (.ref 0), some (.ref 156), some (.ref 178), some (.int i), x5, x6], [.int v, .int v], am_hp I2 J2 E2)) e2 rfl rfl ?_
  exact lr_b (t := (100, 304, 1338, [some (.ref 60000), some (.ref 0), some (.ref 156), some (.ref 178), some (.int i), x5, x6], [], am_hp I2 J2 E2)) (t' := (100, 304, 1286, [some (.ref 60000), some (.ref 0), some (.ref 156), some (.ref 178), some (.int i), x5, x6], [], am_hp I2 J2 E2)) (decide_eq_true (rfl : v = v)) rfl lr_e
set_option maxRecDepth 20000 in
theorem lw_38 (N : Nat) (xs : Nat → Int32) (i : Int32) (g : gI i N) : lwS N xs i 1288 := by
  intro x5 x6 I J E hrel
  obtain ⟨v, I1, J1, E1, I2, J2, E2, e1, e2, hr2⟩ := rl_restore (false, N, xs) 39 I J E hrel (xs (i + Int32.ofInt 1).toNatClampNeg)
  have e1 : am_ev (false, N, xs) (99, 167, 0, [some (.ref 0), some (.int (xs (i + Int32.ofInt 1).toNatClampNeg))], [], am_hp I J E) = some (true, some (.int v), am_hp I1 J1 E1) := e1
  have e2 : am_ev (false, N, xs) (99, 300, 0, [some (.ref 156), some (.int (xs (i + Int32.ofInt 1).toNatClampNeg)), none], [], am_hp I1 J1 E1) = some (true, some (.int v), am_hp I2 J2 E2) := e2
  refine ⟨x5, x6, I2, J2, E2, hr2, ?_⟩
  refine lr_s (t := (100, 304, 1289, [some (.ref 60000), some (.ref 0), some (.ref 156), some (.ref 178), some (.int i), x5, x6], [.ref 0], am_hp I J E)) rfl ?_
  refine lr_s (t := (100, 304, 1290, [some (.ref 60000), some (.ref 0), some (.ref 156), some (.ref 178), some (.int i), x5, x6], [.ref 60000, .ref 0], am_hp I J E)) rfl ?_
  refine lr_s (t := (100, 304, 1292, [some (.ref 60000), some (.ref 0), some (.ref 156), some (.ref 178), some (.int i), x5, x6], [.int i, .ref 60000, .ref 0], am_hp I J E)) rfl ?_
  refine lr_s (t := (100, 304, 1293, [some (.ref 60000), some (.ref 0), some (.ref 156), some (.ref 178), some (.int i), x5, x6], [.int (Int32.ofInt 1), .int i, .ref 60000, .ref 0], am_hp I J E)) rfl ?_
  refine lr_s (t := (100, 304, 1294, [some (.ref 60000), some (.ref 0), some (.ref 156), some (.ref 178), some (.int i), x5, x6], [.int (i + Int32.ofInt 1), .ref 60000, .ref 0], am_hp I J E)) rfl ?_
  refine lr_g (t := (100, 304, 1295, [some (.ref 60000), some (.ref 0), some (.ref 156), some (.ref 178), some (.int i), x5, x6], [.int (xs (i + Int32.ofInt 1).toNatClampNeg), .ref 0], am_hp I J E)) (lr_in g.1) rfl ?_
  refine lr_c (s1 := (99, 167, 0, [some (.ref 0), some (.int (xs (i + Int32.ofInt 1).toNatClampNeg))], [], am_hp I J E)) (t := (100, 304, 1298, [some (.ref 60000), some (.ref 0), some (.ref 156), some (.ref 178), some (.int i), x5, x6], [.int v], am_hp I1 J1 E1)) e1 rfl rfl ?_
  refine lr_s (t := (100, 304, 1299, [some (.ref 60000), some (.ref 0), some (.ref 156), some (.ref 178), some (.int i), x5, x6], [.ref 156, .int v], am_hp I1 J1 E1)) rfl ?_
  refine lr_s (t := (100, 304, 1300, [some (.ref 60000), some (.ref 0), some (.ref 156), some (.ref 178), some (.int i), x5, x6], [.ref 60000, .ref 156, .int v], am_hp I1 J1 E1)) rfl ?_
  refine lr_s (t := (100, 304, 1302, [some (.ref 60000), some (.ref 0), some (.ref 156), some (.ref 178), some (.int i), x5, x6], [.int i, .ref 60000, .ref 156, .int v], am_hp I1 J1 E1)) rfl ?_
  refine lr_s (t := (100, 304, 1303, [some (.ref 60000), some (.ref 0), some (.ref 156), some (.ref 178), some (.int i), x5, x6], [.int (Int32.ofInt 1), .int i, .ref 60000, .ref 156, .int v], am_hp I1 J1 E1)) rfl ?_
  refine lr_s (t := (100, 304, 1304, [some (.ref 60000), some (.ref 0), some (.ref 156), some (.ref 178), some (.int i), x5, x6], [.int (i + Int32.ofInt 1), .ref 60000, .ref 156, .int v], am_hp I1 J1 E1)) rfl ?_
  refine lr_g (t := (100, 304, 1305, [some (.ref 60000), some (.ref 0), some (.ref 156), some (.ref 178), some (.int i), x5, x6], [.int (xs (i + Int32.ofInt 1).toNatClampNeg), .ref 156, .int v], am_hp I1 J1 E1)) (lr_in g.1) rfl ?_
  refine lr_c (s1 := (99, 300, 0, [some (.ref 156), some (.int (xs (i + Int32.ofInt 1).toNatClampNeg)), none], [], am_hp I1 J1 E1)) (t := (100, 304, 1308, [some (.ref 60000), some (.ref 0), some (.ref 156), some (.ref 178), some (.int i), x5, x6], [.int v, .int v], am_hp I2 J2 E2)) e2 rfl rfl ?_
  exact lr_b (t := (100, 304, 1338, [some (.ref 60000), some (.ref 0), some (.ref 156), some (.ref 178), some (.int i), x5, x6], [], am_hp I2 J2 E2)) (t' := (100, 304, 1311, [some (.ref 60000), some (.ref 0), some (.ref 156), some (.ref 178), some (.int i), x5, x6], [], am_hp I2 J2 E2)) (decide_eq_true (rfl : v = v)) rfl lr_e
set_option maxRecDepth 20000 in
theorem lw_39 (N : Nat) (xs : Nat → Int32) (i : Int32) (g : gI i N) : lwS N xs i 1313 := by
  intro x5 x6 I J E hrel
  obtain ⟨v, I1, J1, E1, I2, J2, E2, e1, e2, hr2⟩ := rl_count (false, N, xs) 39 I J E hrel (xs (i + Int32.ofInt 1).toNatClampNeg)
  have e1 : am_ev (false, N, xs) (99, 119, 0, [some (.ref 0), some (.int (xs (i + Int32.ofInt 1).toNatClampNeg))], [], am_hp I J E) = some (true, some (.int v), am_hp I1 J1 E1) := e1
  have e2 : am_ev (false, N, xs) (99, 301, 0, [some (.ref 156), some (.int (xs (i + Int32.ofInt 1).toNatClampNeg))], [], am_hp I1 J1 E1) = some (true, some (.int v), am_hp I2 J2 E2) := e2
  refine ⟨x5, x6, I2, J2, E2, hr2, ?_⟩
  refine lr_s (t := (100, 304, 1314, [some (.ref 60000), some (.ref 0), some (.ref 156), some (.ref 178), some (.int i), x5, x6], [.ref 0], am_hp I J E)) rfl ?_
  refine lr_s (t := (100, 304, 1315, [some (.ref 60000), some (.ref 0), some (.ref 156), some (.ref 178), some (.int i), x5, x6], [.ref 60000, .ref 0], am_hp I J E)) rfl ?_
  refine lr_s (t := (100, 304, 1317, [some (.ref 60000), some (.ref 0), some (.ref 156), some (.ref 178), some (.int i), x5, x6], [.int i, .ref 60000, .ref 0], am_hp I J E)) rfl ?_
  refine lr_s (t := (100, 304, 1318, [some (.ref 60000), some (.ref 0), some (.ref 156), some (.ref 178), some (.int i), x5, x6], [.int (Int32.ofInt 1), .int i, .ref 60000, .ref 0], am_hp I J E)) rfl ?_
  refine lr_s (t := (100, 304, 1319, [some (.ref 60000), some (.ref 0), some (.ref 156), some (.ref 178), some (.int i), x5, x6], [.int (i + Int32.ofInt 1), .ref 60000, .ref 0], am_hp I J E)) rfl ?_
  refine lr_g (t := (100, 304, 1320, [some (.ref 60000), some (.ref 0), some (.ref 156), some (.ref 178), some (.int i), x5, x6], [.int (xs (i + Int32.ofInt 1).toNatClampNeg), .ref 0], am_hp I J E)) (lr_in g.1) rfl ?_
  refine lr_c (s1 := (99, 119, 0, [some (.ref 0), some (.int (xs (i + Int32.ofInt 1).toNatClampNeg))], [], am_hp I J E)) (t := (100, 304, 1323, [some (.ref 60000), some (.ref 0), some (.ref 156), some (.ref 178), some (.int i), x5, x6], [.int v], am_hp I1 J1 E1)) e1 rfl rfl ?_
  refine lr_s (t := (100, 304, 1324, [some (.ref 60000), some (.ref 0), some (.ref 156), some (.ref 178), some (.int i), x5, x6], [.ref 156, .int v], am_hp I1 J1 E1)) rfl ?_
  refine lr_s (t := (100, 304, 1325, [some (.ref 60000), some (.ref 0), some (.ref 156), some (.ref 178), some (.int i), x5, x6], [.ref 60000, .ref 156, .int v], am_hp I1 J1 E1)) rfl ?_
  refine lr_s (t := (100, 304, 1327, [some (.ref 60000), some (.ref 0), some (.ref 156), some (.ref 178), some (.int i), x5, x6], [.int i, .ref 60000, .ref 156, .int v], am_hp I1 J1 E1)) rfl ?_
  refine lr_s (t := (100, 304, 1328, [some (.ref 60000), some (.ref 0), some (.ref 156), some (.ref 178), some (.int i), x5, x6], [.int (Int32.ofInt 1), .int i, .ref 60000, .ref 156, .int v], am_hp I1 J1 E1)) rfl ?_
  refine lr_s (t := (100, 304, 1329, [some (.ref 60000), some (.ref 0), some (.ref 156), some (.ref 178), some (.int i), x5, x6], [.int (i + Int32.ofInt 1), .ref 60000, .ref 156, .int v], am_hp I1 J1 E1)) rfl ?_
  refine lr_g (t := (100, 304, 1330, [some (.ref 60000), some (.ref 0), some (.ref 156), some (.ref 178), some (.int i), x5, x6], [.int (xs (i + Int32.ofInt 1).toNatClampNeg), .ref 156, .int v], am_hp I1 J1 E1)) (lr_in g.1) rfl ?_
  refine lr_c (s1 := (99, 301, 0, [some (.ref 156), some (.int (xs (i + Int32.ofInt 1).toNatClampNeg))], [], am_hp I1 J1 E1)) (t := (100, 304, 1333, [some (.ref 60000), some (.ref 0), some (.ref 156), some (.ref 178), some (.int i), x5, x6], [.int v, .int v], am_hp I2 J2 E2)) e2 rfl rfl ?_
  exact lr_b (t := (100, 304, 1338, [some (.ref 60000), some (.ref 0), some (.ref 156), some (.ref 178), some (.int i), x5, x6], [], am_hp I2 J2 E2)) (t' := (100, 304, 1336, [some (.ref 60000), some (.ref 0), some (.ref 156), some (.ref 178), some (.int i), x5, x6], [], am_hp I2 J2 E2)) (decide_eq_true (rfl : v = v)) rfl lr_e
