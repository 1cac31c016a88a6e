/-! the acts, 7 -/
set_option maxRecDepth 20000 in
theorem lw_22 (N : Nat) (xs : Nat → Int32) (i : Int32) (g : gI i N) : lwS N xs i 857 := by
  intro x5 x6 I J E hrel
  obtain ⟨v, I1, J1, E1, I2, J2, E2, e1, e2, hr2⟩ := rl_deep (false, N, xs) 39 I J E hrel (xs (i + Int32.ofInt 1).toNatClampNeg)
  have e1 : am_ev (false, N, xs) (99, 142, 0, [some (.ref 0), some (.int (xs (i + Int32.ofInt 1).toNatClampNeg))], [], am_hp I J E) = some (true, some (.int v), am_hp I1 J1 E1) := e1
  have e2 : am_ev (false, N, xs) (99, 254, 0, [some (.ref 156), some (.int (xs (i + Int32.ofInt 1).toNatClampNeg))], [], am_hp I1 J1 E1) = some (true, some (.int v), am_hp I2 J2 E2) := e2
  refine ⟨x5, x6, I2, J2, E2, hr2, ?_⟩
  refine lr_s (t := (100, 304, 858, [some (.ref 60000), some (.ref 0), some (.ref 156), some (.ref 178), some (.int i), x5, x6], [.ref 0], am_hp I J E)) rfl ?_
  refine lr_s (t := (100, 304, 859, [some (.ref 60000), some (.ref 0), some (.ref 156), some (.ref 178), some (.int i), x5, x6], [.ref 60000, .ref 0], am_hp I J E)) rfl ?_
  refine lr_s (t := (100, 304, 861, [some (.ref 60000), some (.ref 0), some (.ref 156), some (.ref 178), some (.int i), x5, x6], [.int i, .ref 60000, .ref 0], am_hp I J E)) rfl ?_
  refine lr_s (t := (100, 304, 862, [some (.ref 60000), some (.ref 0), some (.ref 156), some (.ref 178), some (.int i), x5, x6], [.int (Int32.ofInt 1), .int i, .ref 60000, .ref 0], am_hp I J E)) rfl ?_
  refine lr_s (t := (100, 304, 863, [some (.ref 60000), some (.ref 0), some (.ref 156), some (.ref 178), some (.int i), x5, x6], [.int (i + Int32.ofInt 1), .ref 60000, .ref 0], am_hp I J E)) rfl ?_
  refine lr_g (t := (100, 304, 864, [some (.ref 60000), some (.ref 0), some (.ref 156), some (.ref 178), some (.int i), x5, x6], [.int (xs (i + Int32.ofInt 1).toNatClampNeg), .ref 0], am_hp I J E)) (lr_in g.1) rfl ?_
  refine lr_c (s1 := (99, 142, 0, [some (.ref 0), some (.int (xs (i + Int32.ofInt 1).toNatClampNeg))], [], am_hp I J E)) (t := (100, 304, 867, [some (.ref 60000), some (.ref 0), some (.ref 156), some (.ref 178), some (.int i), x5, x6], [.int v], am_hp I1 J1 E1)) e1 rfl rfl ?_
  refine lr_s (t := (100, 304, 868, [some (.ref 60000), some (.ref 0), some (.ref 156), some (.ref 178), some (.int i), x5, x6], [.ref 156, .int v], am_hp I1 J1 E1)) rfl ?_
  refine lr_s (t := (100, 304, 869, [some (.ref 60000), some (.ref 0), some (.ref 156), some (.ref 178), some (.int i), x5, x6], [.ref 60000, .ref 156, .int v], am_hp I1 J1 E1)) rfl ?_
  refine lr_s (t := (100, 304, 871, [some (.ref 60000), some (.ref 0), some (.ref 156), some (.ref 178), some (.int i), x5, x6], [.int i, .ref 60000, .ref 156, .int v], am_hp I1 J1 E1)) rfl ?_
  refine lr_s (t := (100, 304, 872, [some (.ref 60000), some (.ref 0), some (.ref 156), some (.ref 178), some (.int i), x5, x6], [.int (Int32.ofInt 1), .int i, .ref 60000, .ref 156, .int v], am_hp I1 J1 E1)) rfl ?_
  refine lr_s (t := (100, 304, 873, [some (.ref 60000), some (.ref 0), some (.ref 156), some (.ref 178), some (.int i), x5, x6], [.int (i + Int32.ofInt 1), .ref 60000, .ref 156, .int v], am_hp I1 J1 E1)) rfl ?_
  refine lr_g (t := (100, 304, 874, [some (.ref 60000), some (.ref 0), some (.ref 156), some (.ref 178), some (.int i), x5, x6], [.int (xs (i + Int32.ofInt 1).toNatClampNeg), .ref 156, .int v], am_hp I1 J1 E1)) (lr_in g.1) rfl ?_
  refine lr_c (s1 := (99, 254, 0, [some (.ref 156), some (.int (xs (i + Int32.ofInt 1).toNatClampNeg))], [], am_hp I1 J1 E1)) (t := (100, 304, 877, [some (.ref 60000), some (.ref 0), some (.ref 156), some (.ref 178), some (.int i), x5, x6], [.int v, .int v], am_hp I2 J2 E2)) e2 rfl rfl ?_
  exact lr_b (t := (100, 304, 1338, [some (.ref 60000), some (.ref 0), some (.ref 156), some (.ref 178), some (.int i), x5, x6], [], am_hp I2 J2 E2)) (t' := (100, 304, 880, [some (.ref 60000), some (.ref 0), some (.ref 156), some (.ref 178), some (.int i), x5, x6], [], am_hp I2 J2 E2)) (decide_eq_true (rfl : v = v)) rfl lr_e
set_option maxRecDepth 20000 in
theorem lw_23 (N : Nat) (xs : Nat → Int32) (i : Int32) (g : gI i N) : lwS N xs i 882 := by
  intro x5 x6 I J E hrel
  obtain ⟨v, I1, J1, E1, I2, J2, E2, e1, e2, hr2⟩ := rl_fits (false, N, xs) 39 I J E hrel
  have e1 : am_ev (false, N, xs) (99, 145, 0, [some (.ref 0), none], [], am_hp I J E) = some (true, some (.int v), am_hp I1 J1 E1) := e1
  have e2 : am_ev (false, N, xs) (99, 257, 0, [some (.ref 156), none, none, none, none], [], am_hp I1 J1 E1) = some (true, some (.int v), am_hp I2 J2 E2) := e2
  refine ⟨x5, x6, I2, J2, E2, hr2, ?_⟩
  refine lr_s (t := (100, 304, 883, [some (.ref 60000), some (.ref 0), some (.ref 156), some (.ref 178), some (.int i), x5, x6], [.ref 0], am_hp I J E)) rfl ?_
  refine lr_c (s1 := (99, 145, 0, [some (.ref 0), none], [], am_hp I J E)) (t := (100, 304, 886, [some (.ref 60000), some (.ref 0), some (.ref 156), some (.ref 178), some (.int i), x5, x6], [.int v], am_hp I1 J1 E1)) e1 rfl rfl ?_
  refine lr_s (t := (100, 304, 887, [some (.ref 60000), some (.ref 0), some (.ref 156), some (.ref 178), some (.int i), x5, x6], [.ref 156, .int v], am_hp I1 J1 E1)) rfl ?_
  refine lr_c (s1 := (99, 257, 0, [some (.ref 156), none, none, none, none], [], am_hp I1 J1 E1)) (t := (100, 304, 890, [some (.ref 60000), some (.ref 0), some (.ref 156), some (.ref 178), some (.int i), x5, x6], [.int v, .int v], am_hp I2 J2 E2)) e2 rfl rfl ?_
  exact lr_b (t := (100, 304, 1338, [some (.ref 60000), some (.ref 0), some (.ref 156), some (.ref 178), some (.int i), x5, x6], [], am_hp I2 J2 E2)) (t' := (100, 304, 893, [some (.ref 60000), some (.ref 0), some (.ref 156), some (.ref 178), some (.int i), x5, x6], [], am_hp I2 J2 E2)) (decide_eq_true (rfl : v = v)) rfl lr_e
set_option maxRecDepth 20000 in
theorem lw_24 (N : Nat) (xs : Nat → Int32) (i : Int32) (g : gI i N) : lwS N xs i 895 := by
  intro x5 x6 I J E hrel
  obtain ⟨v, I1, J1, E1, I2, J2, E2, e1, e2, hr2⟩ := rl_fitting (false, N, xs) 39 I J E hrel
  have e1 : am_ev (false, N, xs) (99, 151, 0, [some (.ref 0)], [], am_hp I J E) = some (true, some (.int v), am_hp I1 J1 E1) := e1
  have e2 : am_ev (false, N, xs) (99, 258, 0, [some (.ref 156)], [], am_hp I1 J1 E1) = some (true, some (.int v), am_hp I2 J2 E2) := e2
  refine ⟨x5, x6, I2, J2, E2, hr2, ?_⟩
  refine lr_s (t := (100, 304, 896, [some (.ref 60000), some (.ref 0), some (.ref 156), some (.ref 178), some (.int i), x5, x6], [.ref 0], am_hp I J E)) rfl ?_
  refine lr_c (s1 := (99, 151, 0, [some (.ref 0)], [], am_hp I J E)) (t := (100, 304, 899, [some (.ref 60000), some (.ref 0), some (.ref 156), some (.ref 178), some (.int i), x5, x6], [.int v], am_hp I1 J1 E1)) e1 rfl rfl ?_
  refine lr_s (t := (100, 304, 900, [some (.ref 60000), some (.ref 0), some (.ref 156), some (.ref 178), some (.int i), x5, x6], [.ref 156, .int v], am_hp I1 J1 E1)) rfl ?_
  refine lr_c (s1 := (99, 258, 0, [some (.ref 156)], [], am_hp I1 J1 E1)) (t := (100, 304, 903, [some (.ref 60000), some (.ref 0), some (.ref 156), some (.ref 178), some (.int i), x5, x6], [.int v, .int v], am_hp I2 J2 E2)) e2 rfl rfl ?_
  exact lr_b (t := (100, 304, 1338, [some (.ref 60000), some (.ref 0), some (.ref 156), some (.ref 178), some (.int i), x5, x6], [], am_hp I2 J2 E2)) (t' := (100, 304, 906, [some (.ref 60000), some (.ref 0), some (.ref 156), some (.ref 178), some (.int i), x5, x6], [], am_hp I2 J2 E2)) (decide_eq_true (rfl : v = v)) rfl lr_e
set_option maxRecDepth 20000 in
theorem lw_25 (N : Nat) (xs : Nat → Int32) (i : Int32) (g : gI i N) : lwS N xs i 908 := by
  intro x5 x6 I J E hrel
  obtain ⟨v, I1, J1, E1, I2, J2, E2, e1, e2, hr2⟩ := rl_ask (false, N, xs) 39 I J E hrel
  have e1 : am_ev (false, N, xs) (99, 152, 0, [some (.ref 0)], [], am_hp I J E) = some (true, some (.int v), am_hp I1 J1 E1) := e1
  have e2 : am_ev (false, N, xs) (99, 259, 0, [some (.ref 156)], [], am_hp I1 J1 E1) = some (true, some (.int v), am_hp I2 J2 E2) := e2
  refine ⟨x5, x6, I2, J2, E2, hr2, ?_⟩
  refine lr_s (t := (100, 304, 909, [some (.ref 60000), some (.ref 0), some (.ref 156), some (.ref 178), some (.int i), x5, x6], [.ref 0], am_hp I J E)) rfl ?_
  refine lr_c (s1 := (99, 152, 0, [some (.ref 0)], [], am_hp I J E)) (t := (100, 304, 912, [some (.ref 60000), some (.ref 0), some (.ref 156), some (.ref 178), some (.int i), x5, x6], [.int v], am_hp I1 J1 E1)) e1 rfl rfl ?_
  refine lr_s (t := (100, 304, 913, [some (.ref 60000), some (.ref 0), some (.ref 156), some (.ref 178), some (.int i), x5, x6], [.ref 156, .int v], am_hp I1 J1 E1)) rfl ?_
  refine lr_c (s1 := (99, 259, 0, [some (.ref 156)], [], am_hp I1 J1 E1)) (t := (100, 304, 916, [some (.ref 60000), some (.ref 0), some (.ref 156), some (.ref 178), some (.int i), x5, x6], [.int v, .int v], am_hp I2 J2 E2)) e2 rfl rfl ?_
  exact lr_b (t := (100, 304, 1338, [some (.ref 60000), some (.ref 0), some (.ref 156), some (.ref 178), some (.int i), x5, x6], [], am_hp I2 J2 E2)) (t' := (100, 304, 919, [some (.ref 60000), some (.ref 0), some (.ref 156), some (.ref 178), some (.int i), x5, x6], [], am_hp I2 J2 E2)) (decide_eq_true (rfl : v = v)) rfl lr_e
set_option maxRecDepth 20000 in
theorem lw_26 (N : Nat) (xs : Nat → Int32) (i : Int32) (g : gI i N) : lwS N xs i 921 := by
  intro x5 x6 I J E hrel
  obtain ⟨v, I1, J1, E1, I2, J2, E2, e1, e2, hr2⟩ := rl_atOnce (false, N, xs) 39 I J E hrel
  have e1 : am_ev (false, N, xs) (99, 153, 0, [some (.ref 0)], [], am_hp I J E) = some (true, some (.int v), am_hp I1 J1 E1) := e1
  have e2 : am_ev (false, N, xs) (99, 261, 0, [some (.ref 156), none], [], am_hp I1 J1 E1) = some (true, some (.int v), am_hp I2 J2 E2) := e2
  refine ⟨x5, x6, I2, J2, E2, hr2, ?_⟩
  refine lr_s (t := (100, 304, 922, [some (.ref 60000), some (.ref 0), some (.ref 156), some (.ref 178), some (.int i), x5, x6], [.ref 0], am_hp I J E)) rfl ?_
  refine lr_c (s1 := (99, 153, 0, [some (.ref 0)], [], am_hp I J E)) (t := (100, 304, 925, [some (.ref 60000), some (.ref 0), some (.ref 156), some (.ref 178), some (.int i), x5, x6], [.int v], am_hp I1 J1 E1)) e1 rfl rfl ?_
  refine lr_s (t := (100, 304, 926, [some (.ref 60000), some (.ref 0), some (.ref 156), some (.ref 178), some (.int i), x5, x6], [.ref 156, .int v], am_hp I1 J1 E1)) rfl ?_
  refine lr_c (s1 := (99, 261, 0, [some (.ref 156), none], [], am_hp I1 J1 E1)) (t := (100, 304, 929, [some (.ref 60000), some (.ref 0), some (.ref 156), some (.ref 178), some (.int i), x5, x6], [.int v, .int v], am_hp I2 J2 E2)) e2 rfl rfl ?_
  exact lr_b (t := (100, 304, 1338, [some (.ref 60000), some (.ref 0), some (.ref 156), some (.ref 178), some (.int i), x5, x6], [], am_hp I2 J2 E2)) (t' := (100, 304, 932, [some (.ref 60000), some (.ref 0), some (.ref 156), some (.ref 178), some (.int i), x5, x6], [], am_hp I2 J2 E2)) (decide_eq_true (rfl : v = v)) rfl lr_e
set_option maxRecDepth 20000 in
theorem lw_27 (N : Nat) (xs : Nat → Int32) (i : Int32) (g : gI i N) : lwS N xs i 934 := by
  intro x5 x6 I J E hrel
  obtain ⟨v, I1, J1, E1, I2, J2, E2, e1, e2, hr2⟩ := rl_atOnceOf (false, N, xs) 39 I J E hrel (xs (i + Int32.ofInt 1).toNatClampNeg)
  have e1 : am_ev (false, N, xs) (99, 154, 0, [some (.ref 0), some (.int (xs (i + Int32.ofInt 1).toNatClampNeg))], [], am_hp I J E) = some (true, some (.int v), am_hp I1 J1 E1) := e1
  have e2 : am_ev (false, N, xs) (99, 262, 0, [some (.ref 156), some (.int (xs (i + Int32.ofInt 1).toNatClampNeg))], [], am_hp I1 J1 E1) = some (true, some (.int v), am_hp I2 J2 E2) := e2
  refine ⟨x5, x6, I2, J2, E2, hr2, ?_⟩
  refine lr_s (t := (100, 304, 935, [some (.ref 60000), some (.ref 0), some (.ref 156), some (.ref 178), some (.int i), x5, x6], [.ref 0], am_hp I J E)) rfl ?_
  refine lr_s (t := (100, 304, 936, [some (.ref 60000), some (.ref 0), some (.ref 156), some (.ref 178), some (.int i), x5, x6], [.ref 60000, .ref 0], am_hp I J E)) rfl ?_
  refine lr_s (t := (100, 304, 938, [some (.ref 60000), some (.ref 0), some (.ref 156), some (.ref 178), some (.int i), x5, x6], [.int i, .ref 60000, .ref 0], am_hp I J E)) rfl ?_
  refine lr_s (t := (100, 304, 939, [some (.ref 60000), some (.ref 0), some (.ref 156), some (.ref 178), some (.int i), x5, x6], [.int (Int32.ofInt 1), .int i, .ref 60000, .ref 0], am_hp I J E)) rfl ?_
  refine lr_s (t := (100, 304, 940, [some (.ref 60000), some (.ref 0), some (.ref 156), some (.ref 178), some (.int i), x5, x6], [.int (i + Int32.ofInt 1), .ref 60000, .ref 0], am_hp I J E)) rfl ?_
  refine lr_g (t := (100, 304, 941, [some (.ref 60000), some (.ref 0), some (.ref 156), some (.ref 178), some (.int i), x5, x6], [.int (xs (i + Int32.ofInt 1).toNatClampNeg), .ref 0], am_hp I J E)) (lr_in g.1) rfl ?_
  refine lr_c (s1 := (99, 154, 0, [some (.ref 0), some (.int (xs (i + Int32.ofInt 1).toNatClampNeg))], [], am_hp I J E)) (t := (100, 304, 944, [some (.ref 60000), some (.ref 0), some (.ref 156), some (.ref 178), some (.int i), x5, x6], [.int v], am_hp I1 J1 E1)) e1 rfl rfl ?_
  refine lr_s (t := (100, 304, 945, [some (.ref 60000), some (.ref 0), some (.ref 156), some (.ref 178), some (.int i), x5, x6], [.ref 156, .int v], am_hp I1 J1 E1)) rfl ?_
  refine lr_s (t := (100, 304, 946, [some (.ref 60000), some (.ref 0), some (.ref 156), some (.ref 178), some (.int i), x5, x6], [.ref 60000, .ref 156, .int v], am_hp I1 J1 E1)) rfl ?_
  refine lr_s (t := (100, 304, 948, [some (.ref 60000), some (.ref 0), some (.ref 156), some (.ref 178), some (.int i), x5, x6], [.int i, .ref 60000, .ref 156, .int v], am_hp I1 J1 E1)) rfl ?_
  refine lr_s (t := (100, 304, 949, [some (.ref 60000), some (.ref 0), some (.ref 156), some (.ref 178), some (.int i), x5, x6], [.int (Int32.ofInt 1), .int i, .ref 60000, .ref 156, .int v], am_hp I1 J1 E1)) rfl ?_
  refine lr_s (t := (100, 304, 950, [some (.ref 60000), some (.ref 0), some (.ref 156), some (.ref 178), some (.int i), x5, x6], [.int (i + Int32.ofInt 1), .ref 60000, .ref 156, .int v], am_hp I1 J1 E1)) rfl ?_
  refine lr_g (t := (100, 304, 951, [some (.ref 60000), some (.ref 0), some (.ref 156), some (.ref 178), some (.int i), x5, x6], [.int (xs (i + Int32.ofInt 1).toNatClampNeg), .ref 156, .int v], am_hp I1 J1 E1)) (lr_in g.1) rfl ?_
  refine lr_c (s1 := (99, 262, 0, [some (.ref 156), some (.int (xs (i + Int32.ofInt 1).toNatClampNeg))], [], am_hp I1 J1 E1)) (t := (100, 304, 954, [some (.ref 60000), some (.ref 0), some (.ref 156), some (.ref 178), some (.int i), x5, x6], [.int v, .int v], am_hp I2 J2 E2)) e2 rfl rfl ?_
  exact lr_b (t := (100, 304, 1338, [some (.ref 60000), some (.ref 0), some (.ref 156), some (.ref 178), some (.int i), x5, x6], [], am_hp I2 J2 E2)) (t' := (100, 304, 957, [some (.ref 60000), some (.ref 0), some (.ref 156), some (.ref 178), some (.int i), x5, x6], [], am_hp I2 J2 E2)) (decide_eq_true (rfl : v = v)) rfl lr_e
set_option maxRecDepth 20000 in
theorem lw_29 (N : Nat) (xs : Nat → Int32) (i : Int32) (g : gI i N) : lwS N xs i 1027 := by
  intro x5 x6 I J E hrel
  obtain ⟨v, I1, J1, E1, I2, J2, E2, e1, e2, hr2⟩ := rl_slip (false, N, xs) 39 I J E hrel (xs (i + Int32.ofInt 1).toNatClampNeg)
  have e1 : am_ev (false, N, xs) (99, 155, 0, [some (.ref 0), some (.int (xs (i + Int32.ofInt 1).toNatClampNeg)), none], [], am_hp I J E) = some (true, some (.int v), am_hp I1 J1 E1) := e1
  have e2 : am_ev (false, N, xs) (99, 269, 0, [some (.ref 156), some (.int (xs (i + Int32.ofInt 1).toNatClampNeg))], [], am_hp I1 J1 E1) = some (true, some (.int v), am_hp I2 J2 E2) := e2
  refine ⟨x5, x6, I2, J2, E2, hr2, ?_⟩
  refine lr_s (t := (100, 304, 1028, [some (.ref 60000), some (.ref 0), some (.ref 156), some (.ref 178), some (.int i), x5, x6], [.ref 0], am_hp I J E)) rfl ?_
  refine lr_s (t := (100, 304, 1029, [some (.ref 60000), some (.ref 0), some (.ref 156), some (.ref 178), some (.int i), x5, x6], [.ref 60000, .ref 0], am_hp I J E)) rfl ?_
  refine lr_s (t := (100, 304, 1031, [some (.ref 60000), some (.ref 0), some (.ref 156), some (.ref 178), some (.int i), x5, x6], [.int i, .ref 60000, .ref 0], am_hp I J E)) rfl ?_
  refine lr_s (t := (100, 304, 1032, [some (.ref 60000), some (.ref 0), some (.ref 156), some (.ref 178), some (.int i), x5, x6], [.int (Int32.ofInt 1), .int i, .ref 60000, .ref 0], am_hp I J E)) rfl ?_
  refine lr_s (t := (100, 304, 1033, [some (.ref 60000), some (.ref 0), some (.ref 156), some (.ref 178), some (.int i), x5, x6], [.int (i + Int32.ofInt 1), .ref 60000, .ref 0], am_hp I J E)) rfl ?_
  refine lr_g (t := (100, 304, 1034, [some (.ref 60000), some (.ref 0), some (.ref 156), some (.ref 178), some (.int i), x5, x6], [.int (xs (i + Int32.ofInt 1).toNatClampNeg), .ref 0], am_hp I J E)) (lr_in g.1) rfl ?_
  refine lr_c (s1 := (99, 155, 0, [some (.ref 0), some (.int (xs (i + Int32.ofInt 1).toNatClampNeg)), none], [], am_hp I J E)) (t := (100, 304, 1037, [some (.ref 60000), some (.ref 0), some (.ref 156), some (.ref 178), some (.int i), x5, x6], [.int v], am_hp I1 J1 E1)) e1 rfl rfl ?_
  refine lr_s (t := (100, 304, 1038, [some (.ref 60000), some (.ref 0), some (.ref 156), some (.ref 178), some (.int i), x5, x6], [.ref 156, .int v], am_hp I1 J1 E1)) rfl ?_
  refine lr_s (t := (100, 304, 1039, [some (.ref 60000), some (.ref 0), some (.ref 156), some (.ref 178), some (.int i), x5, x6], [.ref 60000, .ref 156, .int v], am_hp I1 J1 E1)) rfl ?_
  refine lr_s (t := (100, 304, 1041, [some (.ref 60000), some (.ref 0), some (.ref 156), some (.ref 178), some (.int i), x5, x6], [.int i, .ref 60000, .ref 156, .int v], am_hp I1 J1 E1)) rfl ?_
  refine lr_s (t := (100, 304, 1042, [some (.ref 60000), some (.ref 0), some (.ref 156), some (.ref 178), some (.int i), x5, x6], [.int (Int32.ofInt 1), .int i, .ref 60000, .ref 156, .int v], am_hp I1 J1 E1)) rfl ?_
  refine lr_s (t := (100, 304, 1043, [some (.ref 60000), some (.ref 0), some (.ref 156), some (.ref 178), some (.int i), x5, x6], [.int (i + Int32.ofInt 1), .ref 60000, .ref 156, .int v], am_hp I1 J1 E1)) rfl ?_
  refine lr_g (t := (100, 304, 1044, [some (.ref 60000), some (.ref 0), some (.ref 156), some (.ref 178), some (.int i), x5, x6], [.int (xs (i + Int32.ofInt 1).toNatClampNeg), .ref 156, .int v], am_hp I1 J1 E1)) (lr_in g.1) rfl ?_
  refine lr_c (s1 := (99, 269, 0, [some (.ref 156), some (.int (xs (i + Int32.ofInt 1).toNatClampNeg))], [], am_hp I1 J1 E1)) (t := (100, 304, 1047, [some (.ref 60000), some (.ref 0), some (.ref 156), some (.ref 178), some (.int i), x5, x6], [.int v, .int v], am_hp I2 J2 E2)) e2 rfl rfl ?_
  exact lr_b (t := (100, 304, 1338, [some (.ref 60000), some (.ref 0), some (.ref 156), some (.ref 178), some (.int i), x5, x6], [], am_hp I2 J2 E2)) (t' := (100, 304, 1050, [some (.ref 60000), some (.ref 0), some (.ref 156), some (.ref 178), some (.int i), x5, x6], [], am_hp I2 J2 E2)) (decide_eq_true (rfl : v = v)) rfl lr_e
set_option maxRecDepth 20000 in
theorem lw_30 (N : Nat) (xs : Nat → Int32) (i : Int32) (g : gI i N) : lwS N xs i 1052 := by
  intro x5 x6 I J E hrel
  obtain ⟨v, I1, J1, E1, I2, J2, E2, e1, e2, hr2⟩ := rl_byteAt (false, N, xs) 39 I J E hrel (xs (i + Int32.ofInt 1).toNatClampNeg)
  have e1 : am_ev (false, N, xs) (99, 156, 0, [some (.ref 0), some (.int (xs (i + Int32.ofInt 1).toNatClampNeg))], [], am_hp I J E) = some (true, some (.int v), am_hp I1 J1 E1) := e1
  have e2 : am_ev (false, N, xs) (99, 270, 0, [some (.ref 156), some (.int (xs (i + Int32.ofInt 1).toNatClampNeg))], [], am_hp I1 J1 E1) = some (true, some (.int v), am_hp I2 J2 E2) := e2
  refine ⟨x5, x6, I2, J2, E2, hr2, ?_⟩
  refine lr_s (t := (100, 304, 1053, [some (.ref 60000), some (.ref 0), some (.ref 156), some (.ref 178), some (.int i), x5, x6], [.ref 0], am_hp I J E)) rfl ?_
  refine lr_s (t := (100, 304, 1054, [some (.ref 60000), some (.ref 0), some (.ref 156), some (.ref 178), some (.int i), x5, x6], [.ref 60000, .ref 0], am_hp I J E)) rfl ?_
  refine lr_s (t := (100, 304, 1056, [some (.ref 60000), some (.ref 0), some (.ref 156), some (.ref 178), some (.int i), x5, x6], [.int i, .ref 60000, .ref 0], am_hp I J E)) rfl ?_
  refine lr_s (t := (100, 304, 1057, [some (.ref 60000), some (.ref 0), some (.ref 156), some (.ref 178), some (.int i), x5, x6], [.int (Int32.ofInt 1), .int i, .ref 60000, .ref 0], am_hp I J E)) rfl ?_
  refine lr_s (t := (100, 304, 1058, [some (.ref 60000), some (.ref 0), some (.ref 156), some (.ref 178), some (.int i), x5, x6], [.int (i + Int32.ofInt 1), .ref 60000, .ref 0], am_hp I J E)) rfl ?_
  refine lr_g (t := (100, 304, 1059, [some (.ref 60000), some (.ref 0), some (.ref 156), some (.ref 178), some (.int i), x5, x6], [.int (xs (i + Int32.ofInt 1).toNatClampNeg), .ref 0], am_hp I J E)) (lr_in g.1) rfl ?_
  refine lr_c (s1 := (99, 156, 0, [some (.ref 0), some (.int (xs (i + Int32.ofInt 1).toNatClampNeg))], [], am_hp I J E)) (t := (100, 304, 1062, [some (.ref 60000), some (.ref 0), some (.ref 156), some (.ref 178), some (.int i), x5, x6], [.int v], am_hp I1 J1 E1)) e1 rfl rfl ?_
  refine lr_s (t := (100, 304, 1063, [some (.ref 60000), some (.ref 0), some (.ref 156), some (.ref 178), some (.int i), x5, x6], [.ref 156, .int v], am_hp I1 J1 E1)) rfl ?_
  refine lr_s (t := (100, 304, 1064, [some (.ref 60000), some (.ref 0), some (.ref 156), some (.ref 178), some (.int i), x5, x6], [.ref 60000, .ref 156, .int v], am_hp I1 J1 E1)) rfl ?_
  refine lr_s (t := (100, 304, 1066, [some (.ref 60000), some (.ref 0), some (.ref 156), some (.ref 178), some (.int i), x5, x6], [.int i, .ref 60000, .ref 156, .int v], am_hp I1 J1 E1)) rfl ?_
  refine lr_s (t := (100, 304, 1067, [some (.ref 60000), some (.ref 0), some (.ref 156), some (.ref 178), some (.int i), x5, x6], [.int (Int32.ofInt 1), .int i, .ref 60000, .ref 156, .int v], am_hp I1 J1 E1)) rfl ?_
  refine lr_s (t := (100, 304, 1068, [some (.ref 60000), some (.ref 0), some (.ref 156), some (.ref 178), some (.int i), x5, x6], [.int (i + Int32.ofInt 1), .ref 60000, .ref 156, .int v], am_hp I1 J1 E1)) rfl ?_
  refine lr_g (t := (100, 304, 1069, [some (.ref 60000), some (.ref 0), some (.ref 156), some (.ref 178), some (.int i), x5, x6], [.int (xs (i + Int32.ofInt 1).toNatClampNeg), .ref 156, .int v], am_hp I1 J1 E1)) (lr_in g.1) rfl ?_
  refine lr_c (s1 := (99, 270, 0, [some (.ref 156), some (.int (xs (i + Int32.ofInt 1).toNatClampNeg))], [], am_hp I1 J1 E1)) (t := (100, 304, 1072, [some (.ref 60000), some (.ref 0), some (.ref 156), some (.ref 178), some (.int i), x5, x6], [.int v, .int v], am_hp I2 J2 E2)) e2 rfl rfl ?_
  exact lr_b (t := (100, 304, 1338, [some (.ref 60000), some (.ref 0), some (.ref 156), some (.ref 178), some (.int i), x5, x6], [], am_hp I2 J2 E2)) (t' := (100, 304, 1075, [some (.ref 60000), some (.ref 0), some (.ref 156), some (.ref 178), some (.int i), x5, x6], [], am_hp I2 J2 E2)) (decide_eq_true (rfl : v = v)) rfl lr_e
