/-! the acts, 6 -/
set_option maxRecDepth 20000 in
theorem lw_16 (N : Nat) (xs : Nat → Int32) (i : Int32) (g : gI i N) : lwS N xs i 719 := by
  intro x5 x6 I J E hrel
  obtain ⟨v, I1, J1, E1, I2, J2, E2, e1, e2, hr2⟩ := rl_way (false, N, xs) 39 I J E hrel (xs (i + Int32.ofInt 1).toNatClampNeg) (xs (i + Int32.ofInt 2).toNatClampNeg)
  have e1 : am_ev (false, N, xs) (99, 136, 0, [some (.ref 0), some (.int (xs (i + Int32.ofInt 1).toNatClampNeg)), some (.int (xs (i + Int32.ofInt 2).toNatClampNeg)), none, none, none], [], am_hp I J E) = some (true, some (.int v), am_hp I1 J1 E1) := e1
  have e2 : am_ev (false, N, xs) (99, 246, 0, [some (.ref 156), some (.int (xs (i + Int32.ofInt 1).toNatClampNeg)), some (.int (xs (i + Int32.ofInt 2).toNatClampNeg)), none, none, none, none, none], [], am_hp I1 J1 E1) = some (true, some (.int v), am_hp I2 J2 E2) := e2
  refine ⟨x5, x6, I2, J2, E2, hr2, ?_⟩
  refine lr_s (t := (100, 304, 720, [some (.ref 60000), some (.ref 0), some (.ref 156), some (.ref 178), some (.int i), x5, x6], [.ref 0], am_hp I J E)) rfl ?_
  refine lr_s (t := (100, 304, 721, [some (.ref 60000), some (.ref 0), some (.ref 156), some (.ref 178), some (.int i), x5, x6], [.ref 60000, .ref 0], am_hp I J E)) rfl ?_
  refine lr_s (t := (100, 304, 723, [some (.ref 60000), some (.ref 0), some (.ref 156), some (.ref 178), some (.int i), x5, x6], [.int i, .ref 60000, .ref 0], am_hp I J E)) rfl ?_
  refine lr_s (t := (100, 304, 724, [some (.ref 60000), some (.ref 0), some (.ref 156), some (.ref 178), some (.int i), x5, x6], [.int (Int32.ofInt 1), .int i, .ref 60000, .ref 0], am_hp I J E)) rfl ?_
  refine lr_s (t := (100, 304, 725, [some (.ref 60000), some (.ref 0), some (.ref 156), some (.ref 178), some (.int i), x5, x6], [.int (i + Int32.ofInt 1), .ref 60000, .ref 0], am_hp I J E)) rfl ?_
  refine lr_g (t := (100, 304, 726, [some (.ref 60000), some (.ref 0), some (.ref 156), some (.ref 178), some (.int i), x5, x6], [.int (xs (i + Int32.ofInt 1).toNatClampNeg), .ref 0], am_hp I J E)) (lr_in g.1) rfl ?_
  refine lr_s (t := (100, 304, 727, [some (.ref 60000), some (.ref 0), some (.ref 156), some (.ref 178), some (.int i), x5, x6], [.ref 60000, .int (xs (i + Int32.ofInt 1).toNatClampNeg), .ref 0], am_hp I J E)) rfl ?_
  refine lr_s (t := (100, 304, 729, [some (.ref 60000), some (.ref 0), some (.ref 156), some (.ref 178), some (.int i), x5, x6], [.int i, .ref 60000, .int (xs (i + Int32.ofInt 1).toNatClampNeg), .ref 0], am_hp I J E)) rfl ?_
  refine lr_s (t := (100, 304, 730, [some (.ref 60000), some (.ref 0), some (.ref 156), some (.ref 178), some (.int i), x5, x6], [.int (Int32.ofInt 2), .int i, .ref 60000, .int (xs (i + Int32.ofInt 1).toNatClampNeg), .ref 0], am_hp I J E)) rfl ?_
  refine lr_s (t := (100, 304, 731, [some (.ref 60000), some (.ref 0), some (.ref 156), some (.ref 178), some (.int i), x5, x6], [.int (i + Int32.ofInt 2), .ref 60000, .int (xs (i + Int32.ofInt 1).toNatClampNeg), .ref 0], am_hp I J E)) rfl ?_
  refine lr_g (t := (100, 304, 732, [some (.ref 60000), some (.ref 0), some (.ref 156), some (.ref 178), some (.int i), x5, x6], [.int (xs (i + Int32.ofInt 2).toNatClampNeg), .int (xs (i + Int32.ofInt 1).toNatClampNeg), .ref 0], am_hp I J E)) (lr_in g.2.1) rfl ?_
  refine lr_c (s1 := (99, 136, 0, [some (.ref 0), some (.int (xs (i + Int32.ofInt 1).toNatClampNeg)), some (.int (xs (i + Int32.ofInt 2).toNatClampNeg)), none, none, none], [], am_hp I J E)) (t := (100, 304, 735, [some (.ref 60000), some (.ref 0), some (.ref 156), some (.ref 178), some (.int i), x5, x6], [.int v], am_hp I1 J1 E1)) e1 rfl rfl ?_
  refine lr_s (t := (100, 304, 736, [some (.ref 60000), some (.ref 0), some (.ref 156), some (.ref 178), some (.int i), x5, x6], [.ref 156, .int v], am_hp I1 J1 E1)) rfl ?_
  refine lr_s (t := (100, 304, 737, [some (.ref 60000), some (.ref 0), some (.ref 156), some (.ref 178), some (.int i), x5, x6], [.ref 60000, .ref 156, .int v], am_hp I1 J1 E1)) rfl ?_
  refine lr_s (t := (100, 304, 739, [some (.ref 60000), some (.ref 0), some (.ref 156), some (.ref 178), some (.int i), x5, x6], [.int i, .ref 60000, .ref 156, .int v], am_hp I1 J1 E1)) rfl ?_
  refine lr_s (t := (100, 304, 740, [some (.ref 60000), some (.ref 0), some (.ref 156), some (.ref 178), some (.int i), x5, x6], [.int (Int32.ofInt 1), .int i, .ref 60000, .ref 156, .int v], am_hp I1 J1 E1)) rfl ?_
  refine lr_s (t := (100, 304, 741, [some (.ref 60000), some (.ref 0), some (.ref 156), some (.ref 178), some (.int i), x5, x6], [.int (i + Int32.ofInt 1), .ref 60000, .ref 156, .int v], am_hp I1 J1 E1)) rfl ?_
  refine lr_g (t := (100, 304, 742, [some (.ref 60000), some (.ref 0), some (.ref 156), some (.ref 178), some (.int i), x5, x6], [.int (xs (i + Int32.ofInt 1).toNatClampNeg), .ref 156, .int v], am_hp I1 J1 E1)) (lr_in g.1) rfl ?_
  refine lr_s (t := (100, 304, 743, [some (.ref 60000), some (.ref 0), some (.ref 156), some (.ref 178), some (.int i), x5, x6], [.ref 60000, .int (xs (i + Int32.ofInt 1).toNatClampNeg), .ref 156, .int v], am_hp I1 J1 E1)) rfl ?_
  refine lr_s (t := (100, 304, 745, [some (.ref 60000), some (.ref 0), some (.ref 156), some (.ref 178), some (.int i), x5, x6], [.int i, .ref 60000, .int (xs (i + Int32.ofInt 1).toNatClampNeg), .ref 156, .int v], am_hp I1 J1 E1)) rfl ?_
  refine lr_s (t := (100, 304, 746, [some (.ref 60000), some (.ref 0), some (.ref 156), some (.ref 178), some (.int i), x5, x6], [.int (Int32.ofInt 2), .int i, .ref 60000, .int (xs (i + Int32.ofInt 1).toNatClampNeg), .ref 156, .int v], am_hp I1 J1 E1)) rfl ?_
  refine lr_s (t := (100, 304, 747, [some (.ref 60000), some (.ref 0), some (.ref 156), some (.ref 178), some (.int i), x5, x6], [.int (i + Int32.ofInt 2), .ref 60000, .int (xs (i + Int32.ofInt 1).toNatClampNeg), .ref 156, .int v], am_hp I1 J1 E1)) rfl ?_
  refine lr_g (t := (100, 304, 748, [some (.ref 60000), some (.ref 0), some (.ref 156), some (.ref 178), some (.int i), x5, x6], [.int (xs (i + Int32.ofInt 2).toNatClampNeg), .int (xs (i + Int32.ofInt 1).toNatClampNeg), .ref 156, .int v], am_hp I1 J1 E1)) (lr_in g.2.1) rfl ?_
  refine lr_c (s1 := (99, 246, 0, [some (.ref 156), some (.int (xs (i + Int32.ofInt 1).toNatClampNeg)), some (.int (xs (i + Int32.ofInt 2).toNatClampNeg)), none, none, none, none, none], [], am_hp I1 J1 E1)) (t := (100, 304, 751, [some (.ref 60000), some (.ref 0), some (.ref 156), some (.ref 178), some (.int i), x5, x6], [.int v, .int v], am_hp I2 J2 E2)) e2 rfl rfl ?_
  exact lr_b (t := (100, 304, 1338, [some (.ref 60000), some (.ref 0), some (.ref 156), some (.ref 178), some (.int i), x5, x6], [], am_hp I2 J2 E2)) (t' := (100, 304, 754, [some (.ref 60000), some (.ref 0), some (.ref 156), some (.ref 178), some (.int i), x5, x6], [], am_hp I2 J2 E2)) (decide_eq_true (rfl : v = v)) rfl lr_e
set_option maxRecDepth 20000 in
theorem lw_17 (N : Nat) (xs : Nat → Int32) (i : Int32) (g : gI i N) : lwS N xs i 756 := by
  intro x5 x6 I J E hrel
  obtain ⟨v, I1, J1, E1, I2, J2, E2, e1, e2, hr2⟩ := rl_wayAt (false, N, xs) 39 I J E hrel (xs (i + Int32.ofInt 1).toNatClampNeg)
  have e1 : am_ev (false, N, xs) (99, 137, 0, [some (.ref 0), some (.int (xs (i + Int32.ofInt 1).toNatClampNeg))], [], am_hp I J E) = some (true, some (.int v), am_hp I1 J1 E1) := e1
  have e2 : am_ev (false, N, xs) (99, 247, 0, [some (.ref 156), some (.int (xs (i + Int32.ofInt 1).toNatClampNeg))], [], am_hp I1 J1 E1) = some (true, some (.int v), am_hp I2 J2 E2) := e2
  refine ⟨x5, x6, I2, J2, E2, hr2, ?_⟩
  refine lr_s (t := (100, 304, 757, [some (.ref 60000), some (.ref 0), some (.ref 156), some (.ref 178), some (.int i), x5, x6], [.ref 0], am_hp I J E)) rfl ?_
  refine lr_s (t := (100, 304, 758, [some (.ref 60000), some (.ref 0), some (.ref 156), some (.ref 178), some (.int i), x5, x6], [.ref 60000, .ref 0], am_hp I J E)) rfl ?_
  refine lr_s (t := (100, 304, 760, [some (.ref 60000), some (.ref 0), some (.ref 156), some (.ref 178), some (.int i), x5, x6], [.int i, .ref 60000, .ref 0], am_hp I J E)) rfl ?_
  refine lr_s (t := (100, 304, 761, [some (.ref 60000), some (.ref 0), some (.ref 156), some (.ref 178), some (.int i), x5, x6], [.int (Int32.ofInt 1), .int i, .ref 60000, .ref 0], am_hp I J E)) rfl ?_
  refine lr_s (t := (100, 304, 762, [some (.ref 60000), some (.ref 0), some (.ref 156), some (.ref 178), some (.int i), x5, x6], [.int (i + Int32.ofInt 1), .ref 60000, .ref 0], am_hp I J E)) rfl ?_
  refine lr_g (t := (100, 304, 763, [some (.ref 60000), some (.ref 0), some (.ref 156), some (.ref 178), some (.int i), x5, x6], [.int (xs (i + Int32.ofInt 1).toNatClampNeg), .ref 0], am_hp I J E)) (lr_in g.1) rfl ?_
  refine lr_c (s1 := (99, 137, 0, [some (.ref 0), some (.int (xs (i + Int32.ofInt 1).toNatClampNeg))], [], am_hp I J E)) (t := (100, 304, 766, [some (.ref 60000), some (.ref 0), some (.ref 156), some (.ref 178), some (.int i), x5, x6], [.int v], am_hp I1 J1 E1)) e1 rfl rfl ?_
  refine lr_s (t := (100, 304, 767, [some (.ref 60000), some (.ref 0), some (.ref 156), some (.ref 178), some (.int i), x5, x6], [.ref 156, .int v], am_hp I1 J1 E1)) rfl ?_
  refine lr_s (t := (100, 304, 768, [some (.ref 60000), some (.ref 0), some (.ref 156), some (.ref 178), some (.int i), x5, x6], [.ref 60000, .ref 156, .int v], am_hp I1 J1 E1)) rfl ?_
  refine lr_s (t := (100, 304, 770, [some (.ref 60000), some (.ref 0), some (.ref 156), some (.ref 178), some (.int i), x5, x6], [.int i, .ref 60000, .ref 156, .int v], am_hp I1 J1 E1)) rfl ?_
  refine lr_s (t := (100, 304, 771, [some (.ref 60000), some (.ref 0), some (.ref 156), some (.ref 178), some (.int i), x5, x6], [.int (Int32.ofInt 1), .int i, .ref 60000, .ref 156, .int v], am_hp I1 J1 E1)) rfl ?_
  refine lr_s (t := (100, 304, 772, [some (.ref 60000), some (.ref 0), some (.ref 156), some (.ref 178), some (.int i), x5, x6], [.int (i + Int32.ofInt 1), .ref 60000, .ref 156, .int v], am_hp I1 J1 E1)) rfl ?_
  refine lr_g (t := (100, 304, 773, [some (.ref 60000), some (.ref 0), some (.ref 156), some (.ref 178), some (.int i), x5, x6], [.int (xs (i + Int32.ofInt 1).toNatClampNeg), .ref 156, .int v], am_hp I1 J1 E1)) (lr_in g.1) rfl ?_
  refine lr_c (s1 := (99, 247, 0, [some (.ref 156), some (.int (xs (i + Int32.ofInt 1).toNatClampNeg))], [], am_hp I1 J1 E1)) (t := (100, 304, 776, [some (.ref 60000), some (.ref 0), some (.ref 156), some (.ref 178), some (.int i), x5, x6], [.int v, .int v], am_hp I2 J2 E2)) e2 rfl rfl ?_
  exact lr_b (t := (100, 304, 1338, [some (.ref 60000), some (.ref 0), some (.ref 156), some (.ref 178), some (.int i), x5, x6], [], am_hp I2 J2 E2)) (t' := (100, 304, 779, [some (.ref 60000), some (.ref 0), some (.ref 156), some (.ref 178), some (.int i), x5, x6], [], am_hp I2 J2 E2)) (decide_eq_true (rfl : v = v)) rfl lr_e
set_option maxRecDepth 20000 in
theorem lw_18 (N : Nat) (xs : Nat → Int32) (i : Int32) (g : gI i N) : lwS N xs i 781 := by
  intro x5 x6 I J E hrel
  obtain ⟨v, I1, J1, E1, I2, J2, E2, e1, e2, hr2⟩ := rl_ring (false, N, xs) 39 I J E hrel (xs (i + Int32.ofInt 1).toNatClampNeg)
  have e1 : am_ev (false, N, xs) (99, 138, 0, [some (.ref 0), some (.int (xs (i + Int32.ofInt 1).toNatClampNeg))], [], am_hp I J E) = some (true, some (.int v), am_hp I1 J1 E1) := e1
  have e2 : am_ev (false, N, xs) (99, 249, 0, [some (.ref 156), some (.int (xs (i + Int32.ofInt 1).toNatClampNeg)), none, none, none], [], am_hp I1 J1 E1) = some (true, some (.int v), am_hp I2 J2 E2) := e2
  refine ⟨x5, x6, I2, J2, E2, hr2, ?_⟩
  refine lr_s (t := (100, 304, 782, [some (.ref 60000), some (.ref 0), some (.ref 156), some (.ref 178), some (.int i), x5, x6], [.ref 0], am_hp I J E)) rfl ?_
  refine lr_s (t := (100, 304, 783, [some (.ref 60000), some (.ref 0), some (.ref 156), some (.ref 178), some (.int i), x5, x6], [.ref 60000, .ref 0], am_hp I J E)) rfl ?_
  refine lr_s (t := (100, 304, 785, [some (.ref 60000), some (.ref 0), some (.ref 156), some (.ref 178), some (.int i), x5, x6], [.int i, .ref 60000, .ref 0], am_hp I J E)) rfl ?_
  refine lr_s (t := (100, 304, 786, [some (.ref 60000), some (.ref 0), some (.ref 156), some (.ref 178), some (.int i), x5, x6], [.int (Int32.ofInt 1), .int i, .ref 60000, .ref 0], am_hp I J E)) rfl ?_
  refine lr_s (t := (100, 304, 787, [some (.ref 60000), some (.ref 0), some (.ref 156), some (.ref 178), some (.int i), x5, x6], [.int (i + Int32.ofInt 1), .ref 60000, .ref 0], am_hp I J E)) rfl ?_
  refine lr_g (t := (100, 304, 788, [some (.ref 60000), some (.ref 0), some (.ref 156), some (.ref 178), some (.int i), x5, x6], [.int (xs (i + Int32.ofInt 1).toNatClampNeg), .ref 0], am_hp I J E)) (lr_in g.1) rfl ?_
  refine lr_c (s1 := (99, 138, 0, [some (.ref 0), some (.int (xs (i + Int32.ofInt 1).toNatClampNeg))], [], am_hp I J E)) (t := (100, 304, 791, [some (.ref 60000), some (.ref 0), some (.ref 156), some (.ref 178), some (.int i), x5, x6], [.int v], am_hp I1 J1 E1)) e1 rfl rfl ?_
  refine lr_s (t := (100, 304, 792, [some (.ref 60000), some (.ref 0), some (.ref 156), some (.ref 178), some (.int i), x5, x6], [.ref 156, .int v], am_hp I1 J1 E1)) rfl ?_
  refine lr_s (t := (100, 304, 793, [some (.ref 60000), some (.ref 0), some (.ref 156), some (.ref 178), some (.int i), x5, x6], [.ref 60000, .ref 156, .int v], am_hp I1 J1 E1)) rfl ?_
  refine lr_s (t := (100, 304, 795, [some (.ref 60000), some (.ref 0), some (.ref 156), some (.ref 178), some (.int i), x5, x6], [.int i, .ref 60000, .ref 156, .int v], am_hp I1 J1 E1)) rfl ?_
  refine lr_s (t := (100, 304, 796, [some (.ref 60000), some (.ref 0), some (.ref 156), some (.ref 178), some (.int i), x5, x6], [.int (Int32.ofInt 1), .int i, .ref 60000, .ref 156, .int v], am_hp I1 J1 E1)) rfl ?_
  refine lr_s (t := (100, 304, 797, [some (.ref 60000), some (.ref 0), some (.ref 156), some (.ref 178), some (.int i), x5, x6], [.int (i + Int32.ofInt 1), .ref 60000, .ref 156, .int v], am_hp I1 J1 E1)) rfl ?_
  refine lr_g (t := (100, 304, 798, [some (.ref 60000), some (.ref 0), some (.ref 156), some (.ref 178), some (.int i), x5, x6], [.int (xs (i + Int32.ofInt 1).toNatClampNeg), .ref 156, .int v], am_hp I1 J1 E1)) (lr_in g.1) rfl ?_
  refine lr_c (s1 := (99, 249, 0, [some (.ref 156), some (.int (xs (i + Int32.ofInt 1).toNatClampNeg)), none, none, none], [], am_hp I1 J1 E1)) (t := (100, 304, 801, [some (.ref 60000), some (.ref 0), some (.ref 156), some (.ref 178), some (.int i), x5, x6], [.int v, .int v], am_hp I2 J2 E2)) e2 rfl rfl ?_
  exact lr_b (t := (100, 304, 1338, [some (.ref 60000), some (.ref 0), some (.ref 156), some (.ref 178), some (.int i), x5, x6], [], am_hp I2 J2 E2)) (t' := (100, 304, 804, [some (.ref 60000), some (.ref 0), some (.ref 156), some (.ref 178), some (.int i), x5, x6], [], am_hp I2 J2 E2)) (decide_eq_true (rfl : v = v)) rfl lr_e
set_option maxRecDepth 20000 in
theorem lw_19 (N : Nat) (xs : Nat → Int32) (i : Int32) (g : gI i N) : lwS N xs i 806 := by
  intro x5 x6 I J E hrel
  obtain ⟨v, I1, J1, E1, I2, J2, E2, e1, e2, hr2⟩ := rl_ringAt (false, N, xs) 39 I J E hrel (xs (i + Int32.ofInt 1).toNatClampNeg)
  have e1 : am_ev (false, N, xs) (99, 139, 0, [some (.ref 0), some (.int (xs (i + Int32.ofInt 1).toNatClampNeg))], [], am_hp I J E) = some (true, some (.int v), am_hp I1 J1 E1) := e1
  have e2 : am_ev (false, N, xs) (99, 250, 0, [some (.ref 156), some (.int (xs (i + Int32.ofInt 1).toNatClampNeg))], [], am_hp I1 J1 E1) = some (true, some (.int v), am_hp I2 J2 E2) := e2
  refine ⟨x5, x6, I2, J2, E2, hr2, ?_⟩
  refine lr_s (t := (100, 304, 807, [some (.ref 60000), some (.ref 0), some (.ref 156), some (.ref 178), some (.int i), x5, x6], [.ref 0], am_hp I J E)) rfl ?_
  refine lr_s (t := (100, 304, 808, [some (.ref 60000), some (.ref 0), some (.ref 156), some (.ref 178), some (.int i), x5, x6], [.ref 60000, .ref 0], am_hp I J E)) rfl ?_
  refine lr_s (t := (100, 304, 810, [some (.ref 60000), some (.ref 0), some (.ref 156), some (.ref 178), some (.int i), x5, x6], [.int i, .ref 60000, .ref 0], am_hp I J E)) rfl ?_
  refine lr_s (t := (100, 304, 811, [some (.ref 60000), some (.ref 0), some (.ref 156), some (.ref 178), some (.int i), x5, x6], [.int (Int32.ofInt 1), .int i, .ref 60000, .ref 0], am_hp I J E)) rfl ?_
  refine lr_s (t := (100, 304, 812, [some (.ref 60000), some (.ref 0), some (.ref 156), some (.ref 178), some (.int i), x5, x6], [.int (i + Int32.ofInt 1), .ref 60000, .ref 0], am_hp I J E)) rfl ?_
  refine lr_g (t := (100, 304, 813, [some (.ref 60000), some (.ref 0), some (.ref 156), some (.ref 178), some (.int i), x5, x6], [.int (xs (i + Int32.ofInt 1).toNatClampNeg), .ref 0], am_hp I J E)) (lr_in g.1) rfl ?_
  refine lr_c (s1 := (99, 139, 0, [some (.ref 0), some (.int (xs (i + Int32.ofInt 1).toNatClampNeg))], [], am_hp I J E)) (t := (100, 304, 816, [some (.ref 60000), some (.ref 0), some (.ref 156), some (.ref 178), some (.int i), x5, x6], [.int v], am_hp I1 J1 E1)) e1 rfl rfl ?_
  refine lr_s (t := (100, 304, 817, [some (.ref 60000), some (.ref 0), some (.ref 156), some (.ref 178), some (.int i), x5, x6], [.ref 156, .int v], am_hp I1 J1 E1)) rfl ?_
  refine lr_s (t := (100, 304, 818, [some (.ref 60000), some (.ref 0), some (.ref 156), some (.ref 178), some (.int i), x5, x6], [.ref 60000, .ref 156, .int v], am_hp I1 J1 E1)) rfl ?_
  refine lr_s (t := (100, 304, 820, [some (.ref 60000), some (.ref 0), some (.ref 156), some (.ref 178), some (.int i), x5, x6], [.int i, .ref 60000, .ref 156, .int v], am_hp I1 J1 E1)) rfl ?_
  refine lr_s (t := (100, 304, 821, [some (.ref 60000), some (.ref 0), some (.ref 156), some (.ref 178), some (.int i), x5, x6], [.int (Int32.ofInt 1), .int i, .ref 60000, .ref 156, .int v], am_hp I1 J1 E1)) rfl ?_
  refine lr_s (t := (100, 304, 822, [some (.ref 60000), some (.ref 0), some (.ref 156), some (.ref 178), some (.int i), x5, x6], [.int (i + Int32.ofInt 1), .ref 60000, .ref 156, .int v], am_hp I1 J1 E1)) rfl ?_
  refine lr_g (t := (100, 304, 823, [some (.ref 60000), some (.ref 0), some (.ref 156), some (.ref 178), some (.int i), x5, x6], [.int (xs (i + Int32.ofInt 1).toNatClampNeg), .ref 156, .int v], am_hp I1 J1 E1)) (lr_in g.1) rfl ?_
  refine lr_c (s1 := (99, 250, 0, [some (.ref 156), some (.int (xs (i + Int32.ofInt 1).toNatClampNeg))], [], am_hp I1 J1 E1)) (t := (100, 304, 826, [some (.ref 60000), some (.ref 0), some (.ref 156), some (.ref 178), some (.int i), x5, x6], [.int v, .int v], am_hp I2 J2 E2)) e2 rfl rfl ?_
  exact lr_b (t := (100, 304, 1338, [some (.ref 60000), some (.ref 0), some (.ref 156), some (.ref 178), some (.int i), x5, x6], [], am_hp I2 J2 E2)) (t' := (100, 304, 829, [some (.ref 60000), some (.ref 0), some (.ref 156), some (.ref 178), some (.int i), x5, x6], [], am_hp I2 J2 E2)) (decide_eq_true (rfl : v = v)) rfl lr_e
set_option maxRecDepth 20000 in
theorem lw_20 (N : Nat) (xs : Nat → Int32) (i : Int32) (g : gI i N) : lwS N xs i 831 := by
  intro x5 x6 I J E hrel
  obtain ⟨v, I1, J1, E1, I2, J2, E2, e1, e2, hr2⟩ := rl_cut (false, N, xs) 39 I J E hrel
  have e1 : am_ev (false, N, xs) (99, 140, 0, [some (.ref 0)], [], am_hp I J E) = some (true, some (.int v), am_hp I1 J1 E1) := e1
  have e2 : am_ev (false, N, xs) (99, 251, 0, [some (.ref 156), none, none, none], [], am_hp I1 J1 E1) = some (true, some (.int v), am_hp I2 J2 E2) := e2
  refine ⟨x5, x6, I2, J2, E2, hr2, ?_⟩
  refine lr_s (t := (100, 304, 832, [some (.ref 60000), some (.ref 0), some (.ref 156), some (.ref 178), some (.int i), x5, x6], [.ref 0], am_hp I J E)) rfl ?_
  refine lr_c (s1 := (99, 140, 0, [some (.ref 0)], [], am_hp I J E)) (t := (100, 304, 835, [some (.ref 60000), some (.ref 0), some (.ref 156), some (.ref 178), some (.int i), x5, x6], [.int v], am_hp I1 J1 E1)) e1 rfl rfl ?_
  refine lr_s (t := (100, 304, 836, [some (.ref 60000), some (.ref 0), some (.ref 156), some (.ref 178), some (.int i), x5, x6], [.ref 156, .int v], am_hp I1 J1 E1)) rfl ?_
  refine lr_c (s1 := (99, 251, 0, [some (.ref 156), none, none, none], [], am_hp I1 J1 E1)) (t := (100, 304, 839, [some (.ref 60000), some (.ref 0), some (.ref 156), some (.ref 178), some (.int i), x5, x6], [.int v, .int v], am_hp I2 J2 E2)) e2 rfl rfl ?_
  exact lr_b (t := (100, 304, 1338, [some (.ref 60000), some (.ref 0), some (.ref 156), some (.ref 178), some (.int i), x5, x6], [], am_hp I2 J2 E2)) (t' := (100, 304, 842, [some (.ref 60000), some (.ref 0), some (.ref 156), some (.ref 178), some (.int i), x5, x6], [], am_hp I2 J2 E2)) (decide_eq_true (rfl : v = v)) rfl lr_e
set_option maxRecDepth 20000 in
theorem lw_21 (N : Nat) (xs : Nat → Int32) (i : Int32) (g : gI i N) : lwS N xs i 844 := by
  intro x5 x6 I J E hrel
  obtain ⟨v, I1, J1, E1, I2, J2, E2, e1, e2, hr2⟩ := rl_cutting (false, N, xs) 39 I J E hrel
  have e1 : am_ev (false, N, xs) (99, 141, 0, [some (.ref 0)], [], am_hp I J E) = some (true, some (.int v), am_hp I1 J1 E1) := e1
  have e2 : am_ev (false, N, xs) (99, 252, 0, [some (.ref 156)], [], am_hp I1 J1 E1) = some (true, some (.int v), am_hp I2 J2 E2) := e2
  refine ⟨x5, x6, I2, J2, E2, hr2, ?_⟩
  refine lr_s (t := (100, 304, 845, [some (.ref 60000), some (.ref 0), some (.ref 156), some (.ref 178), some (.int i), x5, x6], [.ref 0], am_hp I J E)) rfl ?_
  refine lr_c (s1 := (99, 141, 0, [some (.ref 0)], [], am_hp I J E)) (t := (100, 304, 848, [some (.ref 60000), some (.ref 0), some (.ref 156), some (.ref 178), some (.int i), x5, x6], [.int v], am_hp I1 J1 E1)) e1 rfl rfl ?_
  refine lr_s (t := (100, 304, 849, [some (.ref 60000), some (.ref 0), some (.ref 156), some (.ref 178), some (.int i), x5, x6], [.ref 156, .int v], am_hp I1 J1 E1)) rfl ?_
  refine lr_c (s1 := (99, 252, 0, [some (.ref 156)], [], am_hp I1 J1 E1)) (t := (100, 304, 852, [some (.ref 60000), some (.ref 0), some (.ref 156), some (.ref 178), some (.int i), x5, x6], [.int v, .int v], am_hp I2 J2 E2)) e2 rfl rfl ?_
  exact lr_b (t := (100, 304, 1338, [some (.ref 60000), some (.ref 0), some (.ref 156), some (.ref 178), some (.int i), x5, x6], [], am_hp I2 J2 E2)) (t' := (100, 304, 855, [some (.ref 60000), some (.ref 0), some (.ref 156), some (.ref 178), some (.int i), x5, x6], [], am_hp I2 J2 E2)) (decide_eq_true (rfl : v = v)) rfl lr_e
