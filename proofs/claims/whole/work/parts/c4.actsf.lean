/-! the acts, 5 -/
set_option maxRecDepth 20000 in
theorem lw_10 (N : Nat) (xs : Nat → Int32) (i : Int32) (g : gI i N) : lwS N xs i 581 := by
  intro x5 x6 I J E hrel
  obtain ⟨v, I1, J1, E1, I2, J2, E2, e1, e2, hr2⟩ := rl_forge (false, N, xs) 39 I J E hrel (xs (i + Int32.ofInt 1).toNatClampNeg)
  have e1 : am_ev (false, N, xs) (99, 126, 0, [some (.ref 0), some (.int (xs (i + Int32.ofInt 1).toNatClampNeg))], [], am_hp I J E) = some (true, some (.int v), am_hp I1 J1 E1) := e1
  have e2 : am_ev (false, N, xs) (99, 235, 0, [some (.ref 156), some (.int (xs (i + Int32.ofInt 1).toNatClampNeg))], [], am_hp I1 J1 E1) = some (true, some (.int v), am_hp I2 J2 E2) := e2
  refine ⟨x5, x6, I2, J2, E2, hr2, ?_⟩
  refine lr_s (t := (100, 304, 582, [some (.ref 60000), some (.ref 0), some (.ref 156), some (.ref 178), some (.int i), x5, x6], [.ref 0], am_hp I J E)) rfl ?_
  refine lr_s (t := (100, 304, 583, [some (.ref 60000), some (.ref 0), some (.ref 156), some (.ref 178), some (.int i), x5, x6], [.ref 60000, .ref 0], am_hp I J E)) rfl ?_
  refine lr_s (t := (100, 304, 585, [some (.ref 60000), some (.ref 0), some (.ref 156), some (.ref 178), some (.int i), x5, x6], [.int i, .ref 60000, .ref 0], am_hp I J E)) rfl ?_
  refine lr_s (t := (100, 304, 586, [some (.ref 60000), some (.ref 0), some (.ref 156), some (.ref 178), some (.int i), x5, x6], [.int (Int32.ofInt 1), .int i, .ref 60000, .ref 0], am_hp I J E)) rfl ?_
  refine lr_s (t := (100, 304, 587, [some (.ref 60000), some (.ref 0), some (.ref 156), some (.ref 178), some (.int i), x5, x6], [.int (i + Int32.ofInt 1), .ref 60000, .ref 0], am_hp I J E)) rfl ?_
  refine lr_g (t := (100, 304, 588, [some (.ref 60000), some (.ref 0), some (.ref 156), some (.ref 178), some (.int i), x5, x6], [.int (xs (i + Int32.ofInt 1).toNatClampNeg), .ref 0], am_hp I J E)) (lr_in g.1) rfl ?_
  refine lr_c (s1 := (99, 126, 0, [some (.ref 0), some (.int (xs (i + Int32.ofInt 1).toNatClampNeg))], [], am_hp I J E)) (t := (100, 304, 591, [some (.ref 60000), some (.ref 0), some (.ref 156), some (.ref 178), some (.int i), x5, x6], [.int v], am_hp I1 J1 E1)) e1 rfl rfl ?_
  refine lr_s (t := (100, 304, 592, [some (.ref 60000), some (.ref 0), some (.ref 156), some (.ref 178), some (.int i), x5, x6], [.ref 156, .int v], am_hp I1 J1 E1)) rfl ?_
  refine lr_s (t := (100, 304, 593, [some (.ref 60000), some (.ref 0), some (.ref 156), some (.ref 178), some (.int i), x5, x6], [.ref 60000, .ref 156, .int v], am_hp I1 J1 E1)) rfl ?_
  refine lr_s (t := (100, 304, 595, [some (.ref 60000), some (.ref 0), some (.ref 156), some (.ref 178), some (.int i), x5, x6], [.int i, .ref 60000, .ref 156, .int v], am_hp I1 J1 E1)) rfl ?_
  refine lr_s (t := (100, 304, 596, [some (.ref 60000), some (.ref 0), some (.ref 156), some (.ref 178), some (.int i), x5, x6], [.int (Int32.ofInt 1), .int i, .ref 60000, .ref 156, .int v], am_hp I1 J1 E1)) rfl ?_
  refine lr_s (t := (100, 304, 597, [some (.ref 60000), some (.ref 0), some (.ref 156), some (.ref 178), some (.int i), x5, x6], [.int (i + Int32.ofInt 1), .ref 60000, .ref 156, .int v], am_hp I1 J1 E1)) rfl ?_
  refine lr_g (t := (100, 304, 598, [some (.ref 60000), some (.ref 0), some (.ref 156), some (.ref 178), some (.int i), x5, x6], [.int (xs (i + Int32.ofInt 1).toNatClampNeg), .ref 156, .int v], am_hp I1 J1 E1)) (lr_in g.1) rfl ?_
  refine lr_c (s1 := (99, 235, 0, [some (.ref 156), some (.int (xs (i + Int32.ofInt 1).toNatClampNeg))], [], am_hp I1 J1 E1)) (t := (100, 304, 601, [some (.ref 60000), some (.ref 0), some (.ref 156), some (.ref 178), some (.int i), x5, x6], [.int v, .int v], am_hp I2 J2 E2)) e2 rfl rfl ?_
  exact lr_b (t := (100, 304, 1338, [some (.ref 60000), some (.ref 0), some (.ref 156), some (.ref 178), some (.int i), x5, x6], [], am_hp I2 J2 E2)) (t' := (100, 304, 604, [some (.ref 60000), some (.ref 0), some (.ref 156), some (.ref 178), some (.int i), x5, x6], [], am_hp I2 J2 E2)) (decide_eq_true (rfl : v = v)) rfl lr_e
set_option maxRecDepth 20000 in
theorem lw_11 (N : Nat) (xs : Nat → Int32) (i : Int32) (g : gI i N) : lwS N xs i 606 := by
  intro x5 x6 I J E hrel
  obtain ⟨v, I1, J1, E1, I2, J2, E2, e1, e2, hr2⟩ := rl_mend (false, N, xs) 39 I J E hrel (xs (i + Int32.ofInt 1).toNatClampNeg)
  have e1 : am_ev (false, N, xs) (99, 127, 0, [some (.ref 0), some (.int (xs (i + Int32.ofInt 1).toNatClampNeg))], [], am_hp I J E) = some (true, some (.int v), am_hp I1 J1 E1) := e1
  have e2 : am_ev (false, N, xs) (99, 236, 0, [some (.ref 156), some (.int (xs (i + Int32.ofInt 1).toNatClampNeg))], [], am_hp I1 J1 E1) = some (true, some (.int v), am_hp I2 J2 E2) := e2
  refine ⟨x5, x6, I2, J2, E2, hr2, ?_⟩
  refine lr_s (t := (100, 304, 607, [some (.ref 60000), some (.ref 0), some (.ref 156), some (.ref 178), some (.int i), x5, x6], [.ref 0], am_hp I J E)) rfl ?_
  refine lr_s (t := (100, 304, 608, [some (.ref 60000), some (.ref 0), some (.ref 156), some (.ref 178), some (.int i), x5, x6], [.ref 60000, .ref 0], am_hp I J E)) rfl ?_
  refine lr_s (t := (100, 304, 610, [some (.ref 60000), some (.ref 0), some (.ref 156), some (.ref 178), some (.int i), x5, x6], [.int i, .ref 60000, .ref 0], am_hp I J E)) rfl ?_
  refine lr_s (t := (100, 304, 611, [some (.ref 60000), some (.ref 0), some (.ref 156), some (.ref 178), some (.int i), x5, x6], [.int (Int32.ofInt 1), .int i, .ref 60000, .ref 0], am_hp I J E)) rfl ?_
  refine lr_s (t := (100, 304, 612, [some (.ref 60000), some (.ref 0), some (.ref 156), some (.ref 178), some (.int i), x5, x6], [.int (i + Int32.ofInt 1), .ref 60000, .ref 0], am_hp I J E)) rfl ?_
  refine lr_g (t := (100, 304, 613, [some (.ref 60000), some (.ref 0), some (.ref 156), some (.ref 178), some (.int i), x5, x6], [.int (xs (i + Int32.ofInt 1).toNatClampNeg), .ref 0], am_hp I J E)) (lr_in g.1) rfl ?_
  refine lr_c (s1 := (99, 127, 0, [some (.ref 0), some (.int (xs (i + Int32.ofInt 1).toNatClampNeg))], [], am_hp I J E)) (t := (100, 304, 616, [some (.ref 60000), some (.ref 0), some (.ref 156), some (.ref 178), some (.int i), x5, x6], [.int v], am_hp I1 J1 E1)) e1 rfl rfl ?_
  refine lr_s (t := (100, 304, 617, [some (.ref 60000), some (.ref 0), some (.ref 156), some (.ref 178), some (.int i), x5, x6], [.ref 156, .int v], am_hp I1 J1 E1)) rfl ?_
  refine lr_s (t := (100, 304, 618, [some (.ref 60000), some (.ref 0), some (.ref 156), some (.ref 178), some (.int i), x5, x6], [.ref 60000, .ref 156, .int v], am_hp I1 J1 E1)) rfl ?_
  refine lr_s (t := (100, 304, 620, [some (.ref 60000), some (.ref 0), some (.ref 156), some (.ref 178), some (.int i), x5, x6], [.int i, .ref 60000, .ref 156, .int v], am_hp I1 J1 E1)) rfl ?_
  refine lr_s (t := (100, 304, 621, [some (.ref 60000), some (.ref 0), some (.ref 156), some (.ref 178), some (.int i), x5, x6], [.int (Int32.ofInt 1), .int i, .ref 60000, .ref 156, .int v], am_hp I1 J1 E1)) rfl ?_
  refine lr_s (t := (100, 304, 622, [some (.ref 60000), some (.ref 0), some (.ref 156), some (.ref 178), some (.int i), x5, x6], [.int (i + Int32.ofInt 1), .ref 60000, .ref 156, .int v], am_hp I1 J1 E1)) rfl ?_
  refine lr_g (t := (100, 304, 623, [some (.ref 60000), some (.ref 0), some (.ref 156), some (.ref 178), some (.int i), x5, x6], [.int (xs (i + Int32.ofInt 1).toNatClampNeg), .ref 156, .int v], am_hp I1 J1 E1)) (lr_in g.1) rfl ?_
  refine lr_c (s1 := (99, 236, 0, [some (.ref 156), some (.int (xs (i + Int32.ofInt 1).toNatClampNeg))], [], am_hp I1 J1 E1)) (t := (100, 304, 626, [some (.ref 60000), some (.ref 0), some (.ref 156), some (.ref 178), some (.int i), x5, x6], [.int v, .int v], am_hp I2 J2 E2)) e2 rfl rfl ?_
  exact lr_b (t := (100, 304, 1338, [some (.ref 60000), some (.ref 0), some (.ref 156), some (.ref 178), some (.int i), x5, x6], [], am_hp I2 J2 E2)) (t' := (100, 304, 629, [some (.ref 60000), some (.ref 0), some (.ref 156), some (.ref 178), some (.int i), x5, x6], [], am_hp I2 J2 E2)) (decide_eq_true (rfl : v = v)) rfl lr_e
set_option maxRecDepth 20000 in
theorem lw_12 (N : Nat) (xs : Nat → Int32) (i : Int32) (g : gI i N) : lwS N xs i 631 := by
  intro x5 x6 I J E hrel
  obtain ⟨v, I1, J1, E1, I2, J2, E2, e1, e2, hr2⟩ := rl_burn (false, N, xs) 39 I J E hrel (xs (i + Int32.ofInt 1).toNatClampNeg)
  have e1 : am_ev (false, N, xs) (99, 128, 0, [some (.ref 0), some (.int (xs (i + Int32.ofInt 1).toNatClampNeg))], [], am_hp I J E) = some (true, some (.int v), am_hp I1 J1 E1) := e1
  have e2 : am_ev (false, N, xs) (99, 237, 0, [some (.ref 156), some (.int (xs (i + Int32.ofInt 1).toNatClampNeg))], [], am_hp I1 J1 E1) = some (true, some (.int v), am_hp I2 J2 E2) := e2
  refine ⟨x5, x6, I2, J2, E2, hr2, ?_⟩
  refine lr_s (t := (100, 304, 632, [some (.ref 60000), some (.ref 0), some (.ref 156), some (.ref 178), some (.int i), x5, x6], [.ref 0], am_hp I J E)) rfl ?_
  refine lr_s (t := (100, 304, 633, [some (.ref 60000), some (.ref 0), some (.ref 156), some (.ref 178), some (.int i), x5, x6], [.ref 60000, .ref 0], am_hp I J E)) rfl ?_
  refine lr_s (t := (100, 304, 635, [some (.ref 60000), some (.ref 0), some (.ref 156), some (.ref 178), some (.int i), x5, x6], [.int i, .ref 60000, .ref 0], am_hp I J E)) rfl ?_
  refine lr_s (t := (100, 304, 636, [some (.ref 60000), some (.ref 0), some (.ref 156), some (.ref 178), some (.int i), x5, x6], [.int (Int32.ofInt 1), .int i, .ref 60000, .ref 0], am_hp I J E)) rfl ?_
  refine lr_s (t := (100, 304, 637, [some (.ref 60000), some (.ref 0), some (.ref 156), some (.ref 178), some (.int i), x5, x6], [.int (i + Int32.ofInt 1), .ref 60000, .ref 0], am_hp I J E)) rfl ?_
  refine lr_g (t := (100, 304, 638, [some (.ref 60000), some (.ref 0), some (.ref 156), some (.ref 178), some (.int i), x5, x6], [.int (xs (i + Int32.ofInt 1).toNatClampNeg), .ref 0], am_hp I J E)) (lr_in g.1) rfl ?_
  refine lr_c (s1 := (99, 128, 0, [some (.ref 0), some (.int (xs (i + Int32.ofInt 1).toNatClampNeg))], [], am_hp I J E)) (t := (100, 304, 641, [some (.ref 60000), some (.ref 0), some (.ref 156), some (.ref 178), some (.int i), x5, x6], [.int v], am_hp I1 J1 E1)) e1 rfl rfl ?_
  refine lr_s (t := (100, 304, 642, [some (.ref 60000), some (.ref 0), some (.ref 156), some (.ref 178), some (.int i), x5, x6], [.ref 156, .int v], am_hp I1 J1 E1)) rfl ?_
  refine lr_s (t := (100, 304, 643, [some (.ref 60000), some (.ref 0), some (.ref 156), some (.ref 178), some (.int i), x5, x6], [.ref 60000, .ref 156, .int v], am_hp I1 J1 E1)) rfl ?_
  refine lr_s (t := (100, 304, 645, [some (.ref 60000), some (.ref 0), some (.ref 156), some (.ref 178), some (.int i), x5, x6], [.int i, .ref 60000, .ref 156, .int v], am_hp I1 J1 E1)) rfl ?_
  refine lr_s (t := (100, 304, 646, [some (.ref 60000), some (.ref 0), some (.ref 156), some (.ref 178), some (.int i), x5, x6], [.int (Int32.ofInt 1), .int i, .ref 60000, .ref 156, .int v], am_hp I1 J1 E1)) rfl ?_
  refine lr_s (t := (100, 304, 647, [some (.ref 60000), some (.ref 0), some (.ref 156), some (.ref 178), some (.int i), x5, x6], [.int (i + Int32.ofInt 1), .ref 60000, .ref 156, .int v], am_hp I1 J1 E1)) rfl ?_
  refine lr_g (t := (100, 304, 648, [some (.ref 60000), some (.ref 0), some (.ref 156), some (.ref 178), some (.int i), x5, x6], [.int (xs (i + Int32.ofInt 1).toNatClampNeg), .ref 156, .int v], am_hp I1 J1 E1)) (lr_in g.1) rfl ?_
  refine lr_c (s1 := (99, 237, 0, [some (.ref 156), some (.int (xs (i + Int32.ofInt 1).toNatClampNeg))], [], am_hp I1 J1 E1)) (t := (100, 304, 651, [some (.ref 60000), some (.ref 0), some (.ref 156), some (.ref 178), some (.int i), x5, x6], [.int v, .int v], am_hp I2 J2 E2)) e2 rfl rfl ?_
  exact lr_b (t := (100, 304, 1338, [some (.ref 60000), some (.ref 0), some (.ref 156), some (.ref 178), some (.int i), x5, x6], [], am_hp I2 J2 E2)) (t' := (100, 304, 654, [some (.ref 60000), some (.ref 0), some (.ref 156), some (.ref 178), some (.int i), x5, x6], [], am_hp I2 J2 E2)) (decide_eq_true (rfl : v = v)) rfl lr_e
set_option maxRecDepth 20000 in
theorem lw_13 (N : Nat) (xs : Nat → Int32) (i : Int32) (g : gI i N) : lwS N xs i 656 := by
  intro x5 x6 I J E hrel
  obtain ⟨v, I1, J1, E1, I2, J2, E2, e1, e2, hr2⟩ := rl_buy (false, N, xs) 39 I J E hrel (xs (i + Int32.ofInt 1).toNatClampNeg)
  have e1 : am_ev (false, N, xs) (99, 129, 0, [some (.ref 0), some (.int (xs (i + Int32.ofInt 1).toNatClampNeg))], [], am_hp I J E) = some (true, some (.int v), am_hp I1 J1 E1) := e1
  have e2 : am_ev (false, N, xs) (99, 238, 0, [some (.ref 156), some (.int (xs (i + Int32.ofInt 1).toNatClampNeg))], [], am_hp I1 J1 E1) = some (true, some (.int v), am_hp I2 J2 E2) := e2
  refine ⟨x5, x6, I2, J2, E2, hr2, ?_⟩
  refine lr_s (t := (100, 304, 657, [some (.ref 60000), some (.ref 0), some (.ref 156), some (.ref 178), some (.int i), x5, x6], [.ref 0], am_hp I J E)) rfl ?_
  refine lr_s (t := (100, 304, 658, [some (.ref 60000), some (.ref 0), some (.ref 156), some (.ref 178), some (.int i), x5, x6], [.ref 60000, .ref 0], am_hp I J E)) rfl ?_
  refine lr_s (t := (100, 304, 660, [some (.ref 60000), some (.ref 0), some (.ref 156), some (.ref 178), some (.int i), x5, x6], [.int i, .ref 60000, .ref 0], am_hp I J E)) rfl ?_
  refine lr_s (t := (100, 304, 661, [some (.ref 60000), some (.ref 0), some (.ref 156), some (.ref 178), some (.int i), x5, x6], [.int (Int32.ofInt 1), .int i, .ref 60000, .ref 0], am_hp I J E)) rfl ?_
  refine lr_s (t := (100, 304, 662, [some (.ref 60000), some (.ref 0), some (.ref 156), some (.ref 178), some (.int i), x5, x6], [.int (i + Int32.ofInt 1), .ref 60000, .ref 0], am_hp I J E)) rfl ?_
  refine lr_g (t := (100, 304, 663, [some (.ref 60000), some (.ref 0), some (.ref 156), some (.ref 178), some (.int i), x5, x6], [.int (xs (i + Int32.ofInt 1).toNatClampNeg), .ref 0], am_hp I J E)) (lr_in g.1) rfl ?_
  refine lr_c (s1 := (99, 129, 0, [some (.ref 0), some (.int (xs (i + Int32.ofInt 1).toNatClampNeg))], [], am_hp I J E)) (t := (100, 304, 666, [some (.ref 60000), some (.ref 0), some (.ref 156), some (.ref 178), some (.int i), x5, x6], [.int v], am_hp I1 J1 E1)) e1 rfl rfl ?_
  refine lr_s (t := (100, 304, 667, [some (.ref 60000), some (.ref 0), some (.ref 156), some (.ref 178), some (.int i), x5, x6], [.ref 156, .int v], am_hp I1 J1 E1)) rfl ?_
  refine lr_s (t := (100, 304, 668, [some (.ref 60000), some (.ref 0), some (.ref 156), some (.ref 178), some (.int i), x5, x6], [.ref 60000, .ref 156, .int v], am_hp I1 J1 E1)) rfl ?_
  refine lr_s (t := (100, 304, 670, [some (.ref 60000), some (.ref 0), some (.ref 156), some (.ref 178), some (.int i), x5, x6], [.int i, .ref 60000, .ref 156, .int v], am_hp I1 J1 E1)) rfl ?_
  refine lr_s (t := (100, 304, 671, [some (.ref 60000), some (.ref 0), some (.ref 156), some (.ref 178), some (.int i), x5, x6], [.int (Int32.ofInt 1), .int i, .ref 60000, .ref 156, .int v], am_hp I1 J1 E1)) rfl ?_
  refine lr_s (t := (100, 304, 672, [some (.ref 60000), some (.ref 0), some (.ref 156), some (.ref 178), some (.int i), x5, x6], [.int (i + Int32.ofInt 1), .ref 60000, .ref 156, .int v], am_hp I1 J1 E1)) rfl ?_
  refine lr_g (t := (100, 304, 673, [some (.ref 60000), some (.ref 0), some (.ref 156), some (.ref 178), some (.int i), x5, x6], [.int (xs (i + Int32.ofInt 1).toNatClampNeg), .ref 156, .int v], am_hp I1 J1 E1)) (lr_in g.1) rfl ?_
  refine lr_c (s1 := (99, 238, 0, [some (.ref 156), some (.int (xs (i + Int32.ofInt 1).toNatClampNeg))], [], am_hp I1 J1 E1)) (t := (100, 304, 676, [some (.ref 60000), some (.ref 0), some (.ref 156), some (.ref 178), some (.int i), x5, x6], [.int v, .int v], am_hp I2 J2 E2)) e2 rfl rfl ?_
  exact lr_b (t := (100, 304, 1338, [some (.ref 60000), some (.ref 0), some (.ref 156), some (.ref 178), some (.int i), x5, x6], [], am_hp I2 J2 E2)) (t' := (100, 304, 679, [some (.ref 60000), some (.ref 0), some (.ref 156), some (.ref 178), some (.int i), x5, x6], [], am_hp I2 J2 E2)) (decide_eq_true (rfl : v = v)) rfl lr_e
set_option maxRecDepth 20000 in
theorem lw_14 (N : Nat) (xs : Nat → Int32) (i : Int32) (g : gI i N) : lwS N xs i 681 := by
  intro x5 x6 I J E hrel
  obtain ⟨v, I1, J1, E1, I2, J2, E2, e1, e2, hr2⟩ := rl_days (false, N, xs) 39 I J E hrel (xs (i + Int32.ofInt 1).toNatClampNeg)
  have e1 : am_ev (false, N, xs) (99, 130, 0, [some (.ref 0), some (.int (xs (i + Int32.ofInt 1).toNatClampNeg))], [], am_hp I J E) = some (true, some (.int v), am_hp I1 J1 E1) := e1
  have e2 : am_ev (false, N, xs) (99, 243, 0, [some (.ref 156), some (.int (xs (i + Int32.ofInt 1).toNatClampNeg))], [], am_hp I1 J1 E1) = some (true, some (.int v), am_hp I2 J2 E2) := e2
  refine ⟨x5, x6, I2, J2, E2, hr2, ?_⟩
  refine lr_s (t := (100, 304, 682, [some (.ref 60000), some (.ref 0), some (.ref 156), some (.ref 178), some (.int i), x5, x6], [.ref 0], am_hp I J E)) rfl ?_
  refine lr_s (t := (100, 304, 683, [some (.ref 60000), some (.ref 0), some (.ref 156), some (.ref 178), some (.int i), x5, x6], [.ref 60000, .ref 0], am_hp I J E)) rfl ?_
  refine lr_s (t := (100, 304, 685, [some (.ref 60000), some (.ref 0), some (.ref 156), some (.ref 178), some (.int i), x5, x6], [.int i, .ref 60000, .ref 0], am_hp I J E)) rfl ?_
  refine lr_s (t := (100, 304, 686, [some (.ref 60000), some (.ref 0), some (.ref 156), some (.ref 178), some (.int i), x5, x6], [.int (Int32.ofInt 1), .int i, .ref 60000, .ref 0], am_hp I J E)) rfl ?_
  refine lr_s (t := (100, 304, 687, [some (.ref 60000), some (.ref 0), some (.ref 156), some (.ref 178), some (.int i), x5, x6], [.int (i + Int32.ofInt 1), .ref 60000, .ref 0], am_hp I J E)) rfl ?_
  refine lr_g (t := (100, 304, 688, [some (.ref 60000), some (.ref 0), some (.ref 156), some (.ref 178), some (.int i), x5, x6], [.int (xs (i + Int32.ofInt 1).toNatClampNeg), .ref 0], am_hp I J E)) (lr_in g.1) rfl ?_
  refine lr_c (s1 := (99, 130, 0, [some (.ref 0), some (.int (xs (i + Int32.ofInt 1).toNatClampNeg))], [], am_hp I J E)) (t := (100, 304, 691, [some (.ref 60000), some (.ref 0), some (.ref 156), some (.ref 178), some (.int i), x5, x6], [.int v], am_hp I1 J1 E1)) e1 rfl rfl ?_
  refine lr_s (t := (100, 304, 692, [some (.ref 60000), some (.ref 0), some (.ref 156), some (.ref 178), some (.int i), x5, x6], [.ref 156, .int v], am_hp I1 J1 E1)) rfl ?_
  refine lr_s (t := (100, 304, 693, [some (.ref 60000), some (.ref 0), some (.ref 156), some (.ref 178), some (.int i), x5, x6], [.ref 60000, .ref 156, .int v], am_hp I1 J1 E1)) rfl ?_
  refine lr_s (t := (100, 304, 695, [some (.ref 60000), some (.ref 0), some (.ref 156), some (.ref 178), some (.int i), x5, x6], [.int i, .ref 60000, .ref 156, .int v], am_hp I1 J1 E1)) rfl ?_
  refine lr_s (t := (100, 304, 696, [some (.ref 60000), some (.ref 0), some (.ref 156), some (.ref 178), some (.int i), x5, x6], [.int (Int32.ofInt 1), .int i, .ref 60000, .ref 156, .int v], am_hp I1 J1 E1)) rfl ?_
  refine lr_s (t := (100, 304, 697, [some (.ref 60000), some (.ref 0), some (.ref 156), some (.ref 178), some (.int i), x5, x6], [.int (i + Int32.ofInt 1), .ref 60000, .ref 156, .int v], am_hp I1 J1 E1)) rfl ?_
  refine lr_g (t := (100, 304, 698, [some (.ref 60000), some (.ref 0), some (.ref 156), some (.ref 178), some (.int i), x5, x6], [.int (xs (i + Int32.ofInt 1).toNatClampNeg), .ref 156, .int v], am_hp I1 J1 E1)) (lr_in g.1) rfl ?_
  refine lr_c (s1 := (99, 243, 0, [some (.ref 156), some (.int (xs (i + Int32.ofInt 1).toNatClampNeg))], [], am_hp I1 J1 E1)) (t := (100, 304, 701, [some (.ref 60000), some (.ref 0), some (.ref 156), some (.ref 178), some (.int i), x5, x6], [.int v, .int v], am_hp I2 J2 E2)) e2 rfl rfl ?_
  exact lr_b (t := (100, 304, 1338, [some (.ref 60000), some (.ref 0), some (.ref 156), some (.ref 178), some (.int i), x5, x6], [], am_hp I2 J2 E2)) (t' := (100, 304, 704, [some (.ref 60000), some (.ref 0), some (.ref 156), some (.ref 178), some (.int i), x5, x6], [], am_hp I2 J2 E2)) (decide_eq_true (rfl : v = v)) rfl lr_e
set_option maxRecDepth 20000 in
theorem lw_15 (N : Nat) (xs : Nat → Int32) (i : Int32) (g : gI i N) : lwS N xs i 706 := by
  intro x5 x6 I J E hrel
  obtain ⟨v, I1, J1, E1, I2, J2, E2, e1, e2, hr2⟩ := rl_undo (false, N, xs) 39 I J E hrel
  have e1 : am_ev (false, N, xs) (99, 132, 0, [some (.ref 0)], [], am_hp I J E) = some (true, some (.int v), am_hp I1 J1 E1) := e1
  have e2 : am_ev (false, N, xs) (99, 239, 0, [some (.ref 156), none], [], am_hp I1 J1 E1) = some (true, some (.int v), am_hp I2 J2 E2) := e2
  refine ⟨x5, x6, I2, J2, E2, hr2, ?_⟩
  refine lr_s (t := (100, 304, 707, [some (.ref 60000), some (.ref 0), some (.ref 156), some (.ref 178), some (.int i), x5, x6], [.ref 0], am_hp I J E)) rfl ?_
  refine lr_c (s1 := (99, 132, 0, [some (.ref 0)], [], am_hp I J E)) (t := (100, 304, 710, [some (.ref 60000), some (.ref 0), some (.ref 156), some (.ref 178), some (.int i), x5, x6], [.int v], am_hp I1 J1 E1)) e1 rfl rfl ?_
  refine lr_s (t := (100, 304, 711, [some (.ref 60000), some (.ref 0), some (.ref 156), some (.ref 178), some (.int i), x5, x6], [.ref 156, .int v], am_hp I1 J1 E1)) rfl ?_
  refine lr_c (s1 := (99, 239, 0, [some (.ref 156), none], [], am_hp I1 J1 E1)) (t := (100, 304, 714, [some (.ref 60000), some (.ref 0), some (.ref 156), some (.ref 178), some (.int i), x5, x6], [.int v, .int v], am_hp I2 J2 E2)) e2 rfl rfl ?_
  exact lr_b (t := (100, 304, 1338, [some (.ref 60000), some (.ref 0), some (.ref 156), some (.ref 178), some (.int i), x5, x6], [], am_hp I2 J2 E2)) (t' := (100, 304, 717, [some (.ref 60000), some (.ref 0), some (.ref 156), some (.ref 178), some (.int i), x5, x6], [], am_hp I2 J2 E2)) (decide_eq_true (rfl : v = v)) rfl lr_e
