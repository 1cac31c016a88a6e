/-! the law's loop -/
def LR (env : am_E) (s t : am_S) (K : Nat) : Prop := ∃ n, n ≤ K ∧ am_lr env n s = some t
theorem lr_e {env : am_E} {s : am_S} {K : Nat} : LR env s s K := ⟨0, Nat.zero_le _, rfl⟩
theorem lr_s {env : am_E} {s t u : am_S} {K : Nat} (h : am_ls env s = some t) (k : LR env t u K) : LR env s u (K + 1) := by
  obtain ⟨n, hn, e⟩ := k
  refine ⟨n + 1, by omega, ?_⟩
  show (am_ls env s).bind (am_lr env n) = some u
  rw [h]
  exact e
theorem lr_g {env : am_E} {s t u : am_S} {K : Nat} {b : Bool} (hb : b = true) (h : am_ls env s = bif b then some t else none) (k : LR env t u K) : LR env s u (K + 1) := lr_s (h.trans (by rw [hb]; rfl)) k
theorem lr_b {env : am_E} {s t t' u : am_S} {K : Nat} {b : Bool} (hb : b = true) (h : am_ls env s = bif b then some t else some t') (k : LR env t u K) : LR env s u (K + 1) := lr_s (h.trans (by rw [hb]; rfl)) k
theorem lr_n {env : am_E} {s t t' u : am_S} {K : Nat} {b : Bool} (hb : b = false) (h : am_ls env s = bif b then some t' else some t) (k : LR env t u K) : LR env s u (K + 1) := lr_s (h.trans (by rw [hb]; rfl)) k
theorem lr_c {env : am_E} {s s1 t u : am_S} {r : am_R} {kf : am_R → Option am_S} {K : Nat} (he : am_ev env s1 = some r) (h : am_ls env s = (am_ev env s1).bind kf) (hk : kf r = some t) (k : LR env t u K) : LR env s u (K + 1) := lr_s (h.trans (by rw [he]; exact hk)) k
theorem lr_t {env : am_E} {s t u : am_S} {K K' : Nat} (h1 : LR env s t K) (h2 : LR env t u K') : LR env s u (K + K') := by
  obtain ⟨n, hn, e⟩ := h1
  obtain ⟨m, hm, f⟩ := h2
  refine ⟨n + m, by omega, ?_⟩
  clear hn
  induction n generalizing s with
  | zero =>
    cases e
    rw [Nat.zero_add]
    exact f
  | succ n ih =>
    have e : (am_ls env s).bind (am_lr env n) = some t := e
    rw [Nat.add_right_comm]
    show (am_ls env s).bind (am_lr env (n + m)) = some u
    cases hs : am_ls env s with
    | none => rw [hs] at e; cases e
    | some w =>
      rw [hs] at e
      exact ih e
theorem lr_w {env : am_E} {s t : am_S} {K K' : Nat} (h : LR env s t K) (hk : K ≤ K') : LR env s t K' := by
  obtain ⟨n, hn, e⟩ := h
  exact ⟨n, Nat.le_trans hn hk, e⟩
/-- the five numbers behind the act are there -/
def gI (i : Int32) (N : Nat) : Prop := am_in (i + Int32.ofInt 1) N = true ∧ am_in (i + Int32.ofInt 2) N = true ∧ am_in (i + Int32.ofInt 3) N = true ∧ am_in (i + Int32.ofInt 4) N = true ∧ am_in (i + Int32.ofInt 5) N = true
/-- one act: from its place in the switch to the loop's end -/
def lwS (N : Nat) (xs : Nat → Int32) (i : Int32) (pc : Nat) : Prop := ∀ (x5 x6 : Option Value) (I : Nat → Nat → Int32) (J : Nat → Nat → Int64) (E : Nat → Nat → Nat), Rel I J E → ∃ y5 y6 I2 J2 E2, Rel I2 J2 E2 ∧ LR (false, N, xs) (100, 304, pc, [some (.ref 60000), some (.ref 0), some (.ref 156), some (.ref 178), some (.int i), x5, x6], [], am_hp I J E) (100, 304, 1338, [some (.ref 60000), some (.ref 0), some (.ref 156), some (.ref 178), some (.int i), y5, y6], [], am_hp I2 J2 E2) 400
set_option maxRecDepth 20000 in
theorem lw_0 (N : Nat) (xs : Nat → Int32) (i : Int32) (g : gI i N) : lwS N xs i 216 := by
  intro x5 x6 I J E hrel
  obtain ⟨v, I1, J1, E1, I2, J2, E2, e1, e2, hr2⟩ := rl_feed (false, N, xs) 39 I J E hrel (xs (i + Int32.ofInt 1).toNatClampNeg) (xs (i + Int32.ofInt 2).toNatClampNeg) (xs (i + Int32.ofInt 3).toNatClampNeg) (xs (i + Int32.ofInt 4).toNatClampNeg) (xs (i + Int32.ofInt 5).toNatClampNeg)
  have e1 : am_ev (false, N, xs) (99, 115, 0, [some (.ref 0), some (.int (xs (i + Int32.ofInt 1).toNatClampNeg)), some (.int (xs (i + Int32.ofInt 2).toNatClampNeg)), some (.int (xs (i + Int32.ofInt 3).toNatClampNeg)), some (.int (xs (i + Int32.ofInt 4).toNatClampNeg)), some (.int (xs (i + Int32.ofInt 5).toNatClampNeg))], [], am_hp I J E) = some (true, some (.int v), am_hp I1 J1 E1) := e1
  have e2 : am_ev (false, N, xs) (99, 172, 0, [some (.ref 156), some (.int (xs (i + Int32.ofInt 1).toNatClampNeg)), some (.int (xs (i + Int32.ofInt 2).toNatClampNeg)), some (.int (xs (i + Int32.ofInt 3).toNatClampNeg)), some (.int (xs (i + Int32.ofInt 4).toNatClampNeg)), some (.int (xs (i + Int32.ofInt 5).toNatClampNeg))], [], am_hp I1 J1 E1) = some (true, some (.int v), am_hp I2 J2 E2) := e2
  refine ⟨x5, x6, I2, J2, E2, hr2, ?_⟩
  refine lr_s (t := (100, 304, 217, [some (.ref 60000), some (.ref 0), some (.ref 156), some (.ref 178), some (.int i), x5, x6], [.ref 0], am_hp I J E)) rfl ?_
  refine lr_s (t := (100, 304, 218, [some (.ref 60000), some (.ref 0), some (.ref 156), some (.ref 178), some (.int i), x5, x6], [.ref 60000, .ref 0], am_hp I J E)) rfl ?_
  refine lr_s (t := (100, 304, 220, [some (.ref 60000), some (.ref 0), some (.ref 156), some (.ref 178), some (.int i), x5, x6], [.int i, .ref 60000, .ref 0], am_hp I J E)) rfl ?_
  refine lr_s (t := (100, 304, 221, [some (.ref 60000), some (.ref 0), some (.ref 156), some (.ref 178), some (.int i), x5, x6], [.int (Int32.ofInt 1), .int i, .ref 60000, .ref 0], am_hp I J E)) rfl ?_
  refine lr_s (t := (100, 304, 222, [some (.ref 60000), some (.ref 0), some (.ref 156), some (.ref 178), some (.int i), x5, x6], [.int (i + Int32.ofInt 1), .ref 60000, .ref 0], am_hp I J E)) rfl ?_
  refine lr_g (t := (100, 304, 223, [some (.ref 60000), some (.ref 0), some (.ref 156), some (.ref 178), some (.int i), x5, x6], [.int (xs (i + Int32.ofInt 1).toNatClampNeg), .ref 0], am_hp I J E)) g.1 rfl ?_
  refine lr_s (t := (100, 304, 224, [some (.ref 60000), some (.ref 0), some (.ref 156), some (.ref 178), some (.int i), x5, x6], [.ref 60000, .int (xs (i + Int32.ofInt 1).toNatClampNeg), .ref 0], am_hp I J E)) rfl ?_
  refine lr_s (t := (100, 304, 226, [some (.ref 60000), some (.ref 0), some (.ref 156), some (.ref 178), some (.int i), x5, x6], [.int i, .ref 60000, .int (xs (i + Int32.ofInt 1).toNatClampNeg), .ref 0], am_hp I J E)) rfl ?_
  refine lr_s (t := (100, 304, 227, [some (.ref 60000), some (.ref 0), some (.ref 156), some (.ref 178), some (.int i), x5, x6], [.int (Int32.ofInt 2), .int i, .ref 60000, .int (xs (i + Int32.ofInt 1).toNatClampNeg), .ref 0], am_hp I J E)) rfl ?_
  refine lr_s (t := (100, 304, 228, [some (.ref 60000), some (.ref 0), some (.ref 156), some (.ref 178), some (.int i), x5, x6], [.int (i + Int32.ofInt 2), .ref 60000, .int (xs (i + Int32.ofInt 1).toNatClampNeg), .ref 0], am_hp I J E)) rfl ?_
  refine lr_g (t := (100, 304, 229, [some (.ref 60000), some (.ref 0), some (.ref 156), some (.ref 178), some (.int i), x5, x6], [.int (xs (i + Int32.ofInt 2).toNatClampNeg), .int (xs (i + Int32.ofInt 1).toNatClampNeg), .ref 0], am_hp I J E)) g.2.1 rfl ?_
  refine lr_s (t := (100, 304, 230, [some (.ref 60000), some (.ref 0), some (.ref 156), some (.ref 178), some (.int i), x5, x6], [.ref 60000, .int (xs (i + Int32.ofInt 2).toNatClampNeg), .int (xs (i + Int32.ofInt 1).toNatClampNeg), .ref 0], am_hp I J E)) rfl ?_
  refine lr_s (t := (100, 304, 232, [some (.ref 60000), some (.ref 0), some (.ref 156), some (.ref 178), some (.int i), x5, x6], [.int i, .ref 60000, .int (xs (i + Int32.ofInt 2).toNatClampNeg), .int (xs (i + Int32.ofInt 1).toNatClampNeg), .ref 0], am_hp I J E)) rfl ?_
  refine lr_s (t := (100, 304, 233, [some (.ref 60000), some (.ref 0), some (.ref 156), some (.ref 178), some (.int i), x5, x6], [.int (Int32.ofInt 3), .int i, .ref 60000, .int (xs (i + Int32.ofInt 2).toNatClampNeg), .int (xs (i + Int32.ofInt 1).toNatClampNeg), .ref 0], am_hp I J E)) rfl ?_
  refine lr_s (t := (100, 304, 234, [some (.ref 60000), some (.ref 0), some (.ref 156), some (.ref 178), some (.int i), x5, x6], [.int (i + Int32.ofInt 3), .ref 60000, .int (xs (i + Int32.ofInt 2).toNatClampNeg), .int (xs (i + Int32.ofInt 1).toNatClampNeg), .ref 0], am_hp I J E)) rfl ?_
  refine lr_g (t := (100, 304, 235, [some (.ref 60000), some (.ref 0), some (.ref 156), some (.ref 178), some (.int i), x5, x6], [.int (xs (i + Int32.ofInt 3).toNatClampNeg), .int (xs (i + Int32.ofInt 2).toNatClampNeg), .int (xs (i + Int32.ofInt 1).toNatClampNeg), .ref 0], am_hp I J E)) g.2.2.1 rfl ?_
  refine lr_s (t := (100, 304, 236, [some (.ref 60000), some (.ref 0), some (.ref 156), some (.ref 178), some (.int i), x5, x6], [.ref 60000, .int (xs (i + Int32.ofInt 3).toNatClampNeg), .int (xs (i + Int32.ofInt 2).toNatClampNeg), .int (xs (i + Int32.ofInt 1).toNatClampNeg), .ref 0], am_hp I J E)) rfl ?_
  refine lr_s (t := (100, 304, 238, [some (.ref 60000), some (.ref 0), some (.ref 156), some (.ref 178), some (.int i), x5, x6], [.int i, .ref 60000, .int (xs (i + Int32.ofInt 3).toNatClampNeg), .int (xs (i + Int32.ofInt 2).toNatClampNeg), .int (xs (i + Int32.ofInt 1).toNatClampNeg), .ref 0], am_hp I J E)) rfl ?_
  refine lr_s (t := (100, 304, 239, [some (.ref 60000), some (.ref 0), some (.ref 156), some (.ref 178), some (.int i), x5, x6], [.int (Int32.ofInt 4), .int i, .ref 60000, .int (xs (i + Int32.ofInt 3).toNatClampNeg), .int (xs (i + Int32.ofInt 2).toNatClampNeg), .int (xs (i + Int32.ofInt 1).toNatClampNeg), .ref 0], am_hp I J E)) rfl ?_
  refine lr_s (t := (100, 304, 240, [some (.ref 60000), some (.ref 0), some (.ref 156), some (.ref 178), some (.int i), x5, x6], [.int (i + Int32.ofInt 4), .ref 60000, .int (xs (i + Int32.ofInt 3).toNatClampNeg), .int (xs (i + Int32.ofInt 2).toNatClampNeg), .int (xs (i + Int32.ofInt 1).toNatClampNeg), .ref 0], am_hp I J E)) rfl ?_
  refine lr_g (t := (100, 304, 241, [some (.ref 60000), some (.ref 0), some (.ref 156), some (.ref 178), some (.int i), x5, x6], [.int (xs (i + Int32.ofInt 4).toNatClampNeg), .int (xs (i + Int32.ofInt 3).toNatClampNeg), .int (xs (i + Int32.ofInt 2).toNatClampNeg), .int (xs (i + Int32.ofInt 1).toNatClampNeg), .ref 0], am_hp I J E)) g.2.2.2.1 rfl ?_
  refine lr_s (t := (100, 304, 242, [some (.ref 60000), some (.ref 0), some (.ref 156), some (.ref 178), some (.int i), x5, x6], [.ref 60000, .int (xs (i + Int32.ofInt 4).toNatClampNeg), .int (xs (i + Int32.ofInt 3).toNatClampNeg), .int (xs (i + Int32.ofInt 2).toNatClampNeg), .int (xs (i + Int32.ofInt 1).toNatClampNeg), .ref 0], am_hp I J E)) rfl ?_
  refine lr_s (t := (100, 304, 244, [some (.ref 60000), some (.ref 0), some (.ref 156), some (.ref 178), some (.int i), x5, x6], [.int i, .ref 60000, .int (xs (i + Int32.ofInt 4).toNatClampNeg), .int (xs (i + Int32.ofInt 3).toNatClampNeg), .int (xs (i + Int32.ofInt 2).toNatClampNeg), .int (xs (i + Int32.ofInt 1).toNatClampNeg), .ref 0], am_hp I J E)) rfl ?_
  refine lr_s (t := (100, 304, 245, [some (.ref 60000), some (.ref 0), some (.ref 156), some (.ref 178), some (.int i), x5, x6], [.int (Int32.ofInt 5), .int i, .ref 60000, .int (xs (i + Int32.ofInt 4).toNatClampNeg), .int (xs (i + Int32.ofInt 3).toNatClampNeg), .int (xs (i + Int32.ofInt 2).toNatClampNeg), .int (xs (i + Int32.ofInt 1).toNatClampNeg), .ref 0], am_hp I J E)) rfl ?_
  refine lr_s (t := (100, 304, 246, [some (.ref 60000), some (.ref 0), some (.ref 156), some (.ref 178), some (.int i), x5, x6], [.int (i + Int32.ofInt 5), .ref 60000, .int (xs (i + Int32.ofInt 4).toNatClampNeg), .int (xs (i + Int32.ofInt 3).toNatClampNeg), .int (xs (i + Int32.ofInt 2).toNatClampNeg), .int (xs (i + Int32.ofInt 1).toNatClampNeg), .ref 0], am_hp I J E)) rfl ?_
  refine lr_g (t := (100, 304, 247, [some (.ref 60000), some (.ref 0), some (.ref 156), some (.ref 178), some (.int i), x5, x6], [.int (xs (i + Int32.ofInt 5).toNatClampNeg), .int (xs (i + Int32.ofInt 4).toNatClampNeg), .int (xs (i + Int32.ofInt 3).toNatClampNeg), .int (xs (i + Int32.ofInt 2).toNatClampNeg), .int (xs (i + Int32.ofInt 1).toNatClampNeg), .ref 0], am_hp I J E)) g.2.2.2.2 rfl ?_
  refine lr_c (s1 := (99, 115, 0, [some (.ref 0), some (.int (xs (i + Int32.ofInt 1).toNatClampNeg)), some (.int (xs (i + Int32.ofInt 2).toNatClampNeg)), some (.int (xs (i + Int32.ofInt 3).toNatClampNeg)), some (.int (xs (i + Int32.ofInt 4).toNatClampNeg)), some (.int (xs (i + Int32.ofInt 5).toNatClampNeg))], [], am_hp I J E)) (t := (100, 304, 250, [some (.ref 60000), some (.ref 0), some (.ref 156), some (.ref 178), some (.int i), x5, x6], [.int v], am_hp I1 J1 E1)) e1 rfl rfl ?_
  refine lr_s (t := (100, 304, 251, [some (.ref 60000), some (.ref 0), some (.ref 156), some (.ref 178), some (.int i), x5, x6], [.ref 156, .int v], am_hp I1 J1 E1)) rfl ?_
  refine lr_s (t := (100, 304, 252, [some (.ref 60000), some (.ref 0), some (.ref 156), some (.ref 178), some (.int i), x5, x6], [.ref 60000, .ref 156, .int v], am_hp I1 J1 E1)) rfl ?_
  refine lr_s (t := (100, 304, 254, [some (.ref 60000), some (.ref 0), some (.ref 156), some (.ref 178), some (.int i), x5, x6], [.int i, .ref 60000, .ref 156, .int v], am_hp I1 J1 E1)) rfl ?_
  refine lr_s (t := (100, 304, 255, [some (.ref 60000), some (.ref 0), some (.ref 156), some (.ref 178), some (.int i), x5, x6], [.int (Int32.ofInt 1), .int i, .ref 60000, .ref 156, .int v], am_hp I1 J1 E1)) rfl ?_
  refine lr_s (t := (100, 304, 256, [some (.ref 60000), some (.ref 0), some (.ref 156), some (.ref 178), some (.int i), x5, x6], [.int (i + Int32.ofInt 1), .ref 60000, .ref 156, .int v], am_hp I1 J1 E1)) rfl ?_
  refine lr_g (t := (100, 304, 257, [some (.ref 60000), some (.ref 0), some (.ref 156), some (.ref 178), some (.int i), x5, x6], [.int (xs (i + Int32.ofInt 1).toNatClampNeg), .ref 156, .int v], am_hp I1 J1 E1)) g.1 rfl ?_
  refine lr_s (t := (100, 304, 258, [some (.ref 60000), some (.ref 0), some (.ref 156), some (.ref 178), some (.int i), x5, x6], [.ref 60000, .int (xs (i + Int32.ofInt 1).toNatClampNeg), .ref 156, .int v], am_hp I1 J1 E1)) rfl ?_
  refine lr_s (t := (100, 304, 260, [some (.ref 60000), some (.ref 0), some (.ref 156), some (.ref 178), some (.int i), x5, x6], [.int i, .ref 60000, .int (xs (i + Int32.ofInt 1).toNatClampNeg), .ref 156, .int v], am_hp I1 J1 E1)) rfl ?_
  refine lr_s (t := (100, 304, 261, [some (.ref 60000), some (.ref 0), some (.ref 156), some (.ref 178), some (.int i), x5, x6], [.int (Int32.ofInt 2), .int i, .ref 60000, .int (xs (i + Int32.ofInt 1).toNatClampNeg), .ref 156, .int v], am_hp I1 J1 E1)) rfl ?_
  refine lr_s (t := (100, 304, 262, [some (.ref 60000), some (.ref 0), some (.ref 156), some (.ref 178), some (.int i), x5, x6], [.int (i + Int32.ofInt 2), .ref 60000, .int (xs (i + Int32.ofInt 1).toNatClampNeg), .ref 156, .int v], am_hp I1 J1 E1)) rfl ?_
  refine lr_g (t := (100, 304, 263, [some (.ref 60000), some (.ref 0), some (.ref 156), some (.ref 178), some (.int i), x5, x6], [.int (xs (i + Int32.ofInt 2).toNatClampNeg), .int (xs (i + Int32.ofInt 1).toNatClampNeg), .ref 156, .int v], am_hp I1 J1 E1)) g.2.1 rfl ?_
  refine lr_s (t := (100, 304, 264, [some (.ref 60000), some (.ref 0), some (.ref 156), some (.ref 178), some (.int i), x5, x6], [.ref 60000, .int (xs (i + Int32.ofInt 2).toNatClampNeg), .int (xs (i + Int32.ofInt 1).toNatClampNeg), .ref 156, .int v], am_hp I1 J1 E1)) rfl ?_
  refine lr_s (t := (100, 304, 266, [some (.ref 60000), some (.ref 0), some (.ref 156), some (.ref 178), some (.int i), x5, x6], [.int i, .ref 60000, .int (xs (i + Int32.ofInt 2).toNatClampNeg), .int (xs (i + Int32.ofInt 1).toNatClampNeg), .ref 156, .int v], am_hp I1 J1 E1)) rfl ?_
  refine lr_s (t := (100, 304, 267, [some (.ref 60000), some (.ref 0), some (.ref 156), some (.ref 178), some (.int i), x5, x6], [.int (Int32.ofInt 3), .int i, .ref 60000, .int (xs (i + Int32.ofInt 2).toNatClampNeg), .int (xs (i + Int32.ofInt 1).toNatClampNeg), .ref 156, .int v], am_hp I1 J1 E1)) rfl ?_
  refine lr_s (t := (100, 304, 268, [some (.ref 60000), some (.ref 0), some (.ref 156), some (.ref 178), some (.int i), x5, x6], [.int (i + Int32.ofInt 3), .ref 60000, .int (xs (i + Int32.ofInt 2).toNatClampNeg), .int (xs (i + Int32.ofInt 1).toNatClampNeg), .ref 156, .int v], am_hp I1 J1 E1)) rfl ?_
  refine lr_g (t := (100, 304, 269, [some (.ref 60000), some (.ref 0), some (.ref 156), some (.ref 178), some (.int i), x5, x6], [.int (xs (i + Int32.ofInt 3).toNatClampNeg), .int (xs (i + Int32.ofInt 2).toNatClampNeg), .int (xs (i + Int32.ofInt 1).toNatClampNeg), .ref 156, .int v], am_hp I1 J1 E1)) g.2.2.1 rfl ?_
  refine lr_s (t := (100, 304, 270, [some (.ref 60000), some (.ref 0), some (.ref 156), some (.ref 178), some (.int i), x5, x6], [.ref 60000, .int (xs (i + Int32.ofInt 3).toNatClampNeg), .int (xs (i + Int32.ofInt 2).toNatClampNeg), .int (xs (i + Int32.ofInt 1).toNatClampNeg), .ref 156, .int v], am_hp I1 J1 E1)) rfl ?_
  refine lr_s (t := (100, 304, 272, [some (.ref 60000), some (.ref 0), some (.ref 156), some (.ref 178), some (.int i), x5, x6], [.int i, .ref 60000, .int (xs (i + Int32.ofInt 3).toNatClampNeg), .int (xs (i + Int32.ofInt 2).toNatClampNeg), .int (xs (i + Int32.ofInt 1).toNatClampNeg), .ref 156, .int v], am_hp I1 J1 E1)) rfl ?_
  refine lr_s (t := (100, 304, 273, [some (.ref 60000), some (.ref 0), some (.ref 156), some (.ref 178), some (.int i), x5, x6], [.int (Int32.ofInt 4), .int i, .ref 60000, .int (xs (i + Int32.ofInt 3).toNatClampNeg), .int (xs (i + Int32.ofInt 2).toNatClampNeg), .int (xs (i + Int32.ofInt 1).toNatClampNeg), .ref 156, .int v], am_hp I1 J1 E1)) rfl ?_
  refine lr_s (t := (100, 304, 274, [some (.ref 60000), some (.ref 0), some (.ref 156), some (.ref 178), some (.int i), x5, x6], [.int (i + Int32.ofInt 4), .ref 60000, .int (xs (i + Int32.ofInt 3).toNatClampNeg), .int (xs (i + Int32.ofInt 2).toNatClampNeg), .int (xs (i + Int32.ofInt 1).toNatClampNeg), .ref 156, .int v], am_hp I1 J1 E1)) rfl ?_
  refine lr_g (t := (100, 304, 275, [some (.ref 60000), some (.ref 0), some (.ref 156), some (.ref 178), some (.int i), x5, x6], [.int (xs (i + Int32.ofInt 4).toNatClampNeg), .int (xs (i + Int32.ofInt 3).toNatClampNeg), .int (xs (i + Int32.ofInt 2).toNatClampNeg), .int (xs (i + Int32.ofInt 1).toNatClampNeg), .ref 156, .int v], am_hp I1 J1 E1)) g.2.2.2.1 rfl ?_
  refine lr_s (t := (100, 304, 276, [some (.ref 60000), some (.ref 0), some (.ref 156), some (.ref 178), some (.int i), x5, x6], [.ref 60000, .int (xs (i + Int32.ofInt 4).toNatClampNeg), .int (xs (i + Int32.ofInt 3).toNatClampNeg), .int (xs (i + Int32.ofInt 2).toNatClampNeg), .int (xs (i + Int32.ofInt 1).toNatClampNeg), .ref 156, .int v], am_hp I1 J1 E1)) rfl ?_
  refine lr_s (t := (100, 304, 278, [some (.ref 60000), some (.ref 0), some (.ref 156), some (.ref 178), some (.int i), x5, x6], [.int i, .ref 60000, .int (xs (i + Int32.ofInt 4).toNatClampNeg), .int (xs (i + Int32.ofInt 3).toNatClampNeg), .int (xs (i + Int32.ofInt 2).toNatClampNeg), .int (xs (i + Int32.ofInt 1).toNatClampNeg), .ref 156, .int v], am_hp I1 J1 E1)) rfl ?_
  refine lr_s (t := (100, 304, 279, [some (.ref 60000), some (.ref 0), some (.ref 156), some (.ref 178), some (.int i), x5, x6], [.int (Int32.ofInt 5), .int i, .ref 60000, .int (xs (i + Int32.ofInt 4).toNatClampNeg), .int (xs (i + Int32.ofInt 3).toNatClampNeg), .int (xs (i + Int32.ofInt 2).toNatClampNeg), .int (xs (i + Int32.ofInt 1).toNatClampNeg), .ref 156, .int v], am_hp I1 J1 E1)) rfl ?_
  refine lr_s (t := (100, 304, 280, [some (.ref 60000), some (.ref 0), some (.ref 156), some (.ref 178), some (.int i), x5, x6], [.int (i + Int32.ofInt 5), .ref 60000, .int (xs (i + Int32.ofInt 4).toNatClampNeg), .int (xs (i + Int32.ofInt 3).toNatClampNeg), .int (xs (i + Int32.ofInt 2).toNatClampNeg), .int (xs (i + Int32.ofInt 1).toNatClampNeg), .ref 156, .int v], am_hp I1 J1 E1)) rfl ?_
  refine lr_g (t := (100, 304, 281, [some (.ref 60000), some (.ref 0), some (.ref 156), some (.ref 178), some (.int i), x5, x6], [.int (xs (i + Int32.ofInt 5).toNatClampNeg), .int (xs (i + Int32.ofInt 4).toNatClampNeg), .int (xs (i + Int32.ofInt 3).toNatClampNeg), .int (xs (i + Int32.ofInt 2).toNatClampNeg), .int (xs (i + Int32.ofInt 1).toNatClampNeg), .ref 156, .int v], am_hp I1 J1 E1)) g.2.2.2.2 rfl ?_
  refine lr_c (s1 := (99, 172, 0, [some (.ref 156), some (.int (xs (i + Int32.ofInt 1).toNatClampNeg)), some (.int (xs (i + Int32.ofInt 2).toNatClampNeg)), some (.int (xs (i + Int32.ofInt 3).toNatClampNeg)), some (.int (xs (i + Int32.ofInt 4).toNatClampNeg)), some (.int (xs (i + Int32.ofInt 5).toNatClampNeg))], [], am_hp I1 J1 E1)) (t := (100, 304, 284, [some (.ref 60000), some (.ref 0), some (.ref 156), some (.ref 178), some (.int i), x5, x6], [.int v, .int v], am_hp I2 J2 E2)) e2 rfl rfl ?_
  exact lr_b (t := (100, 304, 1338, [some (.ref 60000), some (.ref 0), some (.ref 156), some (.ref 178), some (.int i), x5, x6], [], am_hp I2 J2 E2)) (t' := (100, 304, 287, [some (.ref 60000), some (.ref 0), some (.ref 156), some (.ref 178), some (.int i), x5, x6], [], am_hp I2 J2 E2)) (decide_eq_true (rfl : v = v)) rfl lr_e
set_option maxRecDepth 20000 in
theorem lw_1 (N : Nat) (xs : Nat → Int32) (i : Int32) (g : gI i N) : lwS N xs i 289 := by
  intro x5 x6 I J E hrel
  obtain ⟨v, I1, J1, E1, I2, J2, E2, e1, e2, hr2⟩ := rl_end (false, N, xs) 39 I J E hrel (xs (i + Int32.ofInt 1).toNatClampNeg)
  have e1 : am_ev (false, N, xs) (99, 116, 0, [some (.ref 0), some (.int (xs (i + Int32.ofInt 1).toNatClampNeg))], [], am_hp I J E) = some (true, some (.int v), am_hp I1 J1 E1) := e1
  have e2 : am_ev (false, N, xs) (99, 173, 0, [some (.ref 156), some (.int (xs (i + Int32.ofInt 1).toNatClampNeg))], [], am_hp I1 J1 E1) = some (true, some (.int v), am_hp I2 J2 E2) := e2
  refine ⟨x5, x6, I2, J2, E2, hr2, ?_⟩
  refine lr_s (t := (100, 304, 290, [some (.ref 60000), some (.ref 0), some (.ref 156), some (.ref 178), some (.int i), x5, x6], [.ref 0], am_hp I J E)) rfl ?_
  refine lr_s (t := (100, 304, 291, [some (.ref 60000), some (.ref 0), some (.ref 156), some (.ref 178), some (.int i), x5, x6], [.ref 60000, .ref 0], am_hp I J E)) rfl ?_
  refine lr_s (t := (100, 304, 293, [some (.ref 60000), some (.ref 0), some (.ref 156), some (.ref 178), some (.int i), x5, x6], [.int i, .ref 60000, .ref 0], am_hp I J E)) rfl ?_
  refine lr_s (t := (100, 304, 294, [some (.ref 60000), some (.ref 0), some (.ref 156), some (.ref 178), some (.int i), x5, x6], [.int (Int32.ofInt 1), .int i, .ref 60000, .ref 0], am_hp I J E)) rfl ?_
  refine lr_s (t := (100, 304, 295, [some (.ref 60000), some (.ref 0), some (.ref 156), some (.ref 178), some (.int i), x5, x6], [.int (i + Int32.ofInt 1), .ref 60000, .ref 0], am_hp I J E)) rfl ?_
  refine lr_g (t := (100, 304, 296, [some (.ref 60000), some (.ref 0), some (.ref 156), some (.ref 178), some (.int i), x5, x6], [.int (xs (i + Int32.ofInt 1).toNatClampNeg), .ref 0], am_hp I J E)) g.1 rfl ?_
  refine lr_c (s1 := (99, 116, 0, [some (.ref 0), some (.int (xs (i + Int32.ofInt 1).toNatClampNeg))], [], am_hp I J E)) (t := (100, 304, 299, [some (.ref 60000), some (.ref 0), some (.ref 156), some (.ref 178), some (.int i), x5, x6], [.int v], am_hp I1 J1 E1)) e1 rfl rfl ?_
  refine lr_s (t := (100, 304, 300, [some (.ref 60000), some (.ref 0), some (.ref 156), some (.ref 178), some (.int i), x5, x6], [.ref 156, .int v], am_hp I1 J1 E1)) rfl ?_
  refine lr_s (t := (100, 304, 301, [some (.ref 60000), some (.ref 0), some (.ref 156), some (.ref 178), some (.int i), x5, x6], [.ref 60000, .ref 156, .int v], am_hp I1 J1 E1)) rfl ?_
  refine lr_s (t := (100, 304, 303, [some (.ref 60000), some (.ref 0), some (.ref 156), some (.ref 178), some (.int i), x5, x6], [.int i, .ref 60000, .ref 156, .int v], am_hp I1 J1 E1)) rfl ?_
  refine lr_s (t := (100, 304, 304, [some (.ref 60000), some (.ref 0), some (.ref 156), some (.ref 178), some (.int i), x5, x6], [.int (Int32.ofInt 1), .int i, .ref 60000, .ref 156, .int v], am_hp I1 J1 E1)) rfl ?_
  refine lr_s (t := (100, 304, 305, [some (.ref 60000), some (.ref 0), some (.ref 156), some (.ref 178), some (.int i), x5, x6], [.int (i + Int32.ofInt 1), .ref 60000, .ref 156, .int v], am_hp I1 J1 E1)) rfl ?_
  refine lr_g (t := (100, 304, 306, [some (.ref 60000), some (.ref 0), some (.ref 156), some (.ref 178), some (.int i), x5, x6], [.int (xs (i + Int32.ofInt 1).toNatClampNeg), .ref 156, .int v], am_hp I1 J1 E1)) g.1 rfl ?_
  refine lr_c (s1 := (99, 173, 0, [some (.ref 156), some (.int (xs (i + Int32.ofInt 1).toNatClampNeg))], [], am_hp I1 J1 E1)) (t := (100, 304, 309, [some (.ref 60000), some (.ref 0), some (.ref 156), some (.ref 178), some (.int i), x5, x6], [.int v, .int v], am_hp I2 J2 E2)) e2 rfl rfl ?_
  exact lr_b (t := (100, 304, 1338, [some (.ref 60000), some (.ref 0), some (.ref 156), some (.ref 178), some (.int i), x5, x6], [], am_hp I2 J2 E2)) (t' := (100, 304, 312, [some (.ref 60000), some (.ref 0), some (.ref 156), some (.ref 178), some (.int i), x5, x6], [], am_hp I2 J2 E2)) (decide_eq_true (rfl : v = v)) rfl lr_e
set_option maxRecDepth 20000 in
theorem lw_2 (N : Nat) (xs : Nat → Int32) (i : Int32) (g : gI i N) : lwS N xs i 314 := by
  intro x5 x6 I J E hrel
  obtain ⟨v, I1, J1, E1, I2, J2, E2, e1, e2, hr2⟩ := rl_library (false, N, xs) 39 I J E hrel
  have e1 : am_ev (false, N, xs) (99, 117, 0, [some (.ref 0), none], [], am_hp I J E) = some (true, some (.int v), am_hp I1 J1 E1) := e1
  have e2 : am_ev (false, N, xs) (99, 205, 0, [some (.ref 156), none, none], [], am_hp I1 J1 E1) = some (true, some (.int v), am_hp I2 J2 E2) := e2
  refine ⟨x5, x6, I2, J2, E2, hr2, ?_⟩
  refine lr_s (t := (100, 304, 315, [some (.ref 60000), some (.ref 0), some (.ref 156), some (.ref 178), some (.int i), x5, x6], [.ref 0], am_hp I J E)) rfl ?_
  refine lr_c (s1 := (99, 117, 0, [some (.ref 0), none], [], am_hp I J E)) (t := (100, 304, 318, [some (.ref 60000), some (.ref 0), some (.ref 156), some (.ref 178), some (.int i), x5, x6], [.int v], am_hp I1 J1 E1)) e1 rfl rfl ?_
  refine lr_s (t := (100, 304, 319, [some (.ref 60000), some (.ref 0), some (.ref 156), some (.ref 178), some (.int i), x5, x6], [.ref 156, .int v], am_hp I1 J1 E1)) rfl ?_
  refine lr_c (s1 := (99, 205, 0, [some (.ref 156), none, none], [], am_hp I1 J1 E1)) (t := (100, 304, 322, [some (.ref 60000), some (.ref 0), some (.ref 156), some (.ref 178), some (.int i), x5, x6], [.int v, .int v], am_hp I2 J2 E2)) e2 rfl rfl ?_
  exact lr_b (t := (100, 304, 1338, [some (.ref 60000), some (.ref 0), some (.ref 156), some (.ref 178), some (.int i), x5, x6], [], am_hp I2 J2 E2)) (t' := (100, 304, 325, [some (.ref 60000), some (.ref 0), some (.ref 156), some (.ref 178), some (.int i), x5, x6], [], am_hp I2 J2 E2)) (decide_eq_true (rfl : v = v)) rfl lr_e
set_option maxRecDepth 20000 in
theorem lw_3 (N : Nat) (xs : Nat → Int32) (i : Int32) (g : gI i N) : lwS N xs i 327 := by
  intro x5 x6 I J E hrel
  obtain ⟨v, I1, J1, E1, I2, J2, E2, e1, e2, hr2⟩ := rl_fault (false, N, xs) 39 I J E hrel
  have e1 : am_ev (false, N, xs) (99, 118, 0, [some (.ref 0)], [], am_hp I J E) = some (true, some (.int v), am_hp I1 J1 E1) := e1
  have e2 : am_ev (false, N, xs) (99, 206, 0, [some (.ref 156)], [], am_hp I1 J1 E1) = some (true, some (.int v), am_hp I2 J2 E2) := e2
  refine ⟨x5, x6, I2, J2, E2, hr2, ?_⟩
  refine lr_s (t := (100, 304, 328, [some (.ref 60000), some (.ref 0), some (.ref 156), some (.ref 178), some (.int i), x5, x6], [.ref 0], am_hp I J E)) rfl ?_
  refine lr_c (s1 := (99, 118, 0, [some (.ref 0)], [], am_hp I J E)) (t := (100, 304, 331, [some (.ref 60000), some (.ref 0), some (.ref 156), some (.ref 178), some (.int i), x5, x6], [.int v], am_hp I1 J1 E1)) e1 rfl rfl ?_
  refine lr_s (t := (100, 304, 332, [some (.ref 60000), some (.ref 0), some (.ref 156), some (.ref 178), some (.int i), x5, x6], [.ref 156, .int v], am_hp I1 J1 E1)) rfl ?_
  refine lr_c (s1 := (99, 206, 0, [some (.ref 156)], [], am_hp I1 J1 E1)) (t := (100, 304, 335, [some (.ref 60000), some (.ref 0), some (.ref 156), some (.ref 178), some (.int i), x5, x6], [.int v, .int v], am_hp I2 J2 E2)) e2 rfl rfl ?_
  exact lr_b (t := (100, 304, 1338, [some (.ref 60000), some (.ref 0), some (.ref 156), some (.ref 178), some (.int i), x5, x6], [], am_hp I2 J2 E2)) (t' := (100, 304, 338, [some (.ref 60000), some (.ref 0), some (.ref 156), some (.ref 178), some (.int i), x5, x6], [], am_hp I2 J2 E2)) (decide_eq_true (rfl : v = v)) rfl lr_e
set_option maxRecDepth 20000 in
theorem lw_5 (N : Nat) (xs : Nat → Int32) (i : Int32) (g : gI i N) : lwS N xs i 408 := by
  intro x5 x6 I J E hrel
  obtain ⟨v, I1, J1, E1, I2, J2, E2, e1, e2, hr2⟩ := rl_book (false, N, xs) 39 I J E hrel (xs (i + Int32.ofInt 1).toNatClampNeg) (xs (i + Int32.ofInt 2).toNatClampNeg)
  have e1 : am_ev (false, N, xs) (99, 121, 0, [some (.ref 0), some (.int (xs (i + Int32.ofInt 1).toNatClampNeg)), some (.int (xs (i + Int32.ofInt 2).toNatClampNeg)), none], [], am_hp I J E) = some (true, some (.int v), am_hp I1 J1 E1) := e1
  have e2 : am_ev (false, N, xs) (99, 219, 0, [some (.ref 156), some (.int (xs (i + Int32.ofInt 1).toNatClampNeg)), some (.int (xs (i + Int32.ofInt 2).toNatClampNeg)), none, none], [], am_hp I1 J1 E1) = some (true, some (.int v), am_hp I2 J2 E2) := e2
  refine ⟨x5, x6, I2, J2, E2, hr2, ?_⟩
  refine lr_s (t := (100, 304, 409, [some (.ref 60000), some (.ref 0), some (.ref 156), some (.ref 178), some (.int i), x5, x6], [.ref 0], am_hp I J E)) rfl ?_
  refine lr_s (t := (100, 304, 410, [some (.ref 60000), some (.ref 0), some (.ref 156), some (.ref 178), some (.int i), x5, x6], [.ref 60000, .ref 0], am_hp I J E)) rfl ?_
  refine lr_s (t := (100, 304, 412, [some (.ref 60000), some (.ref 0), some (.ref 156), some (.ref 178), some (.int i), x5, x6], [.int i, .ref 60000, .ref 0], am_hp I J E)) rfl ?_
  refine lr_s (t := (100, 304, 413, [some (.ref 60000), some (.ref 0), some (.ref 156), some (.ref 178), some (.int i), x5, x6], [.int (Int32.ofInt 1), .int i, .ref 60000, .ref 0], am_hp I J E)) rfl ?_
  refine lr_s (t := (100, 304, 414, [some (.ref 60000), some (.ref 0), some (.ref 156), some (.ref 178), some (.int i), x5, x6], [.int (i + Int32.ofInt 1), .ref 60000, .ref 0], am_hp I J E)) rfl ?_
  refine lr_g (t := (100, 304, 415, [some (.ref 60000), some (.ref 0), some (.ref 156), some (.ref 178), some (.int i), x5, x6], [.int (xs (i + Int32.ofInt 1).toNatClampNeg), .ref 0], am_hp I J E)) g.1 rfl ?_
  refine lr_s (t := (100, 304, 416, [some (.ref 60000), some (.ref 0), some (.ref 156), some (.ref 178), some (.int i), x5, x6], [.ref 60000, .int (xs (i + Int32.ofInt 1).toNatClampNeg), .ref 0], am_hp I J E)) rfl ?_
  refine lr_s (t := (100, 304, 418, [some (.ref 60000), some (.ref 0), some (.ref 156), some (.ref 178), some (.int i), x5, x6], [.int i, .ref 60000, .int (xs (i + Int32.ofInt 1).toNatClampNeg), .ref 0], am_hp I J E)) rfl ?_
  refine lr_s (t := (100, 304, 419, [some (.ref 60000), some (.ref 0), some (.ref 156), some (.ref 178), some (.int i), x5, x6], [.int (Int32.ofInt 2), .int i, .ref 60000, .int (xs (i + Int32.ofInt 1).toNatClampNeg), .ref 0], am_hp I J E)) rfl ?_
  refine lr_s (t := (100, 304, 420, [some (.ref 60000), some (.ref 0), some (.ref 156), some (.ref 178), some (.int i), x5, x6], [.int (i + Int32.ofInt 2), .ref 60000, .int (xs (i + Int32.ofInt 1).toNatClampNeg), .ref 0], am_hp I J E)) rfl ?_
  refine lr_g (t := (100, 304, 421, [some (.ref 60000), some (.ref 0), some (.ref 156), some (.ref 178), some (.int i), x5, x6], [.int (xs (i + Int32.ofInt 2).toNatClampNeg), .int (xs (i + Int32.ofInt 1).toNatClampNeg), .ref 0], am_hp I J E)) g.2.1 rfl ?_
  refine lr_c (s1 := (99, 121, 0, [some (.ref 0), some (.int (xs (i + Int32.ofInt 1).toNatClampNeg)), some (.int (xs (i + Int32.ofInt 2).toNatClampNeg)), none], [], am_hp I J E)) (t := (100, 304, 424, [some (.ref 60000), some (.ref 0), some (.ref 156), some (.ref 178), some (.int i), x5, x6], [.int v], am_hp I1 J1 E1)) e1 rfl rfl ?_
  refine lr_s (t := (100, 304, 425, [some (.ref 60000), some (.ref 0), some (.ref 156), some (.ref 178), some (.int i), x5, x6], [.ref 156, .int v], am_hp I1 J1 E1)) rfl ?_
  refine lr_s (t := (100, 304, 426, [some (.ref 60000), some (.ref 0), some (.ref 156), some (.ref 178), some (.int i), x5, x6], [.ref 60000, .ref 156, .int v], am_hp I1 J1 E1)) rfl ?_
  refine lr_s (t := (100, 304, 428, [some (.ref 60000), some (.ref 0), some (.ref 156), some (.ref 178), some (.int i), x5, x6], [.int i, .ref 60000, .ref 156, .int v], am_hp I1 J1 E1)) rfl ?_
  refine lr_s (t := (100, 304, 429, [some (.ref 60000), some (.ref 0), some (.ref 156), some (.ref 178), some (.int i), x5, x6], [.int (Int32.ofInt 1), .int i, .ref 60000, .ref 156, .int v], am_hp I1 J1 E1)) rfl ?_
  refine lr_s (t := (100, 304, 430, [some (.ref 60000), some (.ref 0), some (.ref 156), some (.ref 178), some (.int i), x5, x6], [.int (i + Int32.ofInt 1), .ref 60000, .ref 156, .int v], am_hp I1 J1 E1)) rfl ?_
  refine lr_g (t := (100, 304, 431, [some (.ref 60000), some (.ref 0), some (.ref 156), some (.ref 178), some (.int i), x5, x6], [.int (xs (i + Int32.ofInt 1).toNatClampNeg), .ref 156, .int v], am_hp I1 J1 E1)) g.1 rfl ?_
  refine lr_s (t := (100, 304, 432, [some (.ref 60000), some (.ref 0), some (.ref 156), some (.ref 178), some (.int i), x5, x6], [.ref 60000, .int (xs (i + Int32.ofInt 1).toNatClampNeg), .ref 156, .int v], am_hp I1 J1 E1)) rfl ?_
  refine lr_s (t := (100, 304, 434, [some (.ref 60000), some (.ref 0), some (.ref 156), some (.ref 178), some (.int i), x5, x6], [.int i, .ref 60000, .int (xs (i + Int32.ofInt 1).toNatClampNeg), .ref 156, .int v], am_hp I1 J1 E1)) rfl ?_
  refine lr_s (t := (100, 304, 435, [some (.ref 60000), some (.ref 0), some (.ref 156), some (.ref 178), some (.int i), x5, x6], [.int (Int32.ofInt 2), .int i, .ref 60000, .int (xs (i + Int32.ofInt 1).toNatClampNeg), .ref 156, .int v], am_hp I1 J1 E1)) rfl ?_
  refine lr_s (t := (100, 304, 436, [some (.ref 60000), some (.ref 0), some (.ref 156), some (.ref 178), some (.int i), x5, x6], [.int (i + Int32.ofInt 2), .ref 60000, .int (xs (i + Int32.ofInt 1).toNatClampNeg), .ref 156, .int v], am_hp I1 J1 E1)) rfl ?_
  refine lr_g (t := (100, 304, 437, [some (.ref 60000), some (.ref 0), some (.ref 156), some (.ref 178), some (.int i), x5, x6], [.int (xs (i + Int32.ofInt 2).toNatClampNeg), .int (xs (i + Int32.ofInt 1).toNatClampNeg), .ref 156, .int v], am_hp I1 J1 E1)) g.2.1 rfl ?_
  refine lr_c (s1 := (99, 219, 0, [some (.ref 156), some (.int (xs (i + Int32.ofInt 1).toNatClampNeg)), some (.int (xs (i + Int32.ofInt 2).toNatClampNeg)), none, none], [], am_hp I1 J1 E1)) (t := (100, 304, 440, [some (.ref 60000), some (.ref 0), some (.ref 156), some (.ref 178), some (.int i), x5, x6], [.int v, .int v], am_hp I2 J2 E2)) e2 rfl rfl ?_
  exact lr_b (t := (100, 304, 1338, [some (.ref 60000), some (.ref 0), some (.ref 156), some (.ref 178), some (.int i), x5, x6], [], am_hp I2 J2 E2)) (t' := (100, 304, 443, [some (.ref 60000), some (.ref 0), some (.ref 156), some (.ref 178), some (.int i), x5, x6], [], am_hp I2 J2 E2)) (decide_eq_true (rfl : v = v)) rfl lr_e
set_option maxRecDepth 20000 in
theorem lw_6 (N : Nat) (xs : Nat → Int32) (i : Int32) (g : gI i N) : lwS N xs i 445 := by
  intro x5 x6 I J E hrel
  obtain ⟨v, I1, J1, E1, I2, J2, E2, e1, e2, hr2⟩ := rl_now (false, N, xs) 39 I J E hrel (xs (i + Int32.ofInt 1).toNatClampNeg)
  have e1 : am_ev (false, N, xs) (99, 122, 0, [some (.ref 0), some (.int (xs (i + Int32.ofInt 1).toNatClampNeg)), none], [], am_hp I J E) = some (true, some (.int v), am_hp I1 J1 E1) := e1
  have e2 : am_ev (false, N, xs) (99, 224, 0, [some (.ref 156), some (.int (xs (i + Int32.ofInt 1).toNatClampNeg)), none, none], [], am_hp I1 J1 E1) = some (true, some (.int v), am_hp I2 J2 E2) := e2
  refine ⟨x5, x6, I2, J2, E2, hr2, ?_⟩
  refine lr_s (t := (100, 304, 446, [some (.ref 60000), some (.ref 0), some (.ref 156), some (.ref 178), some (.int i), x5, x6], [.ref 0], am_hp I J E)) rfl ?_
  refine lr_s (t := (100, 304, 447, [some (.ref 60000), some (.ref 0), some (.ref 156), some (.ref 178), some (.int i), x5, x6], [.ref 60000, .ref 0], am_hp I J E)) rfl ?_
  refine lr_s (t := (100, 304, 449, [some (.ref 60000), some (.ref 0), some (.ref 156), some (.ref 178), some (.int i), x5, x6], [.int i, .ref 60000, .ref 0], am_hp I J E)) rfl ?_
  refine lr_s (t := (100, 304, 450, [some (.ref 60000), some (.ref 0), some (.ref 156), some (.ref 178), some (.int i), x5, x6], [.int (Int32.ofInt 1), .int i, .ref 60000, .ref 0], am_hp I J E)) rfl ?_
  refine lr_s (t := (100, 304, 451, [some (.ref 60000), some (.ref 0), some (.ref 156), some (.ref 178), some (.int i), x5, x6], [.int (i + Int32.ofInt 1), .ref 60000, .ref 0], am_hp I J E)) rfl ?_
  refine lr_g (t := (100, 304, 452, [some (.ref 60000), some (.ref 0), some (.ref 156), some (.ref 178), some (.int i), x5, x6], [.int (xs (i + Int32.ofInt 1).toNatClampNeg), .ref 0], am_hp I J E)) g.1 rfl ?_
  refine lr_c (s1 := (99, 122, 0, [some (.ref 0), some (.int (xs (i + Int32.ofInt 1).toNatClampNeg)), none], [], am_hp I J E)) (t := (100, 304, 455, [some (.ref 60000), some (.ref 0), some (.ref 156), some (.ref 178), some (.int i), x5, x6], [.int v], am_hp I1 J1 E1)) e1 rfl rfl ?_
  refine lr_s (t := (100, 304, 456, [some (.ref 60000), some (.ref 0), some (.ref 156), some (.ref 178), some (.int i), x5, x6], [.ref 156, .int v], am_hp I1 J1 E1)) rfl ?_
  refine lr_s (t := (100, 304, 457, [some (.ref 60000), some (.ref 0), some (.ref 156), some (.ref 178), some (.int i), x5, x6], [.ref 60000, .ref 156, .int v], am_hp I1 J1 E1)) rfl ?_
  refine lr_s (t := (100, 304, 459, [some (.ref 60000), some (.ref 0), some (.ref 156), some (.ref 178), some (.int i), x5, x6], [.int i, .ref 60000, .ref 156, .int v], am_hp I1 J1 E1)) rfl ?_
  refine lr_s (t := (100, 304, 460, [some (.ref 60000), some (.ref 0), some (.ref 156), some (.ref 178), some (.int i), x5, x6], [.int (Int32.ofInt 1), .int i, .ref 60000, .ref 156, .int v], am_hp I1 J1 E1)) rfl ?_
  refine lr_s (t := (100, 304, 461, [some (.ref 60000), some (.ref 0), some (.ref 156), some (.ref 178), some (.int i), x5, x6], [.int (i + Int32.ofInt 1), .ref 60000, .ref 156, .int v], am_hp I1 J1 E1)) rfl ?_
  refine lr_g (t := (100, 304, 462, [some (.ref 60000), some (.ref 0), some (.ref 156), some (.ref 178), some (.int i), x5, x6], [.int (xs (i + Int32.ofInt 1).toNatClampNeg), .ref 156, .int v], am_hp I1 J1 E1)) g.1 rfl ?_
  refine lr_c (s1 := (99, 224, 0, [some (.ref 156), some (.int (xs (i + Int32.ofInt 1).toNatClampNeg)), none, none], [], am_hp I1 J1 E1)) (t := (100, 304, 465, [some (.ref 60000), some (.ref 0), some (.ref 156), some (.ref 178), some (.int i), x5, x6], [.int v, .int v], am_hp I2 J2 E2)) e2 rfl rfl ?_
  exact lr_b (t := (100, 304, 1338, [some (.ref 60000), some (.ref 0), some (.ref 156), some (.ref 178), some (.int i), x5, x6], [], am_hp I2 J2 E2)) (t' := (100, 304, 468, [some (.ref 60000), some (.ref 0), some (.ref 156), some (.ref 178), some (.int i), x5, x6], [], am_hp I2 J2 E2)) (decide_eq_true (rfl : v = v)) rfl lr_e
set_option maxRecDepth 20000 in
theorem lw_7 (N : Nat) (xs : Nat → Int32) (i : Int32) (g : gI i N) : lwS N xs i 470 := by
  intro x5 x6 I J E hrel
  obtain ⟨v, I1, J1, E1, I2, J2, E2, e1, e2, hr2⟩ := rl_lend (false, N, xs) 39 I J E hrel (xs (i + Int32.ofInt 1).toNatClampNeg) (xs (i + Int32.ofInt 2).toNatClampNeg)
  have e1 : am_ev (false, N, xs) (99, 123, 0, [some (.ref 0), some (.int (xs (i + Int32.ofInt 1).toNatClampNeg)), some (.int (xs (i + Int32.ofInt 2).toNatClampNeg))], [], am_hp I J E) = some (true, some (.int v), am_hp I1 J1 E1) := e1
  have e2 : am_ev (false, N, xs) (99, 232, 0, [some (.ref 156), some (.int (xs (i + Int32.ofInt 1).toNatClampNeg)), some (.int (xs (i + Int32.ofInt 2).toNatClampNeg))], [], am_hp I1 J1 E1) = some (true, some (.int v), am_hp I2 J2 E2) := e2
  refine ⟨x5, x6, I2, J2, E2, hr2, ?_⟩
  refine lr_s (t := (100, 304, 471, [some (.ref 60000), some (.ref 0), some (.ref 156), some (.ref 178), some (.int i), x5, x6], [.ref 0], am_hp I J E)) rfl ?_
  refine lr_s (t := (100, 304, 472, [some (.ref 60000), some (.ref 0), some (.ref 156), some (.ref 178), some (.int i), x5, x6], [.ref 60000, .ref 0], am_hp I J E)) rfl ?_
  refine lr_s (t := (100, 304, 474, [some (.ref 60000), some (.ref 0), some (.ref 156), some (.ref 178), some (.int i), x5, x6], [.int i, .ref 60000, .ref 0], am_hp I J E)) rfl ?_
  refine lr_s (t := (100, 304, 475, [some (.ref 60000), some (.ref 0), some (.ref 156), some (.ref 178), some (.int i), x5, x6], [.int (Int32.ofInt 1), .int i, .ref 60000, .ref 0], am_hp I J E)) rfl ?_
  refine lr_s (t := (100, 304, 476, [some (.ref 60000), some (.ref 0), some (.ref 156), some (.ref 178), some (.int i), x5, x6], [.int (i + Int32.ofInt 1), .ref 60000, .ref 0], am_hp I J E)) rfl ?_
  refine lr_g (t := (100, 304, 477, [some (.ref 60000), some (.ref 0), some (.ref 156), some (.ref 178), some (.int i), x5, x6], [.int (xs (i + Int32.ofInt 1).toNatClampNeg), .ref 0], am_hp I J E)) g.1 rfl ?_
  refine lr_s (t := (100, 304, 478, [some (.ref 60000), some (.ref 0), some (.ref 156), some (.ref 178), some (.int i), x5, x6], [.ref 60000, .int (xs (i + Int32.ofInt 1).toNatClampNeg), .ref 0], am_hp I J E)) rfl ?_
  refine lr_s (t := (100, 304, 480, [some (.ref 60000), some (.ref 0), some (.ref 156), some (.ref 178), some (.int i), x5, x6], [.int i, .ref 60000, .int (xs (i + Int32.ofInt 1).toNatClampNeg), .ref 0], am_hp I J E)) rfl ?_
  refine lr_s (t := (100, 304, 481, [some (.ref 60000), some (.ref 0), some (.ref 156), some (.ref 178), some (.int i), x5, x6], [.int (Int32.ofInt 2), .int i, .ref 60000, .int (xs (i + Int32.ofInt 1).toNatClampNeg), .ref 0], am_hp I J E)) rfl ?_
  refine lr_s (t := (100, 304, 482, [some (.ref 60000), some (.ref 0), some (.ref 156), some (.ref 178), some (.int i), x5, x6], [.int (i + Int32.ofInt 2), .ref 60000, .int (xs (i + Int32.ofInt 1).toNatClampNeg), .ref 0], am_hp I J E)) rfl ?_
  refine lr_g (t := (100, 304, 483, [some (.ref 60000), some (.ref 0), some (.ref 156), some (.ref 178), some (.int i), x5, x6], [.int (xs (i + Int32.ofInt 2).toNatClampNeg), .int (xs (i + Int32.ofInt 1).toNatClampNeg), .ref 0], am_hp I J E)) g.2.1 rfl ?_
  refine lr_c (s1 := (99, 123, 0, [some (.ref 0), some (.int (xs (i + Int32.ofInt 1).toNatClampNeg)), some (.int (xs (i + Int32.ofInt 2).toNatClampNeg))], [], am_hp I J E)) (t := (100, 304, 486, [some (.ref 60000), some (.ref 0), some (.ref 156), some (.ref 178), some (.int i), x5, x6], [.int v], am_hp I1 J1 E1)) e1 rfl rfl ?_
  refine lr_s (t := (100, 304, 487, [some (.ref 60000), some (.ref 0), some (.ref 156), some (.ref 178), some (.int i), x5, x6], [.ref 156, .int v], am_hp I1 J1 E1)) rfl ?_
  refine lr_s (t := (100, 304, 488, [some (.ref 60000), some (.ref 0), some (.ref 156), some (.ref 178), some (.int i), x5, x6], [.ref 60000, .ref 156, .int v], am_hp I1 J1 E1)) rfl ?_
  refine lr_s (t := (100, 304, 490, [some (.ref 60000), some (.ref 0), some (.ref 156), some (.ref 178), some (.int i), x5, x6], [.int i, .ref 60000, .ref 156, .int v], am_hp I1 J1 E1)) rfl ?_
  refine lr_s (t := (100, 304, 491, [some (.ref 60000), some (.ref 0), some (.ref 156), some (.ref 178), some (.int i), x5, x6], [.int (Int32.ofInt 1), .int i, .ref 60000, .ref 156, .int v], am_hp I1 J1 E1)) rfl ?_
  refine lr_s (t := (100, 304, 492, [some (.ref 60000), some (.ref 0), some (.ref 156), some (.ref 178), some (.int i), x5, x6], [.int (i + Int32.ofInt 1), .ref 60000, .ref 156, .int v], am_hp I1 J1 E1)) rfl ?_
  refine lr_g (t := (100, 304, 493, [some (.ref 60000), some (.ref 0), some (.ref 156), some (.ref 178), some (.int i), x5, x6], [.int (xs (i + Int32.ofInt 1).toNatClampNeg), .ref 156, .int v], am_hp I1 J1 E1)) g.1 rfl ?_
  refine lr_s (t := (100, 304, 494, [some (.ref 60000), some (.ref 0), some (.ref 156), some (.ref 178), some (.int i), x5, x6], [.ref 60000, .int (xs (i + Int32.ofInt 1).toNatClampNeg), .ref 156, .int v], am_hp I1 J1 E1)) rfl ?_
  refine lr_s (t := (100, 304, 496, [some (.ref 60000), some (.ref 0), some (.ref 156), some (.ref 178), some (.int i), x5, x6], [.int i, .ref 60000, .int (xs (i + Int32.ofInt 1).toNatClampNeg), .ref 156, .int v], am_hp I1 J1 E1)) rfl ?_
  refine lr_s (t := (100, 304, 497, [some (.ref 60000), some (.ref 0), some (.ref 156), some (.ref 178), some (.int i), x5, x6], [.int (Int32.ofInt 2), .int i, .ref 60000, .int (xs (i + Int32.ofInt 1).toNatClampNeg), .ref 156, .int v], am_hp I1 J1 E1)) rfl ?_
  refine lr_s (t := (100, 304, 498, [some (.ref 60000), some (.ref 0), some (.ref 156), some (.ref 178), some (.int i), x5, x6], [.int (i + Int32.ofInt 2), .ref 60000, .int (xs (i + Int32.ofInt 1).toNatClampNeg), .ref 156, .int v], am_hp I1 J1 E1)) rfl ?_
  refine lr_g (t := (100, 304, 499, [some (.ref 60000), some (.ref 0), some (.ref 156), some (.ref 178), some (.int i), x5, x6], [.int (xs (i + Int32.ofInt 2).toNatClampNeg), .int (xs (i + Int32.ofInt 1).toNatClampNeg), .ref 156, .int v], am_hp I1 J1 E1)) g.2.1 rfl ?_
  refine lr_c (s1 := (99, 232, 0, [some (.ref 156), some (.int (xs (i + Int32.ofInt 1).toNatClampNeg)), some (.int (xs (i + Int32.ofInt 2).toNatClampNeg))], [], am_hp I1 J1 E1)) (t := (100, 304, 502, [some (.ref 60000), some (.ref 0), some (.ref 156), some (.ref 178), some (.int i), x5, x6], [.int v, .int v], am_hp I2 J2 E2)) e2 rfl rfl ?_
  exact lr_b (t := (100, 304, 1338, [some (.ref 60000), some (.ref 0), some (.ref 156), some (.ref 178), some (.int i), x5, x6], [], am_hp I2 J2 E2)) (t' := (100, 304, 505, [some (.ref 60000), some (.ref 0), some (.ref 156), some (.ref 178), some (.int i), x5, x6], [], am_hp I2 J2 E2)) (decide_eq_true (rfl : v = v)) rfl lr_e
set_option maxRecDepth 20000 in
theorem lw_8 (N : Nat) (xs : Nat → Int32) (i : Int32) (g : gI i N) : lwS N xs i 507 := by
  intro x5 x6 I J E hrel
  obtain ⟨v, I1, J1, E1, I2, J2, E2, e1, e2, hr2⟩ := rl_back (false, N, xs) 39 I J E hrel (xs (i + Int32.ofInt 1).toNatClampNeg)
  have e1 : am_ev (false, N, xs) (99, 124, 0, [some (.ref 0), some (.int (xs (i + Int32.ofInt 1).toNatClampNeg))], [], am_hp I J E) = some (true, some (.int v), am_hp I1 J1 E1) := e1
  have e2 : am_ev (false, N, xs) (99, 233, 0, [some (.ref 156), some (.int (xs (i + Int32.ofInt 1).toNatClampNeg))], [], am_hp I1 J1 E1) = some (true, some (.int v), am_hp I2 J2 E2) := e2
  refine ⟨x5, x6, I2, J2, E2, hr2, ?_⟩
  refine lr_s (t := (100, 304, 508, [some (.ref 60000), some (.ref 0), some (.ref 156), some (.ref 178), some (.int i), x5, x6], [.ref 0], am_hp I J E)) rfl ?_
  refine lr_s (t := (100, 304, 509, [some (.ref 60000), some (.ref 0), some (.ref 156), some (.ref 178), some (.int i), x5, x6], [.ref 60000, .ref 0], am_hp I J E)) rfl ?_
  refine lr_s (t := (100, 304, 511, [some (.ref 60000), some (.ref 0), some (.ref 156), some (.ref 178), some (.int i), x5, x6], [.int i, .ref 60000, .ref 0], am_hp I J E)) rfl ?_
  refine lr_s (t := (100, 304, 512, [some (.ref 60000), some (.ref 0), some (.ref 156), some (.ref 178), some (.int i), x5, x6], [.int (Int32.ofInt 1), .int i, .ref 60000, .ref 0], am_hp I J E)) rfl ?_
  refine lr_s (t := (100, 304, 513, [some (.ref 60000), some (.ref 0), some (.ref 156), some (.ref 178), some (.int i), x5, x6], [.int (i + Int32.ofInt 1), .ref 60000, .ref 0], am_hp I J E)) rfl ?_
  refine lr_g (t := (100, 304, 514, [some (.ref 60000), some (.ref 0), some (.ref 156), some (.ref 178), some (.int i), x5, x6], [.int (xs (i + Int32.ofInt 1).toNatClampNeg), .ref 0], am_hp I J E)) g.1 rfl ?_
  refine lr_c (s1 := (99, 124, 0, [some (.ref 0), some (.int (xs (i + Int32.ofInt 1).toNatClampNeg))], [], am_hp I J E)) (t := (100, 304, 517, [some (.ref 60000), some (.ref 0), some (.ref 156), some (.ref 178), some (.int i), x5, x6], [.int v], am_hp I1 J1 E1)) e1 rfl rfl ?_
  refine lr_s (t := (100, 304, 518, [some (.ref 60000), some (.ref 0), some (.ref 156), some (.ref 178), some (.int i), x5, x6], [.ref 156, .int v], am_hp I1 J1 E1)) rfl ?_
  refine lr_s (t := (100, 304, 519, [some (.ref 60000), some (.ref 0), some (.ref 156), some (.ref 178), some (.int i), x5, x6], [.ref 60000, .ref 156, .int v], am_hp I1 J1 E1)) rfl ?_
  refine lr_s (t := (100, 304, 521, [some (.ref 60000), some (.ref 0), some (.ref 156), some (.ref 178), some (.int i), x5, x6], [.int i, .ref 60000, .ref 156, .int v], am_hp I1 J1 E1)) rfl ?_
  refine lr_s (t := (100, 304, 522, [some (.ref 60000), some (.ref 0), some (.ref 156), some (.ref 178), some (.int i), x5, x6], [.int (Int32.ofInt 1), .int i, .ref 60000, .ref 156, .int v], am_hp I1 J1 E1)) rfl ?_
  refine lr_s (t := (100, 304, 523, [some (.ref 60000), some (.ref 0), some (.ref 156), some (.ref 178), some (.int i), x5, x6], [.int (i + Int32.ofInt 1), .ref 60000, .ref 156, .int v], am_hp I1 J1 E1)) rfl ?_
  refine lr_g (t := (100, 304, 524, [some (.ref 60000), some (.ref 0), some (.ref 156), some (.ref 178), some (.int i), x5, x6], [.int (xs (i + Int32.ofInt 1).toNatClampNeg), .ref 156, .int v], am_hp I1 J1 E1)) g.1 rfl ?_
  refine lr_c (s1 := (99, 233, 0, [some (.ref 156), some (.int (xs (i + Int32.ofInt 1).toNatClampNeg))], [], am_hp I1 J1 E1)) (t := (100, 304, 527, [some (.ref 60000), some (.ref 0), some (.ref 156), some (.ref 178), some (.int i), x5, x6], [.int v, .int v], am_hp I2 J2 E2)) e2 rfl rfl ?_
  exact lr_b (t := (100, 304, 1338, [some (.ref 60000), some (.ref 0), some (.ref 156), some (.ref 178), some (.int i), x5, x6], [], am_hp I2 J2 E2)) (t' := (100, 304, 530, [some (.ref 60000), some (.ref 0), some (.ref 156), some (.ref 178), some (.int i), x5, x6], [], am_hp I2 J2 E2)) (decide_eq_true (rfl : v = v)) rfl lr_e
set_option maxRecDepth 20000 in
theorem lw_9 (N : Nat) (xs : Nat → Int32) (i : Int32) (g : gI i N) : lwS N xs i 532 := by
  intro x5 x6 I J E hrel
  obtain ⟨v, I1, J1, E1, I2, J2, E2, e1, e2, hr2⟩ := rl_tell (false, N, xs) 39 I J E hrel (xs (i + Int32.ofInt 1).toNatClampNeg) (xs (i + Int32.ofInt 2).toNatClampNeg) (xs (i + Int32.ofInt 3).toNatClampNeg)
  have e1 : am_ev (false, N, xs) (99, 125, 0, [some (.ref 0), some (.int (xs (i + Int32.ofInt 1).toNatClampNeg)), some (.int (xs (i + Int32.ofInt 2).toNatClampNeg)), some (.int (xs (i + Int32.ofInt 3).toNatClampNeg)), none], [], am_hp I J E) = some (true, some (.int v), am_hp I1 J1 E1) := e1
  have e2 : am_ev (false, N, xs) (99, 234, 0, [some (.ref 156), some (.int (xs (i + Int32.ofInt 1).toNatClampNeg)), some (.int (xs (i + Int32.ofInt 2).toNatClampNeg)), some (.int (xs (i + Int32.ofInt 3).toNatClampNeg))], [], am_hp I1 J1 E1) = some (true, some (.int v), am_hp I2 J2 E2) := e2
  refine ⟨x5, x6, I2, J2, E2, hr2, ?_⟩
  refine lr_s (t := (100, 304, 533, [some (.ref 60000), some (.ref 0), some (.ref 156), some (.ref 178), some (.int i), x5, x6], [.ref 0], am_hp I J E)) rfl ?_
  refine lr_s (t := (100, 304, 534, [some (.ref 60000), some (.ref 0), some (.ref 156), some (.ref 178), some (.int i), x5, x6], [.ref 60000, .ref 0], am_hp I J E)) rfl ?_
  refine lr_s (t := (100, 304, 536, [some (.ref 60000), some (.ref 0), some (.ref 156), some (.ref 178), some (.int i), x5, x6], [.int i, .ref 60000, .ref 0], am_hp I J E)) rfl ?_
  refine lr_s (t := (100, 304, 537, [some (.ref 60000), some (.ref 0), some (.ref 156), some (.ref 178), some (.int i), x5, x6], [.int (Int32.ofInt 1), .int i, .ref 60000, .ref 0], am_hp I J E)) rfl ?_
  refine lr_s (t := (100, 304, 538, [some (.ref 60000), some (.ref 0), some (.ref 156), some (.ref 178), some (.int i), x5, x6], [.int (i + Int32.ofInt 1), .ref 60000, .ref 0], am_hp I J E)) rfl ?_
  refine lr_g (t := (100, 304, 539, [some (.ref 60000), some (.ref 0), some (.ref 156), some (.ref 178), some (.int i), x5, x6], [.int (xs (i + Int32.ofInt 1).toNatClampNeg), .ref 0], am_hp I J E)) g.1 rfl ?_
  refine lr_s (t := (100, 304, 540, [some (.ref 60000), some (.ref 0), some (.ref 156), some (.ref 178), some (.int i), x5, x6], [.ref 60000, .int (xs (i + Int32.ofInt 1).toNatClampNeg), .ref 0], am_hp I J E)) rfl ?_
  refine lr_s (t := (100, 304, 542, [some (.ref 60000), some (.ref 0), some (.ref 156), some (.ref 178), some (.int i), x5, x6], [.int i, .ref 60000, .int (xs (i + Int32.ofInt 1).toNatClampNeg), .ref 0], am_hp I J E)) rfl ?_
  refine lr_s (t := (100, 304, 543, [some (.ref 60000), some (.ref 0), some (.ref 156), some (.ref 178), some (.int i), x5, x6], [.int (Int32.ofInt 2), .int i, .ref 60000, .int (xs (i + Int32.ofInt 1).toNatClampNeg), .ref 0], am_hp I J E)) rfl ?_
  refine lr_s (t := (100, 304, 544, [some (.ref 60000), some (.ref 0), some (.ref 156), some (.ref 178), some (.int i), x5, x6], [.int (i + Int32.ofInt 2), .ref 60000, .int (xs (i + Int32.ofInt 1).toNatClampNeg), .ref 0], am_hp I J E)) rfl ?_
  refine lr_g (t := (100, 304, 545, [some (.ref 60000), some (.ref 0), some (.ref 156), some (.ref 178), some (.int i), x5, x6], [.int (xs (i + Int32.ofInt 2).toNatClampNeg), .int (xs (i + Int32.ofInt 1).toNatClampNeg), .ref 0], am_hp I J E)) g.2.1 rfl ?_
  refine lr_s (t := (100, 304, 546, [some (.ref 60000), some (.ref 0), some (.ref 156), some (.ref 178), some (.int i), x5, x6], [.ref 60000, .int (xs (i + Int32.ofInt 2).toNatClampNeg), .int (xs (i + Int32.ofInt 1).toNatClampNeg), .ref 0], am_hp I J E)) rfl ?_
  refine lr_s (t := (100, 304, 548, [some (.ref 60000), some (.ref 0), some (.ref 156), some (.ref 178), some (.int i), x5, x6], [.int i, .ref 60000, .int (xs (i + Int32.ofInt 2).toNatClampNeg), .int (xs (i + Int32.ofInt 1).toNatClampNeg), .ref 0], am_hp I J E)) rfl ?_
  refine lr_s (t := (100, 304, 549, [some (.ref 60000), some (.ref 0), some (.ref 156), some (.ref 178), some (.int i), x5, x6], [.int (Int32.ofInt 3), .int i, .ref 60000, .int (xs (i + Int32.ofInt 2).toNatClampNeg), .int (xs (i + Int32.ofInt 1).toNatClampNeg), .ref 0], am_hp I J E)) rfl ?_
  refine lr_s (t := (100, 304, 550, [some (.ref 60000), some (.ref 0), some (.ref 156), some (.ref 178), some (.int i), x5, x6], [.int (i + Int32.ofInt 3), .ref 60000, .int (xs (i + Int32.ofInt 2).toNatClampNeg), .int (xs (i + Int32.ofInt 1).toNatClampNeg), .ref 0], am_hp I J E)) rfl ?_
  refine lr_g (t := (100, 304, 551, [some (.ref 60000), some (.ref 0), some (.ref 156), some (.ref 178), some (.int i), x5, x6], [.int (xs (i + Int32.ofInt 3).toNatClampNeg), .int (xs (i + Int32.ofInt 2).toNatClampNeg), .int (xs (i + Int32.ofInt 1).toNatClampNeg), .ref 0], am_hp I J E)) g.2.2.1 rfl ?_
  refine lr_c (s1 := (99, 125, 0, [some (.ref 0), some (.int (xs (i + Int32.ofInt 1).toNatClampNeg)), some (.int (xs (i + Int32.ofInt 2).toNatClampNeg)), some (.int (xs (i + Int32.ofInt 3).toNatClampNeg)), none], [], am_hp I J E)) (t := (100, 304, 554, [some (.ref 60000), some (.ref 0), some (.ref 156), some (.ref 178), some (.int i), x5, x6], [.int v], am_hp I1 J1 E1)) e1 rfl rfl ?_
  refine lr_s (t := (100, 304, 555, [some (.ref 60000), some (.ref 0), some (.ref 156), some (.ref 178), some (.int i), x5, x6], [.ref 156, .int v], am_hp I1 J1 E1)) rfl ?_
  refine lr_s (t := (100, 304, 556, [some (.ref 60000), some (.ref 0), some (.ref 156), some (.ref 178), some (.int i), x5, x6], [.ref 60000, .ref 156, .int v], am_hp I1 J1 E1)) rfl ?_
  refine lr_s (t := (100, 304, 558, [some (.ref 60000), some (.ref 0), some (.ref 156), some (.ref 178), some (.int i), x5, x6], [.int i, .ref 60000, .ref 156, .int v], am_hp I1 J1 E1)) rfl ?_
  refine lr_s (t := (100, 304, 559, [some (.ref 60000), some (.ref 0), some (.ref 156), some (.ref 178), some (.int i), x5, x6], [.int (Int32.ofInt 1), .int i, .ref 60000, .ref 156, .int v], am_hp I1 J1 E1)) rfl ?_
  refine lr_s (t := (100, 304, 560, [some (.ref 60000), some (.ref 0), some (.ref 156), some (.ref 178), some (.int i), x5, x6], [.int (i + Int32.ofInt 1), .ref 60000, .ref 156, .int v], am_hp I1 J1 E1)) rfl ?_
  refine lr_g (t := (100, 304, 561, [some (.ref 60000), some (.ref 0), some (.ref 156), some (.ref 178), some (.int i), x5, x6], [.int (xs (i + Int32.ofInt 1).toNatClampNeg), .ref 156, .int v], am_hp I1 J1 E1)) g.1 rfl ?_
  refine lr_s (t := (100, 304, 562, [some (.ref 60000), some (.ref 0), some (.ref 156), some (.ref 178), some (.int i), x5, x6], [.ref 60000, .int (xs (i + Int32.ofInt 1).toNatClampNeg), .ref 156, .int v], am_hp I1 J1 E1)) rfl ?_
  refine lr_s (t := (100, 304, 564, [some (.ref 60000), some (.ref 0), some (.ref 156), some (.ref 178), some (.int i), x5, x6], [.int i, .ref 60000, .int (xs (i + Int32.ofInt 1).toNatClampNeg), .ref 156, .int v], am_hp I1 J1 E1)) rfl ?_
  refine lr_s (t := (100, 304, 565, [some (.ref 60000), some (.ref 0), some (.ref 156), some (.ref 178), some (.int i), x5, x6], [.int (Int32.ofInt 2), .int i, .ref 60000, .int (xs (i + Int32.ofInt 1).toNatClampNeg), .ref 156, .int v], am_hp I1 J1 E1)) rfl ?_
  refine lr_s (t := (100, 304, 566, [some (.ref 60000), some (.ref 0), some (.ref 156), some (.ref 178), some (.int i), x5, x6], [.int (i + Int32.ofInt 2), .ref 60000, .int (xs (i + Int32.ofInt 1).toNatClampNeg), .ref 156, .int v], am_hp I1 J1 E1)) rfl ?_
  refine lr_g (t := (100, 304, 567, [some (.ref 60000), some (.ref 0), some (.ref 156), some (.ref 178), some (.int i), x5, x6], [.int (xs (i + Int32.ofInt 2).toNatClampNeg), .int (xs (i + Int32.ofInt 1).toNatClampNeg), .ref 156, .int v], am_hp I1 J1 E1)) g.2.1 rfl ?_
  refine lr_s (t := (100, 304, 568, [some (.ref 60000), some (.ref 0), some (.ref 156), some (.ref 178), some (.int i), x5, x6], [.ref 60000, .int (xs (i + Int32.ofInt 2).toNatClampNeg), .int (xs (i + Int32.ofInt 1).toNatClampNeg), .ref 156, .int v], am_hp I1 J1 E1)) rfl ?_
  refine lr_s (t := (100, 304, 570, [some (.ref 60000), some (.ref 0), some (.ref 156), some (.ref 178), some (.int i), x5, x6], [.int i, .ref 60000, .int (xs (i + Int32.ofInt 2).toNatClampNeg), .int (xs (i + Int32.ofInt 1).toNatClampNeg), .ref 156, .int v], am_hp I1 J1 E1)) rfl ?_
  refine lr_s (t := (100, 304, 571, [some (.ref 60000), some (.ref 0), some (.ref 156), some (.ref 178), some (.int i), x5, x6], [.int (Int32.ofInt 3), .int i, .ref 60000, .int (xs (i + Int32.ofInt 2).toNatClampNeg), .int (xs (i + Int32.ofInt 1).toNatClampNeg), .ref 156, .int v], am_hp I1 J1 E1)) rfl ?_
  refine lr_s (t := (100, 304, 572, [some (.ref 60000), some (.ref 0), some (.ref 156), some (.ref 178), some (.int i), x5, x6], [.int (i + Int32.ofInt 3), .ref 60000, .int (xs (i + Int32.ofInt 2).toNatClampNeg), .int (xs (i + Int32.ofInt 1).toNatClampNeg), .ref 156, .int v], am_hp I1 J1 E1)) rfl ?_
  refine lr_g (t := (100, 304, 573, [some (.ref 60000), some (.ref 0), some (.ref 156), some (.ref 178), some (.int i), x5, x6], [.int (xs (i + Int32.ofInt 3).toNatClampNeg), .int (xs (i + Int32.ofInt 2).toNatClampNeg), .int (xs (i + Int32.ofInt 1).toNatClampNeg), .ref 156, .int v], am_hp I1 J1 E1)) g.2.2.1 rfl ?_
  refine lr_c (s1 := (99, 234, 0, [some (.ref 156), some (.int (xs (i + Int32.ofInt 1).toNatClampNeg)), some (.int (xs (i + Int32.ofInt 2).toNatClampNeg)), some (.int (xs (i + Int32.ofInt 3).toNatClampNeg))], [], am_hp I1 J1 E1)) (t := (100, 304, 576, [some (.ref 60000), some (.ref 0), some (.ref 156), some (.ref 178), some (.int i), x5, x6], [.int v, .int v], am_hp I2 J2 E2)) e2 rfl rfl ?_
  exact lr_b (t := (100, 304, 1338, [some (.ref 60000), some (.ref 0), some (.ref 156), some (.ref 178), some (.int i), x5, x6], [], am_hp I2 J2 E2)) (t' := (100, 304, 579, [some (.ref 60000), some (.ref 0), some (.ref 156), some (.ref 178), some (.int i), x5, x6], [], am_hp I2 J2 E2)) (decide_eq_true (rfl : v = v)) rfl lr_e
set_option maxRecDepth 20000 in
theorem lw_10 (N : Nat) (xs : Nat → Int32) (i : Int32) (g : gI i N) : lwS N xs i 581 := by
  intro x5 x6 I J E hrel
  obtain ⟨v, I1, J1, E1, I2, J2, E2, e1, e2, hr2⟩ := rl_forge (false, N, xs) 39 I J E hrel (xs (i + Int32.ofInt 1).toNatClampNeg)
  have e1 : am_ev (false, N, xs) (99, 126, 0, [some (.ref 0), some (.int (xs (i + Int32.ofInt 1).toNatClampNeg))], [], am_hp I J E) = some (true, some (.int v), am_hp I1 J1 E1) := e1
  have e2 : am_ev (false, N, xs) (99, 235, 0, [some (.ref 156), some (.int (xs (i + Int32.ofInt 1).toNatClampNeg))], [], am_hp I1 J1 E1) = some (true, some (.int v), am_hp I2 J2 E2) := e2
  refine ⟨x5, x6, I2, J2, E2, hr2, ?_⟩
  refine lr_s (t := (100, 304, 582, [some (.ref 60000), some (.ref 0), some (.ref 156), some (.ref 178), some (.int i), x5, x6], [.ref 0], am_hp I J E)) rfl ?_
  refine lr_s (t := (100, 304, 583, [some (.ref 60000), some (.ref 0), some (.ref 156), some (.ref 178), some (.int i), x5, x6], [.ref 60000, .ref 0], am_hp I J E)) rfl ?_
  refine lr_s (t := (100, 304, 585, [some (.ref 60000), some (.ref 0), some (.ref 156), some (.ref 178), some (.int i), x5, x6], [.int i, .ref 60000, .ref 0], am_hp I J E)) rfl ?_
  refine lr_s (t := (100, 304, 586, [some (.ref 60000), some (.ref 0), some (.ref 156), some (.ref 178), some (.int i), x5, x6], [.int (Int32.ofInt 1), .int i, .ref 60000, .ref 0], am_hp I J E)) rfl ?_
  refine lr_s (t := (100, 304, 587, [some (.ref 60000), some (.ref 0), some (.ref 156), some (.ref 178), some (.int i), x5, x6], [.int (i + Int32.ofInt 1), .ref 60000, .ref 0], am_hp I J E)) rfl ?_
  refine lr_g (t := (100, 304, 588, [some (.ref 60000), some (.ref 0), some (.ref 156), some (.ref 178), some (.int i), x5, x6], [.int (xs (i + Int32.ofInt 1).toNatClampNeg), .ref 0], am_hp I J E)) g.1 rfl ?_
  refine lr_c (s1 := (99, 126, 0, [some (.ref 0), some (.int (xs (i + Int32.ofInt 1).toNatClampNeg))], [], am_hp I J E)) (t := (100, 304, 591, [some (.ref 60000), some (.ref 0), some (.ref 156), some (.ref 178), some (.int i), x5, x6], [.int v], am_hp I1 J1 E1)) e1 rfl rfl ?_
  refine lr_s (t := (100, 304, 592, [some (.ref 60000), some (.ref 0), some (.ref 156), some (.ref 178), some (.int i), x5, x6], [.ref 156, .int v], am_hp I1 J1 E1)) rfl ?_
  refine lr_s (t := (100, 304, 593, [some (.ref 60000), some (.ref 0), some (.ref 156), some (.ref 178), some (.int i), x5, x6], [.ref 60000, .ref 156, .int v], am_hp I1 J1 E1)) rfl ?_
  refine lr_s (t := (100, 304, 595, [some (.ref 60000), some (.ref 0), some (.ref 156), some (.ref 178), some (.int i), x5, x6], [.int i, .ref 60000, .ref 156, .int v], am_hp I1 J1 E1)) rfl ?_
  refine lr_s (t := (100, 304, 596, [some (.ref 60000), some (.ref 0), some (.ref 156), some (.ref 178), some (.int i), x5, x6], [.int (Int32.ofInt 1), .int i, .ref 60000, .ref 156, .int v], am_hp I1 J1 E1)) rfl ?_
  refine lr_s (t := (100, 304, 597, [some (.ref 60000), some (.ref 0), some (.ref 156), some (.ref 178), some (.int i), x5, x6], [.int (i + Int32.ofInt 1), .ref 60000, .ref 156, .int v], am_hp I1 J1 E1)) rfl ?_
  refine lr_g (t := (100, 304, 598, [some (.ref 60000), some (.ref 0), some (.ref 156), some (.ref 178), some (.int i), x5, x6], [.int (xs (i + Int32.ofInt 1).toNatClampNeg), .ref 156, .int v], am_hp I1 J1 E1)) g.1 rfl ?_
  refine lr_c (s1 := (99, 235, 0, [some (.ref 156), some (.int (xs (i + Int32.ofInt 1).toNatClampNeg))], [], am_hp I1 J1 E1)) (t := (100, 304, 601, [some (.ref 60000), some (.ref 0), some (.ref 156), some (.ref 178), some (.int i), x5, x6], [.int v, .int v], am_hp I2 J2 E2)) e2 rfl rfl ?_
  exact lr_b (t := (100, 304, 1338, [some (.ref 60000), some (.ref 0), some (.ref 156), some (.ref 178), some (.int i), x5, x6], [], am_hp I2 J2 E2)) (t' := (100, 304, 604, [some (.ref 60000), some (.ref 0), some (.ref 156), some (.ref 178), some (.int i), x5, x6], [], am_hp I2 J2 E2)) (decide_eq_true (rfl : v = v)) rfl lr_e
set_option maxRecDepth 20000 in
theorem lw_11 (N : Nat) (xs : Nat → Int32) (i : Int32) (g : gI i N) : lwS N xs i 606 := by
  intro x5 x6 I J E hrel
  obtain ⟨v, I1, J1, E1, I2, J2, E2, e1, e2, hr2⟩ := rl_mend (false, N, xs) 39 I J E hrel (xs (i + Int32.ofInt 1).toNatClampNeg)
  have e1 : am_ev (false, N, xs) (99, 127, 0, [some (.ref 0), some (.int (xs (i + Int32.ofInt 1).toNatClampNeg))], [], am_hp I J E) = some (true, some (.int v), am_hp I1 J1 E1) := e1
  have e2 : am_ev (false, N, xs) (99, 236, 0, [some (.ref 156), some (.int (xs (i + Int32.ofInt 1).toNatClampNeg))], [], am_hp I1 J1 E1) = some (true, some (.int v), am_hp I2 J2 E2) := e2
  refine ⟨x5, x6, I2, J2, E2, hr2, ?_⟩
  refine lr_s (t := (100, 304, 607, [some (.ref 60000), some (.ref 0), some (.ref 156), some (.ref 178), some (.int i), x5, x6], [.ref 0], am_hp I J E)) rfl ?_
  refine lr_s (t := (100, 304, 608, [some (.ref 60000), some (.ref 0), some (.ref 156), some (.ref 178), some (.int i), x5, x6], [.ref 60000, .ref 0], am_hp I J E)) rfl ?_
  refine lr_s (t := (100, 304, 610, [some (.ref 60000), some (.ref 0), some (.ref 156), some (.ref 178), some (.int i), x5, x6], [.int i, .ref 60000, .ref 0], am_hp I J E)) rfl ?_
  refine lr_s (t := (100, 304, 611, [some (.ref 60000), some (.ref 0), some (.ref 156), some (.ref 178), some (.int i), x5, x6], [.int (Int32.ofInt 1), .int i, .ref 60000, .ref 0], am_hp I J E)) rfl ?_
  refine lr_s (t := (100, 304, 612, [some (.ref 60000), some (.ref 0), some (.ref 156), some (.ref 178), some (.int i), x5, x6], [.int (i + Int32.ofInt 1), .ref 60000, .ref 0], am_hp I J E)) rfl ?_
  refine lr_g (t := (100, 304, 613, [some (.ref 60000), some (.ref 0), some (.ref 156), some (.ref 178), some (.int i), x5, x6], [.int (xs (i + Int32.ofInt 1).toNatClampNeg), .ref 0], am_hp I J E)) g.1 rfl ?_
  refine lr_c (s1 := (99, 127, 0, [some (.ref 0), some (.int (xs (i + Int32.ofInt 1).toNatClampNeg))], [], am_hp I J E)) (t := (100, 304, 616, [some (.ref 60000), some (.ref 0), some (.ref 156), some (.ref 178), some (.int i), x5, x6], [.int v], am_hp I1 J1 E1)) e1 rfl rfl ?_
  refine lr_s (t := (100, 304, 617, [some (.ref 60000), some (.ref 0), some (.ref 156), some (.ref 178), some (.int i), x5, x6], [.ref 156, .int v], am_hp I1 J1 E1)) rfl ?_
  refine lr_s (t := (100, 304, 618, [some (.ref 60000), some (.ref 0), some (.ref 156), some (.ref 178), some (.int i), x5, x6], [.ref 60000, .ref 156, .int v], am_hp I1 J1 E1)) rfl ?_
  refine lr_s (t := (100, 304, 620, [some (.ref 60000), some (.ref 0), some (.ref 156), some (.ref 178), some (.int i), x5, x6], [.int i, .ref 60000, .ref 156, .int v], am_hp I1 J1 E1)) rfl ?_
  refine lr_s (t := (100, 304, 621, [some (.ref 60000), some (.ref 0), some (.ref 156), some (.ref 178), some (.int i), x5, x6], [.int (Int32.ofInt 1), .int i, .ref 60000, .ref 156, .int v], am_hp I1 J1 E1)) rfl ?_
  refine lr_s (t := (100, 304, 622, [some (.ref 60000), some (.ref 0), some (.ref 156), some (.ref 178), some (.int i), x5, x6], [.int (i + Int32.ofInt 1), .ref 60000, .ref 156, .int v], am_hp I1 J1 E1)) rfl ?_
  refine lr_g (t := (100, 304, 623, [some (.ref 60000), some (.ref 0), some (.ref 156), some (.ref 178), some (.int i), x5, x6], [.int (xs (i + Int32.ofInt 1).toNatClampNeg), .ref 156, .int v], am_hp I1 J1 E1)) g.1 rfl ?_
  refine lr_c (s1 := (99, 236, 0, [some (.ref 156), some (.int (xs (i + Int32.ofInt 1).toNatClampNeg))], [], am_hp I1 J1 E1)) (t := (100, 304, 626, [some (.ref 60000), some (.ref 0), some (.ref 156), some (.ref 178), some (.int i), x5, x6], [.int v, .int v], am_hp I2 J2 E2)) e2 rfl rfl ?_
  exact lr_b (t := (100, 304, 1338, [some (.ref 60000), some (.ref 0), some (.ref 156), some (.ref 178), some (.int i), x5, x6], [], am_hp I2 J2 E2)) (t' := (100, 304, 629, [some (.ref 60000), some (.ref 0), some (.ref 156), some (.ref 178), some (.int i), x5, x6], [], am_hp I2 J2 E2)) (decide_eq_true (rfl : v = v)) rfl lr_e
set_option maxRecDepth 20000 in
theorem lw_12 (N : Nat) (xs : Nat → Int32) (i : Int32) (g : gI i N) : lwS N xs i 631 := by
  intro x5 x6 I J E hrel
  obtain ⟨v, I1, J1, E1, I2, J2, E2, e1, e2, hr2⟩ := rl_burn (false, N, xs) 39 I J E hrel (xs (i + Int32.ofInt 1).toNatClampNeg)
  have e1 : am_ev (false, N, xs) (99, 128, 0, [some (.ref 0), some (.int (xs (i + Int32.ofInt 1).toNatClampNeg))], [], am_hp I J E) = some (true, some (.int v), am_hp I1 J1 E1) := e1
  have e2 : am_ev (false, N, xs) (99, 237, 0, [some (.ref 156), some (.int (xs (i + Int32.ofInt 1).toNatClampNeg))], [], am_hp I1 J1 E1) = some (true, some (.int v), am_hp I2 J2 E2) := e2
  refine ⟨x5, x6, I2, J2, E2, hr2, ?_⟩
  refine lr_s (t := (100, 304, 632, [some (.ref 60000), some (.ref 0), some (.ref 156), some (.ref 178), some (.int i), x5, x6], [.ref 0], am_hp I J E)) rfl ?_
  refine lr_s (t := (100, 304, 633, [some (.ref 60000), some (.ref 0), some (.ref 156), some (.ref 178), some (.int i), x5, x6], [.ref 60000, .ref 0], am_hp I J E)) rfl ?_
  refine lr_s (t := (100, 304, 635, [some (.ref 60000), some (.ref 0), some (.ref 156), some (.ref 178), some (.int i), x5, x6], [.int i, .ref 60000, .ref 0], am_hp I J E)) rfl ?_
  refine lr_s (t := (100, 304, 636, [some (.ref 60000), some (.ref 0), some (.ref 156), some (.ref 178), some (.int i), x5, x6], [.int (Int32.ofInt 1), .int i, .ref 60000, .ref 0], am_hp I J E)) rfl ?_
  refine lr_s (t := (100, 304, 637, [some (.ref 60000), some (.ref 0), some (.ref 156), some (.ref 178), some (.int i), x5, x6], [.int (i + Int32.ofInt 1), .ref 60000, .ref 0], am_hp I J E)) rfl ?_
  refine lr_g (t := (100, 304, 638, [some (.ref 60000), some (.ref 0), some (.ref 156), some (.ref 178), some (.int i), x5, x6], [.int (xs (i + Int32.ofInt 1).toNatClampNeg), .ref 0], am_hp I J E)) g.1 rfl ?_
  refine lr_c (s1 := (99, 128, 0, [some (.ref 0), some (.int (xs (i + Int32.ofInt 1).toNatClampNeg))], [], am_hp I J E)) (t := (100, 304, 641, [some (.ref 60000), some (.ref 0), some (.ref 156), some (.ref 178), some (.int i), x5, x6], [.int v], am_hp I1 J1 E1)) e1 rfl rfl ?_
  refine lr_s (t := (100, 304, 642, [some (.ref 60000), some (.ref 0), some (.ref 156), some (.ref 178), some (.int i), x5, x6], [.ref 156, .int v], am_hp I1 J1 E1)) rfl ?_
  refine lr_s (t := (100, 304, 643, [some (.ref 60000), some (.ref 0), some (.ref 156), some (.ref 178), some (.int i), x5, x6], [.ref 60000, .ref 156, .int v], am_hp I1 J1 E1)) rfl ?_
  refine lr_s (t := (100, 304, 645, [some (.ref 60000), some (.ref 0), some (.ref 156), some (.ref 178), some (.int i), x5, x6], [.int i, .ref 60000, .ref 156, .int v], am_hp I1 J1 E1)) rfl ?_
  refine lr_s (t := (100, 304, 646, [some (.ref 60000), some (.ref 0), some (.ref 156), some (.ref 178), some (.int i), x5, x6], [.int (Int32.ofInt 1), .int i, .ref 60000, .ref 156, .int v], am_hp I1 J1 E1)) rfl ?_
  refine lr_s (t := (100, 304, 647, [some (.ref 60000), some (.ref 0), some (.ref 156), some (.ref 178), some (.int i), x5, x6], [.int (i + Int32.ofInt 1), .ref 60000, .ref 156, .int v], am_hp I1 J1 E1)) rfl ?_
  refine lr_g (t := (100, 304, 648, [some (.ref 60000), some (.ref 0), some (.ref 156), some (.ref 178), some (.int i), x5, x6], [.int (xs (i + Int32.ofInt 1).toNatClampNeg), .ref 156, .int v], am_hp I1 J1 E1)) g.1 rfl ?_
  refine lr_c (s1 := (99, 237, 0, [some (.ref 156), some (.int (xs (i + Int32.ofInt 1).toNatClampNeg))], [], am_hp I1 J1 E1)) (t := (100, 304, 651, [some (.ref 60000), some (.ref 0), some (.ref 156), some (.ref 178), some (.int i), x5, x6], [.int v, .int v], am_hp I2 J2 E2)) e2 rfl rfl ?_
  exact lr_b (t := (100, 304, 1338, [some (.ref 60000), some (.ref 0), some (.ref 156), some (.ref 178), some (.int i), x5, x6], [], am_hp I2 J2 E2)) (t' := (100, 304, 654, [some (.ref 60000), some (.ref 0), some (.ref 156), some (.ref 178), some (.int i), x5, x6], [], am_hp I2 J2 E2)) (decide_eq_true (rfl : v = v)) rfl lr_e
set_option maxRecDepth 20000 in
theorem lw_13 (N : Nat) (xs : Nat → Int32) (i : Int32) (g : gI i N) : lwS N xs i 656 := by
  intro x5 x6 I J E hrel
  obtain ⟨v, I1, J1, E1, I2, J2, E2, e1, e2, hr2⟩ := rl_buy (false, N, xs) 39 I J E hrel (xs (i + Int32.ofInt 1).toNatClampNeg)
  have e1 : am_ev (false, N, xs) (99, 129, 0, [some (.ref 0), some (.int (xs (i + Int32.ofInt 1).toNatClampNeg))], [], am_hp I J E) = some (true, some (.int v), am_hp I1 J1 E1) := e1
  have e2 : am_ev (false, N, xs) (99, 238, 0, [some (.ref 156), some (.int (xs (i + Int32.ofInt 1).toNatClampNeg))], [], am_hp I1 J1 E1) = some (true, some (.int v), am_hp I2 J2 E2) := e2
  refine ⟨x5, x6, I2, J2, E2, hr2, ?_⟩
  refine lr_s (t := (100, 304, 657, [some (.ref 60000), some (.ref 0), some (.ref 156), some (.ref 178), some (.int i), x5, x6], [.ref 0], am_hp I J E)) rfl ?_
  refine lr_s (t := (100, 304, 658, [some (.ref 60000), some (.ref 0), some (.ref 156), some (.ref 178), some (.int i), x5, x6], [.ref 60000, .ref 0], am_hp I J E)) rfl ?_
  refine lr_s (t := (100, 304, 660, [some (.ref 60000), some (.ref 0), some (.ref 156), some (.ref 178), some (.int i), x5, x6], [.int i, .ref 60000, .ref 0], am_hp I J E)) rfl ?_
  refine lr_s (t := (100, 304, 661, [some (.ref 60000), some (.ref 0), some (.ref 156), some (.ref 178), some (.int i), x5, x6], [.int (Int32.ofInt 1), .int i, .ref 60000, .ref 0], am_hp I J E)) rfl ?_
  refine lr_s (t := (100, 304, 662, [some (.ref 60000), some (.ref 0), some (.ref 156), some (.ref 178), some (.int i), x5, x6], [.int (i + Int32.ofInt 1), .ref 60000, .ref 0], am_hp I J E)) rfl ?_
  refine lr_g (t := (100, 304, 663, [some (.ref 60000), some (.ref 0), some (.ref 156), some (.ref 178), some (.int i), x5, x6], [.int (xs (i + Int32.ofInt 1).toNatClampNeg), .ref 0], am_hp I J E)) g.1 rfl ?_
  refine lr_c (s1 := (99, 129, 0, [some (.ref 0), some (.int (xs (i + Int32.ofInt 1).toNatClampNeg))], [], am_hp I J E)) (t := (100, 304, 666, [some (.ref 60000), some (.ref 0), some (.ref 156), some (.ref 178), some (.int i), x5, x6], [.int v], am_hp I1 J1 E1)) e1 rfl rfl ?_
  refine lr_s (t := (100, 304, 667, [some (.ref 60000), some (.ref 0), some (.ref 156), some (.ref 178), some (.int i), x5, x6], [.ref 156, .int v], am_hp I1 J1 E1)) rfl ?_
  refine lr_s (t := (100, 304, 668, [some (.ref 60000), some (.ref 0), some (.ref 156), some (.ref 178), some (.int i), x5, x6], [.ref 60000, .ref 156, .int v], am_hp I1 J1 E1)) rfl ?_
  refine lr_s (t := (100, 304, 670, [some (.ref 60000), some (.ref 0), some (.ref 156), some (.ref 178), some (.int i), x5, x6], [.int i, .ref 60000, .ref 156, .int v], am_hp I1 J1 E1)) rfl ?_
  refine lr_s (t := (100, 304, 671, [some (.ref 60000), some (.ref 0), some (.ref 156), some (.ref 178), some (.int i), x5, x6], [.int (Int32.ofInt 1), .int i, .ref 60000, .ref 156, .int v], am_hp I1 J1 E1)) rfl ?_
  refine lr_s (t := (100, 304, 672, [some (.ref 60000), some (.ref 0), some (.ref 156), some (.ref 178), some (.int i), x5, x6], [.int (i + Int32.ofInt 1), .ref 60000, .ref 156, .int v], am_hp I1 J1 E1)) rfl ?_
  refine lr_g (t := (100, 304, 673, [some (.ref 60000), some (.ref 0), some (.ref 156), some (.ref 178), some (.int i), x5, x6], [.int (xs (i + Int32.ofInt 1).toNatClampNeg), .ref 156, .int v], am_hp I1 J1 E1)) g.1 rfl ?_
  refine lr_c (s1 := (99, 238, 0, [some (.ref 156), some (.int (xs (i + Int32.ofInt 1).toNatClampNeg))], [], am_hp I1 J1 E1)) (t := (100, 304, 676, [some (.ref 60000), some (.ref 0), some (.ref 156), some (.ref 178), some (.int i), x5, x6], [.int v, .int v], am_hp I2 J2 E2)) e2 rfl rfl ?_
  exact lr_b (t := (100, 304, 1338, [some (.ref 60000), some (.ref 0), some (.ref 156), some (.ref 178), some (.int i), x5, x6], [], am_hp I2 J2 E2)) (t' := (100, 304, 679, [some (.ref 60000), some (.ref 0), some (.ref 156), some (.ref 178), some (.int i), x5, x6], [], am_hp I2 J2 E2)) (decide_eq_true (rfl : v = v)) rfl lr_e
set_option maxRecDepth 20000 in
theorem lw_14 (N : Nat) (xs : Nat → Int32) (i : Int32) (g : gI i N) : lwS N xs i 681 := by
  intro x5 x6 I J E hrel
  obtain ⟨v, I1, J1, E1, I2, J2, E2, e1, e2, hr2⟩ := rl_days (false, N, xs) 39 I J E hrel (xs (i + Int32.ofInt 1).toNatClampNeg)
  have e1 : am_ev (false, N, xs) (99, 130, 0, [some (.ref 0), some (.int (xs (i + Int32.ofInt 1).toNatClampNeg))], [], am_hp I J E) = some (true, some (.int v), am_hp I1 J1 E1) := e1
  have e2 : am_ev (false, N, xs) (99, 243, 0, [some (.ref 156), some (.int (xs (i + Int32.ofInt 1).toNatClampNeg))], [], am_hp I1 J1 E1) = some (true, some (.int v), am_hp I2 J2 E2) := e2
  refine ⟨x5, x6, I2, J2, E2, hr2, ?_⟩
  refine lr_s (t := (100, 304, 682, [some (.ref 60000), some (.ref 0), some (.ref 156), some (.ref 178), some (.int i), x5, x6], [.ref 0], am_hp I J E)) rfl ?_
  refine lr_s (t := (100, 304, 683, [some (.ref 60000), some (.ref 0), some (.ref 156), some (.ref 178), some (.int i), x5, x6], [.ref 60000, .ref 0], am_hp I J E)) rfl ?_
  refine lr_s (t := (100, 304, 685, [some (.ref 60000), some (.ref 0), some (.ref 156), some (.ref 178), some (.int i), x5, x6], [.int i, .ref 60000, .ref 0], am_hp I J E)) rfl ?_
  refine lr_s (t := (100, 304, 686, [some (.ref 60000), some (.ref 0), some (.ref 156), some (.ref 178), some (.int i), x5, x6], [.int (Int32.ofInt 1), .int i, .ref 60000, .ref 0], am_hp I J E)) rfl ?_
  refine lr_s (t := (100, 304, 687, [some (.ref 60000), some (.ref 0), some (.ref 156), some (.ref 178), some (.int i), x5, x6], [.int (i + Int32.ofInt 1), .ref 60000, .ref 0], am_hp I J E)) rfl ?_
  refine lr_g (t := (100, 304, 688, [some (.ref 60000), some (.ref 0), some (.ref 156), some (.ref 178), some (.int i), x5, x6], [.int (xs (i + Int32.ofInt 1).toNatClampNeg), .ref 0], am_hp I J E)) g.1 rfl ?_
  refine lr_c (s1 := (99, 130, 0, [some (.ref 0), some (.int (xs (i + Int32.ofInt 1).toNatClampNeg))], [], am_hp I J E)) (t := (100, 304, 691, [some (.ref 60000), some (.ref 0), some (.ref 156), some (.ref 178), some (.int i), x5, x6], [.int v], am_hp I1 J1 E1)) e1 rfl rfl ?_
  refine lr_s (t := (100, 304, 692, [some (.ref 60000), some (.ref 0), some (.ref 156), some (.ref 178), some (.int i), x5, x6], [.ref 156, .int v], am_hp I1 J1 E1)) rfl ?_
  refine lr_s (t := (100, 304, 693, [some (.ref 60000), some (.ref 0), some (.ref 156), some (.ref 178), some (.int i), x5, x6], [.ref 60000, .ref 156, .int v], am_hp I1 J1 E1)) rfl ?_
  refine lr_s (t := (100, 304, 695, [some (.ref 60000), some (.ref 0), some (.ref 156), some (.ref 178), some (.int i), x5, x6], [.int i, .ref 60000, .ref 156, .int v], am_hp I1 J1 E1)) rfl ?_
  refine lr_s (t := (100, 304, 696, [some (.ref 60000), some (.ref 0), some (.ref 156), some (.ref 178), some (.int i), x5, x6], [.int (Int32.ofInt 1), .int i, .ref 60000, .ref 156, .int v], am_hp I1 J1 E1)) rfl ?_
  refine lr_s (t := (100, 304, 697, [some (.ref 60000), some (.ref 0), some (.ref 156), some (.ref 178), some (.int i), x5, x6], [.int (i + Int32.ofInt 1), .ref 60000, .ref 156, .int v], am_hp I1 J1 E1)) rfl ?_
  refine lr_g (t := (100, 304, 698, [some (.ref 60000), some (.ref 0), some (.ref 156), some (.ref 178), some (.int i), x5, x6], [.int (xs (i + Int32.ofInt 1).toNatClampNeg), .ref 156, .int v], am_hp I1 J1 E1)) g.1 rfl ?_
  refine lr_c (s1 := (99, 243, 0, [some (.ref 156), some (.int (xs (i + Int32.ofInt 1).toNatClampNeg))], [], am_hp I1 J1 E1)) (t := (100, 304, 701, [some (.ref 60000), some (.ref 0), some (.ref 156), some (.ref 178), some (.int i), x5, x6], [.int v, .int v], am_hp I2 J2 E2)) e2 rfl rfl ?_
  exact lr_b (t := (100, 304, 1338, [some (.ref 60000), some (.ref 0), some (.ref 156), some (.ref 178), some (.int i), x5, x6], [], am_hp I2 J2 E2)) (t' := (100, 304, 704, [some (.ref 60000), some (.ref 0), some (.ref 156), some (.ref 178), some (.int i), x5, x6], [], am_hp I2 J2 E2)) (decide_eq_true (rfl : v = v)) rfl lr_e
set_option maxRecDepth 20000 in
theorem lw_15 (N : Nat) (xs : Nat → Int32) (i : Int32) (g : gI i N) : lwS N xs i 706 := by
  intro x5 x6 I J E hrel
  obtain ⟨v, I1, J1, E1, I2, J2, E2, e1, e2, hr2⟩ := rl_undo (false, N, xs) 39 I J E hrel
  have e1 : am_ev (false, N, xs) (99, 132, 0, [some (.ref 0)], [], am_hp I J E) = some (true, some (.int v), am_hp I1 J1 E1) := e1
  have e2 : am_ev (false, N, xs) (99, 239, 0, [some (.ref 156), none], [], am_hp I1 J1 E1) = some (true, some (.int v), am_hp I2 J2 E2) := e2
  refine ⟨x5, x6, I2, J2, E2, hr2, ?_⟩
  refine lr_s (t := (100, 304, 707, [some (.ref 60000), some (.ref 0), some (.ref 156), some (.ref 178), some (.int i), x5, x6], [.ref 0], am_hp I J E)) rfl ?_
  refine lr_c (s1 := (99, 132, 0, [some (.ref 0)], [], am_hp I J E)) (t := (100, 304, 710, [some (.ref 60000), some (.ref 0), some (.ref 156), some (.ref 178), some (.int i), x5, x6], [.int v], am_hp I1 J1 E1)) e1 rfl rfl ?_
  refine lr_s (t := (100, 304, 711, [some (.ref 60000), some (.ref 0), some (.ref 156), some (.ref 178), some (.int i), x5, x6], [.ref 156, .int v], am_hp I1 J1 E1)) rfl ?_
  refine lr_c (s1 := (99, 239, 0, [some (.ref 156), none], [], am_hp I1 J1 E1)) (t := (100, 304, 714, [some (.ref 60000), some (.ref 0), some (.ref 156), some (.ref 178), some (.int i), x5, x6], [.int v, .int v], am_hp I2 J2 E2)) e2 rfl rfl ?_
  exact lr_b (t := (100, 304, 1338, [some (.ref 60000), some (.ref 0), some (.ref 156), some (.ref 178), some (.int i), x5, x6], [], am_hp I2 J2 E2)) (t' := (100, 304, 717, [some (.ref 60000), some (.ref 0), some (.ref 156), some (.ref 178), some (.int i), x5, x6], [], am_hp I2 J2 E2)) (decide_eq_true (rfl : v = v)) rfl lr_e
set_option maxRecDepth 20000 in
theorem lw_16 (N : Nat) (xs : Nat → Int32) (i : Int32) (g : gI i N) : lwS N xs i 719 := by
  intro x5 x6 I J E hrel
  obtain ⟨v, I1, J1, E1, I2, J2, E2, e1, e2, hr2⟩ := rl_way (false, N, xs) 39 I J E hrel (xs (i + Int32.ofInt 1).toNatClampNeg) (xs (i + Int32.ofInt 2).toNatClampNeg)
  have e1 : am_ev (false, N, xs) (99, 136, 0, [some (.ref 0), some (.int (xs (i + Int32.ofInt 1).toNatClampNeg)), some (.int (xs (i + Int32.ofInt 2).toNatClampNeg)), none, none, none], [], am_hp I J E) = some (true, some (.int v), am_hp I1 J1 E1) := e1
  have e2 : am_ev (false, N, xs) (99, 246, 0, [some (.ref 156), some (.int (xs (i + Int32.ofInt 1).toNatClampNeg)), some (.int (xs (i + Int32.ofInt 2).toNatClampNeg)), none, none, none, none, none], [], am_hp I1 J1 E1) = some (true, some (.int v), am_hp I2 J2 E2) := e2
  refine ⟨x5, x6, I2, J2, E2, hr2, ?_⟩
  refine lr_s (t := (100, 304, 720, [some (.ref 60000), some (.ref 0), some (.ref 156), some (.ref 178), some (.int i), x5, x6], [.ref 0], am_hp I J E)) rfl ?_
  refine lr_s (t := (100, 304, 721, [some (.ref 60000), some (.ref 0), some (.ref 156), some (.ref 178), some (.int i), x5, x6], [.ref 60000, .ref 0], am_hp I J E)) rfl ?_
  refine lr_s (t := (100, 304, 723, [some (.ref 60000), some (.ref 0), some (.ref 156), some (.ref 178), some (.int i), x5, x6], [.int i, .ref 60000, .ref 0], am_hp I J E)) rfl ?_
  refine lr_s (t := (100, 304, 724, [some (.ref 60000), some (.ref 0), some (.ref 156), some (.ref 178), some (.int i), x5, x6], [.int (Int32.ofInt 1), .int i, .ref 60000, .ref 0], am_hp I J E)) rfl ?_
  refine lr_s (t := (100, 304, 725, [some (.ref 60000), some (.ref 0), some (.ref 156), some (.ref 178), some (.int i), x5, x6], [.int (i + Int32.ofInt 1), .ref 60000, .ref 0], am_hp I J E)) rfl ?_
  refine lr_g (t := (100, 304, 726, [some (.ref 60000), some (.ref 0), some (.ref 156), some (.ref 178), some (.int i), x5, x6], [.int (xs (i + Int32.ofInt 1).toNatClampNeg), .ref 0], am_hp I J E)) g.1 rfl ?_
  refine lr_s (t := (100, 304, 727, [some (.ref 60000), some (.ref 0), some (.ref 156), some (.ref 178), some (.int i), x5, x6], [.ref 60000, .int (xs (i + Int32.ofInt 1).toNatClampNeg), .ref 0], am_hp I J E)) rfl ?_
  refine lr_s (t := (100, 304, 729, [some (.ref 60000), some (.ref 0), some (.ref 156), some (.ref 178), some (.int i), x5, x6], [.int i, .ref 60000, .int (xs (i + Int32.ofInt 1).toNatClampNeg), .ref 0], am_hp I J E)) rfl ?_
  refine lr_s (t := (100, 304, 730, [some (.ref 60000), some (.ref 0), some (.ref 156), some (.ref 178), some (.int i), x5, x6], [.int (Int32.ofInt 2), .int i, .ref 60000, .int (xs (i + Int32.ofInt 1).toNatClampNeg), .ref 0], am_hp I J E)) rfl ?_
  refine lr_s (t := (100, 304, 731, [some (.ref 60000), some (.ref 0), some (.ref 156), some (.ref 178), some (.int i), x5, x6], [.int (i + Int32.ofInt 2), .ref 60000, .int (xs (i + Int32.ofInt 1).toNatClampNeg), .ref 0], am_hp I J E)) rfl ?_
  refine lr_g (t := (100, 304, 732, [some (.ref 60000), some (.ref 0), some (.ref 156), some (.ref 178), some (.int i), x5, x6], [.int (xs (i + Int32.ofInt 2).toNatClampNeg), .int (xs (i + Int32.ofInt 1).toNatClampNeg), .ref 0], am_hp I J E)) g.2.1 rfl ?_
  refine lr_c (s1 := (99, 136, 0, [some (.ref 0), some (.int (xs (i + Int32.ofInt 1).toNatClampNeg)), some (.int (xs (i + Int32.ofInt 2).toNatClampNeg)), none, none, none], [], am_hp I J E)) (t := (100, 304, 735, [some (.ref 60000), some (.ref 0), some (.ref 156), some (.ref 178), some (.int i), x5, x6], [.int v], am_hp I1 J1 E1)) e1 rfl rfl ?_
  refine lr_s (t := (100, 304, 736, [some (.ref 60000), some (.ref 0), some (.ref 156), some (.ref 178), some (.int i), x5, x6], [.ref 156, .int v], am_hp I1 J1 E1)) rfl ?_
  refine lr_s (t := (100, 304, 737, [some (.ref 60000), some (.ref 0), some (.ref 156), some (.ref 178), some (.int i), x5, x6], [.ref 60000, .ref 156, .int v], am_hp I1 J1 E1)) rfl ?_
  refine lr_s (t := (100, 304, 739, [some (.ref 60000), some (.ref 0), some (.ref 156), some (.ref 178), some (.int i), x5, x6], [.int i, .ref 60000, .ref 156, .int v], am_hp I1 J1 E1)) rfl ?_
  refine lr_s (t := (100, 304, 740, [some (.ref 60000), some (.ref 0), some (.ref 156), some (.ref 178), some (.int i), x5, x6], [.int (Int32.ofInt 1), .int i, .ref 60000, .ref 156, .int v], am_hp I1 J1 E1)) rfl ?_
  refine lr_s (t := (100, 304, 741, [some (.ref 60000), some (.ref 0), some (.ref 156), some (.ref 178), some (.int i), x5, x6], [.int (i + Int32.ofInt 1), .ref 60000, .ref 156, .int v], am_hp I1 J1 E1)) rfl ?_
  refine lr_g (t := (100, 304, 742, [some (.ref 60000), some (.ref 0), some (.ref 156), some (.ref 178), some (.int i), x5, x6], [.int (xs (i + Int32.ofInt 1).toNatClampNeg), .ref 156, .int v], am_hp I1 J1 E1)) g.1 rfl ?_
  refine lr_s (t := (100, 304, 743, [some (.ref 60000), some (.ref 0), some (.ref 156), some (.ref 178), some (.int i), x5, x6], [.ref 60000, .int (xs (i + Int32.ofInt 1).toNatClampNeg), .ref 156, .int v], am_hp I1 J1 E1)) rfl ?_
  refine lr_s (t := (100, 304, 745, [some (.ref 60000), some (.ref 0), some (.ref 156), some (.ref 178), some (.int i), x5, x6], [.int i, .ref 60000, .int (xs (i + Int32.ofInt 1).toNatClampNeg), .ref 156, .int v], am_hp I1 J1 E1)) rfl ?_
  refine lr_s (t := (100, 304, 746, [some (.ref 60000), some (.ref 0), some (.ref 156), some (.ref 178), some (.int i), x5, x6], [.int (Int32.ofInt 2), .int i, .ref 60000, .int (xs (i + Int32.ofInt 1).toNatClampNeg), .ref 156, .int v], am_hp I1 J1 E1)) rfl ?_
  refine lr_s (t := (100, 304, 747, [some (.ref 60000), some (.ref 0), some (.ref 156), some (.ref 178), some (.int i), x5, x6], [.int (i + Int32.ofInt 2), .ref 60000, .int (xs (i + Int32.ofInt 1).toNatClampNeg), .ref 156, .int v], am_hp I1 J1 E1)) rfl ?_
  refine lr_g (t := (100, 304, 748, [some (.ref 60000), some (.ref 0), some (.ref 156), some (.ref 178), some (.int i), x5, x6], [.int (xs (i + Int32.ofInt 2).toNatClampNeg), .int (xs (i + Int32.ofInt 1).toNatClampNeg), .ref 156, .int v], am_hp I1 J1 E1)) g.2.1 rfl ?_
  refine lr_c (s1 := (99, 246, 0, [some (.ref 156), some (.int (xs (i + Int32.ofInt 1).toNatClampNeg)), some (.int (xs (i + Int32.ofInt 2).toNatClampNeg)), none, none, none, none, none], [], am_hp I1 J1 E1)) (t := (100, 304, 751, [some (.ref 60000), some (.ref 0), some (.ref 156), some (.ref 178), some (.int i), x5, x6], [.int v, .int v], am_hp I2 J2 E2)) e2 rfl rfl ?_
  exact lr_b (t := (100, 304, 1338, [some (.ref 60000), some (.ref 0), some (.ref 156), some (.ref 178), some (.int i), x5, x6], [], am_hp I2 J2 E2)) (t' := (100, 304, 754, [some (.ref 60000), some (.ref 0), some (.ref 156), some (.ref 178), some (.int i), x5, x6], [], am_hp I2 J2 E2)) (decide_eq_true (rfl : v = v)) rfl lr_e
set_option maxRecDepth 20000 in
theorem lw_17 (N : Nat) (xs : Nat → Int32) (i : Int32) (g : gI i N) : lwS N xs i 756 := by
  intro x5 x6 I J E hrel
  obtain ⟨v, I1, J1, E1, I2, J2, E2, e1, e2, hr2⟩ := rl_wayAt (false, N, xs) 39 I J E hrel (xs (i + Int32.ofInt 1).toNatClampNeg)
  have e1 : am_ev (false, N, xs) (99, 137, 0, [some (.ref 0), some (.int (xs (i + Int32.ofInt 1).toNatClampNeg))], [], am_hp I J E) = some (true, some (.int v), am_hp I1 J1 E1) := e1
  have e2 : am_ev (false, N, xs) (99, 247, 0, [some (.ref 156), some (.int (xs (i + Int32.ofInt 1).toNatClampNeg))], [], am_hp I1 J1 E1) = some (true, some (.int v), am_hp I2 J2 E2) := e2
  refine ⟨x5, x6, I2, J2, E2, hr2, ?_⟩
  refine lr_s (t := (100, 304, 757, [some (.ref 60000), some (.ref 0), some (.ref 156), some (.ref 178), some (.int i), x5, x6], [.ref 0], am_hp I J E)) rfl ?_
  refine lr_s (t := (100, 304, 758, [some (.ref 60000), some (.ref 0), some (.ref 156), some (.ref 178), some (.int i), x5, x6], [.ref 60000, .ref 0], am_hp I J E)) rfl ?_
  refine lr_s (t := (100, 304, 760, [some (.ref 60000), some (.ref 0), some (.ref 156), some (.ref 178), some (.int i), x5, x6], [.int i, .ref 60000, .ref 0], am_hp I J E)) rfl ?_
  refine lr_s (t := (100, 304, 761, [some (.ref 60000), some (.ref 0), some (.ref 156), some (.ref 178), some (.int i), x5, x6], [.int (Int32.ofInt 1), .int i, .ref 60000, .ref 0], am_hp I J E)) rfl ?_
  refine lr_s (t := (100, 304, 762, [some (.ref 60000), some (.ref 0), some (.ref 156), some (.ref 178), some (.int i), x5, x6], [.int (i + Int32.ofInt 1), .ref 60000, .ref 0], am_hp I J E)) rfl ?_
  refine lr_g (t := (100, 304, 763, [some (.ref 60000), some (.ref 0), some (.ref 156), some (.ref 178), some (.int i), x5, x6], [.int (xs (i + Int32.ofInt 1).toNatClampNeg), .ref 0], am_hp I J E)) g.1 rfl ?_
  refine lr_c (s1 := (99, 137, 0, [some (.ref 0), some (.int (xs (i + Int32.ofInt 1).toNatClampNeg))], [], am_hp I J E)) (t := (100, 304, 766, [some (.ref 60000), some (.ref 0), some (.ref 156), some (.ref 178), some (.int i), x5, x6], [.int v], am_hp I1 J1 E1)) e1 rfl rfl ?_
  refine lr_s (t := (100, 304, 767, [some (.ref 60000), some (.ref 0), some (.ref 156), some (.ref 178), some (.int i), x5, x6], [.ref 156, .int v], am_hp I1 J1 E1)) rfl ?_
  refine lr_s (t := (100, 304, 768, [some (.ref 60000), some (.ref 0), some (.ref 156), some (.ref 178), some (.int i), x5, x6], [.ref 60000, .ref 156, .int v], am_hp I1 J1 E1)) rfl ?_
  refine lr_s (t := (100, 304, 770, [some (.ref 60000), some (.ref 0), some (.ref 156), some (.ref 178), some (.int i), x5, x6], [.int i, .ref 60000, .ref 156, .int v], am_hp I1 J1 E1)) rfl ?_
  refine lr_s (t := (100, 304, 771, [some (.ref 60000), some (.ref 0), some (.ref 156), some (.ref 178), some (.int i), x5, x6], [.int (Int32.ofInt 1), .int i, .ref 60000, .ref 156, .int v], am_hp I1 J1 E1)) rfl ?_
  refine lr_s (t := (100, 304, 772, [some (.ref 60000), some (.ref 0), some (.ref 156), some (.ref 178), some (.int i), x5, x6], [.int (i + Int32.ofInt 1), .ref 60000, .ref 156, .int v], am_hp I1 J1 E1)) rfl ?_
  refine lr_g (t := (100, 304, 773, [some (.ref 60000), some (.ref 0), some (.ref 156), some (.ref 178), some (.int i), x5, x6], [.int (xs (i + Int32.ofInt 1).toNatClampNeg), .ref 156, .int v], am_hp I1 J1 E1)) g.1 rfl ?_
  refine lr_c (s1 := (99, 247, 0, [some (.ref 156), some (.int (xs (i + Int32.ofInt 1).toNatClampNeg))], [], am_hp I1 J1 E1)) (t := (100, 304, 776, [some (.ref 60000), some (.ref 0), some (.ref 156), some (.ref 178), some (.int i), x5, x6], [.int v, .int v], am_hp I2 J2 E2)) e2 rfl rfl ?_
  exact lr_b (t := (100, 304, 1338, [some (.ref 60000), some (.ref 0), some (.ref 156), some (.ref 178), some (.int i), x5, x6], [], am_hp I2 J2 E2)) (t' := (100, 304, 779, [some (.ref 60000), some (.ref 0), some (.ref 156), some (.ref 178), some (.int i), x5, x6], [], am_hp I2 J2 E2)) (decide_eq_true (rfl : v = v)) rfl lr_e
set_option maxRecDepth 20000 in
theorem lw_18 (N : Nat) (xs : Nat → Int32) (i : Int32) (g : gI i N) : lwS N xs i 781 := by
  intro x5 x6 I J E hrel
  obtain ⟨v, I1, J1, E1, I2, J2, E2, e1, e2, hr2⟩ := rl_ring (false, N, xs) 39 I J E hrel (xs (i + Int32.ofInt 1).toNatClampNeg)
  have e1 : am_ev (false, N, xs) (99, 138, 0, [some (.ref 0), some (.int (xs (i + Int32.ofInt 1).toNatClampNeg))], [], am_hp I J E) = some (true, some (.int v), am_hp I1 J1 E1) := e1
  have e2 : am_ev (false, N, xs) (99, 249, 0, [some (.ref 156), some (.int (xs (i + Int32.ofInt 1).toNatClampNeg)), none, none, none], [], am_hp I1 J1 E1) = some (true, some (.int v), am_hp I2 J2 E2) := e2
  refine ⟨x5, x6, I2, J2, E2, hr2, ?_⟩
  refine lr_s (t := (100, 304, 782, [some (.ref 60000), some (.ref 0), some (.ref 156), some (.ref 178), some (.int i), x5, x6], [.ref 0], am_hp I J E)) rfl ?_
  refine lr_s (t := (100, 304, 783, [some (.ref 60000), some (.ref 0), some (.ref 156), some (.ref 178), some (.int i), x5, x6], [.ref 60000, .ref 0], am_hp I J E)) rfl ?_
  refine lr_s (t := (100, 304, 785, [some (.ref 60000), some (.ref 0), some (.ref 156), some (.ref 178), some (.int i), x5, x6], [.int i, .ref 60000, .ref 0], am_hp I J E)) rfl ?_
  refine lr_s (t := (100, 304, 786, [some (.ref 60000), some (.ref 0), some (.ref 156), some (.ref 178), some (.int i), x5, x6], [.int (Int32.ofInt 1), .int i, .ref 60000, .ref 0], am_hp I J E)) rfl ?_
  refine lr_s (t := (100, 304, 787, [some (.ref 60000), some (.ref 0), some (.ref 156), some (.ref 178), some (.int i), x5, x6], [.int (i + Int32.ofInt 1), .ref 60000, .ref 0], am_hp I J E)) rfl ?_
  refine lr_g (t := (100, 304, 788, [some (.ref 60000), some (.ref 0), some (.ref 156), some (.ref 178), some (.int i), x5, x6], [.int (xs (i + Int32.ofInt 1).toNatClampNeg), .ref 0], am_hp I J E)) g.1 rfl ?_
  refine lr_c (s1 := (99, 138, 0, [some (.ref 0), some (.int (xs (i + Int32.ofInt 1).toNatClampNeg))], [], am_hp I J E)) (t := (100, 304, 791, [some (.ref 60000), some (.ref 0), some (.ref 156), some (.ref 178), some (.int i), x5, x6], [.int v], am_hp I1 J1 E1)) e1 rfl rfl ?_
  refine lr_s (t := (100, 304, 792, [some (.ref 60000), some (.ref 0), some (.ref 156), some (.ref 178), some (.int i), x5, x6], [.ref 156, .int v], am_hp I1 J1 E1)) rfl ?_
  refine lr_s (t := (100, 304, 793, [some (.ref 60000), some (.ref 0), some (.ref 156), some (.ref 178), some (.int i), x5, x6], [.ref 60000, .ref 156, .int v], am_hp I1 J1 E1)) rfl ?_
  refine lr_s (t := (100, 304, 795, [some (.ref 60000), some (.ref 0), some (.ref 156), some (.ref 178), some (.int i), x5, x6], [.int i, .ref 60000, .ref 156, .int v], am_hp I1 J1 E1)) rfl ?_
  refine lr_s (t := (100, 304, 796, [some (.ref 60000), some (.ref 0), some (.ref 156), some (.ref 178), some (.int i), x5, x6], [.int (Int32.ofInt 1), .int i, .ref 60000, .ref 156, .int v], am_hp I1 J1 E1)) rfl ?_
  refine lr_s (t := (100, 304, 797, [some (.ref 60000), some (.ref 0), some (.ref 156), some (.ref 178), some (.int i), x5, x6], [.int (i + Int32.ofInt 1), .ref 60000, .ref 156, .int v], am_hp I1 J1 E1)) rfl ?_
  refine lr_g (t := (100, 304, 798, [some (.ref 60000), some (.ref 0), some (.ref 156), some (.ref 178), some (.int i), x5, x6], [.int (xs (i + Int32.ofInt 1).toNatClampNeg), .ref 156, .int v], am_hp I1 J1 E1)) g.1 rfl ?_
  refine lr_c (s1 := (99, 249, 0, [some (.ref 156), some (.int (xs (i + Int32.ofInt 1).toNatClampNeg)), none, none, none], [], am_hp I1 J1 E1)) (t := (100, 304, 801, [some (.ref 60000), some (.ref 0), some (.ref 156), some (.ref 178), some (.int i), x5, x6], [.int v, .int v], am_hp I2 J2 E2)) e2 rfl rfl ?_
  exact lr_b (t := (100, 304, 1338, [some (.ref 60000), some (.ref 0), some (.ref 156), some (.ref 178), some (.int i), x5, x6], [], am_hp I2 J2 E2)) (t' := (100, 304, 804, [some (.ref 60000), some (.ref 0), some (.ref 156), some (.ref 178), some (.int i), x5, x6], [], am_hp I2 J2 E2)) (decide_eq_true (rfl : v = v)) rfl lr_e
set_option maxRecDepth 20000 in
theorem lw_19 (N : Nat) (xs : Nat → Int32) (i : Int32) (g : gI i N) : lwS N xs i 806 := by
  intro x5 x6 I J E hrel
  obtain ⟨v, I1, J1, E1, I2, J2, E2, e1, e2, hr2⟩ := rl_ringAt (false, N, xs) 39 I J E hrel (xs (i + Int32.ofInt 1).toNatClampNeg)
  have e1 : am_ev (false, N, xs) (99, 139, 0, [some (.ref 0), some (.int (xs (i + Int32.ofInt 1).toNatClampNeg))], [], am_hp I J E) = some (true, some (.int v), am_hp I1 J1 E1) := e1
  have e2 : am_ev (false, N, xs) (99, 250, 0, [some (.ref 156), some (.int (xs (i + Int32.ofInt 1).toNatClampNeg))], [], am_hp I1 J1 E1) = some (true, some (.int v), am_hp I2 J2 E2) := e2
  refine ⟨x5, x6, I2, J2, E2, hr2, ?_⟩
  refine lr_s (t := (100, 304, 807, [some (.ref 60000), some (.ref 0), some (.ref 156), some (.ref 178), some (.int i), x5, x6], [.ref 0], am_hp I J E)) rfl ?_
  refine lr_s (t := (100, 304, 808, [some (.ref 60000), some (.ref 0), some (.ref 156), some (.ref 178), some (.int i), x5, x6], [.ref 60000, .ref 0], am_hp I J E)) rfl ?_
  refine lr_s (t := (100, 304, 810, [some (.ref 60000), some (.ref 0), some (.ref 156), some (.ref 178), some (.int i), x5, x6], [.int i, .ref 60000, .ref 0], am_hp I J E)) rfl ?_
  refine lr_s (t := (100, 304, 811, [some (.ref 60000), some (.ref 0), some (.ref 156), some (.ref 178), some (.int i), x5, x6], [.int (Int32.ofInt 1), .int i, .ref 60000, .ref 0], am_hp I J E)) rfl ?_
  refine lr_s (t := (100, 304, 812, [some (.ref 60000), some (.ref 0), some (.ref 156), some (.ref 178), some (.int i), x5, x6], [.int (i + Int32.ofInt 1), .ref 60000, .ref 0], am_hp I J E)) rfl ?_
  refine lr_g (t := (100, 304, 813, [some (.ref 60000), some (.ref 0), some (.ref 156), some (.ref 178), some (.int i), x5, x6], [.int (xs (i + Int32.ofInt 1).toNatClampNeg), .ref 0], am_hp I J E)) g.1 rfl ?_
  refine lr_c (s1 := (99, 139, 0, [some (.ref 0), some (.int (xs (i + Int32.ofInt 1).toNatClampNeg))], [], am_hp I J E)) (t := (100, 304, 816, [some (.ref 60000), some (.ref 0), some (.ref 156), some (.ref 178), some (.int i), x5, x6], [.int v], am_hp I1 J1 E1)) e1 rfl rfl ?_
  refine lr_s (t := (100, 304, 817, [some (.ref 60000), some (.ref 0), some (.ref 156), some (.ref 178), some (.int i), x5, x6], [.ref 156, .int v], am_hp I1 J1 E1)) rfl ?_
  refine lr_s (t := (100, 304, 818, [some (.ref 60000), some (.ref 0), some (.ref 156), some (.ref 178), some (.int i), x5, x6], [.ref 60000, .ref 156, .int v], am_hp I1 J1 E1)) rfl ?_
  refine lr_s (t := (100, 304, 820, [some (.ref 60000), some (.ref 0), some (.ref 156), some (.ref 178), some (.int i), x5, x6], [.int i, .ref 60000, .ref 156, .int v], am_hp I1 J1 E1)) rfl ?_
  refine lr_s (t := (100, 304, 821, [some (.ref 60000), some (.ref 0), some (.ref 156), some (.ref 178), some (.int i), x5, x6], [.int (Int32.ofInt 1), .int i, .ref 60000, .ref 156, .int v], am_hp I1 J1 E1)) rfl ?_
  refine lr_s (t := (100, 304, 822, [some (.ref 60000), some (.ref 0), some (.ref 156), some (.ref 178), some (.int i), x5, x6], [.int (i + Int32.ofInt 1), .ref 60000, .ref 156, .int v], am_hp I1 J1 E1)) rfl ?_
  refine lr_g (t := (100, 304, 823, [some (.ref 60000), some (.ref 0), some (.ref 156), some (.ref 178), some (.int i), x5, x6], [.int (xs (i + Int32.ofInt 1).toNatClampNeg), .ref 156, .int v], am_hp I1 J1 E1)) g.1 rfl ?_
  refine lr_c (s1 := (99, 250, 0, [some (.ref 156), some (.int (xs (i + Int32.ofInt 1).toNatClampNeg))], [], am_hp I1 J1 E1)) (t := (100, 304, 826, [some (.ref 60000), some (.ref 0), some (.ref 156), some (.ref 178), some (.int i), x5, x6], [.int v, .int v], am_hp I2 J2 E2)) e2 rfl rfl ?_
  exact lr_b (t := (100, 304, 1338, [some (.ref 60000), some (.ref 0), some (.ref 156), some (.ref 178), some (.int i), x5, x6], [], am_hp I2 J2 E2)) (t' := (100, 304, 829, [some (.ref 60000), some (.ref 0), some (.ref 156), some (.ref 178), some (.int i), x5, x6], [], am_hp I2 J2 E2)) (decide_eq_true (rfl : v = v)) rfl lr_e
set_option maxRecDepth 20000 in
theorem lw_20 (N : Nat) (xs : Nat → Int32) (i : Int32) (g : gI i N) : lwS N xs i 831 := by
  intro x5 x6 I J E hrel
  obtain ⟨v, I1, J1, E1, I2, J2, E2, e1, e2, hr2⟩ := rl_cut (false, N, xs) 39 I J E hrel
  have e1 : am_ev (false, N, xs) (99, 140, 0, [some (.ref 0)], [], am_hp I J E) = some (true, some (.int v), am_hp I1 J1 E1) := e1
  have e2 : am_ev (false, N, xs) (99, 251, 0, [some (.ref 156), none, none, none], [], am_hp I1 J1 E1) = some (true, some (.int v), am_hp I2 J2 E2) := e2
  refine ⟨x5, x6, I2, J2, E2, hr2, ?_⟩
  refine lr_s (t := (100, 304, 832, [some (.ref 60000), some (.ref 0), some (.ref 156), some (.ref 178), some (.int i), x5, x6], [.ref 0], am_hp I J E)) rfl ?_
  refine lr_c (s1 := (99, 140, 0, [some (.ref 0)], [], am_hp I J E)) (t := (100, 304, 835, [some (.ref 60000), some (.ref 0), some (.ref 156), some (.ref 178), some (.int i), x5, x6], [.int v], am_hp I1 J1 E1)) e1 rfl rfl ?_
  refine lr_s (t := (100, 304, 836, [some (.ref 60000), some (.ref 0), some (.ref 156), some (.ref 178), some (.int i), x5, x6], [.ref 156, .int v], am_hp I1 J1 E1)) rfl ?_
  refine lr_c (s1 := (99, 251, 0, [some (.ref 156), none, none, none], [], am_hp I1 J1 E1)) (t := (100, 304, 839, [some (.ref 60000), some (.ref 0), some (.ref 156), some (.ref 178), some (.int i), x5, x6], [.int v, .int v], am_hp I2 J2 E2)) e2 rfl rfl ?_
  exact lr_b (t := (100, 304, 1338, [some (.ref 60000), some (.ref 0), some (.ref 156), some (.ref 178), some (.int i), x5, x6], [], am_hp I2 J2 E2)) (t' := (100, 304, 842, [some (.ref 60000), some (.ref 0), some (.ref 156), some (.ref 178), some (.int i), x5, x6], [], am_hp I2 J2 E2)) (decide_eq_true (rfl : v = v)) rfl lr_e
set_option maxRecDepth 20000 in
theorem lw_21 (N : Nat) (xs : Nat → Int32) (i : Int32) (g : gI i N) : lwS N xs i 844 := by
  intro x5 x6 I J E hrel
  obtain ⟨v, I1, J1, E1, I2, J2, E2, e1, e2, hr2⟩ := rl_cutting (false, N, xs) 39 I J E hrel
  have e1 : am_ev (false, N, xs) (99, 141, 0, [some (.ref 0)], [], am_hp I J E) = some (true, some (.int v), am_hp I1 J1 E1) := e1
  have e2 : am_ev (false, N, xs) (99, 252, 0, [some (.ref 156)], [], am_hp I1 J1 E1) = some (true, some (.int v), am_hp I2 J2 E2) := e2
  refine ⟨x5, x6, I2, J2, E2, hr2, ?_⟩
  refine lr_s (t := (100, 304, 845, [some (.ref 60000), some (.ref 0), some (.ref 156), some (.ref 178), some (.int i), x5, x6], [.ref 0], am_hp I J E)) rfl ?_
  refine lr_c (s1 := (99, 141, 0, [some (.ref 0)], [], am_hp I J E)) (t := (100, 304, 848, [some (.ref 60000), some (.ref 0), some (.ref 156), some (.ref 178), some (.int i), x5, x6], [.int v], am_hp I1 J1 E1)) e1 rfl rfl ?_
  refine lr_s (t := (100, 304, 849, [some (.ref 60000), some (.ref 0), some (.ref 156), some (.ref 178), some (.int i), x5, x6], [.ref 156, .int v], am_hp I1 J1 E1)) rfl ?_
  refine lr_c (s1 := (99, 252, 0, [some (.ref 156)], [], am_hp I1 J1 E1)) (t := (100, 304, 852, [some (.ref 60000), some (.ref 0), some (.ref 156), some (.ref 178), some (.int i), x5, x6], [.int v, .int v], am_hp I2 J2 E2)) e2 rfl rfl ?_
  exact lr_b (t := (100, 304, 1338, [some (.ref 60000), some (.ref 0), some (.ref 156), some (.ref 178), some (.int i), x5, x6], [], am_hp I2 J2 E2)) (t' := (100, 304, 855, [some (.ref 60000), some (.ref 0), some (.ref 156), some (.ref 178), some (.int i), x5, x6], [], am_hp I2 J2 E2)) (decide_eq_true (rfl : v = v)) rfl lr_e
set_option maxRecDepth 20000 in
theorem lw_22 (N : Nat) (xs : Nat → Int32) (i : Int32) (g : gI i N) : lwS N xs i 857 := by
  intro x5 x6 I J E hrel
  obtain ⟨v, I1, J1, E1, I2, J2, E2, e1, e2, hr2⟩ := rl_deep (false, N, xs) 39 I J E hrel (xs (i + Int32.ofInt 1).toNatClampNeg)
  have e1 : am_ev (false, N, xs) (99, 142, 0, [some (.ref 0), some (.int (xs (i + Int32.ofInt 1).toNatClampNeg))], [], am_hp I J E) = some (true, some (.int v), am_hp I1 J1 E1) := e1
  have e2 : am_ev (false, N, xs) (99, 254, 0, [some (.ref 156), some (.int (xs (i + Int32.ofInt 1).toNatClampNeg))], [], am_hp I1 J1 E1) = some (true, some (.int v), am_hp I2 J2 E2) := e2
  refine ⟨x5, x6, I2, J2, E2, hr2, ?_⟩
  refine lr_s (t := (100, 304, 858, [some (.ref 60000), some (.ref 0), some (.ref 156), some (.ref 178), some (.int i), x5, x6], [.ref 0], am_hp I J E)) rfl ?_
  refine lr_s (t := (100, 304, 859, [some (.ref 60000), some (.ref 0), some (.ref 156), some (.ref 178), some (.int i), x5, x6], [.ref 60000, .ref 0], am_hp I J E)) rfl ?_
  refine lr_s (t := (100, 304, 861, [some (.ref 60000), some (.ref 0), some (.ref 156), some (.ref 178), some (.int i), x5, x6], [.int i, .ref 60000, .ref 0], am_hp I J E)) rfl ?_
  refine lr_s (t := (100, 304, 862, [some (.ref 60000), some (.ref 0), some (.ref 156), some (.ref 178), some (.int i), x5, x6], [.int (Int32.ofInt 1), .int i, .ref 60000, .ref 0], am_hp I J E)) rfl ?_
  refine lr_s (t := (100, 304, 863, [some (.ref 60000), some (.ref 0), some (.ref 156), some (.ref 178), some (.int i), x5, x6], [.int (i + Int32.ofInt 1), .ref 60000, .ref 0], am_hp I J E)) rfl ?_
  refine lr_g (t := (100, 304, 864, [some (.ref 60000), some (.ref 0), some (.ref 156), some (.ref 178), some (.int i), x5, x6], [.int (xs (i + Int32.ofInt 1).toNatClampNeg), .ref 0], am_hp I J E)) g.1 rfl ?_
  refine lr_c (s1 := (99, 142, 0, [some (.ref 0), some (.int (xs (i + Int32.ofInt 1).toNatClampNeg))], [], am_hp I J E)) (t := (100, 304, 867, [some (.ref 60000), some (.ref 0), some (.ref 156), some (.ref 178), some (.int i), x5, x6], [.int v], am_hp I1 J1 E1)) e1 rfl rfl ?_
  refine lr_s (t := (100, 304, 868, [some (.ref 60000), some (.ref 0), some (.ref 156), some (.ref 178), some (.int i), x5, x6], [.ref 156, .int v], am_hp I1 J1 E1)) rfl ?_
  refine lr_s (t := (100, 304, 869, [some (.ref 60000), some (.ref 0), some (.ref 156), some (.ref 178), some (.int i), x5, x6], [.ref 60000, .ref 156, .int v], am_hp I1 J1 E1)) rfl ?_
  refine lr_s (t := (100, 304, 871, [some (.ref 60000), some (.ref 0), some (.ref 156), some (.ref 178), some (.int i), x5, x6], [.int i, .ref 60000, .ref 156, .int v], am_hp I1 J1 E1)) rfl ?_
  refine lr_s (t := (100, 304, 872, [some (.ref 60000), some (.ref 0), some (.ref 156), some (.ref 178), some (.int i), x5, x6], [.int (Int32.ofInt 1), .int i, .ref 60000, .ref 156, .int v], am_hp I1 J1 E1)) rfl ?_
  refine lr_s (t := (100, 304, 873, [some (.ref 60000), some (.ref 0), some (.ref 156), some (.ref 178), some (.int i), x5, x6], [.int (i + Int32.ofInt 1), .ref 60000, .ref 156, .int v], am_hp I1 J1 E1)) rfl ?_
  refine lr_g (t := (100, 304, 874, [some (.ref 60000), some (.ref 0), some (.ref 156), some (.ref 178), some (.int i), x5, x6], [.int (xs (i + Int32.ofInt 1).toNatClampNeg), .ref 156, .int v], am_hp I1 J1 E1)) g.1 rfl ?_
  refine lr_c (s1 := (99, 254, 0, [some (.ref 156), some (.int (xs (i + Int32.ofInt 1).toNatClampNeg))], [], am_hp I1 J1 E1)) (t := (100, 304, 877, [some (.ref 60000), some (.ref 0), some (.ref 156), some (.ref 178), some (.int i), x5, x6], [.int v, .int v], am_hp I2 J2 E2)) e2 rfl rfl ?_
  exact lr_b (t := (100, 304, 1338, [some (.ref 60000), some (.ref 0), some (.ref 156), some (.ref 178), some (.int i), x5, x6], [], am_hp I2 J2 E2)) (t' := (100, 304, 880, [some (.ref 60000), some (.ref 0), some (.ref 156), some (.ref 178), some (.int i), x5, x6], [], am_hp I2 J2 E2)) (decide_eq_true (rfl : v = v)) rfl lr_e
set_option maxRecDepth 20000 in
theorem lw_23 (N : Nat) (xs : Nat → Int32) (i : Int32) (g : gI i N) : lwS N xs i 882 := by
  intro x5 x6 I J E hrel
  obtain ⟨v, I1, J1, E1, I2, J2, E2, e1, e2, hr2⟩ := rl_fits (false, N, xs) 39 I J E hrel
  have e1 : am_ev (false, N, xs) (99, 145, 0, [some (.ref 0), none], [], am_hp I J E) = some (true, some (.int v), am_hp I1 J1 E1) := e1
  have e2 : am_ev (false, N, xs) (99, 257, 0, [some (.ref 156), none, none, none, none], [], am_hp I1 J1 E1) = some (true, some (.int v), am_hp I2 J2 E2) := e2
  refine ⟨x5, x6, I2, J2, E2, hr2, ?_⟩
  refine lr_s (t := (100, 304, 883, [some (.ref 60000), some (.ref 0), some (.ref 156), some (.ref 178), some (.int i), x5, x6], [.ref 0], am_hp I J E)) rfl ?_
  refine lr_c (s1 := (99, 145, 0, [some (.ref 0), none], [], am_hp I J E)) (t := (100, 304, 886, [some (.ref 60000), some (.ref 0), some (.ref 156), some (.ref 178), some (.int i), x5, x6], [.int v], am_hp I1 J1 E1)) e1 rfl rfl ?_
  refine lr_s (t := (100, 304, 887, [some (.ref 60000), some (.ref 0), some (.ref 156), some (.ref 178), some (.int i), x5, x6], [.ref 156, .int v], am_hp I1 J1 E1)) rfl ?_
  refine lr_c (s1 := (99, 257, 0, [some (.ref 156), none, none, none, none], [], am_hp I1 J1 E1)) (t := (100, 304, 890, [some (.ref 60000), some (.ref 0), some (.ref 156), some (.ref 178), some (.int i), x5, x6], [.int v, .int v], am_hp I2 J2 E2)) e2 rfl rfl ?_
  exact lr_b (t := (100, 304, 1338, [some (.ref 60000), some (.ref 0), some (.ref 156), some (.ref 178), some (.int i), x5, x6], [], am_hp I2 J2 E2)) (t' := (100, 304, 893, [some (.ref 60000), some (.ref 0), some (.ref 156), some (.ref 178), some (.int i), x5, x6], [], am_hp I2 J2 E2)) (decide_eq_true (rfl : v = v)) rfl lr_e
set_option maxRecDepth 20000 in
theorem lw_24 (N : Nat) (xs : Nat → Int32) (i : Int32) (g : gI i N) : lwS N xs i 895 := by
  intro x5 x6 I J E hrel
  obtain ⟨v, I1, J1, E1, I2, J2, E2, e1, e2, hr2⟩ := rl_fitting (false, N, xs) 39 I J E hrel
  have e1 : am_ev (false, N, xs) (99, 151, 0, [some (.ref 0)], [], am_hp I J E) = some (true, some (.int v), am_hp I1 J1 E1) := e1
  have e2 : am_ev (false, N, xs) (99, 258, 0, [some (.ref 156)], [], am_hp I1 J1 E1) = some (true, some (.int v), am_hp I2 J2 E2) := e2
  refine ⟨x5, x6, I2, J2, E2, hr2, ?_⟩
  refine lr_s (t := (100, 304, 896, [some (.ref 60000), some (.ref 0), some (.ref 156), some (.ref 178), some (.int i), x5, x6], [.ref 0], am_hp I J E)) rfl ?_
  refine lr_c (s1 := (99, 151, 0, [some (.ref 0)], [], am_hp I J E)) (t := (100, 304, 899, [some (.ref 60000), some (.ref 0), some (.ref 156), some (.ref 178), some (.int i), x5, x6], [.int v], am_hp I1 J1 E1)) e1 rfl rfl ?_
  refine lr_s (t := (100, 304, 900, [some (.ref 60000), some (.ref 0), some (.ref 156), some (.ref 178), some (.int i), x5, x6], [.ref 156, .int v], am_hp I1 J1 E1)) rfl ?_
  refine lr_c (s1 := (99, 258, 0, [some (.ref 156)], [], am_hp I1 J1 E1)) (t := (100, 304, 903, [some (.ref 60000), some (.ref 0), some (.ref 156), some (.ref 178), some (.int i), x5, x6], [.int v, .int v], am_hp I2 J2 E2)) e2 rfl rfl ?_
  exact lr_b (t := (100, 304, 1338, [some (.ref 60000), some (.ref 0), some (.ref 156), some (.ref 178), some (.int i), x5, x6], [], am_hp I2 J2 E2)) (t' := (100, 304, 906, [some (.ref 60000), some (.ref 0), some (.ref 156), some (.ref 178), some (.int i), x5, x6], [], am_hp I2 J2 E2)) (decide_eq_true (rfl : v = v)) rfl lr_e
set_option maxRecDepth 20000 in
theorem lw_25 (N : Nat) (xs : Nat → Int32) (i : Int32) (g : gI i N) : lwS N xs i 908 := by
  intro x5 x6 I J E hrel
  obtain ⟨v, I1, J1, E1, I2, J2, E2, e1, e2, hr2⟩ := rl_ask (false, N, xs) 39 I J E hrel
  have e1 : am_ev (false, N, xs) (99, 152, 0, [some (.ref 0)], [], am_hp I J E) = some (true, some (.int v), am_hp I1 J1 E1) := e1
  have e2 : am_ev (false, N, xs) (99, 259, 0, [some (.ref 156)], [], am_hp I1 J1 E1) = some (true, some (.int v), am_hp I2 J2 E2) := e2
  refine ⟨x5, x6, I2, J2, E2, hr2, ?_⟩
  refine lr_s (t := (100, 304, 909, [some (.ref 60000), some (.ref 0), some (.ref 156), some (.ref 178), some (.int i), x5, x6], [.ref 0], am_hp I J E)) rfl ?_
  refine lr_c (s1 := (99, 152, 0, [some (.ref 0)], [], am_hp I J E)) (t := (100, 304, 912, [some (.ref 60000), some (.ref 0), some (.ref 156), some (.ref 178), some (.int i), x5, x6], [.int v], am_hp I1 J1 E1)) e1 rfl rfl ?_
  refine lr_s (t := (100, 304, 913, [some (.ref 60000), some (.ref 0), some (.ref 156), some (.ref 178), some (.int i), x5, x6], [.ref 156, .int v], am_hp I1 J1 E1)) rfl ?_
  refine lr_c (s1 := (99, 259, 0, [some (.ref 156)], [], am_hp I1 J1 E1)) (t := (100, 304, 916, [some (.ref 60000), some (.ref 0), some (.ref 156), some (.ref 178), some (.int i), x5, x6], [.int v, .int v], am_hp I2 J2 E2)) e2 rfl rfl ?_
  exact lr_b (t := (100, 304, 1338, [some (.ref 60000), some (.ref 0), some (.ref 156), some (.ref 178), some (.int i), x5, x6], [], am_hp I2 J2 E2)) (t' := (100, 304, 919, [some (.ref 60000), some (.ref 0), some (.ref 156), some (.ref 178), some (.int i), x5, x6], [], am_hp I2 J2 E2)) (decide_eq_true (rfl : v = v)) rfl lr_e
set_option maxRecDepth 20000 in
theorem lw_26 (N : Nat) (xs : Nat → Int32) (i : Int32) (g : gI i N) : lwS N xs i 921 := by
  intro x5 x6 I J E hrel
  obtain ⟨v, I1, J1, E1, I2, J2, E2, e1, e2, hr2⟩ := rl_atOnce (false, N, xs) 39 I J E hrel
  have e1 : am_ev (false, N, xs) (99, 153, 0, [some (.ref 0)], [], am_hp I J E) = some (true, some (.int v), am_hp I1 J1 E1) := e1
  have e2 : am_ev (false, N, xs) (99, 261, 0, [some (.ref 156), none], [], am_hp I1 J1 E1) = some (true, some (.int v), am_hp I2 J2 E2) := e2
  refine ⟨x5, x6, I2, J2, E2, hr2, ?_⟩
  refine lr_s (t := (100, 304, 922, [some (.ref 60000), some (.ref 0), some (.ref 156), some (.ref 178), some (.int i), x5, x6], [.ref 0], am_hp I J E)) rfl ?_
  refine lr_c (s1 := (99, 153, 0, [some (.ref 0)], [], am_hp I J E)) (t := (100, 304, 925, [some (.ref 60000), some (.ref 0), some (.ref 156), some (.ref 178), some (.int i), x5, x6], [.int v], am_hp I1 J1 E1)) e1 rfl rfl ?_
  refine lr_s (t := (100, 304, 926, [some (.ref 60000), some (.ref 0), some (.ref 156), some (.ref 178), some (.int i), x5, x6], [.ref 156, .int v], am_hp I1 J1 E1)) rfl ?_
  refine lr_c (s1 := (99, 261, 0, [some (.ref 156), none], [], am_hp I1 J1 E1)) (t := (100, 304, 929, [some (.ref 60000), some (.ref 0), some (.ref 156), some (.ref 178), some (.int i), x5, x6], [.int v, .int v], am_hp I2 J2 E2)) e2 rfl rfl ?_
  exact lr_b (t := (100, 304, 1338, [some (.ref 60000), some (.ref 0), some (.ref 156), some (.ref 178), some (.int i), x5, x6], [], am_hp I2 J2 E2)) (t' := (100, 304, 932, [some (.ref 60000), some (.ref 0), some (.ref 156), some (.ref 178), some (.int i), x5, x6], [], am_hp I2 J2 E2)) (decide_eq_true (rfl : v = v)) rfl lr_e
set_option maxRecDepth 20000 in
theorem lw_27 (N : Nat) (xs : Nat → Int32) (i : Int32) (g : gI i N) : lwS N xs i 934 := by
  intro x5 x6 I J E hrel
  obtain ⟨v, I1, J1, E1, I2, J2, E2, e1, e2, hr2⟩ := rl_atOnceOf (false, N, xs) 39 I J E hrel (xs (i + Int32.ofInt 1).toNatClampNeg)
  have e1 : am_ev (false, N, xs) (99, 154, 0, [some (.ref 0), some (.int (xs (i + Int32.ofInt 1).toNatClampNeg))], [], am_hp I J E) = some (true, some (.int v), am_hp I1 J1 E1) := e1
  have e2 : am_ev (false, N, xs) (99, 262, 0, [some (.ref 156), some (.int (xs (i + Int32.ofInt 1).toNatClampNeg))], [], am_hp I1 J1 E1) = some (true, some (.int v), am_hp I2 J2 E2) := e2
  refine ⟨x5, x6, I2, J2, E2, hr2, ?_⟩
  refine lr_s (t := (100, 304, 935, [some (.ref 60000), some (.ref 0), some (.ref 156), some (.ref 178), some (.int i), x5, x6], [.ref 0], am_hp I J E)) rfl ?_
  refine lr_s (t := (100, 304, 936, [some (.ref 60000), some (.ref 0), some (.ref 156), some (.ref 178), some (.int i), x5, x6], [.ref 60000, .ref 0], am_hp I J E)) rfl ?_
  refine lr_s (t := (100, 304, 938, [some (.ref 60000), some (.ref 0), some (.ref 156), some (.ref 178), some (.int i), x5, x6], [.int i, .ref 60000, .ref 0], am_hp I J E)) rfl ?_
  refine lr_s (t := (100, 304, 939, [some (.ref 60000), some (.ref 0), some (.ref 156), some (.ref 178), some (.int i), x5, x6], [.int (Int32.ofInt 1), .int i, .ref 60000, .ref 0], am_hp I J E)) rfl ?_
  refine lr_s (t := (100, 304, 940, [some (.ref 60000), some (.ref 0), some (.ref 156), some (.ref 178), some (.int i), x5, x6], [.int (i + Int32.ofInt 1), .ref 60000, .ref 0], am_hp I J E)) rfl ?_
  refine lr_g (t := (100, 304, 941, [some (.ref 60000), some (.ref 0), some (.ref 156), some (.ref 178), some (.int i), x5, x6], [.int (xs (i + Int32.ofInt 1).toNatClampNeg), .ref 0], am_hp I J E)) g.1 rfl ?_
  refine lr_c (s1 := (99, 154, 0, [some (.ref 0), some (.int (xs (i + Int32.ofInt 1).toNatClampNeg))], [], am_hp I J E)) (t := (100, 304, 944, [some (.ref 60000), some (.ref 0), some (.ref 156), some (.ref 178), some (.int i), x5, x6], [.int v], am_hp I1 J1 E1)) e1 rfl rfl ?_
  refine lr_s (t := (100, 304, 945, [some (.ref 60000), some (.ref 0), some (.ref 156), some (.ref 178), some (.int i), x5, x6], [.ref 156, .int v], am_hp I1 J1 E1)) rfl ?_
  refine lr_s (t := (100, 304, 946, [some (.ref 60000), some (.ref 0), some (.ref 156), some (.ref 178), some (.int i), x5, x6], [.ref 60000, .ref 156, .int v], am_hp I1 J1 E1)) rfl ?_
  refine lr_s (t := (100, 304, 948, [some (.ref 60000), some (.ref 0), some (.ref 156), some (.ref 178), some (.int i), x5, x6], [.int i, .ref 60000, .ref 156, .int v], am_hp I1 J1 E1)) rfl ?_
  refine lr_s (t := (100, 304, 949, [some (.ref 60000), some (.ref 0), some (.ref 156), some (.ref 178), some (.int i), x5, x6], [.int (Int32.ofInt 1), .int i, .ref 60000, .ref 156, .int v], am_hp I1 J1 E1)) rfl ?_
  refine lr_s (t := (100, 304, 950, [some (.ref 60000), some (.ref 0), some (.ref 156), some (.ref 178), some (.int i), x5, x6], [.int (i + Int32.ofInt 1), .ref 60000, .ref 156, .int v], am_hp I1 J1 E1)) rfl ?_
  refine lr_g (t := (100, 304, 951, [some (.ref 60000), some (.ref 0), some (.ref 156), some (.ref 178), some (.int i), x5, x6], [.int (xs (i + Int32.ofInt 1).toNatClampNeg), .ref 156, .int v], am_hp I1 J1 E1)) g.1 rfl ?_
  refine lr_c (s1 := (99, 262, 0, [some (.ref 156), some (.int (xs (i + Int32.ofInt 1).toNatClampNeg))], [], am_hp I1 J1 E1)) (t := (100, 304, 954, [some (.ref 60000), some (.ref 0), some (.ref 156), some (.ref 178), some (.int i), x5, x6], [.int v, .int v], am_hp I2 J2 E2)) e2 rfl rfl ?_
  exact lr_b (t := (100, 304, 1338, [some (.ref 60000), some (.ref 0), some (.ref 156), some (.ref 178), some (.int i), x5, x6], [], am_hp I2 J2 E2)) (t' := (100, 304, 957, [some (.ref 60000), some (.ref 0), some (.ref 156), some (.ref 178), some (.int i), x5, x6], [], am_hp I2 J2 E2)) (decide_eq_true (rfl : v = v)) rfl lr_e
set_option maxRecDepth 20000 in
theorem lw_29 (N : Nat) (xs : Nat → Int32) (i : Int32) (g : gI i N) : lwS N xs i 1027 := by
  intro x5 x6 I J E hrel
  obtain ⟨v, I1, J1, E1, I2, J2, E2, e1, e2, hr2⟩ := rl_slip (false, N, xs) 39 I J E hrel (xs (i + Int32.ofInt 1).toNatClampNeg)
  have e1 : am_ev (false, N, xs) (99, 155, 0, [some (.ref 0), some (.int (xs (i + Int32.ofInt 1).toNatClampNeg)), none], [], am_hp I J E) = some (true, some (.int v), am_hp I1 J1 E1) := e1
  have e2 : am_ev (false, N, xs) (99, 269, 0, [some (.ref 156), some (.int (xs (i + Int32.ofInt 1).toNatClampNeg))], [], am_hp I1 J1 E1) = some (true, some (.int v), am_hp I2 J2 E2) := e2
  refine ⟨x5, x6, I2, J2, E2, hr2, ?_⟩
  refine lr_s (t := (100, 304, 1028, [some (.ref 60000), some (.ref 0), some (.ref 156), some (.ref 178), some (.int i), x5, x6], [.ref 0], am_hp I J E)) rfl ?_
  refine lr_s (t := (100, 304, 1029, [some (.ref 60000), some (.ref 0), some (.ref 156), some (.ref 178), some (.int i), x5, x6], [.ref 60000, .ref 0], am_hp I J E)) rfl ?_
  refine lr_s (t := (100, 304, 1031, [some (.ref 60000), some (.ref 0), some (.ref 156), some (.ref 178), some (.int i), x5, x6], [.int i, .ref 60000, .ref 0], am_hp I J E)) rfl ?_
  refine lr_s (t := (100, 304, 1032, [some (.ref 60000), some (.ref 0), some (.ref 156), some (.ref 178), some (.int i), x5, x6], [.int (Int32.ofInt 1), .int i, .ref 60000, .ref 0], am_hp I J E)) rfl ?_
  refine lr_s (t := (100, 304, 1033, [some (.ref 60000), some (.ref 0), some (.ref 156), some (.ref 178), some (.int i), x5, x6], [.int (i + Int32.ofInt 1), .ref 60000, .ref 0], am_hp I J E)) rfl ?_
  refine lr_g (t := (100, 304, 1034, [some (.ref 60000), some (.ref 0), some (.ref 156), some (.ref 178), some (.int i), x5, x6], [.int (xs (i + Int32.ofInt 1).toNatClampNeg), .ref 0], am_hp I J E)) g.1 rfl ?_
  refine lr_c (s1 := (99, 155, 0, [some (.ref 0), some (.int (xs (i + Int32.ofInt 1).toNatClampNeg)), none], [], am_hp I J E)) (t := (100, 304, 1037, [some (.ref 60000), some (.ref 0), some (.ref 156), some (.ref 178), some (.int i), x5, x6], [.int v], am_hp I1 J1 E1)) e1 rfl rfl ?_
  refine lr_s (t := (100, 304, 1038, [some (.ref 60000), some (.ref 0), some (.ref 156), some (.ref 178), some (.int i), x5, x6], [.ref 156, .int v], am_hp I1 J1 E1)) rfl ?_
  refine lr_s (t := (100, 304, 1039, [some (.ref 60000), some (.ref 0), some (.ref 156), some (.ref 178), some (.int i), x5, x6], [.ref 60000, .ref 156, .int v], am_hp I1 J1 E1)) rfl ?_
  refine lr_s (t := (100, 304, 1041, [some (.ref 60000), some (.ref 0), some (.ref 156), some (.ref 178), some (.int i), x5, x6], [.int i, .ref 60000, .ref 156, .int v], am_hp I1 J1 E1)) rfl ?_
  refine lr_s (t := (100, 304, 1042, [some (.ref 60000), some (.ref 0), some (.ref 156), some (.ref 178), some (.int i), x5, x6], [.int (Int32.ofInt 1), .int i, .ref 60000, .ref 156, .int v], am_hp I1 J1 E1)) rfl ?_
  refine lr_s (t := (100, 304, 1043, [some (.ref 60000), some (.ref 0), some (.ref 156), some (.ref 178), some (.int i), x5, x6], [.int (i + Int32.ofInt 1), .ref 60000, .ref 156, .int v], am_hp I1 J1 E1)) rfl ?_
  refine lr_g (t := (100, 304, 1044, [some (.ref 60000), some (.ref 0), some (.ref 156), some (.ref 178), some (.int i), x5, x6], [.int (xs (i + Int32.ofInt 1).toNatClampNeg), .ref 156, .int v], am_hp I1 J1 E1)) g.1 rfl ?_
  refine lr_c (s1 := (99, 269, 0, [some (.ref 156), some (.int (xs (i + Int32.ofInt 1).toNatClampNeg))], [], am_hp I1 J1 E1)) (t := (100, 304, 1047, [some (.ref 60000), some (.ref 0), some (.ref 156), some (.ref 178), some (.int i), x5, x6], [.int v, .int v], am_hp I2 J2 E2)) e2 rfl rfl ?_
  exact lr_b (t := (100, 304, 1338, [some (.ref 60000), some (.ref 0), some (.ref 156), some (.ref 178), some (.int i), x5, x6], [], am_hp I2 J2 E2)) (t' := (100, 304, 1050, [some (.ref 60000), some (.ref 0), some (.ref 156), some (.ref 178), some (.int i), x5, x6], [], am_hp I2 J2 E2)) (decide_eq_true (rfl : v = v)) rfl lr_e
set_option maxRecDepth 20000 in
theorem lw_30 (N : Nat) (xs : Nat → Int32) (i : Int32) (g : gI i N) : lwS N xs i 1052 := by
  intro x5 x6 I J E hrel
  obtain ⟨v, I1, J1, E1, I2, J2, E2, e1, e2, hr2⟩ := rl_byteAt (false, N, xs) 39 I J E hrel (xs (i + Int32.ofInt 1).toNatClampNeg)
  have e1 : am_ev (false, N, xs) (99, 156, 0, [some (.ref 0), some (.int (xs (i + Int32.ofInt 1).toNatClampNeg))], [], am_hp I J E) = some (true, some (.int v), am_hp I1 J1 E1) := e1
  have e2 : am_ev (false, N, xs) (99, 270, 0, [some (.ref 156), some (.int (xs (i + Int32.ofInt 1).toNatClampNeg))], [], am_hp I1 J1 E1) = some (true, some (.int v), am_hp I2 J2 E2) := e2
  refine ⟨x5, x6, I2, J2, E2, hr2, ?_⟩
  refine lr_s (t := (100, 304, 1053, [some (.ref 60000), some (.ref 0), some (.ref 156), some (.ref 178), some (.int i), x5, x6], [.ref 0], am_hp I J E)) rfl ?_
  refine lr_s (t := (100, 304, 1054, [some (.ref 60000), some (.ref 0), some (.ref 156), some (.ref 178), some (.int i), x5, x6], [.ref 60000, .ref 0], am_hp I J E)) rfl ?_
  refine lr_s (t := (100, 304, 1056, [some (.ref 60000), some (.ref 0), some (.ref 156), some (.ref 178), some (.int i), x5, x6], [.int i, .ref 60000, .ref 0], am_hp I J E)) rfl ?_
  refine lr_s (t := (100, 304, 1057, [some (.ref 60000), some (.ref 0), some (.ref 156), some (.ref 178), some (.int i), x5, x6], [.int (Int32.ofInt 1), .int i, .ref 60000, .ref 0], am_hp I J E)) rfl ?_
  refine lr_s (t := (100, 304, 1058, [some (.ref 60000), some (.ref 0), some (.ref 156), some (.ref 178), some (.int i), x5, x6], [.int (i + Int32.ofInt 1), .ref 60000, .ref 0], am_hp I J E)) rfl ?_
  refine lr_g (t := (100, 304, 1059, [some (.ref 60000), some (.ref 0), some (.ref 156), some (.ref 178), some (.int i), x5, x6], [.int (xs (i + Int32.ofInt 1).toNatClampNeg), .ref 0], am_hp I J E)) g.1 rfl ?_
  refine lr_c (s1 := (99, 156, 0, [some (.ref 0), some (.int (xs (i + Int32.ofInt 1).toNatClampNeg))], [], am_hp I J E)) (t := (100, 304, 1062, [some (.ref 60000), some (.ref 0), some (.ref 156), some (.ref 178), some (.int i), x5, x6], [.int v], am_hp I1 J1 E1)) e1 rfl rfl ?_
  refine lr_s (t := (100, 304, 1063, [some (.ref 60000), some (.ref 0), some (.ref 156), some (.ref 178), some (.int i), x5, x6], [.ref 156, .int v], am_hp I1 J1 E1)) rfl ?_
  refine lr_s (t := (100, 304, 1064, [some (.ref 60000), some (.ref 0), some (.ref 156), some (.ref 178), some (.int i), x5, x6], [.ref 60000, .ref 156, .int v], am_hp I1 J1 E1)) rfl ?_
  refine lr_s (t := (100, 304, 1066, [some (.ref 60000), some (.ref 0), some (.ref 156), some (.ref 178), some (.int i), x5, x6], [.int i, .ref 60000, .ref 156, .int v], am_hp I1 J1 E1)) rfl ?_
  refine lr_s (t := (100, 304, 1067, [some (.ref 60000), some (.ref 0), some (.ref 156), some (.ref 178), some (.int i), x5, x6], [.int (Int32.ofInt 1), .int i, .ref 60000, .ref 156, .int v], am_hp I1 J1 E1)) rfl ?_
  refine lr_s (t := (100, 304, 1068, [some (.ref 60000), some (.ref 0), some (.ref 156), some (.ref 178), some (.int i), x5, x6], [.int (i + Int32.ofInt 1), .ref 60000, .ref 156, .int v], am_hp I1 J1 E1)) rfl ?_
  refine lr_g (t := (100, 304, 1069, [some (.ref 60000), some (.ref 0), some (.ref 156), some (.ref 178), some (.int i), x5, x6], [.int (xs (i + Int32.ofInt 1).toNatClampNeg), .ref 156, .int v], am_hp I1 J1 E1)) g.1 rfl ?_
  refine lr_c (s1 := (99, 270, 0, [some (.ref 156), some (.int (xs (i + Int32.ofInt 1).toNatClampNeg))], [], am_hp I1 J1 E1)) (t := (100, 304, 1072, [some (.ref 60000), some (.ref 0), some (.ref 156), some (.ref 178), some (.int i), x5, x6], [.int v, .int v], am_hp I2 J2 E2)) e2 rfl rfl ?_
  exact lr_b (t := (100, 304, 1338, [some (.ref 60000), some (.ref 0), some (.ref 156), some (.ref 178), some (.int i), x5, x6], [], am_hp I2 J2 E2)) (t' := (100, 304, 1075, [some (.ref 60000), some (.ref 0), some (.ref 156), some (.ref 178), some (.int i), x5, x6], [], am_hp I2 J2 E2)) (decide_eq_true (rfl : v = v)) rfl lr_e
set_option maxRecDepth 20000 in
theorem lw_31 (N : Nat) (xs : Nat → Int32) (i : Int32) (g : gI i N) : lwS N xs i 1077 := by
  intro x5 x6 I J E hrel
  obtain ⟨v, I1, J1, E1, I2, J2, E2, e1, e2, hr2⟩ := rl_drawn (false, N, xs) 39 I J E hrel (xs (i + Int32.ofInt 1).toNatClampNeg) (xs (i + Int32.ofInt 2).toNatClampNeg)
  have e1 : am_ev (false, N, xs) (99, 131, 0, [some (.ref 0), some (.int (xs (i + Int32.ofInt 1).toNatClampNeg)), some (.int (xs (i + Int32.ofInt 2).toNatClampNeg))], [], am_hp I J E) = some (true, some (.int v), am_hp I1 J1 E1) := e1
  have e2 : am_ev (false, N, xs) (99, 275, 0, [some (.ref 156), some (.int (xs (i + Int32.ofInt 1).toNatClampNeg)), some (.int (xs (i + Int32.ofInt 2).toNatClampNeg))], [], am_hp I1 J1 E1) = some (true, some (.int v), am_hp I2 J2 E2) := e2
  refine ⟨x5, x6, I2, J2, E2, hr2, ?_⟩
  refine lr_s (t := (100, 304, 1078, [some (.ref 60000), some (.ref 0), some (.ref 156), some (.ref 178), some (.int i), x5, x6], [.ref 0], am_hp I J E)) rfl ?_
  refine lr_s (t := (100, 304, 1079, [some (.ref 60000), some (.ref 0), some (.ref 156), some (.ref 178), some (.int i), x5, x6], [.ref 60000, .ref 0], am_hp I J E)) rfl ?_
  refine lr_s (t := (100, 304, 1081, [some (.ref 60000), some (.ref 0), some (.ref 156), some (.ref 178), some (.int i), x5, x6], [.int i, .ref 60000, .ref 0], am_hp I J E)) rfl ?_
  refine lr_s (t := (100, 304, 1082, [some (.ref 60000), some (.ref 0), some (.ref 156), some (.ref 178), some (.int i), x5, x6], [.int (Int32.ofInt 1), .int i, .ref 60000, .ref 0], am_hp I J E)) rfl ?_
  refine lr_s (t := (100, 304, 1083, [some (.ref 60000), some (.ref 0), some (.ref 156), some (.ref 178), some (.int i), x5, x6], [.int (i + Int32.ofInt 1), .ref 60000, .ref 0], am_hp I J E)) rfl ?_
  refine lr_g (t := (100, 304, 1084, [some (.ref 60000), some (.ref 0), some (.ref 156), some (.ref 178), some (.int i), x5, x6], [.int (xs (i + Int32.ofInt 1).toNatClampNeg), .ref 0], am_hp I J E)) g.1 rfl ?_
  refine lr_s (t := (100, 304, 1085, [some (.ref 60000), some (.ref 0), some (.ref 156), some (.ref 178), some (.int i), x5, x6], [.ref 60000, .int (xs (i + Int32.ofInt 1).toNatClampNeg), .ref 0], am_hp I J E)) rfl ?_
  refine lr_s (t := (100, 304, 1087, [some (.ref 60000), some (.ref 0), some (.ref 156), some (.ref 178), some (.int i), x5, x6], [.int i, .ref 60000, .int (xs (i + Int32.ofInt 1).toNatClampNeg), .ref 0], am_hp I J E)) rfl ?_
  refine lr_s (t := (100, 304, 1088, [some (.ref 60000), some (.ref 0), some (.ref 156), some (.ref 178), some (.int i), x5, x6], [.int (Int32.ofInt 2), .int i, .ref 60000, .int (xs (i + Int32.ofInt 1).toNatClampNeg), .ref 0], am_hp I J E)) rfl ?_
  refine lr_s (t := (100, 304, 1089, [some (.ref 60000), some (.ref 0), some (.ref 156), some (.ref 178), some (.int i), x5, x6], [.int (i + Int32.ofInt 2), .ref 60000, .int (xs (i + Int32.ofInt 1).toNatClampNeg), .ref 0], am_hp I J E)) rfl ?_
  refine lr_g (t := (100, 304, 1090, [some (.ref 60000), some (.ref 0), some (.ref 156), some (.ref 178), some (.int i), x5, x6], [.int (xs (i + Int32.ofInt 2).toNatClampNeg), .int (xs (i + Int32.ofInt 1).toNatClampNeg), .ref 0], am_hp I J E)) g.2.1 rfl ?_
  refine lr_c (s1 := (99, 131, 0, [some (.ref 0), some (.int (xs (i + Int32.ofInt 1).toNatClampNeg)), some (.int (xs (i + Int32.ofInt 2).toNatClampNeg))], [], am_hp I J E)) (t := (100, 304, 1093, [some (.ref 60000), some (.ref 0), some (.ref 156), some (.ref 178), some (.int i), x5, x6], [.int v], am_hp I1 J1 E1)) e1 rfl rfl ?_
  refine lr_s (t := (100, 304, 1094, [some (.ref 60000), some (.ref 0), some (.ref 156), some (.ref 178), some (.int i), x5, x6], [.ref 156, .int v], am_hp I1 J1 E1)) rfl ?_
  refine lr_s (t := (100, 304, 1095, [some (.ref 60000), some (.ref 0), some (.ref 156), some (.ref 178), some (.int i), x5, x6], [.ref 60000, .ref 156, .int v], am_hp I1 J1 E1)) rfl ?_
  refine lr_s (t := (100, 304, 1097, [some (.ref 60000), some (.ref 0), some (.ref 156), some (.ref 178), some (.int i), x5, x6], [.int i, .ref 60000, .ref 156, .int v], am_hp I1 J1 E1)) rfl ?_
  refine lr_s (t := (100, 304, 1098, [some (.ref 60000), some (.ref 0), some (.ref 156), some (.ref 178), some (.int i), x5, x6], [.int (Int32.ofInt 1), .int i, .ref 60000, .ref 156, .int v], am_hp I1 J1 E1)) rfl ?_
  refine lr_s (t := (100, 304, 1099, [some (.ref 60000), some (.ref 0), some (.ref 156), some (.ref 178), some (.int i), x5, x6], [.int (i + Int32.ofInt 1), .ref 60000, .ref 156, .int v], am_hp I1 J1 E1)) rfl ?_
  refine lr_g (t := (100, 304, 1100, [some (.ref 60000), some (.ref 0), some (.ref 156), some (.ref 178), some (.int i), x5, x6], [.int (xs (i + Int32.ofInt 1).toNatClampNeg), .ref 156, .int v], am_hp I1 J1 E1)) g.1 rfl ?_
  refine lr_s (t := (100, 304, 1101, [some (.ref 60000), some (.ref 0), some (.ref 156), some (.ref 178), some (.int i), x5, x6], [.ref 60000, .int (xs (i + Int32.ofInt 1).toNatClampNeg), .ref 156, .int v], am_hp I1 J1 E1)) rfl ?_
  refine lr_s (t := (100, 304, 1103, [some (.ref 60000), some (.ref 0), some (.ref 156), some (.ref 178), some (.int i), x5, x6], [.int i, .ref 60000, .int (xs (i + Int32.ofInt 1).toNatClampNeg), .ref 156, .int v], am_hp I1 J1 E1)) rfl ?_
  refine lr_s (t := (100, 304, 1104, [some (.ref 60000), some (.ref 0), some (.ref 156), some (.ref 178), some (.int i), x5, x6], [.int (Int32.ofInt 2), .int i, .ref 60000, .int (xs (i + Int32.ofInt 1).toNatClampNeg), .ref 156, .int v], am_hp I1 J1 E1)) rfl ?_
  refine lr_s (t := (100, 304, 1105, [some (.ref 60000), some (.ref 0), some (.ref 156), some (.ref 178), some (.int i), x5, x6], [.int (i + Int32.ofInt 2), .ref 60000, .int (xs (i + Int32.ofInt 1).toNatClampNeg), .ref 156, .int v], am_hp I1 J1 E1)) rfl ?_
  refine lr_g (t := (100, 304, 1106, [some (.ref 60000), some (.ref 0), some (.ref 156), some (.ref 178), some (.int i), x5, x6], [.int (xs (i + Int32.ofInt 2).toNatClampNeg), .int (xs (i + Int32.ofInt 1).toNatClampNeg), .ref 156, .int v], am_hp I1 J1 E1)) g.2.1 rfl ?_
  refine lr_c (s1 := (99, 275, 0, [some (.ref 156), some (.int (xs (i + Int32.ofInt 1).toNatClampNeg)), some (.int (xs (i + Int32.ofInt 2).toNatClampNeg))], [], am_hp I1 J1 E1)) (t := (100, 304, 1109, [some (.ref 60000), some (.ref 0), some (.ref 156), some (.ref 178), some (.int i), x5, x6], [.int v, .int v], am_hp I2 J2 E2)) e2 rfl rfl ?_
  exact lr_b (t := (100, 304, 1338, [some (.ref 60000), some (.ref 0), some (.ref 156), some (.ref 178), some (.int i), x5, x6], [], am_hp I2 J2 E2)) (t' := (100, 304, 1112, [some (.ref 60000), some (.ref 0), some (.ref 156), some (.ref 178), some (.int i), x5, x6], [], am_hp I2 J2 E2)) (decide_eq_true (rfl : v = v)) rfl lr_e
set_option maxRecDepth 20000 in
theorem lw_32 (N : Nat) (xs : Nat → Int32) (i : Int32) (g : gI i N) : lwS N xs i 1114 := by
  intro x5 x6 I J E hrel
  obtain ⟨v, I1, J1, E1, I2, J2, E2, e1, e2, hr2⟩ := rl_odds (false, N, xs) 39 I J E hrel (xs (i + Int32.ofInt 1).toNatClampNeg) (xs (i + Int32.ofInt 2).toNatClampNeg) (xs (i + Int32.ofInt 3).toNatClampNeg) (xs (i + Int32.ofInt 4).toNatClampNeg)
  have e1 : am_ev (false, N, xs) (99, 161, 0, [some (.ref 0), some (.int (xs (i + Int32.ofInt 1).toNatClampNeg)), some (.int (xs (i + Int32.ofInt 2).toNatClampNeg)), some (.int (xs (i + Int32.ofInt 3).toNatClampNeg)), some (.int (xs (i + Int32.ofInt 4).toNatClampNeg)), none, none, none], [], am_hp I J E) = some (true, some (.int v), am_hp I1 J1 E1) := e1
  have e2 : am_ev (false, N, xs) (99, 278, 0, [some (.ref 156), some (.int (xs (i + Int32.ofInt 1).toNatClampNeg)), some (.int (xs (i + Int32.ofInt 2).toNatClampNeg)), some (.int (xs (i + Int32.ofInt 3).toNatClampNeg)), some (.int (xs (i + Int32.ofInt 4).toNatClampNeg)), none, none], [], am_hp I1 J1 E1) = some (true, some (.int v), am_hp I2 J2 E2) := e2
  refine ⟨x5, x6, I2, J2, E2, hr2, ?_⟩
  refine lr_s (t := (100, 304, 1115, [some (.ref 60000), some (.ref 0), some (.ref 156), some (.ref 178), some (.int i), x5, x6], [.ref 0], am_hp I J E)) rfl ?_
  refine lr_s (t := (100, 304, 1116, [some (.ref 60000), some (.ref 0), some (.ref 156), some (.ref 178), some (.int i), x5, x6], [.ref 60000, .ref 0], am_hp I J E)) rfl ?_
  refine lr_s (t := (100, 304, 1118, [some (.ref 60000), some (.ref 0), some (.ref 156), some (.ref 178), some (.int i), x5, x6], [.int i, .ref 60000, .ref 0], am_hp I J E)) rfl ?_
  refine lr_s (t := (100, 304, 1119, [some (.ref 60000), some (.ref 0), some (.ref 156), some (.ref 178), some (.int i), x5, x6], [.int (Int32.ofInt 1), .int i, .ref 60000, .ref 0], am_hp I J E)) rfl ?_
  refine lr_s (t := (100, 304, 1120, [some (.ref 60000), some (.ref 0), some (.ref 156), some (.ref 178), some (.int i), x5, x6], [.int (i + Int32.ofInt 1), .ref 60000, .ref 0], am_hp I J E)) rfl ?_
  refine lr_g (t := (100, 304, 1121, [some (.ref 60000), some (.ref 0), some (.ref 156), some (.ref 178), some (.int i), x5, x6], [.int (xs (i + Int32.ofInt 1).toNatClampNeg), .ref 0], am_hp I J E)) g.1 rfl ?_
  refine lr_s (t := (100, 304, 1122, [some (.ref 60000), some (.ref 0), some (.ref 156), some (.ref 178), some (.int i), x5, x6], [.ref 60000, .int (xs (i + Int32.ofInt 1).toNatClampNeg), .ref 0], am_hp I J E)) rfl ?_
  refine lr_s (t := (100, 304, 1124, [some (.ref 60000), some (.ref 0), some (.ref 156), some (.ref 178), some (.int i), x5, x6], [.int i, .ref 60000, .int (xs (i + Int32.ofInt 1).toNatClampNeg), .ref 0], am_hp I J E)) rfl ?_
  refine lr_s (t := (100, 304, 1125, [some (.ref 60000), some (.ref 0), some (.ref 156), some (.ref 178), some (.int i), x5, x6], [.int (Int32.ofInt 2), .int i, .ref 60000, .int (xs (i + Int32.ofInt 1).toNatClampNeg), .ref 0], am_hp I J E)) rfl ?_
  refine lr_s (t := (100, 304, 1126, [some (.ref 60000), some (.ref 0), some (.ref 156), some (.ref 178), some (.int i), x5, x6], [.int (i + Int32.ofInt 2), .ref 60000, .int (xs (i + Int32.ofInt 1).toNatClampNeg), .ref 0], am_hp I J E)) rfl ?_
  refine lr_g (t := (100, 304, 1127, [some (.ref 60000), some (.ref 0), some (.ref 156), some (.ref 178), some (.int i), x5, x6], [.int (xs (i + Int32.ofInt 2).toNatClampNeg), .int (xs (i + Int32.ofInt 1).toNatClampNeg), .ref 0], am_hp I J E)) g.2.1 rfl ?_
  refine lr_s (t := (100, 304, 1128, [some (.ref 60000), some (.ref 0), some (.ref 156), some (.ref 178), some (.int i), x5, x6], [.ref 60000, .int (xs (i + Int32.ofInt 2).toNatClampNeg), .int (xs (i + Int32.ofInt 1).toNatClampNeg), .ref 0], am_hp I J E)) rfl ?_
  refine lr_s (t := (100, 304, 1130, [some (.ref 60000), some (.ref 0), some (.ref 156), some (.ref 178), some (.int i), x5, x6], [.int i, .ref 60000, .int (xs (i + Int32.ofInt 2).toNatClampNeg), .int (xs (i + Int32.ofInt 1).toNatClampNeg), .ref 0], am_hp I J E)) rfl ?_
  refine lr_s (t := (100, 304, 1131, [some (.ref 60000), some (.ref 0), some (.ref 156), some (.ref 178), some (.int i), x5, x6], [.int (Int32.ofInt 3), .int i, .ref 60000, .int (xs (i + Int32.ofInt 2).toNatClampNeg), .int (xs (i + Int32.ofInt 1).toNatClampNeg), .ref 0], am_hp I J E)) rfl ?_
  refine lr_s (t := (100, 304, 1132, [some (.ref 60000), some (.ref 0), some (.ref 156), some (.ref 178), some (.int i), x5, x6], [.int (i + Int32.ofInt 3), .ref 60000, .int (xs (i + Int32.ofInt 2).toNatClampNeg), .int (xs (i + Int32.ofInt 1).toNatClampNeg), .ref 0], am_hp I J E)) rfl ?_
  refine lr_g (t := (100, 304, 1133, [some (.ref 60000), some (.ref 0), some (.ref 156), some (.ref 178), some (.int i), x5, x6], [.int (xs (i + Int32.ofInt 3).toNatClampNeg), .int (xs (i + Int32.ofInt 2).toNatClampNeg), .int (xs (i + Int32.ofInt 1).toNatClampNeg), .ref 0], am_hp I J E)) g.2.2.1 rfl ?_
  refine lr_s (t := (100, 304, 1134, [some (.ref 60000), some (.ref 0), some (.ref 156), some (.ref 178), some (.int i), x5, x6], [.ref 60000, .int (xs (i + Int32.ofInt 3).toNatClampNeg), .int (xs (i + Int32.ofInt 2).toNatClampNeg), .int (xs (i + Int32.ofInt 1).toNatClampNeg), .ref 0], am_hp I J E)) rfl ?_
  refine lr_s (t := (100, 304, 1136, [some (.ref 60000), some (.ref 0), some (.ref 156), some (.ref 178), some (.int i), x5, x6], [.int i, .ref 60000, .int (xs (i + Int32.ofInt 3).toNatClampNeg), .int (xs (i + Int32.ofInt 2).toNatClampNeg), .int (xs (i + Int32.ofInt 1).toNatClampNeg), .ref 0], am_hp I J E)) rfl ?_
  refine lr_s (t := (100, 304, 1137, [some (.ref 60000), some (.ref 0), some (.ref 156), some (.ref 178), some (.int i), x5, x6], [.int (Int32.ofInt 4), .int i, .ref 60000, .int (xs (i + Int32.ofInt 3).toNatClampNeg), .int (xs (i + Int32.ofInt 2).toNatClampNeg), .int (xs (i + Int32.ofInt 1).toNatClampNeg), .ref 0], am_hp I J E)) rfl ?_
  refine lr_s (t := (100, 304, 1138, [some (.ref 60000), some (.ref 0), some (.ref 156), some (.ref 178), some (.int i), x5, x6], [.int (i + Int32.ofInt 4), .ref 60000, .int (xs (i + Int32.ofInt 3).toNatClampNeg), .int (xs (i + Int32.ofInt 2).toNatClampNeg), .int (xs (i + Int32.ofInt 1).toNatClampNeg), .ref 0], am_hp I J E)) rfl ?_
  refine lr_g (t := (100, 304, 1139, [some (.ref 60000), some (.ref 0), some (.ref 156), some (.ref 178), some (.int i), x5, x6], [.int (xs (i + Int32.ofInt 4).toNatClampNeg), .int (xs (i + Int32.ofInt 3).toNatClampNeg), .int (xs (i + Int32.ofInt 2).toNatClampNeg), .int (xs (i + Int32.ofInt 1).toNatClampNeg), .ref 0], am_hp I J E)) g.2.2.2.1 rfl ?_
  refine lr_c (s1 := (99, 161, 0, [some (.ref 0), some (.int (xs (i + Int32.ofInt 1).toNatClampNeg)), some (.int (xs (i + Int32.ofInt 2).toNatClampNeg)), some (.int (xs (i + Int32.ofInt 3).toNatClampNeg)), some (.int (xs (i + Int32.ofInt 4).toNatClampNeg)), none, none, none], [], am_hp I J E)) (t := (100, 304, 1142, [some (.ref 60000), some (.ref 0), some (.ref 156), some (.ref 178), some (.int i), x5, x6], [.int v], am_hp I1 J1 E1)) e1 rfl rfl ?_
  refine lr_s (t := (100, 304, 1143, [some (.ref 60000), some (.ref 0), some (.ref 156), some (.ref 178), some (.int i), x5, x6], [.ref 156, .int v], am_hp I1 J1 E1)) rfl ?_
  refine lr_s (t := (100, 304, 1144, [some (.ref 60000), some (.ref 0), some (.ref 156), some (.ref 178), some (.int i), x5, x6], [.ref 60000, .ref 156, .int v], am_hp I1 J1 E1)) rfl ?_
  refine lr_s (t := (100, 304, 1146, [some (.ref 60000), some (.ref 0), some (.ref 156), some (.ref 178), some (.int i), x5, x6], [.int i, .ref 60000, .ref 156, .int v], am_hp I1 J1 E1)) rfl ?_
  refine lr_s (t := (100, 304, 1147, [some (.ref 60000), some (.ref 0), some (.ref 156), some (.ref 178), some (.int i), x5, x6], [.int (Int32.ofInt 1), .int i, .ref 60000, .ref 156, .int v], am_hp I1 J1 E1)) rfl ?_
  refine lr_s (t := (100, 304, 1148, [some (.ref 60000), some (.ref 0), some (.ref 156), some (.ref 178), some (.int i), x5, x6], [.int (i + Int32.ofInt 1), .ref 60000, .ref 156, .int v], am_hp I1 J1 E1)) rfl ?_
  refine lr_g (t := (100, 304, 1149, [some (.ref 60000), some (.ref 0), some (.ref 156), some (.ref 178), some (.int i), x5, x6], [.int (xs (i + Int32.ofInt 1).toNatClampNeg), .ref 156, .int v], am_hp I1 J1 E1)) g.1 rfl ?_
  refine lr_s (t := (100, 304, 1150, [some (.ref 60000), some (.ref 0), some (.ref 156), some (.ref 178), some (.int i), x5, x6], [.ref 60000, .int (xs (i + Int32.ofInt 1).toNatClampNeg), .ref 156, .int v], am_hp I1 J1 E1)) rfl ?_
  refine lr_s (t := (100, 304, 1152, [some (.ref 60000), some (.ref 0), some (.ref 156), some (.ref 178), some (.int i), x5, x6], [.int i, .ref 60000, .int (xs (i + Int32.ofInt 1).toNatClampNeg), .ref 156, .int v], am_hp I1 J1 E1)) rfl ?_
  refine lr_s (t := (100, 304, 1153, [some (.ref 60000), some (.ref 0), some (.ref 156), some (.ref 178), some (.int i), x5, x6], [.int (Int32.ofInt 2), .int i, .ref 60000, .int (xs (i + Int32.ofInt 1).toNatClampNeg), .ref 156, .int v], am_hp I1 J1 E1)) rfl ?_
  refine lr_s (t := (100, 304, 1154, [some (.ref 60000), some (.ref 0), some (.ref 156), some (.ref 178), some (.int i), x5, x6], [.int (i + Int32.ofInt 2), .ref 60000, .int (xs (i + Int32.ofInt 1).toNatClampNeg), .ref 156, .int v], am_hp I1 J1 E1)) rfl ?_
  refine lr_g (t := (100, 304, 1155, [some (.ref 60000), some (.ref 0), some (.ref 156), some (.ref 178), some (.int i), x5, x6], [.int (xs (i + Int32.ofInt 2).toNatClampNeg), .int (xs (i + Int32.ofInt 1).toNatClampNeg), .ref 156, .int v], am_hp I1 J1 E1)) g.2.1 rfl ?_
  refine lr_s (t := (100, 304, 1156, [some (.ref 60000), some (.ref 0), some (.ref 156), some (.ref 178), some (.int i), x5, x6], [.ref 60000, .int (xs (i + Int32.ofInt 2).toNatClampNeg), .int (xs (i + Int32.ofInt 1).toNatClampNeg), .ref 156, .int v], am_hp I1 J1 E1)) rfl ?_
  refine lr_s (t := (100, 304, 1158, [some (.ref 60000), some (.ref 0), some (.ref 156), some (.ref 178), some (.int i), x5, x6], [.int i, .ref 60000, .int (xs (i + Int32.ofInt 2).toNatClampNeg), .int (xs (i + Int32.ofInt 1).toNatClampNeg), .ref 156, .int v], am_hp I1 J1 E1)) rfl ?_
  refine lr_s (t := (100, 304, 1159, [some (.ref 60000), some (.ref 0), some (.ref 156), some (.ref 178), some (.int i), x5, x6], [.int (Int32.ofInt 3), .int i, .ref 60000, .int (xs (i + Int32.ofInt 2).toNatClampNeg), .int (xs (i + Int32.ofInt 1).toNatClampNeg), .ref 156, .int v], am_hp I1 J1 E1)) rfl ?_
  refine lr_s (t := (100, 304, 1160, [some (.ref 60000), some (.ref 0), some (.ref 156), some (.ref 178), some (.int i), x5, x6], [.int (i + Int32.ofInt 3), .ref 60000, .int (xs (i + Int32.ofInt 2).toNatClampNeg), .int (xs (i + Int32.ofInt 1).toNatClampNeg), .ref 156, .int v], am_hp I1 J1 E1)) rfl ?_
  refine lr_g (t := (100, 304, 1161, [some (.ref 60000), some (.ref 0), some (.ref 156), some (.ref 178), some (.int i), x5, x6], [.int (xs (i + Int32.ofInt 3).toNatClampNeg), .int (xs (i + Int32.ofInt 2).toNatClampNeg), .int (xs (i + Int32.ofInt 1).toNatClampNeg), .ref 156, .int v], am_hp I1 J1 E1)) g.2.2.1 rfl ?_
  refine lr_s (t := (100, 304, 1162, [some (.ref 60000), some (.ref 0), some (.ref 156), some (.ref 178), some (.int i), x5, x6], [.ref 60000, .int (xs (i + Int32.ofInt 3).toNatClampNeg), .int (xs (i + Int32.ofInt 2).toNatClampNeg), .int (xs (i + Int32.ofInt 1).toNatClampNeg), .ref 156, .int v], am_hp I1 J1 E1)) rfl ?_
  refine lr_s (t := (100, 304, 1164, [some (.ref 60000), some (.ref 0), some (.ref 156), some (.ref 178), some (.int i), x5, x6], [.int i, .ref 60000, .int (xs (i + Int32.ofInt 3).toNatClampNeg), .int (xs (i + Int32.ofInt 2).toNatClampNeg), .int (xs (i + Int32.ofInt 1).toNatClampNeg), .ref 156, .int v], am_hp I1 J1 E1)) rfl ?_
  refine lr_s (t := (100, 304, 1165, [some (.ref 60000), some (.ref 0), some (.ref 156), some (.ref 178), some (.int i), x5, x6], [.int (Int32.ofInt 4), .int i, .ref 60000, .int (xs (i + Int32.ofInt 3).toNatClampNeg), .int (xs (i + Int32.ofInt 2).toNatClampNeg), .int (xs (i + Int32.ofInt 1).toNatClampNeg), .ref 156, .int v], am_hp I1 J1 E1)) rfl ?_
  refine lr_s (t := (100, 304, 1166, [some (.ref 60000), some (.ref 0), some (.ref 156), some (.ref 178), some (.int i), x5, x6], [.int (i + Int32.ofInt 4), .ref 60000, .int (xs (i + Int32.ofInt 3).toNatClampNeg), .int (xs (i + Int32.ofInt 2).toNatClampNeg), .int (xs (i + Int32.ofInt 1).toNatClampNeg), .ref 156, .int v], am_hp I1 J1 E1)) rfl ?_
  refine lr_g (t := (100, 304, 1167, [some (.ref 60000), some (.ref 0), some (.ref 156), some (.ref 178), some (.int i), x5, x6], [.int (xs (i + Int32.ofInt 4).toNatClampNeg), .int (xs (i + Int32.ofInt 3).toNatClampNeg), .int (xs (i + Int32.ofInt 2).toNatClampNeg), .int (xs (i + Int32.ofInt 1).toNatClampNeg), .ref 156, .int v], am_hp I1 J1 E1)) g.2.2.2.1 rfl ?_
  refine lr_c (s1 := (99, 278, 0, [some (.ref 156), some (.int (xs (i + Int32.ofInt 1).toNatClampNeg)), some (.int (xs (i + Int32.ofInt 2).toNatClampNeg)), some (.int (xs (i + Int32.ofInt 3).toNatClampNeg)), some (.int (xs (i + Int32.ofInt 4).toNatClampNeg)), none, none], [], am_hp I1 J1 E1)) (t := (100, 304, 1170, [some (.ref 60000), some (.ref 0), some (.ref 156), some (.ref 178), some (.int i), x5, x6], [.int v, .int v], am_hp I2 J2 E2)) e2 rfl rfl ?_
  exact lr_b (t := (100, 304, 1338, [some (.ref 60000), some (.ref 0), some (.ref 156), some (.ref 178), some (.int i), x5, x6], [], am_hp I2 J2 E2)) (t' := (100, 304, 1173, [some (.ref 60000), some (.ref 0), some (.ref 156), some (.ref 178), some (.int i), x5, x6], [], am_hp I2 J2 E2)) (decide_eq_true (rfl : v = v)) rfl lr_e
set_option maxRecDepth 20000 in
theorem lw_33 (N : Nat) (xs : Nat → Int32) (i : Int32) (g : gI i N) : lwS N xs i 1175 := by
  intro x5 x6 I J E hrel
  obtain ⟨v, I1, J1, E1, I2, J2, E2, e1, e2, hr2⟩ := rl_record (false, N, xs) 39 I J E hrel (xs (i + Int32.ofInt 1).toNatClampNeg)
  have e1 : am_ev (false, N, xs) (99, 162, 0, [some (.ref 0), some (.int (xs (i + Int32.ofInt 1).toNatClampNeg)), none], [], am_hp I J E) = some (true, some (.int v), am_hp I1 J1 E1) := e1
  have e2 : am_ev (false, N, xs) (99, 285, 0, [some (.ref 156), some (.int (xs (i + Int32.ofInt 1).toNatClampNeg)), none, none], [], am_hp I1 J1 E1) = some (true, some (.int v), am_hp I2 J2 E2) := e2
  refine ⟨x5, x6, I2, J2, E2, hr2, ?_⟩
  refine lr_s (t := (100, 304, 1176, [some (.ref 60000), some (.ref 0), some (.ref 156), some (.ref 178), some (.int i), x5, x6], [.ref 0], am_hp I J E)) rfl ?_
  refine lr_s (t := (100, 304, 1177, [some (.ref 60000), some (.ref 0), some (.ref 156), some (.ref 178), some (.int i), x5, x6], [.ref 60000, .ref 0], am_hp I J E)) rfl ?_
  refine lr_s (t := (100, 304, 1179, [some (.ref 60000), some (.ref 0), some (.ref 156), some (.ref 178), some (.int i), x5, x6], [.int i, .ref 60000, .ref 0], am_hp I J E)) rfl ?_
  refine lr_s (t := (100, 304, 1180, [some (.ref 60000), some (.ref 0), some (.ref 156), some (.ref 178), some (.int i), x5, x6], [.int (Int32.ofInt 1), .int i, .ref 60000, .ref 0], am_hp I J E)) rfl ?_
  refine lr_s (t := (100, 304, 1181, [some (.ref 60000), some (.ref 0), some (.ref 156), some (.ref 178), some (.int i), x5, x6], [.int (i + Int32.ofInt 1), .ref 60000, .ref 0], am_hp I J E)) rfl ?_
  refine lr_g (t := (100, 304, 1182, [some (.ref 60000), some (.ref 0), some (.ref 156), some (.ref 178), some (.int i), x5, x6], [.int (xs (i + Int32.ofInt 1).toNatClampNeg), .ref 0], am_hp I J E)) g.1 rfl ?_
  refine lr_c (s1 := (99, 162, 0, [some (.ref 0), some (.int (xs (i + Int32.ofInt 1).toNatClampNeg)), none], [], am_hp I J E)) (t := (100, 304, 1185, [some (.ref 60000), some (.ref 0), some (.ref 156), some (.ref 178), some (.int i), x5, x6], [.int v], am_hp I1 J1 E1)) e1 rfl rfl ?_
  refine lr_s (t := (100, 304, 1186, [some (.ref 60000), some (.ref 0), some (.ref 156), some (.ref 178), some (.int i), x5, x6], [.ref 156, .int v], am_hp I1 J1 E1)) rfl ?_
  refine lr_s (t := (100, 304, 1187, [some (.ref 60000), some (.ref 0), some (.ref 156), some (.ref 178), some (.int i), x5, x6], [.ref 60000, .ref 156, .int v], am_hp I1 J1 E1)) rfl ?_
  refine lr_s (t := (100, 304, 1189, [some (.ref 60000), some (.ref 0), some (.ref 156), some (.ref 178), some (.int i), x5, x6], [.int i, .ref 60000, .ref 156, .int v], am_hp I1 J1 E1)) rfl ?_
  refine lr_s (t := (100, 304, 1190, [some (.ref 60000), some (.ref 0), some (.ref 156), some (.ref 178), some (.int i), x5, x6], [.int (Int32.ofInt 1), .int i, .ref 60000, .ref 156, .int v], am_hp I1 J1 E1)) rfl ?_
  refine lr_s (t := (100, 304, 1191, [some (.ref 60000), some (.ref 0), some (.ref 156), some (.ref 178), some (.int i), x5, x6], [.int (i + Int32.ofInt 1), .ref 60000, .ref 156, .int v], am_hp I1 J1 E1)) rfl ?_
  refine lr_g (t := (100, 304, 1192, [some (.ref 60000), some (.ref 0), some (.ref 156), some (.ref 178), some (.int i), x5, x6], [.int (xs (i + Int32.ofInt 1).toNatClampNeg), .ref 156, .int v], am_hp I1 J1 E1)) g.1 rfl ?_
  refine lr_c (s1 := (99, 285, 0, [some (.ref 156), some (.int (xs (i + Int32.ofInt 1).toNatClampNeg)), none, none], [], am_hp I1 J1 E1)) (t := (100, 304, 1195, [some (.ref 60000), some (.ref 0), some (.ref 156), some (.ref 178), some (.int i), x5, x6], [.int v, .int v], am_hp I2 J2 E2)) e2 rfl rfl ?_
  exact lr_b (t := (100, 304, 1338, [some (.ref 60000), some (.ref 0), some (.ref 156), some (.ref 178), some (.int i), x5, x6], [], am_hp I2 J2 E2)) (t' := (100, 304, 1198, [some (.ref 60000), some (.ref 0), some (.ref 156), some (.ref 178), some (.int i), x5, x6], [], am_hp I2 J2 E2)) (decide_eq_true (rfl : v = v)) rfl lr_e
set_option maxRecDepth 20000 in
theorem lw_34 (N : Nat) (xs : Nat → Int32) (i : Int32) (g : gI i N) : lwS N xs i 1200 := by
  intro x5 x6 I J E hrel
  obtain ⟨v, I1, J1, E1, I2, J2, E2, e1, e2, hr2⟩ := rl_told (false, N, xs) 39 I J E hrel (xs (i + Int32.ofInt 1).toNatClampNeg)
  have e1 : am_ev (false, N, xs) (99, 163, 0, [some (.ref 0), some (.int (xs (i + Int32.ofInt 1).toNatClampNeg))], [], am_hp I J E) = some (true, some (.int v), am_hp I1 J1 E1) := e1
  have e2 : am_ev (false, N, xs) (99, 287, 0, [some (.ref 156), some (.int (xs (i + Int32.ofInt 1).toNatClampNeg))], [], am_hp I1 J1 E1) = some (true, some (.int v), am_hp I2 J2 E2) := e2
  refine ⟨x5, x6, I2, J2, E2, hr2, ?_⟩
  refine lr_s (t := (100, 304, 1201, [some (.ref 60000), some (.ref 0), some (.ref 156), some (.ref 178), some (.int i), x5, x6], [.ref 0], am_hp I J E)) rfl ?_
  refine lr_s (t := (100, 304, 1202, [some (.ref 60000), some (.ref 0), some (.ref 156), some (.ref 178), some (.int i), x5, x6], [.ref 60000, .ref 0], am_hp I J E)) rfl ?_
  refine lr_s (t := (100, 304, 1204, [some (.ref 60000), some (.ref 0), some (.ref 156), some (.ref 178), some (.int i), x5, x6], [.int i, .ref 60000, .ref 0], am_hp I J E)) rfl ?_
  refine lr_s (t := (100, 304, 1205, [some (.ref 60000), some (.ref 0), some (.ref 156), some (.ref 178), some (.int i), x5, x6], [.int (Int32.ofInt 1), .int i, .ref 60000, .ref 0], am_hp I J E)) rfl ?_
  refine lr_s (t := (100, 304, 1206, [some (.ref 60000), some (.ref 0), some (.ref 156), some (.ref 178), some (.int i), x5, x6], [.int (i + Int32.ofInt 1), .ref 60000, .ref 0], am_hp I J E)) rfl ?_
  refine lr_g (t := (100, 304, 1207, [some (.ref 60000), some (.ref 0), some (.ref 156), some (.ref 178), some (.int i), x5, x6], [.int (xs (i + Int32.ofInt 1).toNatClampNeg), .ref 0], am_hp I J E)) g.1 rfl ?_
  refine lr_c (s1 := (99, 163, 0, [some (.ref 0), some (.int (xs (i + Int32.ofInt 1).toNatClampNeg))], [], am_hp I J E)) (t := (100, 304, 1210, [some (.ref 60000), some (.ref 0), some (.ref 156), some (.ref 178), some (.int i), x5, x6], [.int v], am_hp I1 J1 E1)) e1 rfl rfl ?_
  refine lr_s (t := (100, 304, 1211, [some (.ref 60000), some (.ref 0), some (.ref 156), some (.ref 178), some (.int i), x5, x6], [.ref 156, .int v], am_hp I1 J1 E1)) rfl ?_
  refine lr_s (t := (100, 304, 1212, [some (.ref 60000), some (.ref 0), some (.ref 156), some (.ref 178), some (.int i), x5, x6], [.ref 60000, .ref 156, .int v], am_hp I1 J1 E1)) rfl ?_
  refine lr_s (t := (100, 304, 1214, [some (.ref 60000), some (.ref 0), some (.ref 156), some (.ref 178), some (.int i), x5, x6], [.int i, .ref 60000, .ref 156, .int v], am_hp I1 J1 E1)) rfl ?_
  refine lr_s (t := (100, 304, 1215, [some (.ref 60000), some (.ref 0), some (.ref 156), some (.ref 178), some (.int i), x5, x6], [.int (Int32.ofInt 1), .int i, .ref 60000, .ref 156, .int v], am_hp I1 J1 E1)) rfl ?_
  refine lr_s (t := (100, 304, 1216, [some (.ref 60000), some (.ref 0), some (.ref 156), some (.ref 178), some (.int i), x5, x6], [.int (i + Int32.ofInt 1), .ref 60000, .ref 156, .int v], am_hp I1 J1 E1)) rfl ?_
  refine lr_g (t := (100, 304, 1217, [some (.ref 60000), some (.ref 0), some (.ref 156), some (.ref 178), some (.int i), x5, x6], [.int (xs (i + Int32.ofInt 1).toNatClampNeg), .ref 156, .int v], am_hp I1 J1 E1)) g.1 rfl ?_
  refine lr_c (s1 := (99, 287, 0, [some (.ref 156), some (.int (xs (i + Int32.ofInt 1).toNatClampNeg))], [], am_hp I1 J1 E1)) (t := (100, 304, 1220, [some (.ref 60000), some (.ref 0), some (.ref 156), some (.ref 178), some (.int i), x5, x6], [.int v, .int v], am_hp I2 J2 E2)) e2 rfl rfl ?_
  exact lr_b (t := (100, 304, 1338, [some (.ref 60000), some (.ref 0), some (.ref 156), some (.ref 178), some (.int i), x5, x6], [], am_hp I2 J2 E2)) (t' := (100, 304, 1223, [some (.ref 60000), some (.ref 0), some (.ref 156), some (.ref 178), some (.int i), x5, x6], [], am_hp I2 J2 E2)) (decide_eq_true (rfl : v = v)) rfl lr_e
set_option maxRecDepth 20000 in
theorem lw_35 (N : Nat) (xs : Nat → Int32) (i : Int32) (g : gI i N) : lwS N xs i 1225 := by
  intro x5 x6 I J E hrel
  obtain ⟨v, I1, J1, E1, I2, J2, E2, e1, e2, hr2⟩ := rl_sentence (false, N, xs) 39 I J E hrel
  have e1 : am_ev (false, N, xs) (99, 164, 0, [some (.ref 0)], [], am_hp I J E) = some (true, some (.int v), am_hp I1 J1 E1) := e1
  have e2 : am_ev (false, N, xs) (99, 296, 0, [some (.ref 156), none], [], am_hp I1 J1 E1) = some (true, some (.int v), am_hp I2 J2 E2) := e2
  refine ⟨x5, x6, I2, J2, E2, hr2, ?_⟩
  refine lr_s (t := (100, 304, 1226, [some (.ref 60000), some (.ref 0), some (.ref 156), some (.ref 178), some (.int i), x5, x6], [.ref 0], am_hp I J E)) rfl ?_
  refine lr_c (s1 := (99, 164, 0, [some (.ref 0)], [], am_hp I J E)) (t := (100, 304, 1229, [some (.ref 60000), some (.ref 0), some (.ref 156), some (.ref 178), some (.int i), x5, x6], [.int v], am_hp I1 J1 E1)) e1 rfl rfl ?_
  refine lr_s (t := (100, 304, 1230, [some (.ref 60000), some (.ref 0), some (.ref 156), some (.ref 178), some (.int i), x5, x6], [.ref 156, .int v], am_hp I1 J1 E1)) rfl ?_
  refine lr_c (s1 := (99, 296, 0, [some (.ref 156), none], [], am_hp I1 J1 E1)) (t := (100, 304, 1233, [some (.ref 60000), some (.ref 0), some (.ref 156), some (.ref 178), some (.int i), x5, x6], [.int v, .int v], am_hp I2 J2 E2)) e2 rfl rfl ?_
  exact lr_b (t := (100, 304, 1338, [some (.ref 60000), some (.ref 0), some (.ref 156), some (.ref 178), some (.int i), x5, x6], [], am_hp I2 J2 E2)) (t' := (100, 304, 1236, [some (.ref 60000), some (.ref 0), some (.ref 156), some (.ref 178), some (.int i), x5, x6], [], am_hp I2 J2 E2)) (decide_eq_true (rfl : v = v)) rfl lr_e
set_option maxRecDepth 20000 in
theorem lw_36 (N : Nat) (xs : Nat → Int32) (i : Int32) (g : gI i N) : lwS N xs i 1238 := by
  intro x5 x6 I J E hrel
  obtain ⟨v, I1, J1, E1, I2, J2, E2, e1, e2, hr2⟩ := rl_said (false, N, xs) 39 I J E hrel (xs (i + Int32.ofInt 1).toNatClampNeg)
  have e1 : am_ev (false, N, xs) (99, 165, 0, [some (.ref 0), some (.int (xs (i + Int32.ofInt 1).toNatClampNeg)), none, none, none], [], am_hp I J E) = some (true, some (.int v), am_hp I1 J1 E1) := e1
  have e2 : am_ev (false, N, xs) (99, 298, 0, [some (.ref 156), some (.int (xs (i + Int32.ofInt 1).toNatClampNeg)), none, none], [], am_hp I1 J1 E1) = some (true, some (.int v), am_hp I2 J2 E2) := e2
  refine ⟨x5, x6, I2, J2, E2, hr2, ?_⟩
  refine lr_s (t := (100, 304, 1239, [some (.ref 60000), some (.ref 0), some (.ref 156), some (.ref 178), some (.int i), x5, x6], [.ref 0], am_hp I J E)) rfl ?_
  refine lr_s (t := (100, 304, 1240, [some (.ref 60000), some (.ref 0), some (.ref 156), some (.ref 178), some (.int i), x5, x6], [.ref 60000, .ref 0], am_hp I J E)) rfl ?_
  refine lr_s (t := (100, 304, 1242, [some (.ref 60000), some (.ref 0), some (.ref 156), some (.ref 178), some (.int i), x5, x6], [.int i, .ref 60000, .ref 0], am_hp I J E)) rfl ?_
  refine lr_s (t := (100, 304, 1243, [some (.ref 60000), some (.ref 0), some (.ref 156), some (.ref 178), some (.int i), x5, x6], [.int (Int32.ofInt 1), .int i, .ref 60000, .ref 0], am_hp I J E)) rfl ?_
  refine lr_s (t := (100, 304, 1244, [some (.ref 60000), some (.ref 0), some (.ref 156), some (.ref 178), some (.int i), x5, x6], [.int (i + Int32.ofInt 1), .ref 60000, .ref 0], am_hp I J E)) rfl ?_
  refine lr_g (t := (100, 304, 1245, [some (.ref 60000), some (.ref 0), some (.ref 156), some (.ref 178), some (.int i), x5, x6], [.int (xs (i + Int32.ofInt 1).toNatClampNeg), .ref 0], am_hp I J E)) g.1 rfl ?_
  refine lr_c (s1 := (99, 165, 0, [some (.ref 0), some (.int (xs (i + Int32.ofInt 1).toNatClampNeg)), none, none, none], [], am_hp I J E)) (t := (100, 304, 1248, [some (.ref 60000), some (.ref 0), some (.ref 156), some (.ref 178), some (.int i), x5, x6], [.int v], am_hp I1 J1 E1)) e1 rfl rfl ?_
  refine lr_s (t := (100, 304, 1249, [some (.ref 60000), some (.ref 0), some (.ref 156), some (.ref 178), some (.int i), x5, x6], [.ref 156, .int v], am_hp I1 J1 E1)) rfl ?_
  refine lr_s (t := (100, 304, 1250, [some (.ref 60000), some (.ref 0), some (.ref 156), some (.ref 178), some (.int i), x5, x6], [.ref 60000, .ref 156, .int v], am_hp I1 J1 E1)) rfl ?_
  refine lr_s (t := (100, 304, 1252, [some (.ref 60000), some (.ref 0), some (.ref 156), some (.ref 178), some (.int i), x5, x6], [.int i, .ref 60000, .ref 156, .int v], am_hp I1 J1 E1)) rfl ?_
  refine lr_s (t := (100, 304, 1253, [some (.ref 60000), some (.ref 0), some (.ref 156), some (.ref 178), some (.int i), x5, x6], [.int (Int32.ofInt 1), .int i, .ref 60000, .ref 156, .int v], am_hp I1 J1 E1)) rfl ?_
  refine lr_s (t := (100, 304, 1254, [some (.ref 60000), some (.ref 0), some (.ref 156), some (.ref 178), some (.int i), x5, x6], [.int (i + Int32.ofInt 1), .ref 60000, .ref 156, .int v], am_hp I1 J1 E1)) rfl ?_
  refine lr_g (t := (100, 304, 1255, [some (.ref 60000), some (.ref 0), some (.ref 156), some (.ref 178), some (.int i), x5, x6], [.int (xs (i + Int32.ofInt 1).toNatClampNeg), .ref 156, .int v], am_hp I1 J1 E1)) g.1 rfl ?_
  refine lr_c (s1 := (99, 298, 0, [some (.ref 156), some (.int (xs (i + Int32.ofInt 1).toNatClampNeg)), none, none], [], am_hp I1 J1 E1)) (t := (100, 304, 1258, [some (.ref 60000), some (.ref 0), some (.ref 156), some (.ref 178), some (.int i), x5, x6], [.int v, .int v], am_hp I2 J2 E2)) e2 rfl rfl ?_
  exact lr_b (t := (100, 304, 1338, [some (.ref 60000), some (.ref 0), some (.ref 156), some (.ref 178), some (.int i), x5, x6], [], am_hp I2 J2 E2)) (t' := (100, 304, 1261, [some (.ref 60000), some (.ref 0), some (.ref 156), some (.ref 178), some (.int i), x5, x6], [], am_hp I2 J2 E2)) (decide_eq_true (rfl : v = v)) rfl lr_e
set_option maxRecDepth 20000 in
theorem lw_37 (N : Nat) (xs : Nat → Int32) (i : Int32) (g : gI i N) : lwS N xs i 1263 := by
  intro x5 x6 I J E hrel
  obtain ⟨v, I1, J1, E1, I2, J2, E2, e1, e2, hr2⟩ := rl_image (false, N, xs) 39 I J E hrel (xs (i + Int32.ofInt 1).toNatClampNeg)
  have e1 : am_ev (false, N, xs) (99, 166, 0, [some (.ref 0), some (.int (xs (i + Int32.ofInt 1).toNatClampNeg))], [], am_hp I J E) = some (true, some (.int v), am_hp I1 J1 E1) := e1
  have e2 : am_ev (false, N, xs) (99, 299, 0, [some (.ref 156), some (.int (xs (i + Int32.ofInt 1).toNatClampNeg)), none], [], am_hp I1 J1 E1) = some (true, some (.int v), am_hp I2 J2 E2) := e2
  refine ⟨x5, x6, I2, J2, E2, hr2, ?_⟩
  refine lr_s (t := (100, 304, 1264, [some (.ref 60000), some (.ref 0), some (.ref 156), some (.ref 178), some (.int i), x5, x6], [.ref 0], am_hp I J E)) rfl ?_
  refine lr_s (t := (100, 304, 1265, [some (.ref 60000), some (.ref 0), some (.ref 156), some (.ref 178), some (.int i), x5, x6], [.ref 60000, .ref 0], am_hp I J E)) rfl ?_
  refine lr_s (t := (100, 304, 1267, [some (.ref 60000), some (.ref 0), some (.ref 156), some (.ref 178), some (.int i), x5, x6], [.int i, .ref 60000, .ref 0], am_hp I J E)) rfl ?_
  refine lr_s (t := (100, 304, 1268, [some (.ref 60000), some (.ref 0), some (.ref 156), some (.ref 178), some (.int i), x5, x6], [.int (Int32.ofInt 1), .int i, .ref 60000, .ref 0], am_hp I J E)) rfl ?_
  refine lr_s (t := (100, 304, 1269, [some (.ref 60000), some (.ref 0), some (.ref 156), some (.ref 178), some (.int i), x5, x6], [.int (i + Int32.ofInt 1), .ref 60000, .ref 0], am_hp I J E)) rfl ?_
  refine lr_g (t := (100, 304, 1270, [some (.ref 60000), some (.ref 0), some (.ref 156), some (.ref 178), some (.int i), x5, x6], [.int (xs (i + Int32.ofInt 1).toNatClampNeg), .ref 0], am_hp I J E)) g.1 rfl ?_
  refine lr_c (s1 := (99, 166, 0, [some (.ref 0), some (.int (xs (i + Int32.ofInt 1).toNatClampNeg))], [], am_hp I J E)) (t := (100, 304, 1273, [some (.ref 60000), some (.ref 0), some (.ref 156), some (.ref 178), some (.int i), x5, x6], [.int v], am_hp I1 J1 E1)) e1 rfl rfl ?_
  refine lr_s (t := (100, 304, 1274, [some (.ref 60000), some (.ref 0), some (.ref 156), some (.ref 178), some (.int i), x5, x6], [.ref 156, .int v], am_hp I1 J1 E1)) rfl ?_
  refine lr_s (t := (100, 304, 1275, [some (.ref 60000), some (.ref 0), some (.ref 156), some (.ref 178), some (.int i), x5, x6], [.ref 60000, .ref 156, .int v], am_hp I1 J1 E1)) rfl ?_
  refine lr_s (t := (100, 304, 1277, [some (.ref 60000), some (.ref 0), some (.ref 156), some (.ref 178), some (.int i), x5, x6], [.int i, .ref 60000, .ref 156, .int v], am_hp I1 J1 E1)) rfl ?_
  refine lr_s (t := (100, 304, 1278, [some (.ref 60000), some (.ref 0), some (.ref 156), some (.ref 178), some (.int i), x5, x6], [.int (Int32.ofInt 1), .int i, .ref 60000, .ref 156, .int v], am_hp I1 J1 E1)) rfl ?_
  refine lr_s (t := (100, 304, 1279, [some (.ref 60000), some (.ref 0), some (.ref 156), some (.ref 178), some (.int i), x5, x6], [.int (i + Int32.ofInt 1), .ref 60000, .ref 156, .int v], am_hp I1 J1 E1)) rfl ?_
  refine lr_g (t := (100, 304, 1280, [some (.ref 60000), some (.ref 0), some (.ref 156), some (.ref 178), some (.int i), x5, x6], [.int (xs (i + Int32.ofInt 1).toNatClampNeg), .ref 156, .int v], am_hp I1 J1 E1)) g.1 rfl ?_
  refine lr_c (s1 := (99, 299, 0, [some (.ref 156), some (.int (xs (i + Int32.ofInt 1).toNatClampNeg)), none], [], am_hp I1 J1 E1)) (t := (100, 304, 1283, [some (.ref 60000), some (.ref 0), some (.ref 156), some (.ref 178), some (.int i), x5, x6], [.int v, .int v], am_hp I2 J2 E2)) e2 rfl rfl ?_
  exact lr_b (t := (100, 304, 1338, [some (.ref 60000), some (.ref 0), some (.ref 156), some (.ref 178), some (.int i), x5, x6], [], am_hp I2 J2 E2)) (t' := (100, 304, 1286, [some (.ref 60000), some (.ref 0), some (.ref 156), some (.ref 178), some (.int i), x5, x6], [], am_hp I2 J2 E2)) (decide_eq_true (rfl : v = v)) rfl lr_e
set_option maxRecDepth 20000 in
theorem lw_38 (N : Nat) (xs : Nat → Int32) (i : Int32) (g : gI i N) : lwS N xs i 1288 := by
  intro x5 x6 I J E hrel
  obtain ⟨v, I1, J1, E1, I2, J2, E2, e1, e2, hr2⟩ := rl_restore (false, N, xs) 39 I J E hrel (xs (i + Int32.ofInt 1).toNatClampNeg)
  have e1 : am_ev (false, N, xs) (99, 167, 0, [some (.ref 0), some (.int (xs (i + Int32.ofInt 1).toNatClampNeg))], [], am_hp I J E) = some (true, some (.int v), am_hp I1 J1 E1) := e1
  have e2 : am_ev (false, N, xs) (99, 300, 0, [some (.ref 156), some (.int (xs (i + Int32.ofInt 1).toNatClampNeg)), none], [], am_hp I1 J1 E1) = some (true, some (.int v), am_hp I2 J2 E2) := e2
  refine ⟨x5, x6, I2, J2, E2, hr2, ?_⟩
  refine lr_s (t := (100, 304, 1289, [some (.ref 60000), some (.ref 0), some (.ref 156), some (.ref 178), some (.int i), x5, x6], [.ref 0], am_hp I J E)) rfl ?_
  refine lr_s (t := (100, 304, 1290, [some (.ref 60000), some (.ref 0), some (.ref 156), some (.ref 178), some (.int i), x5, x6], [.ref 60000, .ref 0], am_hp I J E)) rfl ?_
  refine lr_s (t := (100, 304, 1292, [some (.ref 60000), some (.ref 0), some (.ref 156), some (.ref 178), some (.int i), x5, x6], [.int i, .ref 60000, .ref 0], am_hp I J E)) rfl ?_
  refine lr_s (t := (100, 304, 1293, [some (.ref 60000), some (.ref 0), some (.ref 156), some (.ref 178), some (.int i), x5, x6], [.int (Int32.ofInt 1), .int i, .ref 60000, .ref 0], am_hp I J E)) rfl ?_
  refine lr_s (t := (100, 304, 1294, [some (.ref 60000), some (.ref 0), some (.ref 156), some (.ref 178), some (.int i), x5, x6], [.int (i + Int32.ofInt 1), .ref 60000, .ref 0], am_hp I J E)) rfl ?_
  refine lr_g (t := (100, 304, 1295, [some (.ref 60000), some (.ref 0), some (.ref 156), some (.ref 178), some (.int i), x5, x6], [.int (xs (i + Int32.ofInt 1).toNatClampNeg), .ref 0], am_hp I J E)) g.1 rfl ?_
  refine lr_c (s1 := (99, 167, 0, [some (.ref 0), some (.int (xs (i + Int32.ofInt 1).toNatClampNeg))], [], am_hp I J E)) (t := (100, 304, 1298, [some (.ref 60000), some (.ref 0), some (.ref 156), some (.ref 178), some (.int i), x5, x6], [.int v], am_hp I1 J1 E1)) e1 rfl rfl ?_
  refine lr_s (t := (100, 304, 1299, [some (.ref 60000), some (.ref 0), some (.ref 156), some (.ref 178), some (.int i), x5, x6], [.ref 156, .int v], am_hp I1 J1 E1)) rfl ?_
  refine lr_s (t := (100, 304, 1300, [some (.ref 60000), some (.ref 0), some (.ref 156), some (.ref 178), some (.int i), x5, x6], [.ref 60000, .ref 156, .int v], am_hp I1 J1 E1)) rfl ?_
  refine lr_s (t := (100, 304, 1302, [some (.ref 60000), some (.ref 0), some (.ref 156), some (.ref 178), some (.int i), x5, x6], [.int i, .ref 60000, .ref 156, .int v], am_hp I1 J1 E1)) rfl ?_
  refine lr_s (t := (100, 304, 1303, [some (.ref 60000), some (.ref 0), some (.ref 156), some (.ref 178), some (.int i), x5, x6], [.int (Int32.ofInt 1), .int i, .ref 60000, .ref 156, .int v], am_hp I1 J1 E1)) rfl ?_
  refine lr_s (t := (100, 304, 1304, [some (.ref 60000), some (.ref 0), some (.ref 156), some (.ref 178), some (.int i), x5, x6], [.int (i + Int32.ofInt 1), .ref 60000, .ref 156, .int v], am_hp I1 J1 E1)) rfl ?_
  refine lr_g (t := (100, 304, 1305, [some (.ref 60000), some (.ref 0), some (.ref 156), some (.ref 178), some (.int i), x5, x6], [.int (xs (i + Int32.ofInt 1).toNatClampNeg), .ref 156, .int v], am_hp I1 J1 E1)) g.1 rfl ?_
  refine lr_c (s1 := (99, 300, 0, [some (.ref 156), some (.int (xs (i + Int32.ofInt 1).toNatClampNeg)), none], [], am_hp I1 J1 E1)) (t := (100, 304, 1308, [some (.ref 60000), some (.ref 0), some (.ref 156), some (.ref 178), some (.int i), x5, x6], [.int v, .int v], am_hp I2 J2 E2)) e2 rfl rfl ?_
  exact lr_b (t := (100, 304, 1338, [some (.ref 60000), some (.ref 0), some (.ref 156), some (.ref 178), some (.int i), x5, x6], [], am_hp I2 J2 E2)) (t' := (100, 304, 1311, [some (.ref 60000), some (.ref 0), some (.ref 156), some (.ref 178), some (.int i), x5, x6], [], am_hp I2 J2 E2)) (decide_eq_true (rfl : v = v)) rfl lr_e
set_option maxRecDepth 20000 in
theorem lw_39 (N : Nat) (xs : Nat → Int32) (i : Int32) (g : gI i N) : lwS N xs i 1313 := by
  intro x5 x6 I J E hrel
  obtain ⟨v, I1, J1, E1, I2, J2, E2, e1, e2, hr2⟩ := rl_count (false, N, xs) 39 I J E hrel (xs (i + Int32.ofInt 1).toNatClampNeg)
  have e1 : am_ev (false, N, xs) (99, 119, 0, [some (.ref 0), some (.int (xs (i + Int32.ofInt 1).toNatClampNeg))], [], am_hp I J E) = some (true, some (.int v), am_hp I1 J1 E1) := e1
  have e2 : am_ev (false, N, xs) (99, 301, 0, [some (.ref 156), some (.int (xs (i + Int32.ofInt 1).toNatClampNeg))], [], am_hp I1 J1 E1) = some (true, some (.int v), am_hp I2 J2 E2) := e2
  refine ⟨x5, x6, I2, J2, E2, hr2, ?_⟩
  refine lr_s (t := (100, 304, 1314, [some (.ref 60000), some (.ref 0), some (.ref 156), some (.ref 178), some (.int i), x5, x6], [.ref 0], am_hp I J E)) rfl ?_
  refine lr_s (t := (100, 304, 1315, [some (.ref 60000), some (.ref 0), some (.ref 156), some (.ref 178), some (.int i), x5, x6], [.ref 60000, .ref 0], am_hp I J E)) rfl ?_
  refine lr_s (t := (100, 304, 1317, [some (.ref 60000), some (.ref 0), some (.ref 156), some (.ref 178), some (.int i), x5, x6], [.int i, .ref 60000, .ref 0], am_hp I J E)) rfl ?_
  refine lr_s (t := (100, 304, 1318, [some (.ref 60000), some (.ref 0), some (.ref 156), some (.ref 178), some (.int i), x5, x6], [.int (Int32.ofInt 1), .int i, .ref 60000, .ref 0], am_hp I J E)) rfl ?_
  refine lr_s (t := (100, 304, 1319, [some (.ref 60000), some (.ref 0), some (.ref 156), some (.ref 178), some (.int i), x5, x6], [.int (i + Int32.ofInt 1), .ref 60000, .ref 0], am_hp I J E)) rfl ?_
  refine lr_g (t := (100, 304, 1320, [some (.ref 60000), some (.ref 0), some (.ref 156), some (.ref 178), some (.int i), x5, x6], [.int (xs (i + Int32.ofInt 1).toNatClampNeg), .ref 0], am_hp I J E)) g.1 rfl ?_
  refine lr_c (s1 := (99, 119, 0, [some (.ref 0), some (.int (xs (i + Int32.ofInt 1).toNatClampNeg))], [], am_hp I J E)) (t := (100, 304, 1323, [some (.ref 60000), some (.ref 0), some (.ref 156), some (.ref 178), some (.int i), x5, x6], [.int v], am_hp I1 J1 E1)) e1 rfl rfl ?_
  refine lr_s (t := (100, 304, 1324, [some (.ref 60000), some (.ref 0), some (.ref 156), some (.ref 178), some (.int i), x5, x6], [.ref 156, .int v], am_hp I1 J1 E1)) rfl ?_
  refine lr_s (t := (100, 304, 1325, [some (.ref 60000), some (.ref 0), some (.ref 156), some (.ref 178), some (.int i), x5, x6], [.ref 60000, .ref 156, .int v], am_hp I1 J1 E1)) rfl ?_
  refine lr_s (t := (100, 304, 1327, [some (.ref 60000), some (.ref 0), some (.ref 156), some (.ref 178), some (.int i), x5, x6], [.int i, .ref 60000, .ref 156, .int v], am_hp I1 J1 E1)) rfl ?_
  refine lr_s (t := (100, 304, 1328, [some (.ref 60000), some (.ref 0), some (.ref 156), some (.ref 178), some (.int i), x5, x6], [.int (Int32.ofInt 1), .int i, .ref 60000, .ref 156, .int v], am_hp I1 J1 E1)) rfl ?_
  refine lr_s (t := (100, 304, 1329, [some (.ref 60000), some (.ref 0), some (.ref 156), some (.ref 178), some (.int i), x5, x6], [.int (i + Int32.ofInt 1), .ref 60000, .ref 156, .int v], am_hp I1 J1 E1)) rfl ?_
  refine lr_g (t := (100, 304, 1330, [some (.ref 60000), some (.ref 0), some (.ref 156), some (.ref 178), some (.int i), x5, x6], [.int (xs (i + Int32.ofInt 1).toNatClampNeg), .ref 156, .int v], am_hp I1 J1 E1)) g.1 rfl ?_
  refine lr_c (s1 := (99, 301, 0, [some (.ref 156), some (.int (xs (i + Int32.ofInt 1).toNatClampNeg))], [], am_hp I1 J1 E1)) (t := (100, 304, 1333, [some (.ref 60000), some (.ref 0), some (.ref 156), some (.ref 178), some (.int i), x5, x6], [.int v, .int v], am_hp I2 J2 E2)) e2 rfl rfl ?_
  exact lr_b (t := (100, 304, 1338, [some (.ref 60000), some (.ref 0), some (.ref 156), some (.ref 178), some (.int i), x5, x6], [], am_hp I2 J2 E2)) (t' := (100, 304, 1336, [some (.ref 60000), some (.ref 0), some (.ref 156), some (.ref 178), some (.int i), x5, x6], [], am_hp I2 J2 E2)) (decide_eq_true (rfl : v = v)) rfl lr_e
theorem lw_J {J : Nat → Nat → Int64} {x : Int64} : am_u J 178 0 x 178 (Int32.ofInt 0).toNatClampNeg = x := by
  rw [show (Int32.ofInt 0).toNatClampNeg = 0 by decide]
  rfl
set_option maxRecDepth 20000 in
theorem lw_4 (N : Nat) (xs : Nat → Int32) (i : Int32) (g : gI i N) : lwS N xs i 340 := by
  intro x5 x6 I J E hrel
  rcases rl_reader (false, N, xs) I J E hrel (xs (i + Int32.ofInt 1).toNatClampNeg) (xs (i + Int32.ofInt 2).toNatClampNeg) with ⟨v, I1, I2, e1, e2, e3, hr2⟩ | ⟨v, I1, I2, e1, e2, e3, hr2⟩
  · have e1 : am_ev (false, N, xs) (98, 120, 0, [some (.ref 0), some (.int (xs (i + Int32.ofInt 1).toNatClampNeg)), some (.int (xs (i + Int32.ofInt 2).toNatClampNeg)), none], [], am_hp I J E) = some (false, none, am_hp I1 J E) := e1
    have e2 : am_ev (false, N, xs) (99, 218, 0, [some (.ref 156), some (.int (xs (i + Int32.ofInt 1).toNatClampNeg)), some (.int (xs (i + Int32.ofInt 2).toNatClampNeg)), none, none], [], am_hp I1 J E) = some (true, some (.int v), am_hp I2 J E) := e2
    have e4 : am_ev (false, N, xs) (99, 169, 0, [some (.ref 156)], [], am_hp I2 J E) = some (true, some (.int 1), am_hp I2 J E) := (bk_169_0 _ 98 I2 J E).trans (by rw [e3])
    refine ⟨some (.int 1), some (.int v), I2, J, E, hr2, ?_⟩
    refine lr_s (t := (100, 304, 341, [some (.ref 60000), some (.ref 0), some (.ref 156), some (.ref 178), some (.int i), x5, x6], [.ref 0], am_hp I J E)) rfl ?_
    refine lr_s (t := (100, 304, 342, [some (.ref 60000), some (.ref 0), some (.ref 156), some (.ref 178), some (.int i), x5, x6], [.ref 60000, .ref 0], am_hp I J E)) rfl ?_
    refine lr_s (t := (100, 304, 344, [some (.ref 60000), some (.ref 0), some (.ref 156), some (.ref 178), some (.int i), x5, x6], [.int i, .ref 60000, .ref 0], am_hp I J E)) rfl ?_
    refine lr_s (t := (100, 304, 345, [some (.ref 60000), some (.ref 0), some (.ref 156), some (.ref 178), some (.int i), x5, x6], [.int (Int32.ofInt 1), .int i, .ref 60000, .ref 0], am_hp I J E)) rfl ?_
    refine lr_s (t := (100, 304, 346, [some (.ref 60000), some (.ref 0), some (.ref 156), some (.ref 178), some (.int i), x5, x6], [.int (i + Int32.ofInt 1), .ref 60000, .ref 0], am_hp I J E)) rfl ?_
    refine lr_g (t := (100, 304, 347, [some (.ref 60000), some (.ref 0), some (.ref 156), some (.ref 178), some (.int i), x5, x6], [.int (xs (i + Int32.ofInt 1).toNatClampNeg), .ref 0], am_hp I J E)) g.1 rfl ?_
    refine lr_s (t := (100, 304, 348, [some (.ref 60000), some (.ref 0), some (.ref 156), some (.ref 178), some (.int i), x5, x6], [.ref 60000, .int (xs (i + Int32.ofInt 1).toNatClampNeg), .ref 0], am_hp I J E)) rfl ?_
    refine lr_s (t := (100, 304, 350, [some (.ref 60000), some (.ref 0), some (.ref 156), some (.ref 178), some (.int i), x5, x6], [.int i, .ref 60000, .int (xs (i + Int32.ofInt 1).toNatClampNeg), .ref 0], am_hp I J E)) rfl ?_
    refine lr_s (t := (100, 304, 351, [some (.ref 60000), some (.ref 0), some (.ref 156), some (.ref 178), some (.int i), x5, x6], [.int (Int32.ofInt 2), .int i, .ref 60000, .int (xs (i + Int32.ofInt 1).toNatClampNeg), .ref 0], am_hp I J E)) rfl ?_
    refine lr_s (t := (100, 304, 352, [some (.ref 60000), some (.ref 0), some (.ref 156), some (.ref 178), some (.int i), x5, x6], [.int (i + Int32.ofInt 2), .ref 60000, .int (xs (i + Int32.ofInt 1).toNatClampNeg), .ref 0], am_hp I J E)) rfl ?_
    refine lr_g (t := (100, 304, 353, [some (.ref 60000), some (.ref 0), some (.ref 156), some (.ref 178), some (.int i), x5, x6], [.int (xs (i + Int32.ofInt 2).toNatClampNeg), .int (xs (i + Int32.ofInt 1).toNatClampNeg), .ref 0], am_hp I J E)) g.2.1 rfl ?_
    refine lr_s (t := (100, 304, 354, [some (.ref 60000), some (.ref 0), some (.ref 156), some (.ref 178), some (.int i), x5, x6], [.ref 178, .int (xs (i + Int32.ofInt 2).toNatClampNeg), .int (xs (i + Int32.ofInt 1).toNatClampNeg), .ref 0], am_hp I J E)) rfl ?_
    refine lr_c (s1 := (98, 120, 0, [some (.ref 0), some (.int (xs (i + Int32.ofInt 1).toNatClampNeg)), some (.int (xs (i + Int32.ofInt 2).toNatClampNeg)), none], [], am_hp I J E)) (t := (100, 304, 357, [some (.ref 60000), some (.ref 0), some (.ref 156), some (.ref 178), some (.int i), x5, x6], [.int 1], am_hp I1 J E)) e1 rfl rfl ?_
    refine lr_s (t := (100, 304, 359, [some (.ref 60000), some (.ref 0), some (.ref 156), some (.ref 178), some (.int i), some (.int 1), x6], [], am_hp I1 J E)) rfl ?_
    refine lr_s (t := (100, 304, 360, [some (.ref 60000), some (.ref 0), some (.ref 156), some (.ref 178), some (.int i), some (.int 1), x6], [.ref 156], am_hp I1 J E)) rfl ?_
    refine lr_s (t := (100, 304, 361, [some (.ref 60000), some (.ref 0), some (.ref 156), some (.ref 178), some (.int i), some (.int 1), x6], [.ref 60000, .ref 156], am_hp I1 J E)) rfl ?_
    refine lr_s (t := (100, 304, 363, [some (.ref 60000), some (.ref 0), some (.ref 156), some (.ref 178), some (.int i), some (.int 1), x6], [.int i, .ref 60000, .ref 156], am_hp I1 J E)) rfl ?_
    refine lr_s (t := (100, 304, 364, [some (.ref 60000), some (.ref 0), some (.ref 156), some (.ref 178), some (.int i), some (.int 1), x6], [.int (Int32.ofInt 1), .int i, .ref 60000, .ref 156], am_hp I1 J E)) rfl ?_
    refine lr_s (t := (100, 304, 365, [some (.ref 60000), some (.ref 0), some (.ref 156), some (.ref 178), some (.int i), some (.int 1), x6], [.int (i + Int32.ofInt 1), .ref 60000, .ref 156], am_hp I1 J E)) rfl ?_
    refine lr_g (t := (100, 304, 366, [some (.ref 60000), some (.ref 0), some (.ref 156), some (.ref 178), some (.int i), some (.int 1), x6], [.int (xs (i + Int32.ofInt 1).toNatClampNeg), .ref 156], am_hp I1 J E)) g.1 rfl ?_
    refine lr_s (t := (100, 304, 367, [some (.ref 60000), some (.ref 0), some (.ref 156), some (.ref 178), some (.int i), some (.int 1), x6], [.ref 60000, .int (xs (i + Int32.ofInt 1).toNatClampNeg), .ref 156], am_hp I1 J E)) rfl ?_
    refine lr_s (t := (100, 304, 369, [some (.ref 60000), some (.ref 0), some (.ref 156), some (.ref 178), some (.int i), some (.int 1), x6], [.int i, .ref 60000, .int (xs (i + Int32.ofInt 1).toNatClampNeg), .ref 156], am_hp I1 J E)) rfl ?_
    refine lr_s (t := (100, 304, 370, [some (.ref 60000), some (.ref 0), some (.ref 156), some (.ref 178), some (.int i), some (.int 1), x6], [.int (Int32.ofInt 2), .int i, .ref 60000, .int (xs (i + Int32.ofInt 1).toNatClampNeg), .ref 156], am_hp I1 J E)) rfl ?_
    refine lr_s (t := (100, 304, 371, [some (.ref 60000), some (.ref 0), some (.ref 156), some (.ref 178), some (.int i), some (.int 1), x6], [.int (i + Int32.ofInt 2), .ref 60000, .int (xs (i + Int32.ofInt 1).toNatClampNeg), .ref 156], am_hp I1 J E)) rfl ?_
    refine lr_g (t := (100, 304, 372, [some (.ref 60000), some (.ref 0), some (.ref 156), some (.ref 178), some (.int i), some (.int 1), x6], [.int (xs (i + Int32.ofInt 2).toNatClampNeg), .int (xs (i + Int32.ofInt 1).toNatClampNeg), .ref 156], am_hp I1 J E)) g.2.1 rfl ?_
    refine lr_c (s1 := (99, 218, 0, [some (.ref 156), some (.int (xs (i + Int32.ofInt 1).toNatClampNeg)), some (.int (xs (i + Int32.ofInt 2).toNatClampNeg)), none, none], [], am_hp I1 J E)) (t := (100, 304, 375, [some (.ref 60000), some (.ref 0), some (.ref 156), some (.ref 178), some (.int i), some (.int 1), x6], [.int v], am_hp I2 J E)) e2 rfl rfl ?_
    refine lr_s (t := (100, 304, 377, [some (.ref 60000), some (.ref 0), some (.ref 156), some (.ref 178), some (.int i), some (.int 1), some (.int v)], [], am_hp I2 J E)) rfl ?_
    refine lr_s (t := (100, 304, 378, [some (.ref 60000), some (.ref 0), some (.ref 156), some (.ref 178), some (.int i), some (.int 1), some (.int v)], [.ref 156], am_hp I2 J E)) rfl ?_
    refine lr_c (s1 := (99, 169, 0, [some (.ref 156)], [], am_hp I2 J E)) (t := (100, 304, 381, [some (.ref 60000), some (.ref 0), some (.ref 156), some (.ref 178), some (.int i), some (.int 1), some (.int v)], [.int 1], am_hp I2 J E)) e4 rfl rfl ?_
    refine lr_s (t := (100, 304, 383, [some (.ref 60000), some (.ref 0), some (.ref 156), some (.ref 178), some (.int i), some (.int 1), some (.int v)], [.int 1, .int 1], am_hp I2 J E)) rfl ?_
    refine lr_b (t := (100, 304, 388, [some (.ref 60000), some (.ref 0), some (.ref 156), some (.ref 178), some (.int i), some (.int 1), some (.int v)], [], am_hp I2 J E)) (t' := (100, 304, 386, [some (.ref 60000), some (.ref 0), some (.ref 156), some (.ref 178), some (.int i), some (.int 1), some (.int v)], [], am_hp I2 J E)) (decide_eq_true (rfl : (1 : Int32) = 1)) rfl ?_
    refine lr_s (t := (100, 304, 390, [some (.ref 60000), some (.ref 0), some (.ref 156), some (.ref 178), some (.int i), some (.int 1), some (.int v)], [.int 1], am_hp I2 J E)) rfl ?_
    refine lr_b (t := (100, 304, 405, [some (.ref 60000), some (.ref 0), some (.ref 156), some (.ref 178), some (.int i), some (.int 1), some (.int v)], [], am_hp I2 J E)) (t' := (100, 304, 393, [some (.ref 60000), some (.ref 0), some (.ref 156), some (.ref 178), some (.int i), some (.int 1), some (.int v)], [], am_hp I2 J E)) (show (!(decide ((1 : Int32) = 0))) = true by decide) rfl ?_
    exact lr_g (t := (100, 304, 1338, [some (.ref 60000), some (.ref 0), some (.ref 156), some (.ref 178), some (.int i), some (.int 1), some (.int v)], [], am_hp I2 J E)) (show decide ((0 : Int) ≤ (405 : Nat) + 933) = true by decide) rfl lr_e
  · have e1 : am_ev (false, N, xs) (98, 120, 0, [some (.ref 0), some (.int (xs (i + Int32.ofInt 1).toNatClampNeg)), some (.int (xs (i + Int32.ofInt 2).toNatClampNeg)), none], [], am_hp I J E) = some (true, some (.int v), am_hp I1 J E) := e1
    have e2 : am_ev (false, N, xs) (99, 218, 0, [some (.ref 156), some (.int (xs (i + Int32.ofInt 1).toNatClampNeg)), some (.int (xs (i + Int32.ofInt 2).toNatClampNeg)), none, none], [], am_hp I1 (am_u J 178 0 v.toInt64) E) = some (true, some (.int v), am_hp I2 (am_u J 178 0 v.toInt64) E) := e2
    have e4 : am_ev (false, N, xs) (99, 169, 0, [some (.ref 156)], [], am_hp I2 (am_u J 178 0 v.toInt64) E) = some (true, some (.int 0), am_hp I2 (am_u J 178 0 v.toInt64) E) := (bk_169_0 _ 98 I2 (am_u J 178 0 v.toInt64) E).trans (by rw [e3])
    refine ⟨some (.int 0), some (.int v), I2, (am_u J 178 0 v.toInt64), E, hr2, ?_⟩
    refine lr_s (t := (100, 304, 341, [some (.ref 60000), some (.ref 0), some (.ref 156), some (.ref 178), some (.int i), x5, x6], [.ref 0], am_hp I J E)) rfl ?_
    refine lr_s (t := (100, 304, 342, [some (.ref 60000), some (.ref 0), some (.ref 156), some (.ref 178), some (.int i), x5, x6], [.ref 60000, .ref 0], am_hp I J E)) rfl ?_
    refine lr_s (t := (100, 304, 344, [some (.ref 60000), some (.ref 0), some (.ref 156), some (.ref 178), some (.int i), x5, x6], [.int i, .ref 60000, .ref 0], am_hp I J E)) rfl ?_
    refine lr_s (t := (100, 304, 345, [some (.ref 60000), some (.ref 0), some (.ref 156), some (.ref 178), some (.int i), x5, x6], [.int (Int32.ofInt 1), .int i, .ref 60000, .ref 0], am_hp I J E)) rfl ?_
    refine lr_s (t := (100, 304, 346, [some (.ref 60000), some (.ref 0), some (.ref 156), some (.ref 178), some (.int i), x5, x6], [.int (i + Int32.ofInt 1), .ref 60000, .ref 0], am_hp I J E)) rfl ?_
    refine lr_g (t := (100, 304, 347, [some (.ref 60000), some (.ref 0), some (.ref 156), some (.ref 178), some (.int i), x5, x6], [.int (xs (i + Int32.ofInt 1).toNatClampNeg), .ref 0], am_hp I J E)) g.1 rfl ?_
    refine lr_s (t := (100, 304, 348, [some (.ref 60000), some (.ref 0), some (.ref 156), some (.ref 178), some (.int i), x5, x6], [.ref 60000, .int (xs (i + Int32.ofInt 1).toNatClampNeg), .ref 0], am_hp I J E)) rfl ?_
    refine lr_s (t := (100, 304, 350, [some (.ref 60000), some (.ref 0), some (.ref 156), some (.ref 178), some (.int i), x5, x6], [.int i, .ref 60000, .int (xs (i + Int32.ofInt 1).toNatClampNeg), .ref 0], am_hp I J E)) rfl ?_
    refine lr_s (t := (100, 304, 351, [some (.ref 60000), some (.ref 0), some (.ref 156), some (.ref 178), some (.int i), x5, x6], [.int (Int32.ofInt 2), .int i, .ref 60000, .int (xs (i + Int32.ofInt 1).toNatClampNeg), .ref 0], am_hp I J E)) rfl ?_
    refine lr_s (t := (100, 304, 352, [some (.ref 60000), some (.ref 0), some (.ref 156), some (.ref 178), some (.int i), x5, x6], [.int (i + Int32.ofInt 2), .ref 60000, .int (xs (i + Int32.ofInt 1).toNatClampNeg), .ref 0], am_hp I J E)) rfl ?_
    refine lr_g (t := (100, 304, 353, [some (.ref 60000), some (.ref 0), some (.ref 156), some (.ref 178), some (.int i), x5, x6], [.int (xs (i + Int32.ofInt 2).toNatClampNeg), .int (xs (i + Int32.ofInt 1).toNatClampNeg), .ref 0], am_hp I J E)) g.2.1 rfl ?_
    refine lr_s (t := (100, 304, 354, [some (.ref 60000), some (.ref 0), some (.ref 156), some (.ref 178), some (.int i), x5, x6], [.ref 178, .int (xs (i + Int32.ofInt 2).toNatClampNeg), .int (xs (i + Int32.ofInt 1).toNatClampNeg), .ref 0], am_hp I J E)) rfl ?_
    refine lr_c (s1 := (98, 120, 0, [some (.ref 0), some (.int (xs (i + Int32.ofInt 1).toNatClampNeg)), some (.int (xs (i + Int32.ofInt 2).toNatClampNeg)), none], [], am_hp I J E)) (t := (100, 304, 357, [some (.ref 60000), some (.ref 0), some (.ref 156), some (.ref 178), some (.int i), x5, x6], [.int 0], am_hp I1 (am_u J 178 0 v.toInt64) E)) e1 rfl rfl ?_
    refine lr_s (t := (100, 304, 359, [some (.ref 60000), some (.ref 0), some (.ref 156), some (.ref 178), some (.int i), some (.int 0), x6], [], am_hp I1 (am_u J 178 0 v.toInt64) E)) rfl ?_
    refine lr_s (t := (100, 304, 360, [some (.ref 60000), some (.ref 0), some (.ref 156), some (.ref 178), some (.int i), some (.int 0), x6], [.ref 156], am_hp I1 (am_u J 178 0 v.toInt64) E)) rfl ?_
    refine lr_s (t := (100, 304, 361, [some (.ref 60000), some (.ref 0), some (.ref 156), some (.ref 178), some (.int i), some (.int 0), x6], [.ref 60000, .ref 156], am_hp I1 (am_u J 178 0 v.toInt64) E)) rfl ?_
    refine lr_s (t := (100, 304, 363, [some (.ref 60000), some (.ref 0), some (.ref 156), some (.ref 178), some (.int i), some (.int 0), x6], [.int i, .ref 60000, .ref 156], am_hp I1 (am_u J 178 0 v.toInt64) E)) rfl ?_
    refine lr_s (t := (100, 304, 364, [some (.ref 60000), some (.ref 0), some (.ref 156), some (.ref 178), some (.int i), some (.int 0), x6], [.int (Int32.ofInt 1), .int i, .ref 60000, .ref 156], am_hp I1 (am_u J 178 0 v.toInt64) E)) rfl ?_
    refine lr_s (t := (100, 304, 365, [some (.ref 60000), some (.ref 0), some (.ref 156), some (.ref 178), some (.int i), some (.int 0), x6], [.int (i + Int32.ofInt 1), .ref 60000, .ref 156], am_hp I1 (am_u J 178 0 v.toInt64) E)) rfl ?_
    refine lr_g (t := (100, 304, 366, [some (.ref 60000), some (.ref 0), some (.ref 156), some (.ref 178), some (.int i), some (.int 0), x6], [.int (xs (i + Int32.ofInt 1).toNatClampNeg), .ref 156], am_hp I1 (am_u J 178 0 v.toInt64) E)) g.1 rfl ?_
    refine lr_s (t := (100, 304, 367, [some (.ref 60000), some (.ref 0), some (.ref 156), some (.ref 178), some (.int i), some (.int 0), x6], [.ref 60000, .int (xs (i + Int32.ofInt 1).toNatClampNeg), .ref 156], am_hp I1 (am_u J 178 0 v.toInt64) E)) rfl ?_
    refine lr_s (t := (100, 304, 369, [some (.ref 60000), some (.ref 0), some (.ref 156), some (.ref 178), some (.int i), some (.int 0), x6], [.int i, .ref 60000, .int (xs (i + Int32.ofInt 1).toNatClampNeg), .ref 156], am_hp I1 (am_u J 178 0 v.toInt64) E)) rfl ?_
    refine lr_s (t := (100, 304, 370, [some (.ref 60000), some (.ref 0), some (.ref 156), some (.ref 178), some (.int i), some (.int 0), x6], [.int (Int32.ofInt 2), .int i, .ref 60000, .int (xs (i + Int32.ofInt 1).toNatClampNeg), .ref 156], am_hp I1 (am_u J 178 0 v.toInt64) E)) rfl ?_
    refine lr_s (t := (100, 304, 371, [some (.ref 60000), some (.ref 0), some (.ref 156), some (.ref 178), some (.int i), some (.int 0), x6], [.int (i + Int32.ofInt 2), .ref 60000, .int (xs (i + Int32.ofInt 1).toNatClampNeg), .ref 156], am_hp I1 (am_u J 178 0 v.toInt64) E)) rfl ?_
    refine lr_g (t := (100, 304, 372, [some (.ref 60000), some (.ref 0), some (.ref 156), some (.ref 178), some (.int i), some (.int 0), x6], [.int (xs (i + Int32.ofInt 2).toNatClampNeg), .int (xs (i + Int32.ofInt 1).toNatClampNeg), .ref 156], am_hp I1 (am_u J 178 0 v.toInt64) E)) g.2.1 rfl ?_
    refine lr_c (s1 := (99, 218, 0, [some (.ref 156), some (.int (xs (i + Int32.ofInt 1).toNatClampNeg)), some (.int (xs (i + Int32.ofInt 2).toNatClampNeg)), none, none], [], am_hp I1 (am_u J 178 0 v.toInt64) E)) (t := (100, 304, 375, [some (.ref 60000), some (.ref 0), some (.ref 156), some (.ref 178), some (.int i), some (.int 0), x6], [.int v], am_hp I2 (am_u J 178 0 v.toInt64) E)) e2 rfl rfl ?_
    refine lr_s (t := (100, 304, 377, [some (.ref 60000), some (.ref 0), some (.ref 156), some (.ref 178), some (.int i), some (.int 0), some (.int v)], [], am_hp I2 (am_u J 178 0 v.toInt64) E)) rfl ?_
    refine lr_s (t := (100, 304, 378, [some (.ref 60000), some (.ref 0), some (.ref 156), some (.ref 178), some (.int i), some (.int 0), some (.int v)], [.ref 156], am_hp I2 (am_u J 178 0 v.toInt64) E)) rfl ?_
    refine lr_c (s1 := (99, 169, 0, [some (.ref 156)], [], am_hp I2 (am_u J 178 0 v.toInt64) E)) (t := (100, 304, 381, [some (.ref 60000), some (.ref 0), some (.ref 156), some (.ref 178), some (.int i), some (.int 0), some (.int v)], [.int 0], am_hp I2 (am_u J 178 0 v.toInt64) E)) e4 rfl rfl ?_
    refine lr_s (t := (100, 304, 383, [some (.ref 60000), some (.ref 0), some (.ref 156), some (.ref 178), some (.int i), some (.int 0), some (.int v)], [.int 0, .int 0], am_hp I2 (am_u J 178 0 v.toInt64) E)) rfl ?_
    refine lr_b (t := (100, 304, 388, [some (.ref 60000), some (.ref 0), some (.ref 156), some (.ref 178), some (.int i), some (.int 0), some (.int v)], [], am_hp I2 (am_u J 178 0 v.toInt64) E)) (t' := (100, 304, 386, [some (.ref 60000), some (.ref 0), some (.ref 156), some (.ref 178), some (.int i), some (.int 0), some (.int v)], [], am_hp I2 (am_u J 178 0 v.toInt64) E)) (decide_eq_true (rfl : (0 : Int32) = 0)) rfl ?_
    refine lr_s (t := (100, 304, 390, [some (.ref 60000), some (.ref 0), some (.ref 156), some (.ref 178), some (.int i), some (.int 0), some (.int v)], [.int 0], am_hp I2 (am_u J 178 0 v.toInt64) E)) rfl ?_
    refine lr_n (t := (100, 304, 393, [some (.ref 60000), some (.ref 0), some (.ref 156), some (.ref 178), some (.int i), some (.int 0), some (.int v)], [], am_hp I2 (am_u J 178 0 v.toInt64) E)) (t' := (100, 304, 405, [some (.ref 60000), some (.ref 0), some (.ref 156), some (.ref 178), some (.int i), some (.int 0), some (.int v)], [], am_hp I2 (am_u J 178 0 v.toInt64) E)) (show (!(decide ((0 : Int32) = 0))) = false by decide) rfl ?_
    refine lr_s (t := (100, 304, 394, [some (.ref 60000), some (.ref 0), some (.ref 156), some (.ref 178), some (.int i), some (.int 0), some (.int v)], [.ref 178], am_hp I2 (am_u J 178 0 v.toInt64) E)) rfl ?_
    refine lr_s (t := (100, 304, 395, [some (.ref 60000), some (.ref 0), some (.ref 156), some (.ref 178), some (.int i), some (.int 0), some (.int v)], [.int (Int32.ofInt 0), .ref 178], am_hp I2 (am_u J 178 0 v.toInt64) E)) rfl ?_
    refine lr_g (t := (100, 304, 396, [some (.ref 60000), some (.ref 0), some (.ref 156), some (.ref 178), some (.int i), some (.int 0), some (.int v)], [.long (am_u J 178 0 v.toInt64 178 (Int32.ofInt 0).toNatClampNeg)], am_hp I2 (am_u J 178 0 v.toInt64) E)) (show am_in (Int32.ofInt 0) 1 = true by decide) rfl ?_
    refine lr_s (t := (100, 304, 398, [some (.ref 60000), some (.ref 0), some (.ref 156), some (.ref 178), some (.int i), some (.int 0), some (.int v)], [.int v, .long (am_u J 178 0 v.toInt64 178 (Int32.ofInt 0).toNatClampNeg)], am_hp I2 (am_u J 178 0 v.toInt64) E)) rfl ?_
    refine lr_s (t := (100, 304, 399, [some (.ref 60000), some (.ref 0), some (.ref 156), some (.ref 178), some (.int i), some (.int 0), some (.int v)], [.long v.toInt64, .long (am_u J 178 0 v.toInt64 178 (Int32.ofInt 0).toNatClampNeg)], am_hp I2 (am_u J 178 0 v.toInt64) E)) rfl ?_
    refine lr_s (t := (100, 304, 400, [some (.ref 60000), some (.ref 0), some (.ref 156), some (.ref 178), some (.int i), some (.int 0), some (.int v)], [.int (lg_cmp (am_u J 178 0 v.toInt64 178 (Int32.ofInt 0).toNatClampNeg) v.toInt64)], am_hp I2 (am_u J 178 0 v.toInt64) E)) rfl ?_
    refine lr_b (t := (100, 304, 405, [some (.ref 60000), some (.ref 0), some (.ref 156), some (.ref 178), some (.int i), some (.int 0), some (.int v)], [], am_hp I2 (am_u J 178 0 v.toInt64) E)) (t' := (100, 304, 403, [some (.ref 60000), some (.ref 0), some (.ref 156), some (.ref 178), some (.int i), some (.int 0), some (.int v)], [], am_hp I2 (am_u J 178 0 v.toInt64) E)) (decide_eq_true ((lg_cmp0 _ _).mpr lw_J)) rfl ?_
    exact lr_g (t := (100, 304, 1338, [some (.ref 60000), some (.ref 0), some (.ref 156), some (.ref 178), some (.int i), some (.int 0), some (.int v)], [], am_hp I2 (am_u J 178 0 v.toInt64) E)) (show decide ((0 : Int) ≤ (405 : Nat) + 933) = true by decide) rfl lr_e
set_option maxRecDepth 20000 in
theorem lw_28 (N : Nat) (xs : Nat → Int32) (i : Int32) (g : gI i N) : lwS N xs i 959 := by
  intro x5 x6 I J E hrel
  rcases rl_mean (false, N, xs) I J E hrel (xs (i + Int32.ofInt 1).toNatClampNeg) (xs (i + Int32.ofInt 2).toNatClampNeg) with ⟨v, I1, I2, e1, e2, e3, hr2⟩ | ⟨v, I1, I2, e1, e2, e3, hr2⟩
  · have e1 : am_ev (false, N, xs) (98, 143, 0, [some (.ref 0), some (.int (xs (i + Int32.ofInt 1).toNatClampNeg)), some (.int (xs (i + Int32.ofInt 2).toNatClampNeg)), none, none, none, none], [], am_hp I J E) = some (false, none, am_hp I1 J E) := e1
    have e2 : am_ev (false, N, xs) (99, 263, 0, [some (.ref 156), some (.int (xs (i + Int32.ofInt 1).toNatClampNeg)), some (.int (xs (i + Int32.ofInt 2).toNatClampNeg)), none], [], am_hp I1 J E) = some (true, some (.int v), am_hp I2 J E) := e2
    have e4 : am_ev (false, N, xs) (99, 169, 0, [some (.ref 156)], [], am_hp I2 J E) = some (true, some (.int 1), am_hp I2 J E) := (bk_169_0 _ 98 I2 J E).trans (by rw [e3])
    refine ⟨some (.int 1), some (.int v), I2, J, E, hr2, ?_⟩
    refine lr_s (t := (100, 304, 960, [some (.ref 60000), some (.ref 0), some (.ref 156), some (.ref 178), some (.int i), x5, x6], [.ref 0], am_hp I J E)) rfl ?_
    refine lr_s (t := (100, 304, 961, [some (.ref 60000), some (.ref 0), some (.ref 156), some (.ref 178), some (.int i), x5, x6], [.ref 60000, .ref 0], am_hp I J E)) rfl ?_
    refine lr_s (t := (100, 304, 963, [some (.ref 60000), some (.ref 0), some (.ref 156), some (.ref 178), some (.int i), x5, x6], [.int i, .ref 60000, .ref 0], am_hp I J E)) rfl ?_
    refine lr_s (t := (100, 304, 964, [some (.ref 60000), some (.ref 0), some (.ref 156), some (.ref 178), some (.int i), x5, x6], [.int (Int32.ofInt 1), .int i, .ref 60000, .ref 0], am_hp I J E)) rfl ?_
    refine lr_s (t := (100, 304, 965, [some (.ref 60000), some (.ref 0), some (.ref 156), some (.ref 178), some (.int i), x5, x6], [.int (i + Int32.ofInt 1), .ref 60000, .ref 0], am_hp I J E)) rfl ?_
    refine lr_g (t := (100, 304, 966, [some (.ref 60000), some (.ref 0), some (.ref 156), some (.ref 178), some (.int i), x5, x6], [.int (xs (i + Int32.ofInt 1).toNatClampNeg), .ref 0], am_hp I J E)) g.1 rfl ?_
    refine lr_s (t := (100, 304, 967, [some (.ref 60000), some (.ref 0), some (.ref 156), some (.ref 178), some (.int i), x5, x6], [.ref 60000, .int (xs (i + Int32.ofInt 1).toNatClampNeg), .ref 0], am_hp I J E)) rfl ?_
    refine lr_s (t := (100, 304, 969, [some (.ref 60000), some (.ref 0), some (.ref 156), some (.ref 178), some (.int i), x5, x6], [.int i, .ref 60000, .int (xs (i + Int32.ofInt 1).toNatClampNeg), .ref 0], am_hp I J E)) rfl ?_
    refine lr_s (t := (100, 304, 970, [some (.ref 60000), some (.ref 0), some (.ref 156), some (.ref 178), some (.int i), x5, x6], [.int (Int32.ofInt 2), .int i, .ref 60000, .int (xs (i + Int32.ofInt 1).toNatClampNeg), .ref 0], am_hp I J E)) rfl ?_
    refine lr_s (t := (100, 304, 971, [some (.ref 60000), some (.ref 0), some (.ref 156), some (.ref 178), some (.int i), x5, x6], [.int (i + Int32.ofInt 2), .ref 60000, .int (xs (i + Int32.ofInt 1).toNatClampNeg), .ref 0], am_hp I J E)) rfl ?_
    refine lr_g (t := (100, 304, 972, [some (.ref 60000), some (.ref 0), some (.ref 156), some (.ref 178), some (.int i), x5, x6], [.int (xs (i + Int32.ofInt 2).toNatClampNeg), .int (xs (i + Int32.ofInt 1).toNatClampNeg), .ref 0], am_hp I J E)) g.2.1 rfl ?_
    refine lr_s (t := (100, 304, 973, [some (.ref 60000), some (.ref 0), some (.ref 156), some (.ref 178), some (.int i), x5, x6], [.ref 178, .int (xs (i + Int32.ofInt 2).toNatClampNeg), .int (xs (i + Int32.ofInt 1).toNatClampNeg), .ref 0], am_hp I J E)) rfl ?_
    refine lr_c (s1 := (98, 143, 0, [some (.ref 0), some (.int (xs (i + Int32.ofInt 1).toNatClampNeg)), some (.int (xs (i + Int32.ofInt 2).toNatClampNeg)), none, none, none, none], [], am_hp I J E)) (t := (100, 304, 976, [some (.ref 60000), some (.ref 0), some (.ref 156), some (.ref 178), some (.int i), x5, x6], [.int 1], am_hp I1 J E)) e1 rfl rfl ?_
    refine lr_s (t := (100, 304, 978, [some (.ref 60000), some (.ref 0), some (.ref 156), some (.ref 178), some (.int i), some (.int 1), x6], [], am_hp I1 J E)) rfl ?_
    refine lr_s (t := (100, 304, 979, [some (.ref 60000), some (.ref 0), some (.ref 156), some (.ref 178), some (.int i), some (.int 1), x6], [.ref 156], am_hp I1 J E)) rfl ?_
    refine lr_s (t := (100, 304, 980, [some (.ref 60000), some (.ref 0), some (.ref 156), some (.ref 178), some (.int i), some (.int 1), x6], [.ref 60000, .ref 156], am_hp I1 J E)) rfl ?_
    refine lr_s (t := (100, 304, 982, [some (.ref 60000), some (.ref 0), some (.ref 156), some (.ref 178), some (.int i), some (.int 1), x6], [.int i, .ref 60000, .ref 156], am_hp I1 J E)) rfl ?_
    refine lr_s (t := (100, 304, 983, [some (.ref 60000), some (.ref 0), some (.ref 156), some (.ref 178), some (.int i), some (.int 1), x6], [.int (Int32.ofInt 1), .int i, .ref 60000, .ref 156], am_hp I1 J E)) rfl ?_
    refine lr_s (t := (100, 304, 984, [some (.ref 60000), some (.ref 0), some (.ref 156), some (.ref 178), some (.int i), some (.int 1), x6], [.int (i + Int32.ofInt 1), .ref 60000, .ref 156], am_hp I1 J E)) rfl ?_
    refine lr_g (t := (100, 304, 985, [some (.ref 60000), some (.ref 0), some (.ref 156), some (.ref 178), some (.int i), some (.int 1), x6], [.int (xs (i + Int32.ofInt 1).toNatClampNeg), .ref 156], am_hp I1 J E)) g.1 rfl ?_
    refine lr_s (t := (100, 304, 986, [some (.ref 60000), some (.ref 0), some (.ref 156), some (.ref 178), some (.int i), some (.int 1), x6], [.ref 60000, .int (xs (i + Int32.ofInt 1).toNatClampNeg), .ref 156], am_hp I1 J E)) rfl ?_
    refine lr_s (t := (100, 304, 988, [some (.ref 60000), some (.ref 0), some (.ref 156), some (.ref 178), some (.int i), some (.int 1), x6], [.int i, .ref 60000, .int (xs (i + Int32.ofInt 1).toNatClampNeg), .ref 156], am_hp I1 J E)) rfl ?_
    refine lr_s (t := (100, 304, 989, [some (.ref 60000), some (.ref 0), some (.ref 156), some (.ref 178), some (.int i), some (.int 1), x6], [.int (Int32.ofInt 2), .int i, .ref 60000, .int (xs (i + Int32.ofInt 1).toNatClampNeg), .ref 156], am_hp I1 J E)) rfl ?_
    refine lr_s (t := (100, 304, 990, [some (.ref 60000), some (.ref 0), some (.ref 156), some (.ref 178), some (.int i), some (.int 1), x6], [.int (i + Int32.ofInt 2), .ref 60000, .int (xs (i + Int32.ofInt 1).toNatClampNeg), .ref 156], am_hp I1 J E)) rfl ?_
    refine lr_g (t := (100, 304, 991, [some (.ref 60000), some (.ref 0), some (.ref 156), some (.ref 178), some (.int i), some (.int 1), x6], [.int (xs (i + Int32.ofInt 2).toNatClampNeg), .int (xs (i + Int32.ofInt 1).toNatClampNeg), .ref 156], am_hp I1 J E)) g.2.1 rfl ?_
    refine lr_c (s1 := (99, 263, 0, [some (.ref 156), some (.int (xs (i + Int32.ofInt 1).toNatClampNeg)), some (.int (xs (i + Int32.ofInt 2).toNatClampNeg)), none], [], am_hp I1 J E)) (t := (100, 304, 994, [some (.ref 60000), some (.ref 0), some (.ref 156), some (.ref 178), some (.int i), some (.int 1), x6], [.int v], am_hp I2 J E)) e2 rfl rfl ?_
    refine lr_s (t := (100, 304, 996, [some (.ref 60000), some (.ref 0), some (.ref 156), some (.ref 178), some (.int i), some (.int 1), some (.int v)], [], am_hp I2 J E)) rfl ?_
    refine lr_s (t := (100, 304, 997, [some (.ref 60000), some (.ref 0), some (.ref 156), some (.ref 178), some (.int i), some (.int 1), some (.int v)], [.ref 156], am_hp I2 J E)) rfl ?_
    refine lr_c (s1 := (99, 169, 0, [some (.ref 156)], [], am_hp I2 J E)) (t := (100, 304, 1000, [some (.ref 60000), some (.ref 0), some (.ref 156), some (.ref 178), some (.int i), some (.int 1), some (.int v)], [.int 1], am_hp I2 J E)) e4 rfl rfl ?_
    refine lr_s (t := (100, 304, 1002, [some (.ref 60000), some (.ref 0), some (.ref 156), some (.ref 178), some (.int i), some (.int 1), some (.int v)], [.int 1, .int 1], am_hp I2 J E)) rfl ?_
    refine lr_b (t := (100, 304, 1007, [some (.ref 60000), some (.ref 0), some (.ref 156), some (.ref 178), some (.int i), some (.int 1), some (.int v)], [], am_hp I2 J E)) (t' := (100, 304, 1005, [some (.ref 60000), some (.ref 0), some (.ref 156), some (.ref 178), some (.int i), some (.int 1), some (.int v)], [], am_hp I2 J E)) (decide_eq_true (rfl : (1 : Int32) = 1)) rfl ?_
    refine lr_s (t := (100, 304, 1009, [some (.ref 60000), some (.ref 0), some (.ref 156), some (.ref 178), some (.int i), some (.int 1), some (.int v)], [.int 1], am_hp I2 J E)) rfl ?_
    refine lr_b (t := (100, 304, 1024, [some (.ref 60000), some (.ref 0), some (.ref 156), some (.ref 178), some (.int i), some (.int 1), some (.int v)], [], am_hp I2 J E)) (t' := (100, 304, 1012, [some (.ref 60000), some (.ref 0), some (.ref 156), some (.ref 178), some (.int i), some (.int 1), some (.int v)], [], am_hp I2 J E)) (show (!(decide ((1 : Int32) = 0))) = true by decide) rfl ?_
    exact lr_g (t := (100, 304, 1338, [some (.ref 60000), some (.ref 0), some (.ref 156), some (.ref 178), some (.int i), some (.int 1), some (.int v)], [], am_hp I2 J E)) (show decide ((0 : Int) ≤ (1024 : Nat) + 314) = true by decide) rfl lr_e
  · have e1 : am_ev (false, N, xs) (98, 143, 0, [some (.ref 0), some (.int (xs (i + Int32.ofInt 1).toNatClampNeg)), some (.int (xs (i + Int32.ofInt 2).toNatClampNeg)), none, none, none, none], [], am_hp I J E) = some (true, some (.int v), am_hp I1 J E) := e1
    have e2 : am_ev (false, N, xs) (99, 263, 0, [some (.ref 156), some (.int (xs (i + Int32.ofInt 1).toNatClampNeg)), some (.int (xs (i + Int32.ofInt 2).toNatClampNeg)), none], [], am_hp I1 (am_u J 178 0 v.toInt64) E) = some (true, some (.int v), am_hp I2 (am_u J 178 0 v.toInt64) E) := e2
    have e4 : am_ev (false, N, xs) (99, 169, 0, [some (.ref 156)], [], am_hp I2 (am_u J 178 0 v.toInt64) E) = some (true, some (.int 0), am_hp I2 (am_u J 178 0 v.toInt64) E) := (bk_169_0 _ 98 I2 (am_u J 178 0 v.toInt64) E).trans (by rw [e3])
    refine ⟨some (.int 0), some (.int v), I2, (am_u J 178 0 v.toInt64), E, hr2, ?_⟩
    refine lr_s (t := (100, 304, 960, [some (.ref 60000), some (.ref 0), some (.ref 156), some (.ref 178), some (.int i), x5, x6], [.ref 0], am_hp I J E)) rfl ?_
    refine lr_s (t := (100, 304, 961, [some (.ref 60000), some (.ref 0), some (.ref 156), some (.ref 178), some (.int i), x5, x6], [.ref 60000, .ref 0], am_hp I J E)) rfl ?_
    refine lr_s (t := (100, 304, 963, [some (.ref 60000), some (.ref 0), some (.ref 156), some (.ref 178), some (.int i), x5, x6], [.int i, .ref 60000, .ref 0], am_hp I J E)) rfl ?_
    refine lr_s (t := (100, 304, 964, [some (.ref 60000), some (.ref 0), some (.ref 156), some (.ref 178), some (.int i), x5, x6], [.int (Int32.ofInt 1), .int i, .ref 60000, .ref 0], am_hp I J E)) rfl ?_
    refine lr_s (t := (100, 304, 965, [some (.ref 60000), some (.ref 0), some (.ref 156), some (.ref 178), some (.int i), x5, x6], [.int (i + Int32.ofInt 1), .ref 60000, .ref 0], am_hp I J E)) rfl ?_
    refine lr_g (t := (100, 304, 966, [some (.ref 60000), some (.ref 0), some (.ref 156), some (.ref 178), some (.int i), x5, x6], [.int (xs (i + Int32.ofInt 1).toNatClampNeg), .ref 0], am_hp I J E)) g.1 rfl ?_
    refine lr_s (t := (100, 304, 967, [some (.ref 60000), some (.ref 0), some (.ref 156), some (.ref 178), some (.int i), x5, x6], [.ref 60000, .int (xs (i + Int32.ofInt 1).toNatClampNeg), .ref 0], am_hp I J E)) rfl ?_
    refine lr_s (t := (100, 304, 969, [some (.ref 60000), some (.ref 0), some (.ref 156), some (.ref 178), some (.int i), x5, x6], [.int i, .ref 60000, .int (xs (i + Int32.ofInt 1).toNatClampNeg), .ref 0], am_hp I J E)) rfl ?_
    refine lr_s (t := (100, 304, 970, [some (.ref 60000), some (.ref 0), some (.ref 156), some (.ref 178), some (.int i), x5, x6], [.int (Int32.ofInt 2), .int i, .ref 60000, .int (xs (i + Int32.ofInt 1).toNatClampNeg), .ref 0], am_hp I J E)) rfl ?_
    refine lr_s (t := (100, 304, 971, [some (.ref 60000), some (.ref 0), some (.ref 156), some (.ref 178), some (.int i), x5, x6], [.int (i + Int32.ofInt 2), .ref 60000, .int (xs (i + Int32.ofInt 1).toNatClampNeg), .ref 0], am_hp I J E)) rfl ?_
    refine lr_g (t := (100, 304, 972, [some (.ref 60000), some (.ref 0), some (.ref 156), some (.ref 178), some (.int i), x5, x6], [.int (xs (i + Int32.ofInt 2).toNatClampNeg), .int (xs (i + Int32.ofInt 1).toNatClampNeg), .ref 0], am_hp I J E)) g.2.1 rfl ?_
    refine lr_s (t := (100, 304, 973, [some (.ref 60000), some (.ref 0), some (.ref 156), some (.ref 178), some (.int i), x5, x6], [.ref 178, .int (xs (i + Int32.ofInt 2).toNatClampNeg), .int (xs (i + Int32.ofInt 1).toNatClampNeg), .ref 0], am_hp I J E)) rfl ?_
    refine lr_c (s1 := (98, 143, 0, [some (.ref 0), some (.int (xs (i + Int32.ofInt 1).toNatClampNeg)), some (.int (xs (i + Int32.ofInt 2).toNatClampNeg)), none, none, none, none], [], am_hp I J E)) (t := (100, 304, 976, [some (.ref 60000), some (.ref 0), some (.ref 156), some (.ref 178), some (.int i), x5, x6], [.int 0], am_hp I1 (am_u J 178 0 v.toInt64) E)) e1 rfl rfl ?_
    refine lr_s (t := (100, 304, 978, [some (.ref 60000), some (.ref 0), some (.ref 156), some (.ref 178), some (.int i), some (.int 0), x6], [], am_hp I1 (am_u J 178 0 v.toInt64) E)) rfl ?_
    refine lr_s (t := (100, 304, 979, [some (.ref 60000), some (.ref 0), some (.ref 156), some (.ref 178), some (.int i), some (.int 0), x6], [.ref 156], am_hp I1 (am_u J 178 0 v.toInt64) E)) rfl ?_
    refine lr_s (t := (100, 304, 980, [some (.ref 60000), some (.ref 0), some (.ref 156), some (.ref 178), some (.int i), some (.int 0), x6], [.ref 60000, .ref 156], am_hp I1 (am_u J 178 0 v.toInt64) E)) rfl ?_
    refine lr_s (t := (100, 304, 982, [some (.ref 60000), some (.ref 0), some (.ref 156), some (.ref 178), some (.int i), some (.int 0), x6], [.int i, .ref 60000, .ref 156], am_hp I1 (am_u J 178 0 v.toInt64) E)) rfl ?_
    refine lr_s (t := (100, 304, 983, [some (.ref 60000), some (.ref 0), some (.ref 156), some (.ref 178), some (.int i), some (.int 0), x6], [.int (Int32.ofInt 1), .int i, .ref 60000, .ref 156], am_hp I1 (am_u J 178 0 v.toInt64) E)) rfl ?_
    refine lr_s (t := (100, 304, 984, [some (.ref 60000), some (.ref 0), some (.ref 156), some (.ref 178), some (.int i), some (.int 0), x6], [.int (i + Int32.ofInt 1), .ref 60000, .ref 156], am_hp I1 (am_u J 178 0 v.toInt64) E)) rfl ?_
    refine lr_g (t := (100, 304, 985, [some (.ref 60000), some (.ref 0), some (.ref 156), some (.ref 178), some (.int i), some (.int 0), x6], [.int (xs (i + Int32.ofInt 1).toNatClampNeg), .ref 156], am_hp I1 (am_u J 178 0 v.toInt64) E)) g.1 rfl ?_
    refine lr_s (t := (100, 304, 986, [some (.ref 60000), some (.ref 0), some (.ref 156), some (.ref 178), some (.int i), some (.int 0), x6], [.ref 60000, .int (xs (i + Int32.ofInt 1).toNatClampNeg), .ref 156], am_hp I1 (am_u J 178 0 v.toInt64) E)) rfl ?_
    refine lr_s (t := (100, 304, 988, [some (.ref 60000), some (.ref 0), some (.ref 156), some (.ref 178), some (.int i), some (.int 0), x6], [.int i, .ref 60000, .int (xs (i + Int32.ofInt 1).toNatClampNeg), .ref 156], am_hp I1 (am_u J 178 0 v.toInt64) E)) rfl ?_
    refine lr_s (t := (100, 304, 989, [some (.ref 60000), some (.ref 0), some (.ref 156), some (.ref 178), some (.int i), some (.int 0), x6], [.int (Int32.ofInt 2), .int i, .ref 60000, .int (xs (i + Int32.ofInt 1).toNatClampNeg), .ref 156], am_hp I1 (am_u J 178 0 v.toInt64) E)) rfl ?_
    refine lr_s (t := (100, 304, 990, [some (.ref 60000), some (.ref 0), some (.ref 156), some (.ref 178), some (.int i), some (.int 0), x6], [.int (i + Int32.ofInt 2), .ref 60000, .int (xs (i + Int32.ofInt 1).toNatClampNeg), .ref 156], am_hp I1 (am_u J 178 0 v.toInt64) E)) rfl ?_
    refine lr_g (t := (100, 304, 991, [some (.ref 60000), some (.ref 0), some (.ref 156), some (.ref 178), some (.int i), some (.int 0), x6], [.int (xs (i + Int32.ofInt 2).toNatClampNeg), .int (xs (i + Int32.ofInt 1).toNatClampNeg), .ref 156], am_hp I1 (am_u J 178 0 v.toInt64) E)) g.2.1 rfl ?_
    refine lr_c (s1 := (99, 263, 0, [some (.ref 156), some (.int (xs (i + Int32.ofInt 1).toNatClampNeg)), some (.int (xs (i + Int32.ofInt 2).toNatClampNeg)), none], [], am_hp I1 (am_u J 178 0 v.toInt64) E)) (t := (100, 304, 994, [some (.ref 60000), some (.ref 0), some (.ref 156), some (.ref 178), some (.int i), some (.int 0), x6], [.int v], am_hp I2 (am_u J 178 0 v.toInt64) E)) e2 rfl rfl ?_
    refine lr_s (t := (100, 304, 996, [some (.ref 60000), some (.ref 0), some (.ref 156), some (.ref 178), some (.int i), some (.int 0), some (.int v)], [], am_hp I2 (am_u J 178 0 v.toInt64) E)) rfl ?_
    refine lr_s (t := (100, 304, 997, [some (.ref 60000), some (.ref 0), some (.ref 156), some (.ref 178), some (.int i), some (.int 0), some (.int v)], [.ref 156], am_hp I2 (am_u J 178 0 v.toInt64) E)) rfl ?_
    refine lr_c (s1 := (99, 169, 0, [some (.ref 156)], [], am_hp I2 (am_u J 178 0 v.toInt64) E)) (t := (100, 304, 1000, [some (.ref 60000), some (.ref 0), some (.ref 156), some (.ref 178), some (.int i), some (.int 0), some (.int v)], [.int 0], am_hp I2 (am_u J 178 0 v.toInt64) E)) e4 rfl rfl ?_
    refine lr_s (t := (100, 304, 1002, [some (.ref 60000), some (.ref 0), some (.ref 156), some (.ref 178), some (.int i), some (.int 0), some (.int v)], [.int 0, .int 0], am_hp I2 (am_u J 178 0 v.toInt64) E)) rfl ?_
    refine lr_b (t := (100, 304, 1007, [some (.ref 60000), some (.ref 0), some (.ref 156), some (.ref 178), some (.int i), some (.int 0), some (.int v)], [], am_hp I2 (am_u J 178 0 v.toInt64) E)) (t' := (100, 304, 1005, [some (.ref 60000), some (.ref 0), some (.ref 156), some (.ref 178), some (.int i), some (.int 0), some (.int v)], [], am_hp I2 (am_u J 178 0 v.toInt64) E)) (decide_eq_true (rfl : (0 : Int32) = 0)) rfl ?_
    refine lr_s (t := (100, 304, 1009, [some (.ref 60000), some (.ref 0), some (.ref 156), some (.ref 178), some (.int i), some (.int 0), some (.int v)], [.int 0], am_hp I2 (am_u J 178 0 v.toInt64) E)) rfl ?_
    refine lr_n (t := (100, 304, 1012, [some (.ref 60000), some (.ref 0), some (.ref 156), some (.ref 178), some (.int i), some (.int 0), some (.int v)], [], am_hp I2 (am_u J 178 0 v.toInt64) E)) (t' := (100, 304, 1024, [some (.ref 60000), some (.ref 0), some (.ref 156), some (.ref 178), some (.int i), some (.int 0), some (.int v)], [], am_hp I2 (am_u J 178 0 v.toInt64) E)) (show (!(decide ((0 : Int32) = 0))) = false by decide) rfl ?_
    refine lr_s (t := (100, 304, 1013, [some (.ref 60000), some (.ref 0), some (.ref 156), some (.ref 178), some (.int i), some (.int 0), some (.int v)], [.ref 178], am_hp I2 (am_u J 178 0 v.toInt64) E)) rfl ?_
    refine lr_s (t := (100, 304, 1014, [some (.ref 60000), some (.ref 0), some (.ref 156), some (.ref 178), some (.int i), some (.int 0), some (.int v)], [.int (Int32.ofInt 0), .ref 178], am_hp I2 (am_u J 178 0 v.toInt64) E)) rfl ?_
    refine lr_g (t := (100, 304, 1015, [some (.ref 60000), some (.ref 0), some (.ref 156), some (.ref 178), some (.int i), some (.int 0), some (.int v)], [.long (am_u J 178 0 v.toInt64 178 (Int32.ofInt 0).toNatClampNeg)], am_hp I2 (am_u J 178 0 v.toInt64) E)) (show am_in (Int32.ofInt 0) 1 = true by decide) rfl ?_
    refine lr_s (t := (100, 304, 1017, [some (.ref 60000), some (.ref 0), some (.ref 156), some (.ref 178), some (.int i), some (.int 0), some (.int v)], [.int v, .long (am_u J 178 0 v.toInt64 178 (Int32.ofInt 0).toNatClampNeg)], am_hp I2 (am_u J 178 0 v.toInt64) E)) rfl ?_
    refine lr_s (t := (100, 304, 1018, [some (.ref 60000), some (.ref 0), some (.ref 156), some (.ref 178), some (.int i), some (.int 0), some (.int v)], [.long v.toInt64, .long (am_u J 178 0 v.toInt64 178 (Int32.ofInt 0).toNatClampNeg)], am_hp I2 (am_u J 178 0 v.toInt64) E)) rfl ?_
    refine lr_s (t := (100, 304, 1019, [some (.ref 60000), some (.ref 0), some (.ref 156), some (.ref 178), some (.int i), some (.int 0), some (.int v)], [.int (lg_cmp (am_u J 178 0 v.toInt64 178 (Int32.ofInt 0).toNatClampNeg) v.toInt64)], am_hp I2 (am_u J 178 0 v.toInt64) E)) rfl ?_
    refine lr_b (t := (100, 304, 1024, [some (.ref 60000), some (.ref 0), some (.ref 156), some (.ref 178), some (.int i), some (.int 0), some (.int v)], [], am_hp I2 (am_u J 178 0 v.toInt64) E)) (t' := (100, 304, 1022, [some (.ref 60000), some (.ref 0), some (.ref 156), some (.ref 178), some (.int i), some (.int 0), some (.int v)], [], am_hp I2 (am_u J 178 0 v.toInt64) E)) (decide_eq_true ((lg_cmp0 _ _).mpr lw_J)) rfl ?_
    exact lr_g (t := (100, 304, 1338, [some (.ref 60000), some (.ref 0), some (.ref 156), some (.ref 178), some (.int i), some (.int 0), some (.int v)], [], am_hp I2 (am_u J 178 0 v.toInt64) E)) (show decide ((0 : Int) ≤ (1024 : Nat) + 314) = true by decide) rfl lr_e
