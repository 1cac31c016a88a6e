/-! the law's loop -/
def LR (env : am_E) (s t : am_S) (K : Nat) : Prop := ∃ n, n ≤ K ∧ am_lr env n s = some t
theorem lr_e {env : am_E} {s : am_S} {K : Nat} : LR env s s K := ⟨0, Nat.zero_le _, rfl⟩
theorem lr_s {env : am_E} {s t u : am_S} {K : Nat} (h : am_ls env s = some t) (k : LR env t u K) : LR env s u (K + 1) := by
  obtain ⟨n, hn, e⟩ := k
  refine ⟨n + 1, by omega, ?_⟩
  show (am_ls env s).bind (am_lr env n) = some u
  rw [h]
  exact e
theorem lr_g {env : am_E} {s t u : am_S} {K : Nat} {b : Bool} (hb : b = true) (h : am_ls env s = bif b then some t else none) (k : LR env t u K) : LR env s u (K + 1) := lr_s (h.trans (by rw [hb]; rfl)) k
theorem lr_b {env : am_E} {s t t' u : am_S} {K : Nat} {b : Bool} (hb : b = true) (h : am_ls env s = bif b then some t else some t') (k : LR env t u K) : LR env s u (K + 1) := lr_s (h.trans (by rw [hb]; rfl)) k
theorem lr_n {env : am_E} {s t t' u : am_S} {K : Nat} {b : Bool} (hb : b = false) (h : am_ls env s = bif b then some t' else some t) (k : LR env t u K) : LR env s u (K + 1) := lr_s (h.trans (by rw [hb]; rfl)) k
theorem lr_c {env : am_E} {s s1 t u : am_S} {r : am_R} {kf : am_R → Option am_S} {K : Nat} (he : am_ev env s1 = some r) (h : am_ls env s = (am_ev env s1).bind kf) (hk : kf r = some t) (k : LR env t u K) : LR env s u (K + 1) := lr_s (h.trans (by rw [he]; exact hk)) k
theorem lr_t {env : am_E} {s t u : am_S} {K K' : Nat} (h1 : LR env s t K) (h2 : LR env t u K') : LR env s u (K + K') := by
  obtain ⟨n, hn, e⟩ := h1
  obtain ⟨m, hm, f⟩ := h2
  refine ⟨n + m, by omega, ?_⟩
  clear hn
  induction n generalizing s with
  | zero =>
    cases e
    rw [Nat.zero_add]
    exact f
  | succ n ih =>
    have e : (am_ls env s).bind (am_lr env n) = some t := e
    rw [Nat.add_right_comm]
    show (am_ls env s).bind (am_lr env (n + m)) = some u
    cases hs : am_ls env s with
    | none => rw [hs] at e; cases e
    | some w =>
      rw [hs] at e
      exact ih e
theorem lr_w {env : am_E} {s t : am_S} {K K' : Nat} (h : LR env s t K) (hk : K ≤ K') : LR env s t K' := by
  obtain ⟨n, hn, e⟩ := h
  exact ⟨n, Nat.le_trans hn hk, e⟩
theorem lr_in {i : Int32} {N : Nat} (h : am_in i N = true) : (Nat.beq 60000 60000 && am_in i N) = true := by
  rw [h]
  rfl
/-- the five numbers behind the act are there -/
def gI (i : Int32) (N : Nat) : Prop := am_in (i + Int32.ofInt 1) N = true ∧ am_in (i + Int32.ofInt 2) N = true ∧ am_in (i + Int32.ofInt 3) N = true ∧ am_in (i + Int32.ofInt 4) N = true ∧ am_in (i + Int32.ofInt 5) N = true
/-- one act: from its place in the switch to the loop's end -/
def lwS (N : Nat) (xs : Nat → Int32) (i : Int32) (pc : Nat) : Prop := ∀ (x5 x6 : Option Value) (I : Nat → Nat → Int32) (J : Nat → Nat → Int64) (E : Nat → Nat → Nat), Rel I J E → ∃ y5 y6 I2 J2 E2, Rel I2 J2 E2 ∧ LR (false, N, xs) (100, 304, pc, [some (.ref 60000), some (.ref 0), some (.ref 156), some (.ref 178), some (.int i), x5, x6], [], am_hp I J E) (100, 304, 1338, [some (.ref 60000), some (.ref 0), some (.ref 156), some (.ref 178), some (.int i), y5, y6], [], am_hp I2 J2 E2) 400
set_option maxRecDepth 20000 in
theorem lw_3 (N : Nat) (xs : Nat → Int32) (i : Int32) (g : gI i N) : lwS N xs i 327 := by
  intro x5 x6 I J E hrel
  obtain ⟨v, I1, J1, E1, I2, J2, E2, e1, e2, hr2⟩ := rl_fault (false, N, xs) 39 I J E hrel
  have e1 : am_ev (false, N, xs) (99, 118, 0, [some (.ref 0)], [], am_hp I J E) = some (true, some (.int v), am_hp I1 J1 E1) := e1
  have e2 : am_ev (false, N, xs) (99, 206, 0, [some (.ref 156)], [], am_hp I1 J1 E1) = some (true, some (.int v), am_hp I2 J2 E2) := e2
  refine ⟨x5, x6, I2, J2, E2, hr2, ?_⟩
  refine lr_s (t := (100, 304, 328, [some (.ref 60000), some (.ref 0), some (.ref 156), some (.ref 178), some (.int i), x5, x6], [.ref 0], am_hp I J E)) rfl ?_
  refine lr_c (s1 := (99, 118, 0, [some (.ref 0)], [], am_hp I J E)) (t := (100, 304, 331, [some (.ref 60000), some (.ref 0), some (.ref 156), some (.ref 178), some (.int i), x5, x6], [.int v], am_hp I1 J1 E1)) e1 rfl rfl ?_
  refine lr_s (t := (100, 304, 332, [some (.ref 60000), some (.ref 0), some (.ref 156), some (.ref 178), some (.int i), x5, x6], [.ref 156, .int v], am_hp I1 J1 E1)) rfl ?_
  refine lr_c (s1 := (99, 206, 0, [some (.ref 156)], [], am_hp I1 J1 E1)) (t := (100, 304, 335, [some (.ref 60000), some (.ref 0), some (.ref 156), some (.ref 178), some (.int i), x5, x6], [.int v, .int v], am_hp I2 J2 E2)) e2 rfl rfl ?_
  exact lr_b (t := (100, 304, 1338, [some (.ref 60000), some (.ref 0), some (.ref 156), some (.ref 178), some (.int i), x5, x6], [], am_hp I2 J2 E2)) (t' := (100, 304, 338, [some (.ref 60000), some (.ref 0), some (.ref 156), some (.ref 178), some (.int i), x5, x6], [], am_hp I2 J2 E2)) (decide_eq_true (rfl : v = v)) rfl lr_e
