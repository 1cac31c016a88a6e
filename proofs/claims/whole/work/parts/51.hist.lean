/-! the class's history; acts as calls -/
theorem ps_cpy1 (I : Nat → Nat → Int32) (p : Nat) (m f : Nat → Int32) : am_ur (pS I p m) (p + 1) (va_cpy f (pS I p m (p + 1)) 0 0 8) = pS I p (cpr m 38 8 f) := by
  funext q j
  have a := sx_cases p q j
  by_cases h : q = p + 1
  · subst h
    simp only [am_ur_d, va_cpy, if_true]
    by_cases hj : j < 8
    · rw [if_pos (by omega), pS_d, sx_i p j hj, if_neg (by omega), cpr_in _ _ _ _ _ hj]
      congr 1; omega
    · rw [if_neg (by omega), pS_d, pS_d, if_pos (by omega), if_pos (by omega)]
  · rw [am_ur_d, if_neg h, pS_d, pS_d]
    by_cases hz : sx p q j = 0
    · rw [if_pos hz, if_pos hz]
    · rw [if_neg hz, if_neg hz, cpr_out _ _ _ _ _ (by omega)]
theorem ps_cpy2 (I : Nat → Nat → Int32) (p : Nat) (m f : Nat → Int32) : am_ur (pS I p m) (p + 2) (va_cpy f (pS I p m (p + 2)) 0 0 6) = pS I p (cpr m 46 6 f) := by
  funext q j
  have a := sx_cases p q j
  by_cases h : q = p + 2
  · subst h
    simp only [am_ur_d, va_cpy, if_true]
    by_cases hj : j < 6
    · rw [if_pos (by omega), pS_d, sx_h p j hj, if_neg (by omega), cpr_in _ _ _ _ _ hj]
      congr 1; omega
    · rw [if_neg (by omega), pS_d, pS_d, if_pos (by omega), if_pos (by omega)]
  · rw [am_ur_d, if_neg h, pS_d, pS_d]
    by_cases hz : sx p q j = 0
    · rw [if_pos hz, if_pos hz]
    · rw [if_neg hz, if_neg hz, cpr_out _ _ _ _ _ (by omega)]
theorem ps_cpy3 (I : Nat → Nat → Int32) (p : Nat) (m f : Nat → Int32) : am_ur (pS I p m) (p + 3) (va_cpy f (pS I p m (p + 3)) 0 0 6) = pS I p (cpr m 52 6 f) := by
  funext q j
  have a := sx_cases p q j
  by_cases h : q = p + 3
  · subst h
    simp only [am_ur_d, va_cpy, if_true]
    by_cases hj : j < 6
    · rw [if_pos (by omega), pS_d, sx_l p j hj, if_neg (by omega), cpr_in _ _ _ _ _ hj]
      congr 1; omega
    · rw [if_neg (by omega), pS_d, pS_d, if_pos (by omega), if_pos (by omega)]
  · rw [am_ur_d, if_neg h, pS_d, pS_d]
    by_cases hz : sx p q j = 0
    · rw [if_pos hz, if_pos hz]
    · rw [if_neg hz, if_neg hz, cpr_out _ _ _ _ _ (by omega)]
theorem ps_cpy4 (I : Nat → Nat → Int32) (p : Nat) (m f : Nat → Int32) : am_ur (pS I p m) (p + 4) (va_cpy f (pS I p m (p + 4)) 0 0 6) = pS I p (cpr m 58 6 f) := by
  funext q j
  have a := sx_cases p q j
  by_cases h : q = p + 4
  · subst h
    simp only [am_ur_d, va_cpy, if_true]
    by_cases hj : j < 6
    · rw [if_pos (by omega), pS_d, sx_f p j hj, if_neg (by omega), cpr_in _ _ _ _ _ hj]
      congr 1; omega
    · rw [if_neg (by omega), pS_d, pS_d, if_pos (by omega), if_pos (by omega)]
  · rw [am_ur_d, if_neg h, pS_d, pS_d]
    by_cases hz : sx p q j = 0
    · rw [if_pos hz, if_pos hz]
    · rw [if_neg hz, if_neg hz, cpr_out _ _ _ _ _ (by omega)]
theorem ps_cpy5 (I : Nat → Nat → Int32) (p : Nat) (m f : Nat → Int32) : am_ur (pS I p m) (p + 5) (va_cpy f (pS I p m (p + 5)) 0 0 6) = pS I p (cpr m 64 6 f) := by
  funext q j
  have a := sx_cases p q j
  by_cases h : q = p + 5
  · subst h
    simp only [am_ur_d, va_cpy, if_true]
    by_cases hj : j < 6
    · rw [if_pos (by omega), pS_d, sx_r p j hj, if_neg (by omega), cpr_in _ _ _ _ _ hj]
      congr 1; omega
    · rw [if_neg (by omega), pS_d, pS_d, if_pos (by omega), if_pos (by omega)]
  · rw [am_ur_d, if_neg h, pS_d, pS_d]
    by_cases hz : sx p q j = 0
    · rw [if_pos hz, if_pos hz]
    · rw [if_neg hz, if_neg hz, cpr_out _ _ _ _ _ (by omega)]

theorem st_dis (p q : Nat) (hp : stq p = true) (hq : stq q = true) (h : p ≠ q) : p + 5 < q ∨ q + 5 < p := by
  unfold stq at hp hq
  simp only [Bool.or_eq_true, Bool.and_eq_true, Nat.beq_eq, Nat.ble_eq] at hp hq
  omega
theorem nb8 : Nat.ble 8 8 = true := rfl
theorem nb6 : Nat.ble 6 6 = true := rfl
theorem c_copy0 (env : am_E) (d : Nat) (p q : Nat) (hp : stq p = true) (hq : stq q = true) (hpq : p + 5 < q ∨ q + 5 < p) (I : Nat → Nat → Int32) (J : Nat → Nat → Int64) (E : Nat → Nat → Nat) (m : Nat → Int32) : am_ev env (d + 1, 74, 0, [some (.ref p), some (.ref q)], [], am_hp (pS I p m) J E) = some (true, none, am_hp (pS I p (rS I q)) J E) := by
  simp (disch := omega) only [bk_74_0, bk_74_32, bk_74_62, bk_74_92, nb8, nb6, st_d0 p hp, st_b0 p hp, st_4 p hp, st_5 p hp, st_6 p hp, st_7 p hp, st_8 p hp, st_d1 p hp, st_b1 p hp, st_l1 p hp, st_d2 p hp, st_b2 p hp, st_l2 p hp, st_d3 p hp, st_b3 p hp, st_l3 p hp, st_d4 p hp, st_b4 p hp, st_l4 p hp, st_d5 p hp, st_b5 p hp, st_l5 p hp, st_t1 p hp, st_t2 p hp, st_t3 p hp, st_t4 p hp, st_t5 p hp, Bool.and_true, Bool.and_self, decide_true, st_d0 q hq, st_b0 q hq, st_4 q hq, st_5 q hq, st_6 q hq, st_7 q hq, st_8 q hq, st_d1 q hq, st_b1 q hq, st_d2 q hq, st_b2 q hq, st_d3 q hq, st_b3 q hq, st_d4 q hq, st_b4 q hq, st_d5 q hq, st_b5 q hq, st_t1 q hq, st_t2 q hq, st_t3 q hq, st_t4 q hq, st_t5 q hq, decide_true, decide_false, Bool.not_true, Bool.not_false, am_cont, Option.bind_some, Option.toList_some, Option.toList_none, List.singleton_append, List.nil_append, cond_true, cond_false, ps_s0, ps_s1, ps_s2, ps_s3, ps_ne, ps_cpy1, ps_cpy2, ps_cpy3, ps_cpy4, ps_cpy5]
  congr 4
  apply ps_ext
  intro k h1 h2
  by_cases g1 : k < 38
  · rw [cpr_out _ _ _ _ _ (by omega), cpr_out _ _ _ _ _ (by omega), cpr_out _ _ _ _ _ (by omega), cpr_out _ _ _ _ _ (by omega), cpr_out _ _ _ _ _ (by omega)]
    unfold rS
    rw [if_neg (by omega), if_neg (by omega), if_neg (by omega), if_neg (by omega), if_neg (by omega), if_pos g1]
    have : k = 34 ∨ k = 35 ∨ k = 36 ∨ k = 37 := by omega
    rcases this with rfl | rfl | rfl | rfl
    · rw [ru_ne _ _ _ _ (by omega), ru_ne _ _ _ _ (by omega), ru_ne _ _ _ _ (by omega), ru_eq]
    · rw [ru_ne _ _ _ _ (by omega), ru_ne _ _ _ _ (by omega), ru_eq]
    · rw [ru_ne _ _ _ _ (by omega), ru_eq]
    · rw [ru_eq]
  by_cases g2 : k < 46
  · rw [cpr_out _ _ _ _ _ (by omega), cpr_out _ _ _ _ _ (by omega), cpr_out _ _ _ _ _ (by omega), cpr_out _ _ _ _ _ (by omega)]
    unfold rS cpr
    rw [if_pos (by omega), if_neg (by omega), if_neg (by omega), if_neg (by omega), if_neg (by omega), if_neg (by omega), if_neg g1, if_pos g2]
  by_cases g3 : k < 52
  · rw [cpr_out _ _ _ _ _ (by omega), cpr_out _ _ _ _ _ (by omega), cpr_out _ _ _ _ _ (by omega)]
    unfold rS cpr
    rw [if_pos (by omega), if_neg (by omega), if_neg (by omega), if_neg (by omega), if_neg (by omega), if_neg (by omega), if_neg g1, if_neg g2, if_pos g3]
  by_cases g4 : k < 58
  · rw [cpr_out _ _ _ _ _ (by omega), cpr_out _ _ _ _ _ (by omega)]
    unfold rS cpr
    rw [if_pos (by omega), if_neg (by omega), if_neg (by omega), if_neg (by omega), if_neg (by omega), if_neg (by omega), if_neg g1, if_neg g2, if_neg g3, if_pos g4]
  by_cases g5 : k < 64
  · rw [cpr_out _ _ _ _ _ (by omega)]
    unfold rS cpr
    rw [if_pos (by omega), if_neg (by omega), if_neg (by omega), if_neg (by omega), if_neg (by omega), if_neg (by omega), if_neg g1, if_neg g2, if_neg g3, if_neg g4, if_pos g5]
  · unfold rS cpr
    rw [if_pos (by omega), if_neg (by omega), if_neg (by omega), if_neg (by omega), if_neg (by omega), if_neg (by omega), if_neg g1, if_neg g2, if_neg g3, if_neg g4, if_neg g5, if_pos h2]
theorem c_copy (env : am_E) (d : Nat) (p q : Nat) (hp : stq p = true) (hq : stq q = true) (hpq : p ≠ q) (I : Nat → Nat → Int32) (J : Nat → Nat → Int64) (E : Nat → Nat → Nat) : am_ev env (d + 1, 74, 0, [some (.ref p), some (.ref q)], [], am_hp I J E) = some (true, none, am_hp (pS I p (rS I q)) J E) := by
  have h := c_copy0 env d p q hp hq (st_dis p q hp hq hpq) I J E (rS I p)
  rw [ps_rS] at h
  exact h
theorem hs_44 : ∀ t : Fin 9, am_SR 44 t.1 = 45 + 6 * t.1 ∧ stq (45 + 6 * t.1) = true := by decide +kernel
theorem hs_sr (t : Nat) (ht : t < 9) : am_SR 44 t = 45 + 6 * t := (hs_44 ⟨t, ht⟩).1
theorem hs_st (t : Nat) (ht : t < 9) : stq (45 + 6 * t) = true := (hs_44 ⟨t, ht⟩).2
theorem st12 : stq 12 = true := by decide
theorem st31 : stq 31 = true := by decide
/-- what was so is held -/
def hd (I : Nat → Nat → Int32) (t : Nat) : Nat → Nat → Int32 := pS I (45 + 6 * t) (rS I 12)
theorem c_hold (env : am_E) (d : Nat) (t : Nat) (ht : t < 9) (I : Nat → Nat → Int32) (J : Nat → Nat → Int64) (E : Nat → Nat → Nat) (h : I 43 1 = Int32.ofNat t) : am_ev env (d + 2, 8, 0, [some (.ref 43), some (.ref 12)], [], am_hp I J E) = some (true, none, am_hp (hd I t) J E) := by
  have hp := hs_st t ht
  simp (disch := omega) only [bk_8_0, bk_8_13, h, zI_in, zI_nat, hs_sr, st_d0 (45 + 6 * t) hp, st_b0 (45 + 6 * t) hp, Bool.and_true, Bool.and_self, decide_true, decide_false, Bool.not_true, Bool.not_false, am_cont, Option.bind_some, Option.toList_some, Option.toList_none, List.singleton_append, List.nil_append, cond_true, cond_false, c_copy env d (45 + 6 * t) 12 hp st12 (by omega) I J E]
  rfl
theorem hs_9 : ∀ t : Fin 9, (Int32.ofNat t.1 + 1) - (Int32.ofNat t.1 + 1) / 9 * 9 = Int32.ofNat ((t.1 + 1) % 9) := by decide +kernel
theorem hs_9b : ∀ t : Fin 9, (Int32.ofNat t.1 + 8) - (Int32.ofNat t.1 + 8) / 9 * 9 = Int32.ofNat ((t.1 + 8) % 9) := by decide +kernel
theorem hs_8 : ∀ t : Fin 9, (if ((Int32.ofNat t.1 + 1) : Int32) < 8 then (Int32.ofNat t.1 + 1) else 8) = Int32.ofNat (sns t.1) := by decide +kernel
def kp (I : Nat → Nat → Int32) (t h : Nat) : Nat → Nat → Int32 := am_ur I 43 (ru (ru (I 43) 1 (Int32.ofNat ((t + 1) % 9))) 2 (Int32.ofNat (sns h)))
theorem c_keep (env : am_E) (d : Nat) (t h : Nat) (ht : t < 9) (hh : h ≤ 8) (I : Nat → Nat → Int32) (J : Nat → Nat → Int64) (E : Nat → Nat → Nat) (e1 : I 43 1 = Int32.ofNat t) (e2 : I 43 2 = Int32.ofNat h) : am_ev env (d + 1, 9, 0, [some (.ref 43)], [], am_hp I J E) = some (true, none, am_hp (kp I t h) J E) := by
  have e3 := hs_9 ⟨t, ht⟩
  have e4 := hs_8 ⟨h, by omega⟩
  simp only at e3 e4
  simp (disch := omega) only [bk_9_0, am_u_r, ur_at, ur_ur, ru_ne, e1, e2, e3, e4]
  rfl
theorem c_takeBack0_h (env : am_E) (d : Nat) (I : Nat → Nat → Int32) (J : Nat → Nat → Int64) (E : Nat → Nat → Nat) (e2 : I 43 2 = 0) : am_ev env (d + 1, 10, 0, [some (.ref 43), some (.ref 12)], [], am_hp I J E) = some (true, some (.int (-1)), am_hp I J E) := by
  have e : decide ((1 : Int32) ≤ 0) = false := by decide
  simp only [bk_10_0, e2, e, cond_false]
def ub (I : Nat → Nat → Int32) (t h : Nat) : Nat → Nat → Int32 := am_ur I 43 (ru (ru (I 43) 1 (Int32.ofNat ((t + 8) % 9))) 2 (Int32.ofNat h))
theorem c_takeBack_h (env : am_E) (d : Nat) (t h : Nat) (ht : t < 9) (hh : h < 8) (I : Nat → Nat → Int32) (J : Nat → Nat → Int64) (E : Nat → Nat → Nat) (e1 : I 43 1 = Int32.ofNat t) (e2 : I 43 2 = Int32.ofNat (h + 1)) : am_ev env (d + 2, 10, 0, [some (.ref 43), some (.ref 12)], [], am_hp I J E) = some (true, some (.int (Int32.ofNat h)), am_hp (pS (ub I t h) 12 (rS (ub I t h) (45 + 6 * ((t + 8) % 9)))) J E) := by
  have e : decide ((1 : Int32) ≤ Int32.ofNat (h + 1)) = true := zle_t 1 (h + 1) (by omega) (by omega)
  have e3 := hs_9b ⟨t, ht⟩
  simp only at e3
  have hm : (t + 8) % 9 < 9 := Nat.mod_lt _ (by omega)
  have hq := hs_st ((t + 8) % 9) hm
  have e5 : Int32.ofNat (h + 1) - 1 = Int32.ofNat h := zI_sub (h + 1) 1 (by omega)
  simp (disch := omega) only [bk_10_0, am_u_r, ur_at, ur_ur, ru_ne, ru_eq, e1, e2, e, e3, e5, zI_in, zI_nat, hs_sr, st_d0 12 st12, st_b0 12 st12, Bool.and_true, Bool.and_self, decide_true, decide_false, Bool.not_true, Bool.not_false, am_cont, Option.bind_some, Option.toList_some, Option.toList_none, List.singleton_append, List.nil_append, cond_true, cond_false]
  have hc := c_copy env d 12 (45 + 6 * ((t + 8) % 9)) st12 hq (by omega) (ub I t h) J E
  unfold ub at hc ⊢
  rw [hc]
  simp (disch := omega) only [decide_true, decide_false, Bool.not_true, Bool.not_false, am_cont, Option.bind_some, Option.toList_some, Option.toList_none, List.singleton_append, List.nil_append, cond_true, cond_false, bk_10_47, ps_ne, ur_at, ru_eq]
theorem c_hasBook (env : am_E) (d : Nat) (x : Int32) (I : Nat → Nat → Int32) (J : Nat → Nat → Int64) (E : Nat → Nat → Nat) (n : Nat) (hn : n ≤ 8) (h : I 5 0 = Int32.ofNat n) : am_ev env (d + 1, 14, 0, [some (.ref 5), some (.int x)], [], am_hp I J E) = some (true, some (.int (bi (am_in x n))), am_hp I J E) := by
  simp only [bk_14_0, bk_14_22, bk_14_23, lb_d, lb_b, h, Bool.and_self, decide_true, decide_false, Bool.not_true, Bool.not_false, am_cont, Option.bind_some, Option.toList_some, Option.toList_none, List.singleton_append, List.nil_append, cond_true, cond_false]
  by_cases hx : x < 0
  · rw [decide_eq_true hx]
    unfold am_in; rw [decide_eq_true hx]; rfl
  · rw [decide_eq_false hx]
    obtain ⟨e, hl⟩ := zI_of x (Int32.not_lt.mp hx)
    generalize x.toNatClampNeg = y at e hl
    subst e
    rw [am_in_of y n hl]
    by_cases hy : y < n
    · rw [decide_eq_true hy, zle_f n y hy (by omega), show decide ((8 : Int32) ≤ Int32.ofNat y) = false from zle_f 8 y (by omega) (by omega)]; rfl
    · rw [decide_eq_false hy, zle_t n y (by omega) (by omega)]; rfl
theorem c_hasReader (env : am_E) (d : Nat) (x : Int32) (I : Nat → Nat → Int32) (J : Nat → Nat → Int64) (E : Nat → Nat → Nat) (n : Nat) (hn : n ≤ 6) (h : I 5 2 = Int32.ofNat n) : am_ev env (d + 1, 15, 0, [some (.ref 5), some (.int x)], [], am_hp I J E) = some (true, some (.int (bi (am_in x n))), am_hp I J E) := by
  simp only [bk_15_0, bk_15_22, bk_15_23, lb_d, lb_b, h, Bool.and_self, decide_true, decide_false, Bool.not_true, Bool.not_false, am_cont, Option.bind_some, Option.toList_some, Option.toList_none, List.singleton_append, List.nil_append, cond_true, cond_false]
  by_cases hx : x < 0
  · rw [decide_eq_true hx]
    unfold am_in; rw [decide_eq_true hx]; rfl
  · rw [decide_eq_false hx]
    obtain ⟨e, hl⟩ := zI_of x (Int32.not_lt.mp hx)
    generalize x.toNatClampNeg = y at e hl
    subst e
    rw [am_in_of y n hl]
    by_cases hy : y < n
    · rw [decide_eq_true hy, zle_f n y hy (by omega), show decide ((6 : Int32) ≤ Int32.ofNat y) = false from zle_f 6 y (by omega) (by omega)]; rfl
    · rw [decide_eq_false hy, zle_t n y (by omega) (by omega)]; rfl
theorem rS_congr (I I' : Nat → Nat → Int32) (p : Nat) (h : ∀ q, q = 5 ∨ (7 ≤ q ∧ q ≤ 9) ∨ q = 11 ∨ (p ≤ q ∧ q ≤ p + 5) → I' q = I q) : rS I' p = rS I p := by
  funext k
  unfold rS
  rw [h 5 (by omega), h 7 (by omega), h 8 (by omega), h 9 (by omega), h 11 (by omega), h p (by omega), h (p + 1) (by omega), h (p + 2) (by omega), h (p + 3) (by omega), h (p + 4) (by omega), h (p + 5) (by omega)]
theorem rS_pS (I : Nat → Nat → Int32) (p : Nat) (m : Nat → Int32) (hp : 12 ≤ p) (hm : ∀ j, j < 34 → m j = rS I p j) (k : Nat) (hk : k < 70) : rS (pS I p m) p k = m k := by
  by_cases h : k < 34
  · rw [hm k h]
    unfold rS
    rw [ps_ne I p m 5 (by omega), ps_ne I p m 7 (by omega), ps_ne I p m 8 (by omega), ps_ne I p m 9 (by omega), ps_ne I p m 11 (by omega)]
    by_cases g1 : k < 4
    · rw [if_pos g1, if_pos g1]
    rw [if_neg g1, if_neg g1]
    by_cases g1 : k < 12
    · rw [if_pos g1, if_pos g1]
    rw [if_neg g1, if_neg g1]
    by_cases g1 : k < 20
    · rw [if_pos g1, if_pos g1]
    rw [if_neg g1, if_neg g1]
    by_cases g1 : k < 28
    · rw [if_pos g1, if_pos g1]
    rw [if_neg g1, if_neg g1, if_pos h, if_pos h]
  · have key : ∀ q j, sx p q j = k → rS (pS I p m) p k = m k := by
      intro q j e
      have := rS_sx (pS I p m) p q j (by omega)
      rw [e] at this
      rw [this, ps_get I p m q j k e (by omega)]
    by_cases g1 : k < 38
    · have : k = 34 ∨ k = 35 ∨ k = 36 ∨ k = 37 := by omega
      rcases this with rfl | rfl | rfl | rfl
      · exact key p 0 (sx_0 p)
      · exact key p 1 (sx_1 p)
      · exact key p 2 (sx_2 p)
      · exact key p 3 (sx_3 p)
    by_cases g2 : k < 46
    · exact key (p + 1) (k - 38) (by rw [sx_i p _ (by omega)]; omega)
    by_cases g3 : k < 52
    · exact key (p + 2) (k - 46) (by rw [sx_h p _ (by omega)]; omega)
    by_cases g4 : k < 58
    · exact key (p + 3) (k - 52) (by rw [sx_l p _ (by omega)]; omega)
    by_cases g5 : k < 64
    · exact key (p + 4) (k - 58) (by rw [sx_f p _ (by omega)]; omega)
    · exact key (p + 5) (k - 64) (by rw [sx_r p _ (by omega)]; omega)
theorem rS_low (I : Nat → Nat → Int32) (p q j : Nat) (h : j < 34) : rS I p j = rS I q j := by
  unfold rS
  by_cases g1 : j < 4
  · rw [if_pos g1, if_pos g1]
  rw [if_neg g1, if_neg g1]
  by_cases g1 : j < 12
  · rw [if_pos g1, if_pos g1]
  rw [if_neg g1, if_neg g1]
  by_cases g1 : j < 20
  · rw [if_pos g1, if_pos g1]
  rw [if_neg g1, if_neg g1]
  by_cases g1 : j < 28
  · rw [if_pos g1, if_pos g1]
  rw [if_neg g1, if_neg g1, if_pos h, if_pos h]
theorem rS_hd (I : Nat → Nat → Int32) (t : Nat) : rS (hd I t) 12 = rS I 12 := rS_congr _ _ _ (fun q hq => ps_ne _ _ _ _ (by omega))
theorem hd_ps (I : Nat → Nat → Int32) (t : Nat) : pS (hd I t) 12 (rS I 12) = hd I t := by
  rw [← rS_hd I t]; exact ps_rS _ _
theorem Lb_hd (I : Nat → Nat → Int32) (t : Nat) : Lb (hd I t) (rS I 12) := by
  rw [← rS_hd I t]; exact rS_lb _ _
/-- an act's whole, in the class -/
def cA (I : Nat → Nat → Int32) (t h : Nat) (w : Int32) (m' : Nat → Int32) : Nat → Nat → Int32 := bif decide (w = 0) then kp (pS (hd I t) 12 m') t h else hd I t
theorem c_keepIf (env : am_E) (d : Nat) (t h : Nat) (ht : t < 9) (hh : h ≤ 8) (w : Int32) (m' : Nat → Int32) (I : Nat → Nat → Int32) (J : Nat → Nat → Int64) (E : Nat → Nat → Nat) (e1 : I 43 1 = Int32.ofNat t) (e2 : I 43 2 = Int32.ofNat h) : am_ev env (d + 2, 133, 0, [some (.ref 0), some (.int w)], [], am_hp (pS (hd I t) 12 (bif decide (w = 0) then m' else rS I 12)) J E) = some (true, some (.int w), am_hp (cA I t h w m') J E) := by
  have f1 : ∀ m, pS (hd I t) 12 m 43 = I 43 := fun m => by rw [ps_ne _ _ _ _ (by omega)]; unfold hd; rw [ps_ne _ _ _ _ (by omega)]
  unfold cA
  simp only [bk_133_0, bk_133_11]
  cases decide (w = 0)
  · simp only [Bool.not_false, cond_true, cond_false, hd_ps]
  · simp only [Bool.not_true, cond_true, cond_false, decide_true, decide_false, Bool.not_true, Bool.not_false, am_cont, Option.bind_some, Option.toList_some, Option.toList_none, List.singleton_append, List.nil_append, cond_true, cond_false, c_keep env d t h ht hh (pS (hd I t) 12 m') J E (by rw [f1]; exact e1) (by rw [f1]; exact e2), bk_133_11]
