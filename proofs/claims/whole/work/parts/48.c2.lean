/-! the class's acts -/
theorem c_isIn (env : am_E) (d : Nat) (s : Int32) (k : Nat) (hk : k < 32) (I : Nat → Nat → Int32) (J : Nat → Nat → Int64) (E : Nat → Nat → Nat) : am_ev env (d + 1, 168, 0, [some (.int s), some (.int (Int32.ofNat k))], [], am_hp I J E) = some (true, some (.int (bi (bt s k))), am_hp I J E) := by
  have e0 : decide (Int32.ofNat k < 0) = false := zlt_f k 0 (by omega) (by omega)
  have e1 : decide ((s >>> (Int32.ofNat k &&& 31)) &&& 1 = 0) = !bt s k := by
    rw [bt_has s k hk]; cases bt s k <;> decide
  simp only [bk_168_0, bk_168_16, bk_168_17, e0, e1, decide_true, decide_false, Bool.not_true, Bool.not_false, am_cont, Option.bind_some, Option.toList_some, Option.toList_none, List.singleton_append, List.nil_append, cond_true, cond_false]
  cases bt s k <;> rfl
theorem c_isIn_m1 (env : am_E) (d : Nat) (s : Int32) (I : Nat → Nat → Int32) (J : Nat → Nat → Int64) (E : Nat → Nat → Nat) : am_ev env (d + 1, 168, 0, [some (.int s), some (.int (-1))], [], am_hp I J E) = some (true, some (.int 0), am_hp I J E) := by
  have e0 : decide ((-1 : Int32) < 0) = true := by decide
  simp only [bk_168_0, bk_168_16, bk_168_17, e0, decide_true, decide_false, Bool.not_true, Bool.not_false, am_cont, Option.bind_some, Option.toList_some, Option.toList_none, List.singleton_append, List.nil_append, cond_true, cond_false]
  rfl
theorem fitq_or (m : Nat → Int32) (r b : Nat) : fitq m r b = (bt (m 35) b || decide (m (20 + b) &&& (m (64 + r) ^^^ -1) = 0)) := by
  unfold fitq aft
  by_cases h : bt (m 35) b = true
  · rw [h]; simp
  · rw [Bool.not_eq_true] at h; rw [h]; simp
theorem c_isFit (env : am_E) (d : Nat) (p : Nat) (hp : stq p = true) (r b : Nat) (hr : r < 6) (hb : b < 8) (I : Nat → Nat → Int32) (J : Nat → Nat → Int64) (E : Nat → Nat → Nat) (m : Nat → Int32) (hl : Lb I m) : am_ev env (d + 2, 75, 0, [some (.ref p), some (.ref 5), some (.int (Int32.ofNat r)), some (.int (Int32.ofNat b))], [], am_hp (pS I p m) J E) = some (true, some (.int (bi (fitq m r b))), am_hp (pS I p m) J E) := by
  have hpb := st_bd p hp
  rw [fitq_or]
  simp (disch := omega) only [bk_75_0, bk_75_8, bk_75_29, bk_75_34, st_d0 p hp, st_b0 p hp, st_4 p hp, st_5 p hp, st_6 p hp, st_7 p hp, st_8 p hp, st_d1 p hp, st_b1 p hp, st_l1 p hp, st_d2 p hp, st_b2 p hp, st_l2 p hp, st_d3 p hp, st_b3 p hp, st_l3 p hp, st_d4 p hp, st_b4 p hp, st_l4 p hp, st_d5 p hp, st_b5 p hp, st_l5 p hp, st_t1 p hp, st_t2 p hp, st_t3 p hp, st_t4 p hp, st_t5 p hp, Bool.and_true, Bool.and_self, decide_true, lb_d, lb_b, lb_6, lb_7, lb_8, lb_10, lb_d7, lb_b7, lb_l7, lb_t7, lb_d8, lb_b8, lb_l8, lb_t8, lb_d9, lb_b9, lb_l9, lb_t9, lb_d11, lb_b11, lb_l11, lb_t11, ps_g0, ps_g1, ps_g2, ps_g3, ps_g9, ps_gi, ps_gh, ps_gl, ps_gf, ps_gr, ps_s0, ps_s1, ps_s2, ps_s3, ps_s9, ps_si, ps_sh, ps_sl, ps_sf, ps_sr, ps_ne, hl.1, hl.2.1, hl.2.2.1, hl.2.2.2.1, hl.2.2.2.2, decide_true, decide_false, Bool.not_true, Bool.not_false, am_cont, Option.bind_some, Option.toList_some, Option.toList_none, List.singleton_append, List.nil_append, cond_true, cond_false, zI_in, zI_nat, c_isIn, bi_eq0]
  by_cases h1 : bt (m 35) b = true
  · rw [h1]; rfl
  · rw [Bool.not_eq_true] at h1; rw [h1]
    by_cases h2 : m (20 + b) &&& (m (64 + r) ^^^ -1) = 0
    · rw [decide_eq_true h2]; rfl
    · rw [decide_eq_false h2]; rfl
/-- the class's why -/
def cwLend (m : Nat → Int32) (r b : Nat) : Int32 := bif !decide (m (46 + r) = -1) then 1 else bif bt (m (64 + r)) b then 2 else bif !fitq m r b then 3 else bif decide (1 ≤ m (38 + b)) then 0 else 4
theorem c_whyLend (env : am_E) (d : Nat) (p : Nat) (hp : stq p = true) (r b : Nat) (hr : r < 6) (hb : b < 8) (I : Nat → Nat → Int32) (J : Nat → Nat → Int64) (E : Nat → Nat → Nat) (m : Nat → Int32) (hl : Lb I m) : am_ev env (d + 3, 76, 0, [some (.ref p), some (.ref 5), some (.int (Int32.ofNat r)), some (.int (Int32.ofNat b))], [], am_hp (pS I p m) J E) = some (true, some (.int (cwLend m r b)), am_hp (pS I p m) J E) := by
  have hpb := st_bd p hp
  simp (disch := omega) only [bk_76_0, bk_76_22, bk_76_34, bk_76_54, st_d0 p hp, st_b0 p hp, st_4 p hp, st_5 p hp, st_6 p hp, st_7 p hp, st_8 p hp, st_d1 p hp, st_b1 p hp, st_l1 p hp, st_d2 p hp, st_b2 p hp, st_l2 p hp, st_d3 p hp, st_b3 p hp, st_l3 p hp, st_d4 p hp, st_b4 p hp, st_l4 p hp, st_d5 p hp, st_b5 p hp, st_l5 p hp, st_t1 p hp, st_t2 p hp, st_t3 p hp, st_t4 p hp, st_t5 p hp, Bool.and_true, Bool.and_self, decide_true, lb_d, lb_b, lb_6, lb_7, lb_8, lb_10, lb_d7, lb_b7, lb_l7, lb_t7, lb_d8, lb_b8, lb_l8, lb_t8, lb_d9, lb_b9, lb_l9, lb_t9, lb_d11, lb_b11, lb_l11, lb_t11, ps_g0, ps_g1, ps_g2, ps_g3, ps_g9, ps_gi, ps_gh, ps_gl, ps_gf, ps_gr, ps_s0, ps_s1, ps_s2, ps_s3, ps_s9, ps_si, ps_sh, ps_sl, ps_sf, ps_sr, ps_ne, hl.1, hl.2.1, hl.2.2.1, hl.2.2.2.1, hl.2.2.2.2, decide_true, decide_false, Bool.not_true, Bool.not_false, am_cont, Option.bind_some, Option.toList_some, Option.toList_none, List.singleton_append, List.nil_append, cond_true, cond_false, zI_in, zI_nat, c_isIn, bi_eq0, c_isFit env _ p hp r b hr hb I J E m hl]
  unfold cwLend
  cases decide (m (46 + r) = -1) <;> cases bt (m (64 + r)) b <;> cases fitq m r b <;> cases decide (1 ≤ m (38 + b)) <;> rfl
theorem cwLend_dec (m : Nat → Int32) (r b : Nat) : (decide (cwLend m r b = 0) = true) ∨ (decide (cwLend m r b = 0) = false) := by
  cases decide (cwLend m r b = 0)
  · exact Or.inr rfl
  · exact Or.inl rfl
theorem c_lendTo (env : am_E) (d : Nat) (p : Nat) (hp : stq p = true) (r b : Nat) (hr : r < 6) (hb : b < 8) (I : Nat → Nat → Int32) (J : Nat → Nat → Int64) (E : Nat → Nat → Nat) (m : Nat → Int32) (hl : Lb I m) : am_ev env (d + 4, 77, 0, [some (.ref p), some (.ref 5), some (.int (Int32.ofNat r)), some (.int (Int32.ofNat b)), none], [], am_hp (pS I p m) J E) = some (true, some (.int (cwLend m r b)), am_hp (pS I p (bif decide (cwLend m r b = 0) then lLend m r b else m)) J E) := by
  have hpb := st_bd p hp
  simp (disch := omega) only [bk_77_0, bk_77_7, bk_77_43, st_d0 p hp, st_b0 p hp, st_4 p hp, st_5 p hp, st_6 p hp, st_7 p hp, st_8 p hp, st_d1 p hp, st_b1 p hp, st_l1 p hp, st_d2 p hp, st_b2 p hp, st_l2 p hp, st_d3 p hp, st_b3 p hp, st_l3 p hp, st_d4 p hp, st_b4 p hp, st_l4 p hp, st_d5 p hp, st_b5 p hp, st_l5 p hp, st_t1 p hp, st_t2 p hp, st_t3 p hp, st_t4 p hp, st_t5 p hp, Bool.and_true, Bool.and_self, decide_true, lb_d, lb_b, lb_6, lb_7, lb_8, lb_10, lb_d7, lb_b7, lb_l7, lb_t7, lb_d8, lb_b8, lb_l8, lb_t8, lb_d9, lb_b9, lb_l9, lb_t9, lb_d11, lb_b11, lb_l11, lb_t11, decide_true, decide_false, Bool.not_true, Bool.not_false, am_cont, Option.bind_some, Option.toList_some, Option.toList_none, List.singleton_append, List.nil_append, cond_true, cond_false, zI_in, zI_nat, c_whyLend env _ p hp r b hr hb I J E m hl]
  cases decide (cwLend m r b = 0)
  · simp only [Bool.not_false, cond_true, cond_false, bk_77_43]
  · simp (disch := omega) only [Bool.not_true, cond_false, cond_true, ps_g0, ps_g1, ps_g2, ps_g3, ps_g9, ps_gi, ps_gh, ps_gl, ps_gf, ps_gr, ps_s0, ps_s1, ps_s2, ps_s3, ps_s9, ps_si, ps_sh, ps_sl, ps_sf, ps_sr, ps_ne, hl.1, hl.2.1, hl.2.2.1, hl.2.2.2.1, hl.2.2.2.2, bk_77_43]
    unfold lLend
    rfl
/-- lMin is Math.min -/
theorem lst_min (a b : Int32) : (if (a : Int32) < b then a else b) = lst b a := by
  unfold lst
  by_cases h : a < b
  · rw [if_pos h, decide_eq_true (Int32.le_of_lt h)]; rfl
  · rw [if_neg h]
    by_cases h2 : a ≤ b
    · rw [decide_eq_true h2]
      exact Int32.le_antisymm (Int32.not_lt.mp h) h2
    · rw [decide_eq_false h2]; rfl
theorem zI_lt0f (b : Nat) (hb : b < 8) : decide (Int32.ofNat b < 0) = false := zlt_f b 0 (by omega) (by omega)
theorem zI_8le (b : Nat) (hb : b < 8) : decide ((8 : Int32) ≤ Int32.ofNat b) = false := zle_f 8 b hb (by omega)
theorem c_putIn (env : am_E) (d : Nat) (p : Nat) (hp : stq p = true) (r b : Nat) (hr : r < 6) (hb : b < 8) (I : Nat → Nat → Int32) (J : Nat → Nat → Int64) (E : Nat → Nat → Nat) (m : Nat → Int32) (h : m (46 + r) = Int32.ofNat b) : am_ev env (d + 1, 79, 0, [some (.ref p), some (.int (Int32.ofNat r)), none], [], am_hp (pS I p m) J E) = some (true, none, am_hp (pS I p (lLeave m r b)) J E) := by
  have hpb := st_bd p hp
  simp (disch := omega) only [bk_79_0, bk_79_27, st_d0 p hp, st_b0 p hp, st_4 p hp, st_5 p hp, st_6 p hp, st_7 p hp, st_8 p hp, st_d1 p hp, st_b1 p hp, st_l1 p hp, st_d2 p hp, st_b2 p hp, st_l2 p hp, st_d3 p hp, st_b3 p hp, st_l3 p hp, st_d4 p hp, st_b4 p hp, st_l4 p hp, st_d5 p hp, st_b5 p hp, st_l5 p hp, st_t1 p hp, st_t2 p hp, st_t3 p hp, st_t4 p hp, st_t5 p hp, Bool.and_true, Bool.and_self, decide_true, ps_g0, ps_g1, ps_g2, ps_g3, ps_g9, ps_gi, ps_gh, ps_gl, ps_gf, ps_gr, ps_s0, ps_s1, ps_s2, ps_s3, ps_s9, ps_si, ps_sh, ps_sl, ps_sf, ps_sr, ps_ne, h, zI_lt0f, zI_8le, decide_true, decide_false, Bool.not_true, Bool.not_false, am_cont, Option.bind_some, Option.toList_some, Option.toList_none, List.singleton_append, List.nil_append, cond_true, cond_false, zI_in, zI_nat]
  unfold lLeave
  rfl
theorem c_takeBack1 (env : am_E) (d : Nat) (p : Nat) (hp : stq p = true) (r : Nat) (hr : r < 6) (I : Nat → Nat → Int32) (J : Nat → Nat → Int64) (E : Nat → Nat → Nat) (m : Nat → Int32) (h : m (46 + r) = -1) : am_ev env (d + 1, 78, 0, [some (.ref p), some (.ref 5), some (.int (Int32.ofNat r))], [], am_hp (pS I p m) J E) = some (true, some (.int 1), am_hp (pS I p m) J E) := by
  have hpb := st_bd p hp
  have e : decide ((-1 : Int32) = -1) = true := by decide
  simp (disch := omega) only [bk_78_0, bk_78_17, st_d0 p hp, st_b0 p hp, st_4 p hp, st_5 p hp, st_6 p hp, st_7 p hp, st_8 p hp, st_d1 p hp, st_b1 p hp, st_l1 p hp, st_d2 p hp, st_b2 p hp, st_l2 p hp, st_d3 p hp, st_b3 p hp, st_l3 p hp, st_d4 p hp, st_b4 p hp, st_l4 p hp, st_d5 p hp, st_b5 p hp, st_l5 p hp, st_t1 p hp, st_t2 p hp, st_t3 p hp, st_t4 p hp, st_t5 p hp, Bool.and_true, Bool.and_self, decide_true, ps_g0, ps_g1, ps_g2, ps_g3, ps_g9, ps_gi, ps_gh, ps_gl, ps_gf, ps_gr, ps_s0, ps_s1, ps_s2, ps_s3, ps_s9, ps_si, ps_sh, ps_sl, ps_sf, ps_sr, ps_ne, h, e, decide_true, decide_false, Bool.not_true, Bool.not_false, am_cont, Option.bind_some, Option.toList_some, Option.toList_none, List.singleton_append, List.nil_append, cond_true, cond_false, zI_in, zI_nat, Bool.not_true]
theorem lLeave_at (m : Nat → Int32) (r b j : Nat) (h1 : j ≠ 38 + b) (h2 : j ≠ 46 + r) (h3 : j ≠ 52 + r) : lLeave m r b j = m j := by
  unfold lLeave; rw [ru_ne _ _ _ _ h3, ru_ne _ _ _ _ h2, ru_ne _ _ _ _ h1]
theorem c_takeBack0 (env : am_E) (d : Nat) (p : Nat) (hp : stq p = true) (r b : Nat) (hr : r < 6) (hb : b < 8) (I : Nat → Nat → Int32) (J : Nat → Nat → Int64) (E : Nat → Nat → Nat) (m : Nat → Int32) (hl : Lb I m) (h : m (46 + r) = Int32.ofNat b) : am_ev env (d + 2, 78, 0, [some (.ref p), some (.ref 5), some (.int (Int32.ofNat r))], [], am_hp (pS I p m) J E) = some (true, some (.int 0), am_hp (pS I p (lBack m r b)) J E) := by
  have hpb := st_bd p hp
  have e : decide (Int32.ofNat b = -1) = false := decide_eq_false (by rw [zI_ne b (by omega)]; exact id)
  simp (disch := omega) only [bk_78_0, bk_78_17, st_d0 p hp, st_b0 p hp, st_4 p hp, st_5 p hp, st_6 p hp, st_7 p hp, st_8 p hp, st_d1 p hp, st_b1 p hp, st_l1 p hp, st_d2 p hp, st_b2 p hp, st_l2 p hp, st_d3 p hp, st_b3 p hp, st_l3 p hp, st_d4 p hp, st_b4 p hp, st_l4 p hp, st_d5 p hp, st_b5 p hp, st_l5 p hp, st_t1 p hp, st_t2 p hp, st_t3 p hp, st_t4 p hp, st_t5 p hp, Bool.and_true, Bool.and_self, decide_true, lb_d, lb_b, lb_6, lb_7, lb_8, lb_10, lb_d7, lb_b7, lb_l7, lb_t7, lb_d8, lb_b8, lb_l8, lb_t8, lb_d9, lb_b9, lb_l9, lb_t9, lb_d11, lb_b11, lb_l11, lb_t11, ps_g0, ps_g1, ps_g2, ps_g3, ps_g9, ps_gi, ps_gh, ps_gl, ps_gf, ps_gr, ps_s0, ps_s1, ps_s2, ps_s3, ps_s9, ps_si, ps_sh, ps_sl, ps_sf, ps_sr, ps_ne, h, e, decide_true, decide_false, Bool.not_true, Bool.not_false, am_cont, Option.bind_some, Option.toList_some, Option.toList_none, List.singleton_append, List.nil_append, cond_true, cond_false, zI_in, zI_nat, Bool.not_false, c_putIn env _ p hp r b hr hb I J E m h, lLeave_at, hl.1, hl.2.1, hl.2.2.1, hl.2.2.2.1, hl.2.2.2.2, lst_min]
  unfold lBack
  rfl
theorem c_tellOn (env : am_E) (d : Nat) (p : Nat) (hp : stq p = true) (r b q : Nat) (hr : r < 6) (hb : b < 8) (hq : q < 6) (I : Nat → Nat → Int32) (J : Nat → Nat → Int64) (E : Nat → Nat → Nat) (m : Nat → Int32) (hl : Lb I m) : am_ev env (d + 3, 80, 0, [some (.ref p), some (.ref 5), some (.int (Int32.ofNat r)), some (.int (Int32.ofNat b)), some (.int (Int32.ofNat q))], [], am_hp (pS I p m) J E) = some (true, some (.int (wTell m r b q)), am_hp (pS I p (bif decide (wTell m r b q = 0) then lLearn m q b else m)) J E) := by
  have hpb := st_bd p hp
  simp (disch := omega) only [bk_80_0, bk_80_18, bk_80_34, bk_80_47, bk_80_61, st_d0 p hp, st_b0 p hp, st_4 p hp, st_5 p hp, st_6 p hp, st_7 p hp, st_8 p hp, st_d1 p hp, st_b1 p hp, st_l1 p hp, st_d2 p hp, st_b2 p hp, st_l2 p hp, st_d3 p hp, st_b3 p hp, st_l3 p hp, st_d4 p hp, st_b4 p hp, st_l4 p hp, st_d5 p hp, st_b5 p hp, st_l5 p hp, st_t1 p hp, st_t2 p hp, st_t3 p hp, st_t4 p hp, st_t5 p hp, Bool.and_true, Bool.and_self, decide_true, lb_d, lb_b, lb_6, lb_7, lb_8, lb_10, lb_d7, lb_b7, lb_l7, lb_t7, lb_d8, lb_b8, lb_l8, lb_t8, lb_d9, lb_b9, lb_l9, lb_t9, lb_d11, lb_b11, lb_l11, lb_t11, decide_true, decide_false, Bool.not_true, Bool.not_false, am_cont, Option.bind_some, Option.toList_some, Option.toList_none, List.singleton_append, List.nil_append, cond_true, cond_false, ps_g0, ps_g1, ps_g2, ps_g3, ps_g9, ps_gi, ps_gh, ps_gl, ps_gf, ps_gr, ps_s0, ps_s1, ps_s2, ps_s3, ps_s9, ps_si, ps_sh, ps_sl, ps_sf, ps_sr, ps_ne, zI_in, zI_nat, zI_deq, c_isIn, bi_eq0, c_isFit env _ p hp q b hq hb I J E m hl, ru_ne]
  have e0 : decide ((0 : Int32) = 0) = true := by decide
  unfold wTell
  cases decide (r = q) <;> cases bt (m (64 + r)) b <;> cases bt (m (64 + q)) b <;> cases fitq m q b <;> cases decide (m (46 + q) = Int32.ofNat b) <;> rfl
def lForgeC (m : Nat → Int32) (b : Nat) : Nat → Int32 := ru m 35 (m 35 ||| ((1 : Int32) <<< (Int32.ofNat b &&& 31)))
theorem c_forgeIt (env : am_E) (d : Nat) (p : Nat) (hp : stq p = true) (b : Nat) (hb : b < 8) (I : Nat → Nat → Int32) (J : Nat → Nat → Int64) (E : Nat → Nat → Nat) (m : Nat → Int32) (hl : Lb I m) : am_ev env (d + 2, 81, 0, [some (.ref p), some (.ref 5), some (.int (Int32.ofNat b))], [], am_hp (pS I p m) J E) = some (true, some (.int (wForge m b)), am_hp (pS I p (bif decide (wForge m b = 0) then lForgeC m b else m)) J E) := by
  have hpb := st_bd p hp
  simp (disch := omega) only [bk_81_0, bk_81_8, st_d0 p hp, st_b0 p hp, st_4 p hp, st_5 p hp, st_6 p hp, st_7 p hp, st_8 p hp, st_d1 p hp, st_b1 p hp, st_l1 p hp, st_d2 p hp, st_b2 p hp, st_l2 p hp, st_d3 p hp, st_b3 p hp, st_l3 p hp, st_d4 p hp, st_b4 p hp, st_l4 p hp, st_d5 p hp, st_b5 p hp, st_l5 p hp, st_t1 p hp, st_t2 p hp, st_t3 p hp, st_t4 p hp, st_t5 p hp, Bool.and_true, Bool.and_self, decide_true, lb_d, lb_b, lb_6, lb_7, lb_8, lb_10, lb_d7, lb_b7, lb_l7, lb_t7, lb_d8, lb_b8, lb_l8, lb_t8, lb_d9, lb_b9, lb_l9, lb_t9, lb_d11, lb_b11, lb_l11, lb_t11, decide_true, decide_false, Bool.not_true, Bool.not_false, am_cont, Option.bind_some, Option.toList_some, Option.toList_none, List.singleton_append, List.nil_append, cond_true, cond_false, ps_g0, ps_g1, ps_g2, ps_g3, ps_g9, ps_gi, ps_gh, ps_gl, ps_gf, ps_gr, ps_s0, ps_s1, ps_s2, ps_s3, ps_s9, ps_si, ps_sh, ps_sl, ps_sf, ps_sr, ps_ne, hl.1, hl.2.1, hl.2.2.1, hl.2.2.2.1, hl.2.2.2.2, zI_in, zI_nat, c_isIn, bi_eq0]
  unfold wForge
  cases bt (m 35) b <;> cases decide (m (20 + b) = 0) <;> rfl
def lMendC (m : Nat → Int32) (b : Nat) : Nat → Int32 := ru m 35 (m 35 &&& (((1 : Int32) <<< (Int32.ofNat b &&& 31)) ^^^ -1))
theorem c_mendIt (env : am_E) (d : Nat) (p : Nat) (hp : stq p = true) (b : Nat) (hb : b < 8) (I : Nat → Nat → Int32) (J : Nat → Nat → Int64) (E : Nat → Nat → Nat) (m : Nat → Int32) : am_ev env (d + 2, 82, 0, [some (.ref p), some (.int (Int32.ofNat b))], [], am_hp (pS I p m) J E) = some (true, some (.int (bi (!bt (m 35) b))), am_hp (pS I p (bif bt (m 35) b then lMendC m b else m)) J E) := by
  have hpb := st_bd p hp
  simp (disch := omega) only [bk_82_0, bk_82_8, st_d0 p hp, st_b0 p hp, st_4 p hp, st_5 p hp, st_6 p hp, st_7 p hp, st_8 p hp, st_d1 p hp, st_b1 p hp, st_l1 p hp, st_d2 p hp, st_b2 p hp, st_l2 p hp, st_d3 p hp, st_b3 p hp, st_l3 p hp, st_d4 p hp, st_b4 p hp, st_l4 p hp, st_d5 p hp, st_b5 p hp, st_l5 p hp, st_t1 p hp, st_t2 p hp, st_t3 p hp, st_t4 p hp, st_t5 p hp, Bool.and_true, Bool.and_self, decide_true, decide_true, decide_false, Bool.not_true, Bool.not_false, am_cont, Option.bind_some, Option.toList_some, Option.toList_none, List.singleton_append, List.nil_append, cond_true, cond_false, ps_g0, ps_g1, ps_g2, ps_g3, ps_g9, ps_gi, ps_gh, ps_gl, ps_gf, ps_gr, ps_s0, ps_s1, ps_s2, ps_s3, ps_s9, ps_si, ps_sh, ps_sl, ps_sf, ps_sr, ps_ne, zI_in, zI_nat, c_isIn, bi_eq0]
  cases bt (m 35) b <;> rfl
theorem c_burnOne (env : am_E) (d : Nat) (p : Nat) (hp : stq p = true) (b : Nat) (hb : b < 8) (I : Nat → Nat → Int32) (J : Nat → Nat → Int64) (E : Nat → Nat → Nat) (m : Nat → Int32) : am_ev env (d + 1, 83, 0, [some (.ref p), some (.int (Int32.ofNat b))], [], am_hp (pS I p m) J E) = some (true, some (.int (bi (!decide (1 ≤ m (38 + b))))), am_hp (pS I p (bif decide (1 ≤ m (38 + b)) then lBurn m b else m)) J E) := by
  have hpb := st_bd p hp
  simp (disch := omega) only [bk_83_0, st_d0 p hp, st_b0 p hp, st_4 p hp, st_5 p hp, st_6 p hp, st_7 p hp, st_8 p hp, st_d1 p hp, st_b1 p hp, st_l1 p hp, st_d2 p hp, st_b2 p hp, st_l2 p hp, st_d3 p hp, st_b3 p hp, st_l3 p hp, st_d4 p hp, st_b4 p hp, st_l4 p hp, st_d5 p hp, st_b5 p hp, st_l5 p hp, st_t1 p hp, st_t2 p hp, st_t3 p hp, st_t4 p hp, st_t5 p hp, Bool.and_true, Bool.and_self, decide_true, decide_true, decide_false, Bool.not_true, Bool.not_false, am_cont, Option.bind_some, Option.toList_some, Option.toList_none, List.singleton_append, List.nil_append, cond_true, cond_false, ps_g0, ps_g1, ps_g2, ps_g3, ps_g9, ps_gi, ps_gh, ps_gl, ps_gf, ps_gr, ps_s0, ps_s1, ps_s2, ps_s3, ps_s9, ps_si, ps_sh, ps_sl, ps_sf, ps_sr, ps_ne, zI_in, zI_nat]
  cases decide (1 ≤ m (38 + b)) <;> rfl
theorem c_buyOne (env : am_E) (d : Nat) (p : Nat) (hp : stq p = true) (b : Nat) (hb : b < 8) (I : Nat → Nat → Int32) (J : Nat → Nat → Int64) (E : Nat → Nat → Nat) (m : Nat → Int32) : am_ev env (d + 1, 84, 0, [some (.ref p), some (.int (Int32.ofNat b))], [], am_hp (pS I p m) J E) = some (true, some (.int (bi (!decide (m (38 + b) < 9)))), am_hp (pS I p (bif decide (m (38 + b) < 9) then lBuy m b else m)) J E) := by
  have hpb := st_bd p hp
  simp (disch := omega) only [bk_84_0, st_d0 p hp, st_b0 p hp, st_4 p hp, st_5 p hp, st_6 p hp, st_7 p hp, st_8 p hp, st_d1 p hp, st_b1 p hp, st_l1 p hp, st_d2 p hp, st_b2 p hp, st_l2 p hp, st_d3 p hp, st_b3 p hp, st_l3 p hp, st_d4 p hp, st_b4 p hp, st_l4 p hp, st_d5 p hp, st_b5 p hp, st_l5 p hp, st_t1 p hp, st_t2 p hp, st_t3 p hp, st_t4 p hp, st_t5 p hp, Bool.and_true, Bool.and_self, decide_true, decide_true, decide_false, Bool.not_true, Bool.not_false, am_cont, Option.bind_some, Option.toList_some, Option.toList_none, List.singleton_append, List.nil_append, cond_true, cond_false, ps_g0, ps_g1, ps_g2, ps_g3, ps_g9, ps_gi, ps_gh, ps_gl, ps_gf, ps_gr, ps_s0, ps_s1, ps_s2, ps_s3, ps_s9, ps_si, ps_sh, ps_sl, ps_sf, ps_sr, ps_ne, zI_in, zI_nat]
  cases decide (m (38 + b) < 9) <;> rfl
