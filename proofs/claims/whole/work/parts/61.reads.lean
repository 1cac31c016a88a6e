/-! what is so now: loops over readers and books -/
def accO (P : Nat → Bool) (N : Nat) : Int32 := lp (fun r a => bif P r then a ||| bit1 r else a) N 0
def accC (P : Nat → Bool) (N : Nat) : Int32 := lp (fun r a => bif P r then a + 1 else a) N 0
theorem lp_stop {α : Type} (f : Nat → α → α) (k N : Nat) (a : α) (hk : k ≤ N) (h : ∀ r a, k ≤ r → r < N → f r a = a) : lp f N a = lp f k a := by
  induction N with
  | zero => rw [show k = 0 by omega]
  | succ N ih =>
    by_cases e : k = N + 1
    · rw [e]
    · show f N (lp f N a) = _
      rw [h N _ (by omega) (by omega)]
      exact ih (by omega) (fun r a h1 h2 => h r a h1 (by omega))
theorem lp_congr {α : Type} (f g : Nat → α → α) (N : Nat) (a : α) (h : ∀ r a, r < N → f r a = g r a) : lp f N a = lp g N a := by
  induction N with
  | zero => rfl
  | succ N ih =>
    show f N (lp f N a) = g N (lp g N a)
    rw [ih (fun r a hr => h r a (by omega)), h N _ (by omega)]
theorem accO_eq (P Q : Nat → Bool) (k N : Nat) (hk : k ≤ N) (h : ∀ r, r < k → P r = Q r) (hz : ∀ r, k ≤ r → r < N → P r = false) : accO P N = accO Q k := by
  unfold accO
  rw [lp_stop _ k N 0 hk (fun r a h1 h2 => by rw [hz r h1 h2]; rfl)]
  exact lp_congr _ _ _ _ (fun r a hr => by rw [h r hr])
theorem accC_eq (P Q : Nat → Bool) (k N : Nat) (hk : k ≤ N) (h : ∀ r, r < k → P r = Q r) (hz : ∀ r, k ≤ r → r < N → P r = false) : accC P N = accC Q k := by
  unfold accC
  rw [lp_stop _ k N 0 hk (fun r a h1 h2 => by rw [hz r h1 h2]; rfl)]
  exact lp_congr _ _ _ _ (fun r a hr => by rw [h r hr])
theorem c_copiesOut (env : am_E) (d : Nat) (p : Nat) (hp : stq p = true) (b : Int32) (I : Nat → Nat → Int32) (J : Nat → Nat → Int64) (E : Nat → Nat → Nat) (m : Nat → Int32) : am_ev env (d + 1, 93, 0, [some (.ref p), some (.int b), none, none], [], am_hp (pS I p m) J E) = some (true, some (.int (accC (fun r => decide (m (46 + r) = b)) 6)), am_hp (pS I p m) J E) := by
  have hpb := st_bd p hp
  refine (bk_93_0 _ _ _ _ _ _ _).trans ?_
  have hr := lp_run (fun r (a : Int32) => am_ev env (d + 1, 93, 4, [some (.ref p), some (.int b), some (.int a), some (.int (Int32.ofNat r))], [], am_hp (pS I p m) J E)) (fun r a => bif decide (m (46 + r) = b) then a + 1 else a) (fun _ _ => True) 6 (fun r a hr _ => by
    refine ⟨?_, trivial⟩
    refine (bk_93_4 _ _ _ _ _ _ _ _ _).trans ?_
    rw [show decide ((6 : Int32) ≤ Int32.ofNat r) = false from zle_f 6 r hr (by omega)]
    simp (disch := omega) only [st_d0 p hp, st_b0 p hp, st_4 p hp, st_5 p hp, st_6 p hp, st_7 p hp, st_8 p hp, st_d1 p hp, st_b1 p hp, st_l1 p hp, st_d2 p hp, st_b2 p hp, st_l2 p hp, st_d3 p hp, st_b3 p hp, st_l3 p hp, st_d4 p hp, st_b4 p hp, st_l4 p hp, st_d5 p hp, st_b5 p hp, st_l5 p hp, st_t1 p hp, st_t2 p hp, st_t3 p hp, st_t4 p hp, st_t5 p hp, Bool.and_true, Bool.and_self, decide_true, ps_g0, ps_g1, ps_g2, ps_g3, ps_g9, ps_gi, ps_gh, ps_gl, ps_gf, ps_gr, ps_s0, ps_s1, ps_s2, ps_s3, ps_s9, ps_si, ps_sh, ps_sl, ps_sf, ps_sr, ps_ne, zI_in, zI_nat, decide_true, decide_false, Bool.not_true, Bool.not_false, am_cont, Option.bind_some, Option.toList_some, Option.toList_none, List.singleton_append, List.nil_append, cond_true, cond_false]
    cases decide (m (46 + r) = b) <;> simp only [decide_true, decide_false, Bool.not_true, Bool.not_false, am_cont, Option.bind_some, Option.toList_some, Option.toList_none, List.singleton_append, List.nil_append, cond_true, cond_false, bk_93_23, zd_1]) 0 trivial 6 (Nat.le_refl _)
  refine Eq.trans hr.1 ?_
  refine (bk_93_4 _ _ _ _ _ _ _ _ _).trans ?_
  rw [show decide ((6 : Int32) ≤ Int32.ofNat 6) = true by decide]
  rfl
theorem c_allOut (env : am_E) (d : Nat) (p : Nat) (hp : stq p = true) (I : Nat → Nat → Int32) (J : Nat → Nat → Int64) (E : Nat → Nat → Nat) (m : Nat → Int32) : am_ev env (d + 1, 94, 0, [some (.ref p), none, none], [], am_hp (pS I p m) J E) = some (true, some (.int (accC (fun r => !decide (m (46 + r) = -1)) 6)), am_hp (pS I p m) J E) := by
  have hpb := st_bd p hp
  refine (bk_94_0 _ _ _ _ _ _).trans ?_
  have hr := lp_run (fun r (a : Int32) => am_ev env (d + 1, 94, 4, [some (.ref p), some (.int a), some (.int (Int32.ofNat r))], [], am_hp (pS I p m) J E)) (fun r a => bif !decide (m (46 + r) = -1) then a + 1 else a) (fun _ _ => True) 6 (fun r a hr _ => by
    refine ⟨?_, trivial⟩
    refine (bk_94_4 _ _ _ _ _ _ _ _).trans ?_
    rw [show decide ((6 : Int32) ≤ Int32.ofNat r) = false from zle_f 6 r hr (by omega)]
    simp (disch := omega) only [st_d0 p hp, st_b0 p hp, st_4 p hp, st_5 p hp, st_6 p hp, st_7 p hp, st_8 p hp, st_d1 p hp, st_b1 p hp, st_l1 p hp, st_d2 p hp, st_b2 p hp, st_l2 p hp, st_d3 p hp, st_b3 p hp, st_l3 p hp, st_d4 p hp, st_b4 p hp, st_l4 p hp, st_d5 p hp, st_b5 p hp, st_l5 p hp, st_t1 p hp, st_t2 p hp, st_t3 p hp, st_t4 p hp, st_t5 p hp, Bool.and_true, Bool.and_self, decide_true, ps_g0, ps_g1, ps_g2, ps_g3, ps_g9, ps_gi, ps_gh, ps_gl, ps_gf, ps_gr, ps_s0, ps_s1, ps_s2, ps_s3, ps_s9, ps_si, ps_sh, ps_sl, ps_sf, ps_sr, ps_ne, zI_in, zI_nat, decide_true, decide_false, Bool.not_true, Bool.not_false, am_cont, Option.bind_some, Option.toList_some, Option.toList_none, List.singleton_append, List.nil_append, cond_true, cond_false]
    cases decide (m (46 + r) = -1) <;> simp only [decide_true, decide_false, Bool.not_true, Bool.not_false, am_cont, Option.bind_some, Option.toList_some, Option.toList_none, List.singleton_append, List.nil_append, cond_true, cond_false, bk_94_23, zd_1]) 0 trivial 6 (Nat.le_refl _)
  refine Eq.trans hr.1 ?_
  refine (bk_94_4 _ _ _ _ _ _ _ _).trans ?_
  rw [show decide ((6 : Int32) ≤ Int32.ofNat 6) = true by decide]
  rfl
theorem c_readersOf (env : am_E) (d : Nat) (p : Nat) (hp : stq p = true) (b : Nat) (hb : b < 8) (I : Nat → Nat → Int32) (J : Nat → Nat → Int64) (E : Nat → Nat → Nat) (m : Nat → Int32) : am_ev env (d + 2, 95, 0, [some (.ref p), some (.int (Int32.ofNat b)), none, none], [], am_hp (pS I p m) J E) = some (true, some (.int (accO (fun r => bt (m (64 + r)) b) 6)), am_hp (pS I p m) J E) := by
  have hpb := st_bd p hp
  refine (bk_95_0 _ _ _ _ _ _ _).trans ?_
  have hr := lp_run (fun r (a : Int32) => am_ev env (d + 2, 95, 4, [some (.ref p), some (.int (Int32.ofNat b)), some (.int a), some (.int (Int32.ofNat r))], [], am_hp (pS I p m) J E)) (fun r a => bif bt (m (64 + r)) b then a ||| bit1 r else a) (fun _ _ => True) 6 (fun r a hr _ => by
    refine ⟨?_, trivial⟩
    refine (bk_95_4 _ _ _ _ _ _ _ _ _).trans ?_
    rw [show decide ((6 : Int32) ≤ Int32.ofNat r) = false from zle_f 6 r hr (by omega)]
    simp (disch := omega) only [st_d0 p hp, st_b0 p hp, st_4 p hp, st_5 p hp, st_6 p hp, st_7 p hp, st_8 p hp, st_d1 p hp, st_b1 p hp, st_l1 p hp, st_d2 p hp, st_b2 p hp, st_l2 p hp, st_d3 p hp, st_b3 p hp, st_l3 p hp, st_d4 p hp, st_b4 p hp, st_l4 p hp, st_d5 p hp, st_b5 p hp, st_l5 p hp, st_t1 p hp, st_t2 p hp, st_t3 p hp, st_t4 p hp, st_t5 p hp, Bool.and_true, Bool.and_self, decide_true, ps_g0, ps_g1, ps_g2, ps_g3, ps_g9, ps_gi, ps_gh, ps_gl, ps_gf, ps_gr, ps_s0, ps_s1, ps_s2, ps_s3, ps_s9, ps_si, ps_sh, ps_sl, ps_sf, ps_sr, ps_ne, zI_in, zI_nat, decide_true, decide_false, Bool.not_true, Bool.not_false, am_cont, Option.bind_some, Option.toList_some, Option.toList_none, List.singleton_append, List.nil_append, cond_true, cond_false, c_isIn, bk_95_20, bi_eq0]
    cases bt (m (64 + r)) b <;> simp only [decide_true, decide_false, Bool.not_true, Bool.not_false, am_cont, Option.bind_some, Option.toList_some, Option.toList_none, List.singleton_append, List.nil_append, cond_true, cond_false, bk_95_29, zd_1]) 0 trivial 6 (Nat.le_refl _)
  refine Eq.trans hr.1 ?_
  refine (bk_95_4 _ _ _ _ _ _ _ _ _).trans ?_
  rw [show decide ((6 : Int32) ≤ Int32.ofNat 6) = true by decide]
  rfl
def accD (m : Nat → Int32) : Int32 := lp (fun r a => a ||| m (64 + r)) 6 0
theorem c_readByAny (env : am_E) (d : Nat) (p : Nat) (hp : stq p = true) (I : Nat → Nat → Int32) (J : Nat → Nat → Int64) (E : Nat → Nat → Nat) (m : Nat → Int32) : am_ev env (d + 1, 96, 0, [some (.ref p), none, none], [], am_hp (pS I p m) J E) = some (true, some (.int (accD m)), am_hp (pS I p m) J E) := by
  have hpb := st_bd p hp
  refine (bk_96_0 _ _ _ _ _ _).trans ?_
  have hr := lp_run (fun r (a : Int32) => am_ev env (d + 1, 96, 4, [some (.ref p), some (.int a), some (.int (Int32.ofNat r))], [], am_hp (pS I p m) J E)) (fun r a => a ||| m (64 + r)) (fun _ _ => True) 6 (fun r a hr _ => by
    refine ⟨?_, trivial⟩
    refine (bk_96_4 _ _ _ _ _ _ _ _).trans ?_
    rw [show decide ((6 : Int32) ≤ Int32.ofNat r) = false from zle_f 6 r hr (by omega)]
    simp (disch := omega) only [st_d0 p hp, st_b0 p hp, st_4 p hp, st_5 p hp, st_6 p hp, st_7 p hp, st_8 p hp, st_d1 p hp, st_b1 p hp, st_l1 p hp, st_d2 p hp, st_b2 p hp, st_l2 p hp, st_d3 p hp, st_b3 p hp, st_l3 p hp, st_d4 p hp, st_b4 p hp, st_l4 p hp, st_d5 p hp, st_b5 p hp, st_l5 p hp, st_t1 p hp, st_t2 p hp, st_t3 p hp, st_t4 p hp, st_t5 p hp, Bool.and_true, Bool.and_self, decide_true, ps_g0, ps_g1, ps_g2, ps_g3, ps_g9, ps_gi, ps_gh, ps_gl, ps_gf, ps_gr, ps_s0, ps_s1, ps_s2, ps_s3, ps_s9, ps_si, ps_sh, ps_sl, ps_sf, ps_sr, ps_ne, zI_in, zI_nat, decide_true, decide_false, Bool.not_true, Bool.not_false, am_cont, Option.bind_some, Option.toList_some, Option.toList_none, List.singleton_append, List.nil_append, cond_true, cond_false, zd_1]) 0 trivial 6 (Nat.le_refl _)
  refine Eq.trans hr.1 ?_
  refine (bk_96_4 _ _ _ _ _ _ _ _).trans ?_
  rw [show decide ((6 : Int32) ≤ Int32.ofNat 6) = true by decide]
  rfl
theorem c_fined (env : am_E) (d : Nat) (p : Nat) (hp : stq p = true) (I : Nat → Nat → Int32) (J : Nat → Nat → Int64) (E : Nat → Nat → Nat) (m : Nat → Int32) : am_ev env (d + 1, 97, 0, [some (.ref p), none, none], [], am_hp (pS I p m) J E) = some (true, some (.int (accO (fun r => !decide (m (58 + r) ≤ 0)) 6)), am_hp (pS I p m) J E) := by
  have hpb := st_bd p hp
  refine (bk_97_0 _ _ _ _ _ _).trans ?_
  have hr := lp_run (fun r (a : Int32) => am_ev env (d + 1, 97, 4, [some (.ref p), some (.int a), some (.int (Int32.ofNat r))], [], am_hp (pS I p m) J E)) (fun r a => bif !decide (m (58 + r) ≤ 0) then a ||| bit1 r else a) (fun _ _ => True) 6 (fun r a hr _ => by
    refine ⟨?_, trivial⟩
    refine (bk_97_4 _ _ _ _ _ _ _ _).trans ?_
    rw [show decide ((6 : Int32) ≤ Int32.ofNat r) = false from zle_f 6 r hr (by omega)]
    simp (disch := omega) only [st_d0 p hp, st_b0 p hp, st_4 p hp, st_5 p hp, st_6 p hp, st_7 p hp, st_8 p hp, st_d1 p hp, st_b1 p hp, st_l1 p hp, st_d2 p hp, st_b2 p hp, st_l2 p hp, st_d3 p hp, st_b3 p hp, st_l3 p hp, st_d4 p hp, st_b4 p hp, st_l4 p hp, st_d5 p hp, st_b5 p hp, st_l5 p hp, st_t1 p hp, st_t2 p hp, st_t3 p hp, st_t4 p hp, st_t5 p hp, Bool.and_true, Bool.and_self, decide_true, ps_g0, ps_g1, ps_g2, ps_g3, ps_g9, ps_gi, ps_gh, ps_gl, ps_gf, ps_gr, ps_s0, ps_s1, ps_s2, ps_s3, ps_s9, ps_si, ps_sh, ps_sl, ps_sf, ps_sr, ps_ne, zI_in, zI_nat, decide_true, decide_false, Bool.not_true, Bool.not_false, am_cont, Option.bind_some, Option.toList_some, Option.toList_none, List.singleton_append, List.nil_append, cond_true, cond_false]
    cases decide (m (58 + r) ≤ 0) <;> simp only [decide_true, decide_false, Bool.not_true, Bool.not_false, am_cont, Option.bind_some, Option.toList_some, Option.toList_none, List.singleton_append, List.nil_append, cond_true, cond_false, bk_97_25, zd_1]) 0 trivial 6 (Nat.le_refl _)
  refine Eq.trans hr.1 ?_
  refine (bk_97_4 _ _ _ _ _ _ _ _).trans ?_
  rw [show decide ((6 : Int32) ≤ Int32.ofNat 6) = true by decide]
  rfl
theorem c_lendable (env : am_E) (d : Nat) (p : Nat) (hp : stq p = true) (r n : Nat) (hr : r < 6) (hn : n ≤ 8) (I : Nat → Nat → Int32) (J : Nat → Nat → Int64) (E : Nat → Nat → Nat) (m : Nat → Int32) (hl : Lb I m) (h0 : m 0 = Int32.ofNat n) : am_ev env (d + 4, 91, 0, [some (.ref p), some (.ref 5), some (.int (Int32.ofNat r)), none, none], [], am_hp (pS I p m) J E) = some (true, some (.int (accO (fun b => decide (cwLend m r b = 0)) n)), am_hp (pS I p m) J E) := by
  have hpb := st_bd p hp
  have e5 : pS I p m 5 0 = Int32.ofNat n := by rw [ps_ne _ _ _ _ (by omega), hl.1 0 (by omega)]; exact h0
  refine (bk_91_0 _ _ _ _ _ _ _ _).trans ?_
  have hr := lp_run (fun b (a : Int32) => am_ev env (d + 4, 91, 5, [some (.ref p), some (.ref 5), some (.int (Int32.ofNat r)), some (.int a), some (.int (Int32.ofNat b))], [], am_hp (pS I p m) J E)) (fun b a => bif decide (cwLend m r b = 0) then a ||| bit1 b else a) (fun _ _ => True) n (fun b a hb _ => by
    refine ⟨?_, trivial⟩
    refine (bk_91_5 _ _ _ _ _ _ _ _ _ _).trans ?_
    rw [e5, show decide (Int32.ofNat n ≤ Int32.ofNat b) = false from zle_f n b hb (by omega)]
    simp (disch := omega) only [st_d0 p hp, st_b0 p hp, lb_d, lb_b, Bool.and_self, decide_true, decide_false, Bool.not_true, Bool.not_false, am_cont, Option.bind_some, Option.toList_some, Option.toList_none, List.singleton_append, List.nil_append, cond_true, cond_false, c_whyLend env _ p hp r b hr (by omega) I J E m hl, bk_91_22]
    cases decide (cwLend m r b = 0) <;> simp only [decide_true, decide_false, Bool.not_true, Bool.not_false, am_cont, Option.bind_some, Option.toList_some, Option.toList_none, List.singleton_append, List.nil_append, cond_true, cond_false, bk_91_32, zd_1]) 0 trivial n (Nat.le_refl _)
  refine Eq.trans hr.1 ?_
  refine (bk_91_5 _ _ _ _ _ _ _ _ _ _).trans ?_
  rw [e5, show decide (Int32.ofNat n ≤ Int32.ofNat n) = true from zle_t n n (Nat.le_refl _) (by omega)]
  simp only [lb_d, lb_b, Bool.and_self, decide_true, decide_false, Bool.not_true, Bool.not_false, am_cont, Option.bind_some, Option.toList_some, Option.toList_none, List.singleton_append, List.nil_append, cond_true, cond_false]
  rfl
theorem m_outOf (env : am_E) (d : Nat) (b : Int32) (k : Nat) (hk : k ≤ 6) (I : Nat → Nat → Int32) (J : Nat → Nat → Int64) (E : Nat → Nat → Nat) (h2 : I 158 2 = Int32.ofNat k) : am_ev env (d + 1, 215, 0, [some (.ref 156), some (.int b), none, none], [], am_hp I J E) = some (true, some (.int (accC (fun r => decide (I 158 (46 + r) = b)) k)), am_hp I J E) := by
  refine (bk_215_0 _ _ _ _ _ _).trans ?_
  have hr := lp_run (fun r (a : Int32) => am_ev env (d + 1, 215, 4, [some (.ref 156), some (.int b), some (.int a), some (.int (Int32.ofNat r))], [], am_hp I J E)) (fun r a => bif decide (I 158 (46 + r) = b) then a + 1 else a) (fun _ _ => True) k (fun r a hr _ => by
    refine ⟨?_, trivial⟩
    refine (bk_215_4 _ _ _ _ _ _ _ _).trans ?_
    rw [h2, show decide (Int32.ofNat k ≤ Int32.ofNat r) = false from zle_f k r hr (by omega)]
    simp (disch := omega) only [zc_72, zc_46, zc_52, zc_38, zc_58, zc_64, zc_28, zc_20, zc_34, zc_4, zc_8, zc_50, zc_48, zc_12, zc_96, zd_1, zd_2, zd_3, zd_8, zd_36, zd_20, zI_in, zI_nat, decide_true, decide_false, Bool.not_true, Bool.not_false, am_cont, Option.bind_some, Option.toList_some, Option.toList_none, List.singleton_append, List.nil_append, cond_true, cond_false]
    cases decide (I 158 (46 + r) = b) <;> simp only [decide_true, decide_false, Bool.not_true, Bool.not_false, am_cont, Option.bind_some, Option.toList_some, Option.toList_none, List.singleton_append, List.nil_append, cond_true, cond_false, bk_215_30, zd_1]) 0 trivial k (Nat.le_refl _)
  refine Eq.trans hr.1 ?_
  refine (bk_215_4 _ _ _ _ _ _ _ _).trans ?_
  rw [h2, show decide (Int32.ofNat k ≤ Int32.ofNat k) = true from zle_t k k (Nat.le_refl _) (by omega)]
  rfl
theorem m_doneBooks (env : am_E) (d : Nat) (I : Nat → Nat → Int32) (J : Nat → Nat → Int64) (E : Nat → Nat → Nat) : am_ev env (d + 1, 220, 0, [some (.ref 156), none, none], [], am_hp I J E) = some (true, some (.int (accD (I 158))), am_hp I J E) := by
  refine (bk_220_0 _ _ _ _ _).trans ?_
  have hr := lp_run (fun r (a : Int32) => am_ev env (d + 1, 220, 4, [some (.ref 156), some (.int a), some (.int (Int32.ofNat r))], [], am_hp I J E)) (fun r a => a ||| I 158 (64 + r)) (fun _ _ => True) 6 (fun r a hr _ => by
    refine ⟨?_, trivial⟩
    refine (bk_220_4 _ _ _ _ _ _ _).trans ?_
    rw [show decide ((6 : Int32) ≤ Int32.ofNat r) = false from zle_f 6 r hr (by omega)]
    simp (disch := omega) only [zc_72, zc_46, zc_52, zc_38, zc_58, zc_64, zc_28, zc_20, zc_34, zc_4, zc_8, zc_50, zc_48, zc_12, zc_96, zd_1, zd_2, zd_3, zd_8, zd_36, zd_20, zI_in, zI_nat, decide_true, decide_false, Bool.not_true, Bool.not_false, am_cont, Option.bind_some, Option.toList_some, Option.toList_none, List.singleton_append, List.nil_append, cond_true, cond_false]) 0 trivial 6 (Nat.le_refl _)
  refine Eq.trans hr.1 ?_
  refine (bk_220_4 _ _ _ _ _ _ _).trans ?_
  rw [show decide ((6 : Int32) ≤ Int32.ofNat 6) = true by decide]
  rfl
theorem m_book5 (env : am_E) (d : Nat) (b k : Nat) (x : Int32) (hb : b < 8) (hk : k ≤ 6) (I : Nat → Nat → Int32) (J : Nat → Nat → Int64) (E : Nat → Nat → Nat) (h2 : I 158 2 = Int32.ofNat k) : am_ev env (d + 3, 219, 110, [some (.ref 156), some (.int (Int32.ofNat b)), some (.int x), some (.int 0), some (.int 0)], [], am_hp I J E) = some (true, some (.int (accO (fun r => bt (I 158 (64 + r)) b) k)), am_hp I J E) := by
  have hr := lp_run (fun r (a : Int32) => am_ev env (d + 3, 219, 110, [some (.ref 156), some (.int (Int32.ofNat b)), some (.int x), some (.int a), some (.int (Int32.ofNat r))], [], am_hp I J E)) (fun r a => bif bt (I 158 (64 + r)) b then a ||| bit1 r else a) (fun _ _ => True) k (fun r a hr _ => by
    refine ⟨?_, trivial⟩
    refine (bk_219_110 _ _ _ _ _ _ _ _ _).trans ?_
    rw [h2, show decide (Int32.ofNat k ≤ Int32.ofNat r) = false from zle_f k r hr (by omega)]
    simp (disch := omega) only [decide_true, decide_false, Bool.not_true, Bool.not_false, am_cont, Option.bind_some, Option.toList_some, Option.toList_none, List.singleton_append, List.nil_append, cond_true, cond_false, m_hasRead, bk_219_128, bi_eq0]
    cases bt (I 158 (64 + r)) b <;> simp only [decide_true, decide_false, Bool.not_true, Bool.not_false, am_cont, Option.bind_some, Option.toList_some, Option.toList_none, List.singleton_append, List.nil_append, cond_true, cond_false, bk_219_138, zd_1]) 0 trivial k (Nat.le_refl _)
  refine Eq.trans hr.1 ?_
  refine (bk_219_110 _ _ _ _ _ _ _ _ _).trans ?_
  rw [h2, show decide (Int32.ofNat k ≤ Int32.ofNat k) = true from zle_t k k (Nat.le_refl _) (by omega)]
  rfl
theorem m_now1 (env : am_E) (d : Nat) (k : Nat) (x : Int32) (hk : k ≤ 6) (I : Nat → Nat → Int32) (J : Nat → Nat → Int64) (E : Nat → Nat → Nat) (h2 : I 158 2 = Int32.ofNat k) : am_ev env (d + 2, 224, 66, [some (.ref 156), some (.int x), some (.int 0), some (.int 0)], [], am_hp I J E) = some (true, some (.int (accC (fun r => !decide (I 158 (46 + r) = -1)) k)), am_hp I J E) := by
  have hr := lp_run (fun r (a : Int32) => am_ev env (d + 2, 224, 66, [some (.ref 156), some (.int x), some (.int a), some (.int (Int32.ofNat r))], [], am_hp I J E)) (fun r a => bif !decide (I 158 (46 + r) = -1) then a + 1 else a) (fun _ _ => True) k (fun r a hr _ => by
    refine ⟨?_, trivial⟩
    refine (bk_224_66 _ _ _ _ _ _ _ _).trans ?_
    rw [h2, show decide (Int32.ofNat k ≤ Int32.ofNat r) = false from zle_f k r hr (by omega)]
    simp (disch := omega) only [decide_true, decide_false, Bool.not_true, Bool.not_false, am_cont, Option.bind_some, Option.toList_some, Option.toList_none, List.singleton_append, List.nil_append, cond_true, cond_false, m_isIdle, bk_224_81, bi_eq0]
    cases decide (I 158 (46 + r) = -1) <;> simp only [decide_true, decide_false, Bool.not_true, Bool.not_false, am_cont, Option.bind_some, Option.toList_some, Option.toList_none, List.singleton_append, List.nil_append, cond_true, cond_false, bk_224_87, zd_1]) 0 trivial k (Nat.le_refl _)
  refine Eq.trans hr.1 ?_
  refine (bk_224_66 _ _ _ _ _ _ _ _).trans ?_
  rw [h2, show decide (Int32.ofNat k ≤ Int32.ofNat k) = true from zle_t k k (Nat.le_refl _) (by omega)]
  rfl
theorem m_now4 (env : am_E) (d : Nat) (k : Nat) (x : Int32) (hk : k ≤ 6) (I : Nat → Nat → Int32) (J : Nat → Nat → Int64) (E : Nat → Nat → Nat) (h2 : I 158 2 = Int32.ofNat k) : am_ev env (d + 2, 224, 110, [some (.ref 156), some (.int x), some (.int 0), some (.int 0)], [], am_hp I J E) = some (true, some (.int (accO (fun r => !decide (I 158 (58 + r) ≤ 0)) k)), am_hp I J E) := by
  have hr := lp_run (fun r (a : Int32) => am_ev env (d + 2, 224, 110, [some (.ref 156), some (.int x), some (.int a), some (.int (Int32.ofNat r))], [], am_hp I J E)) (fun r a => bif !decide (I 158 (58 + r) ≤ 0) then a ||| bit1 r else a) (fun _ _ => True) k (fun r a hr _ => by
    refine ⟨?_, trivial⟩
    refine (bk_224_110 _ _ _ _ _ _ _ _).trans ?_
    rw [h2, show decide (Int32.ofNat k ≤ Int32.ofNat r) = false from zle_f k r hr (by omega)]
    simp (disch := omega) only [decide_true, decide_false, Bool.not_true, Bool.not_false, am_cont, Option.bind_some, Option.toList_some, Option.toList_none, List.singleton_append, List.nil_append, cond_true, cond_false, zc_72, zc_46, zc_52, zc_38, zc_58, zc_64, zc_28, zc_20, zc_34, zc_4, zc_8, zc_50, zc_48, zc_12, zc_96, zd_1, zd_2, zd_3, zd_8, zd_36, zd_20, zI_in, zI_nat]
    cases decide (I 158 (58 + r) ≤ 0) <;> simp only [decide_true, decide_false, Bool.not_true, Bool.not_false, am_cont, Option.bind_some, Option.toList_some, Option.toList_none, List.singleton_append, List.nil_append, cond_true, cond_false, bk_224_138, zd_1]) 0 trivial k (Nat.le_refl _)
  refine Eq.trans hr.1 ?_
  refine (bk_224_110 _ _ _ _ _ _ _ _).trans ?_
  rw [h2, show decide (Int32.ofNat k ≤ Int32.ofNat k) = true from zle_t k k (Nat.le_refl _) (by omega)]
  rfl
theorem m_reader5 (env : am_E) (d : Nat) (r n : Nat) (x : Int32) (hr : r < 6) (hn : n ≤ 8) (I : Nat → Nat → Int32) (J : Nat → Nat → Int64) (E : Nat → Nat → Nat) (h0 : I 158 0 = Int32.ofNat n) : am_ev env (d + 6, 218, 115, [some (.ref 156), some (.int (Int32.ofNat r)), some (.int x), some (.int 0), some (.int 0)], [], am_hp I J E) = some (true, some (.int (accO (fun b => decide (wLend (I 158) r b = 0)) n)), am_hp I J E) := by
  have hr := lp_run (fun b (a : Int32) => am_ev env (d + 6, 218, 115, [some (.ref 156), some (.int (Int32.ofNat r)), some (.int x), some (.int a), some (.int (Int32.ofNat b))], [], am_hp I J E)) (fun b a => bif decide (wLend (I 158) r b = 0) then a ||| bit1 b else a) (fun _ _ => True) n (fun b a hb _ => by
    refine ⟨?_, trivial⟩
    refine (bk_218_115 _ _ _ _ _ _ _ _ _).trans ?_
    rw [h0, show decide (Int32.ofNat n ≤ Int32.ofNat b) = false from zle_f n b hb (by omega)]
    simp (disch := omega) only [decide_true, decide_false, Bool.not_true, Bool.not_false, am_cont, Option.bind_some, Option.toList_some, Option.toList_none, List.singleton_append, List.nil_append, cond_true, cond_false, m_whyLend, bk_218_133]
    cases decide (wLend (I 158) r b = 0) <;> simp only [decide_true, decide_false, Bool.not_true, Bool.not_false, am_cont, Option.bind_some, Option.toList_some, Option.toList_none, List.singleton_append, List.nil_append, cond_true, cond_false, bk_218_143, zd_1]) 0 trivial n (Nat.le_refl _)
  refine Eq.trans hr.1 ?_
  refine (bk_218_115 _ _ _ _ _ _ _ _ _).trans ?_
  rw [h0, show decide (Int32.ofNat n ≤ Int32.ofNat n) = true from zle_t n n (Nat.le_refl _) (by omega)]
  rfl
theorem r12 (I : Nat → Nat → Int32) (q j : Nat) (h : sx 12 q j ≠ 0) : I q j = rS I 12 (sx 12 q j) := (rS_sx I 12 q j h).symm
theorem r13 (I : Nat → Nat → Int32) (b : Nat) (h : b < 8) : I 13 b = rS I 12 (38 + b) := by
  have e : sx 12 13 b = 38 + b := sx_i 12 b h
  rw [r12 I 13 b (by omega), e]
theorem r14 (I : Nat → Nat → Int32) (b : Nat) (h : b < 6) : I 14 b = rS I 12 (46 + b) := by
  have e : sx 12 14 b = 46 + b := sx_h 12 b h
  rw [r12 I 14 b (by omega), e]
theorem r15 (I : Nat → Nat → Int32) (b : Nat) (h : b < 6) : I 15 b = rS I 12 (52 + b) := by
  have e : sx 12 15 b = 52 + b := sx_l 12 b h
  rw [r12 I 15 b (by omega), e]
theorem r16 (I : Nat → Nat → Int32) (b : Nat) (h : b < 6) : I 16 b = rS I 12 (58 + b) := by
  have e : sx 12 16 b = 58 + b := sx_f 12 b h
  rw [r12 I 16 b (by omega), e]
theorem r17 (I : Nat → Nat → Int32) (b : Nat) (h : b < 6) : I 17 b = rS I 12 (64 + b) := by
  have e : sx 12 17 b = 64 + b := sx_r 12 b h
  rw [r12 I 17 b (by omega), e]
theorem r12f (I : Nat → Nat → Int32) : I 12 0 = rS I 12 34 ∧ I 12 1 = rS I 12 35 ∧ I 12 2 = rS I 12 36 ∧ I 12 3 = rS I 12 37 := by
  refine ⟨?_, ?_, ?_, ?_⟩
  · rw [r12 I 12 0 (by rw [sx_0]; omega), sx_0]
  · rw [r12 I 12 1 (by rw [sx_1]; omega), sx_1]
  · rw [r12 I 12 2 (by rw [sx_2]; omega), sx_2]
  · rw [r12 I 12 3 (by rw [sx_3]; omega), sx_3]
theorem op_book (env : am_E) (d : Nat) (I : Nat → Nat → Int32) (J : Nat → Nat → Int64) (E : Nat → Nat → Nat) (n k t h : Nat) (hR : R1 I n k t h) (x w : Int32) : opR (fun H => am_ev env (d + 20, 121, 0, [some (.ref 0), some (.int x), some (.int w), none], [], H)) (fun H => am_ev env (d + 20, 219, 0, [some (.ref 156), some (.int x), some (.int w), none, none], [], H)) I J E (P1 I n k) := by
  obtain ⟨hn, hk, ht, hh, e1, e2, e3, f0, f2, g0, g2⟩ := R1_f I n k t h hR
  obtain ⟨r1, r2, r3, r4, r5⟩ := id hR
  have cB := fun d => c_hasBook env d x I J E n hn f0
  have mB := fun d => m_isBook env d x (th0 I) J E n (by omega) (by rw [th0_158]; exact g0)
  cases hx : am_in x n
  · refine none_op I J E n k t h hR (-1) _ _ ?_ ?_
    · simp only [bk_121_0, bk_121_11, cB, hx, bi_eq0, decide_true, decide_false, Bool.not_true, Bool.not_false, am_cont, Option.bind_some, Option.toList_some, Option.toList_none, List.singleton_append, List.nil_append, cond_true, cond_false]
    · simp only [bk_219_0, bk_219_10, th0_u, mB, hx, bi_eq0, decide_true, decide_false, Bool.not_true, Bool.not_false, am_cont, Option.bind_some, Option.toList_some, Option.toList_none, List.singleton_append, List.nil_append, cond_true, cond_false]
  obtain ⟨b, hb, -, rfl⟩ := zI_cases _ _ hx
  have hlb := rS_lb I 12
  have q7 : I 7 b = I 158 (4 + b) := (hlb.2.1 b (by omega)).trans (r3 _ (by unfold rel; omega))
  have q9 : I 9 b = I 158 (20 + b) := (hlb.2.2.2.1 b (by omega)).trans (r3 _ (by unfold rel; omega))
  have q13 : I 13 b = I 158 (38 + b) := (r13 I b (by omega)).trans (r3 _ (by unfold rel; omega))
  have q12 : I 12 1 = I 158 35 := (r12f I).2.1.trans (r3 _ (by unfold rel; omega))
  have c93 := c_copiesOut env (d + 18) 12 st12 (Int32.ofNat b) I J E (rS I 12)
  have c95 := c_readersOf env (d + 17) 12 st12 b (by omega) I J E (rS I 12)
  rw [ps_rS] at c93 c95
  have v2 : accC (fun r => decide (rS I 12 (46 + r) = Int32.ofNat b)) 6 = accC (fun r => decide (I 158 (46 + r) = Int32.ofNat b)) k := by
    refine accC_eq _ _ k 6 hk (fun r hr => by rw [r3 (46 + r) (by unfold rel; omega)]) (fun r h1 h2 => ?_)
    rw [r3 (46 + r) (by unfold rel; omega)]
    rcases (r2.2.2.2 r h2).1 with ⟨e, _⟩ | ⟨e, _⟩
    · rw [e]; exact decide_eq_false (m1_ne b (by omega))
    · omega
  have v5 : accO (fun r => bt (rS I 12 (64 + r)) b) 6 = accO (fun r => bt (I 158 (64 + r)) b) k := by
    refine accO_eq _ _ k 6 hk (fun r hr => by rw [r3 (64 + r) (by unfold rel; omega)]) (fun r h1 h2 => ?_)
    rw [r3 (64 + r) (by unfold rel; omega), ((r2.2.2.2 r h2).2.2.2 h1).2, bt_zero]
  rw [v2] at c93
  rw [v5] at c95
  have m215 := m_outOf env (d + 18) (Int32.ofNat b) k hk (th0 I) J E (by rw [th0_158]; exact g2)
  have m5 := m_book5 env (d + 17) b k w (by omega) hk (th0 I) J E (by rw [th0_158]; exact g2)
  rw [th0_158] at m215 m5
  have v3 : ((I 158 35) >>> (Int32.ofNat b &&& 31)) &&& 1 = bi (bt (I 158 35) b) := by
    rw [bt_has _ _ (by omega)]; cases bt (I 158 35) b <;> rfl
  refine none_op I J E n k t h hR (bif decide (w = 0) then I 158 (4 + b) else bif decide (w = 1) then I 158 (38 + b) else bif decide (w = 2) then accC (fun r => decide (I 158 (46 + r) = Int32.ofNat b)) k else bif decide (w = 3) then bi (bt (I 158 35) b) else bif decide (w = 4) then I 158 (20 + b) else bif decide (w = 5) then accO (fun r => bt (I 158 (64 + r)) b) k else -1) _ _ ?_ ?_
  · simp (disch := omega) only [bk_121_0, bk_121_11, cB, hx, bi_eq0, decide_true, decide_false, Bool.not_true, Bool.not_false, am_cont, Option.bind_some, Option.toList_some, Option.toList_none, List.singleton_append, List.nil_append, cond_true, cond_false, zI_in, zI_nat, q7, q9, q13, q12, v3, c93, c95, bk_121_89, bk_121_117]
    cases decide (w = 0) <;> cases decide (w = 1) <;> cases decide (w = 2) <;> cases decide (w = 3) <;> cases decide (w = 4) <;> cases decide (w = 5) <;> rfl
  · simp (disch := omega) only [bk_219_0, bk_219_10, th0_u, mB, hx, bi_eq0, decide_true, decide_false, Bool.not_true, Bool.not_false, am_cont, Option.bind_some, Option.toList_some, Option.toList_none, List.singleton_append, List.nil_append, cond_true, cond_false, zc_72, zc_46, zc_52, zc_38, zc_58, zc_64, zc_28, zc_20, zc_34, zc_4, zc_8, zc_50, zc_48, zc_12, zc_96, zd_1, zd_2, zd_3, zd_8, zd_36, zd_20, zI_in, zI_nat, th0_158, m215, m_isForged, bk_219_80, bk_219_86, bk_219_94, m5]
    cases decide (w = 0) <;> cases decide (w = 1) <;> cases decide (w = 2) <;> cases decide (w = 3) <;> cases decide (w = 4) <;> cases decide (w = 5) <;> cases bt (I 158 35) b <;> rfl
