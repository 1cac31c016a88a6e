/-! days -/
def paid (m : Nat → Int32) (r : Nat) : Int32 := lst (m (28 + r)) (m (58 + r))
def rd1 (m : Nat → Int32) (r : Nat) : Nat → Int32 := ru (ru m (58 + r) (m (58 + r) - paid m r)) 37 (m 37 + paid m r)
def pgs (m : Nat → Int32) (r : Nat) : Int32 := lst (m (28 + r) - paid m r) (m (52 + r))
def rd2 (m : Nat → Int32) (r : Nat) : Nat → Int32 := ru (ru (rd1 m r) (52 + r) (m (52 + r) - pgs m r)) 37 (m 37 + paid m r + pgs m r)
def lReads (m : Nat → Int32) (r : Nat) : Nat → Int32 := bif decide (m (46 + r) = -1) then rd1 m r else bif decide (m (52 + r) - pgs m r ≤ 0) then lLeave (lLearn (rd2 m r) r (m (46 + r)).toNatClampNeg) r (m (46 + r)).toNatClampNeg else rd2 m r
theorem rd1_at (m : Nat → Int32) (r j : Nat) (h1 : j ≠ 58 + r) (h2 : j ≠ 37) : rd1 m r j = m j := by
  unfold rd1; rw [ru_ne _ _ _ _ h2, ru_ne _ _ _ _ h1]
theorem rd2_at (m : Nat → Int32) (r j : Nat) (h1 : j ≠ 58 + r) (h2 : j ≠ 37) (h3 : j ≠ 52 + r) : rd2 m r j = m j := by
  unfold rd2; rw [ru_ne _ _ _ _ h2, ru_ne _ _ _ _ h3, rd1_at m r j h1 h2]
theorem lLearn_at (m : Nat → Int32) (r b j : Nat) (h1 : j ≠ 64 + r) (h2 : j ≠ 36) : lLearn m r b j = m j := by
  unfold lLearn; rw [ru_ne _ _ _ _ h2, ru_ne _ _ _ _ h1]
theorem lReads_idle (m : Nat → Int32) (r : Nat) (h : m (46 + r) = -1) : lReads m r = rd1 m r := by
  unfold lReads; rw [decide_eq_true h]; rfl
theorem lReads_has (m : Nat → Int32) (r b : Nat) (hb : b < 8) (h : m (46 + r) = Int32.ofNat b) : lReads m r = bif decide (m (52 + r) - pgs m r ≤ 0) then lLeave (lLearn (rd2 m r) r b) r b else rd2 m r := by
  unfold lReads; rw [decide_eq_false (by rw [h]; exact fun e => m1_ne b (by omega) e.symm), h, zI_nat b (by omega)]; rfl
theorem m_reads1 (env : am_E) (d : Nat) (r : Nat) (hr : r < 6) (I : Nat → Nat → Int32) (J : Nat → Nat → Int64) (E : Nat → Nat → Nat) (h : I 158 (46 + r) = -1) : am_ev env (d + 2, 240, 0, [some (.ref 156), some (.int (Int32.ofNat r)), none, none], [], am_hp I J E) = some (true, none, am_hp (am_ur I 158 (lReads (I 158) r)) J E) := by
  rw [lReads_idle _ _ h]
  have e : decide ((-1 : Int32) = -1) = true := by decide
  simp (disch := omega) only [bk_240_0, bk_240_21, bk_240_51, bk_240_78, bk_240_130, bk_240_135, decide_true, decide_false, Bool.not_true, Bool.not_false, am_cont, Option.bind_some, Option.toList_some, Option.toList_none, List.singleton_append, List.nil_append, cond_true, cond_false, zc_72, zc_46, zc_52, zc_38, zc_58, zc_64, zc_28, zc_20, zc_34, zc_4, zc_8, zc_50, zc_48, zc_12, zc_96, zd_1, zd_2, zd_3, zd_8, zd_36, zd_20, zI_in, zI_nat, m_least, m_isIdle, am_u_r, ur_ur, ur_at, ru_ne, h, e, bi_eq0, Bool.not_true]
  rfl
theorem m_reads2 (env : am_E) (d : Nat) (r b : Nat) (hr : r < 6) (hb : b < 8) (I : Nat → Nat → Int32) (J : Nat → Nat → Int64) (E : Nat → Nat → Nat) (h : I 158 (46 + r) = Int32.ofNat b) : am_ev env (d + 2, 240, 0, [some (.ref 156), some (.int (Int32.ofNat r)), none, none], [], am_hp I J E) = some (true, none, am_hp (am_ur I 158 (lReads (I 158) r)) J E) := by
  rw [lReads_has _ _ b hb h]
  have e : decide (Int32.ofNat b = -1) = false := decide_eq_false (fun e => m1_ne b (by omega) e.symm)
  simp (disch := omega) only [bk_240_0, bk_240_21, bk_240_51, bk_240_78, decide_true, decide_false, Bool.not_true, Bool.not_false, am_cont, Option.bind_some, Option.toList_some, Option.toList_none, List.singleton_append, List.nil_append, cond_true, cond_false, zc_72, zc_46, zc_52, zc_38, zc_58, zc_64, zc_28, zc_20, zc_34, zc_4, zc_8, zc_50, zc_48, zc_12, zc_96, zd_1, zd_2, zd_3, zd_8, zd_36, zd_20, zI_in, zI_nat, m_least, m_isIdle, am_u_r, ur_ur, ur_at, ru_ne, ru_eq, h, e, bi_eq0, Bool.not_false]
  have e2 : (I 158 (52 + r) - bif decide (I 158 (52 + r) ≤ I 158 (28 + r) - bif decide (I 158 (58 + r) ≤ I 158 (28 + r)) then I 158 (58 + r) else I 158 (28 + r)) then I 158 (52 + r) else I 158 (28 + r) - bif decide (I 158 (58 + r) ≤ I 158 (28 + r)) then I 158 (58 + r) else I 158 (28 + r)) = I 158 (52 + r) - pgs (I 158) r := rfl
  rw [e2]
  cases hd : decide (I 158 (52 + r) - pgs (I 158) r ≤ 0)
  · rfl
  · simp only [cond_true]
    refine (congrArg (fun x => am_cont env x _ _ _ _ _) (show _ = (d + 1, 229, 0, [some (.ref 156), some (.int (Int32.ofNat r)), some (.int (Int32.ofNat b))], [], am_hp (am_ur I 158 (rd2 (I 158) r)) J E) from rfl)).trans ?_
    simp (disch := omega) only [decide_true, decide_false, Bool.not_true, Bool.not_false, am_cont, Option.bind_some, Option.toList_some, Option.toList_none, List.singleton_append, List.nil_append, cond_true, cond_false, m_learn, ur_ur, ur_at, bk_240_130, bk_240_135, m_leave env d r b hr hb (am_ur I 158 (lLearn (rd2 (I 158) r) r b)) J E (by rw [ur_at, lLearn_at _ _ _ _ (by omega) (by omega), rd2_at _ _ _ (by omega) (by omega) (by omega)]; exact h)]
theorem c_readOn1 (env : am_E) (d : Nat) (p : Nat) (hp : stq p = true) (r : Nat) (hr : r < 6) (I : Nat → Nat → Int32) (J : Nat → Nat → Int64) (E : Nat → Nat → Nat) (m : Nat → Int32) (hl : Lb I m) (h : m (46 + r) = -1) : am_ev env (d + 1, 87, 0, [some (.ref p), some (.ref 5), some (.int (Int32.ofNat r)), none, none], [], am_hp (pS I p m) J E) = some (true, none, am_hp (pS I p (lReads m r)) J E) := by
  have hpb := st_bd p hp
  rw [lReads_idle _ _ h]
  have e : decide ((-1 : Int32) = -1) = true := by decide
  simp (disch := omega) only [bk_87_0, bk_87_26, bk_87_77, bk_87_124, bk_87_129, st_d0 p hp, st_b0 p hp, st_4 p hp, st_5 p hp, st_6 p hp, st_7 p hp, st_8 p hp, st_d1 p hp, st_b1 p hp, st_l1 p hp, st_d2 p hp, st_b2 p hp, st_l2 p hp, st_d3 p hp, st_b3 p hp, st_l3 p hp, st_d4 p hp, st_b4 p hp, st_l4 p hp, st_d5 p hp, st_b5 p hp, st_l5 p hp, st_t1 p hp, st_t2 p hp, st_t3 p hp, st_t4 p hp, st_t5 p hp, Bool.and_true, Bool.and_self, decide_true, lb_d, lb_b, lb_6, lb_7, lb_8, lb_10, lb_d7, lb_b7, lb_l7, lb_t7, lb_d8, lb_b8, lb_l8, lb_t8, lb_d9, lb_b9, lb_l9, lb_t9, lb_d11, lb_b11, lb_l11, lb_t11, ps_g0, ps_g1, ps_g2, ps_g3, ps_g9, ps_gi, ps_gh, ps_gl, ps_gf, ps_gr, ps_s0, ps_s1, ps_s2, ps_s3, ps_s9, ps_si, ps_sh, ps_sl, ps_sf, ps_sr, ps_ne, hl.1, hl.2.1, hl.2.2.1, hl.2.2.2.1, hl.2.2.2.2, decide_true, decide_false, Bool.not_true, Bool.not_false, am_cont, Option.bind_some, Option.toList_some, Option.toList_none, List.singleton_append, List.nil_append, cond_true, cond_false, zI_in, zI_nat, ru_ne, lst_min, h, e, Bool.not_true]
  rfl
theorem c_readOn2 (env : am_E) (d : Nat) (p : Nat) (hp : stq p = true) (r b : Nat) (hr : r < 6) (hb : b < 8) (I : Nat → Nat → Int32) (J : Nat → Nat → Int64) (E : Nat → Nat → Nat) (m : Nat → Int32) (hl : Lb I m) (h : m (46 + r) = Int32.ofNat b) (hz : decide (m (52 + r) - pgs m r = 0) = decide (m (52 + r) - pgs m r ≤ 0)) : am_ev env (d + 2, 87, 0, [some (.ref p), some (.ref 5), some (.int (Int32.ofNat r)), none, none], [], am_hp (pS I p m) J E) = some (true, none, am_hp (pS I p (lReads m r)) J E) := by
  have hpb := st_bd p hp
  rw [lReads_has _ _ b hb h, ← hz]
  have e : decide (Int32.ofNat b = -1) = false := decide_eq_false (fun e => m1_ne b (by omega) e.symm)
  simp (disch := omega) only [bk_87_0, bk_87_26, bk_87_77, bk_87_129, st_d0 p hp, st_b0 p hp, st_4 p hp, st_5 p hp, st_6 p hp, st_7 p hp, st_8 p hp, st_d1 p hp, st_b1 p hp, st_l1 p hp, st_d2 p hp, st_b2 p hp, st_l2 p hp, st_d3 p hp, st_b3 p hp, st_l3 p hp, st_d4 p hp, st_b4 p hp, st_l4 p hp, st_d5 p hp, st_b5 p hp, st_l5 p hp, st_t1 p hp, st_t2 p hp, st_t3 p hp, st_t4 p hp, st_t5 p hp, Bool.and_true, Bool.and_self, decide_true, lb_d, lb_b, lb_6, lb_7, lb_8, lb_10, lb_d7, lb_b7, lb_l7, lb_t7, lb_d8, lb_b8, lb_l8, lb_t8, lb_d9, lb_b9, lb_l9, lb_t9, lb_d11, lb_b11, lb_l11, lb_t11, ps_g0, ps_g1, ps_g2, ps_g3, ps_g9, ps_gi, ps_gh, ps_gl, ps_gf, ps_gr, ps_s0, ps_s1, ps_s2, ps_s3, ps_s9, ps_si, ps_sh, ps_sl, ps_sf, ps_sr, ps_ne, hl.1, hl.2.1, hl.2.2.1, hl.2.2.2.1, hl.2.2.2.2, decide_true, decide_false, Bool.not_true, Bool.not_false, am_cont, Option.bind_some, Option.toList_some, Option.toList_none, List.singleton_append, List.nil_append, cond_true, cond_false, zI_in, zI_nat, ru_ne, ru_eq, lst_min, h, e, Bool.not_false]
  have e2 : m (52 + r) - lst (m (28 + r) - lst (m (28 + r)) (m (58 + r))) (m (52 + r)) = m (52 + r) - pgs m r := rfl
  rw [e2]
  cases hd : decide (m (52 + r) - pgs m r = 0)
  · rfl
  · simp only [cond_true, Bool.not_true, cond_false]
    refine (congrArg (fun x => am_ev env (d + 1 + 1, 87, 124, [some (.ref p), some (.ref 5), some (.int (Int32.ofNat r)), some (.int (paid m r)), some (.int (pgs m r))], [], am_hp x J E)) (show _ = pS I p (ru (ru (rd2 m r) (64 + r) (m (64 + r) ||| ((1 : Int32) <<< (Int32.ofNat b &&& 31)))) 36 (m 36 + 1)) from rfl)).trans ?_
    have e3 : lLearn (rd2 m r) r b = ru (ru (rd2 m r) (64 + r) (m (64 + r) ||| ((1 : Int32) <<< (Int32.ofNat b &&& 31)))) 36 (m 36 + 1) := by
      unfold lLearn; rw [rd2_at m r (64 + r) (by omega) (by omega) (by omega), rd2_at m r 36 (by omega) (by omega) (by omega)]
    rw [← e3]
    simp (disch := omega) only [bk_87_124, bk_87_129, st_d0 p hp, st_b0 p hp, st_4 p hp, st_5 p hp, st_6 p hp, st_7 p hp, st_8 p hp, st_d1 p hp, st_b1 p hp, st_l1 p hp, st_d2 p hp, st_b2 p hp, st_l2 p hp, st_d3 p hp, st_b3 p hp, st_l3 p hp, st_d4 p hp, st_b4 p hp, st_l4 p hp, st_d5 p hp, st_b5 p hp, st_l5 p hp, st_t1 p hp, st_t2 p hp, st_t3 p hp, st_t4 p hp, st_t5 p hp, Bool.and_true, Bool.and_self, decide_true, decide_true, decide_false, Bool.not_true, Bool.not_false, am_cont, Option.bind_some, Option.toList_some, Option.toList_none, List.singleton_append, List.nil_append, cond_true, cond_false, c_putIn env _ p hp r b hr hb I J E (lLearn (rd2 m r) r b) (by rw [lLearn_at _ _ _ _ (by omega) (by omega), rd2_at _ _ _ (by omega) (by omega) (by omega)]; exact h)]
theorem reads_num {m : Nat → Int32} {n k r : Nat} (hl : IvL m n k) (hi : IvS m n k) (hr : r < k) : ∃ x y p, m (58 + r) = Int32.ofNat x ∧ x ≤ 99 ∧ m (28 + r) = Int32.ofNat p ∧ 1 ≤ p ∧ p ≤ 30 ∧ m (52 + r) = Int32.ofNat y ∧ y ≤ 99 ∧ paid m r = Int32.ofNat (min p x) ∧ pgs m r = Int32.ofNat (min (p - min p x) y) := by
  have hk := hl.2.1.2
  obtain ⟨i1, ⟨x, hx1, hx⟩, i3, i4⟩ := hi.2.2.2 r (by omega)
  obtain ⟨p, hp1, hp2, hp⟩ := hl.2.2.2.2.2.2 r hr
  have hpaid : paid m r = Int32.ofNat (min p x) := by unfold paid; rw [hx, hp]; exact lst_nat p x (by omega) (by omega)
  have hy : ∃ y, y ≤ 99 ∧ m (52 + r) = Int32.ofNat y := by
    rcases i1 with ⟨_, e⟩ | ⟨_, b, _, _, _, y, _, h2, h3⟩
    · exact ⟨0, by omega, e⟩
    · exact ⟨y, h2, h3⟩
  obtain ⟨y, hy1, hy⟩ := hy
  refine ⟨x, y, p, hx, hx1, hp, hp1, hp2, hy, hy1, hpaid, ?_⟩
  unfold pgs
  rw [hpaid, hp, hy, zI_sub p _ (Nat.min_le_left _ _)]
  exact lst_nat _ _ (by omega) (by omega)
theorem reads_zero {m : Nat → Int32} {n k r : Nat} (hl : IvL m n k) (hi : IvS m n k) (hr : r < k) : decide (m (52 + r) - pgs m r = 0) = decide (m (52 + r) - pgs m r ≤ 0) := by
  obtain ⟨x, y, p, hx, hx1, hp, hp1, hp2, hy, hy1, h1, h2⟩ := reads_num hl hi hr
  rw [hy, h2, zI_sub y _ (Nat.min_le_right _ _)]
  generalize hz : y - min (p - min p x) y = z
  have hz1 : z ≤ 99 := by omega
  by_cases h0 : z = 0
  · subst h0; decide
  · rw [show decide (Int32.ofNat z = 0) = decide (z = 0) from zI_deq z 0 (by omega) (by omega), decide_eq_false h0]
    exact (zle_f z 0 (by omega) (by omega)).symm
theorem IvS_reads {m : Nat → Int32} {n k r : Nat} (hl : IvL m n k) (hi : IvS m n k) (hr : r < k) : IvS (lReads m r) n k := by
  have hk := hl.2.1.2
  have hn := hl.1.2
  obtain ⟨x, y, p, hx, hx1, hp, hp1, hp2, hy, hy1, hpd, hpg⟩ := reads_num hl hi hr
  obtain ⟨i1, i2, i3, i4⟩ := hi.2.2.2 r (by omega)
  have e58 : rd1 m r (58 + r) = Int32.ofNat (x - min p x) := by
    unfold rd1; rw [ru_ne _ _ _ _ (by omega), ru_eq, hpd, hx]; exact zI_sub _ _ (Nat.min_le_right _ _)
  rcases i1 with ⟨j1, j2⟩ | ⟨j0, b, jb, j1, j2, y', j3, j4, j5⟩
  · rw [lReads_idle m r j1]
    refine IvS_mk hi r _ (rd1_at _ _ _ (by omega) (by omega)) (rd1_at _ _ _ (by omega) (by omega)) ?_ ?_ ?_
    · intro c hc
      rw [rd1_at _ _ _ (by omega) (by omega), show oc (rd1 m r) c = oc m c from ocn_congr _ _ _ _ (fun s hs => rd1_at _ _ _ (by omega) (by omega))]
      exact hi.2.2.1 c hc
    · intro s hs hne
      exact ⟨rd1_at _ _ _ (by omega) (by omega), rd1_at _ _ _ (by omega) (by omega), rd1_at _ _ _ (by omega) (by omega), rd1_at _ _ _ (by omega) (by omega)⟩
    · rw [rd1_at _ _ _ (by omega) (by omega), rd1_at m r (52 + r) (by omega) (by omega), rd1_at m r (64 + r) (by omega) (by omega), e58]
      exact ⟨Or.inl ⟨j1, j2⟩, ⟨_, by omega, rfl⟩, i3, fun h => by omega⟩
  · have hyy : y' = y := by
      have := j5.symm.trans hy
      rw [zI_eq y' y (by omega) (by omega)] at this
      exact this
    subst hyy
    have f58 : rd2 m r (58 + r) = Int32.ofNat (x - min p x) := by
      unfold rd2; rw [ru_ne _ _ _ _ (by omega), ru_ne _ _ _ _ (by omega)]; exact e58
    have f52 : rd2 m r (52 + r) = Int32.ofNat (y' - min (p - min p x) y') := by
      unfold rd2; rw [ru_ne _ _ _ _ (by omega), ru_eq, hpg, hy]; exact zI_sub _ _ (Nat.min_le_right _ _)
    have g34 : rd2 m r 34 = m 34 := rd2_at _ _ _ (by omega) (by omega) (by omega)
    have g35 : rd2 m r 35 = m 35 := rd2_at _ _ _ (by omega) (by omega) (by omega)
    have gin : ∀ c, c < n → ∃ x, rd2 m r (38 + c) = Int32.ofNat x ∧ x + oc (rd2 m r) c ≤ 15 := by
      intro c hc
      rw [rd2_at _ _ _ (by omega) (by omega) (by omega), show oc (rd2 m r) c = oc m c from ocn_congr _ _ _ _ (fun s hs => rd2_at _ _ _ (by omega) (by omega) (by omega))]
      exact hi.2.2.1 c hc
    have goth : ∀ s, s < 6 → s ≠ r → rd2 m r (46 + s) = m (46 + s) ∧ rd2 m r (52 + s) = m (52 + s) ∧ rd2 m r (58 + s) = m (58 + s) ∧ rd2 m r (64 + s) = m (64 + s) := by
      intro s hs hne
      exact ⟨rd2_at _ _ _ (by omega) (by omega) (by omega), rd2_at _ _ _ (by omega) (by omega) (by omega), rd2_at _ _ _ (by omega) (by omega) (by omega), rd2_at _ _ _ (by omega) (by omega) (by omega)⟩
    have h46 : rd2 m r (46 + r) = Int32.ofNat b := (rd2_at _ _ _ (by omega) (by omega) (by omega)).trans j1
    have h64 : rd2 m r (64 + r) = m (64 + r) := rd2_at _ _ _ (by omega) (by omega) (by omega)
    rw [lReads_has m r b (by omega) j1]
    by_cases hz : m (52 + r) - pgs m r ≤ 0
    · rw [decide_eq_true hz]
      simp only [cond_true]
      have k46 : lLearn (rd2 m r) r b (46 + r) = Int32.ofNat b := (lLearn_at _ _ _ _ (by omega) (by omega)).trans h46
      refine IvS_mk hi r _ ?_ ?_ ?_ ?_ ?_
      · rw [lLeave_at _ _ _ _ (by omega) (by omega) (by omega), lLearn_at _ _ _ _ (by omega) (by omega)]; exact g34
      · rw [lLeave_at _ _ _ _ (by omega) (by omega) (by omega), lLearn_at _ _ _ _ (by omega) (by omega)]; exact g35
      · refine IvS_leave0 hn (by omega : r < 6) ?_ jb k46
        intro c hc
        rw [lLearn_at _ _ _ _ (by omega) (by omega), show oc (lLearn (rd2 m r) r b) c = oc (rd2 m r) c from ocn_congr _ _ _ _ (fun s hs => lLearn_at _ _ _ _ (by omega) (by omega))]
        exact gin c hc
      · intro s hs hne
        obtain ⟨q1, q2, q3, q4⟩ := goth s hs hne
        refine ⟨?_, ?_, ?_, ?_⟩
        · rw [lLeave_at _ _ _ _ (by omega) (by omega) (by omega), lLearn_at _ _ _ _ (by omega) (by omega)]; exact q1
        · rw [lLeave_at _ _ _ _ (by omega) (by omega) (by omega), lLearn_at _ _ _ _ (by omega) (by omega)]; exact q2
        · rw [lLeave_at _ _ _ _ (by omega) (by omega) (by omega), lLearn_at _ _ _ _ (by omega) (by omega)]; exact q3
        · rw [lLeave_at _ _ _ _ (by omega) (by omega) (by omega), lLearn_at _ _ _ _ (by omega) (by omega)]; exact q4
      · have t46 : lLeave (lLearn (rd2 m r) r b) r b (46 + r) = -1 := by unfold lLeave; rw [ru_ne _ _ _ _ (by omega), ru_eq]
        have t52 : lLeave (lLearn (rd2 m r) r b) r b (52 + r) = 0 := by unfold lLeave; rw [ru_eq]
        have t58 : lLeave (lLearn (rd2 m r) r b) r b (58 + r) = Int32.ofNat (x - min p x) := by rw [lLeave_at _ _ _ _ (by omega) (by omega) (by omega), lLearn_at _ _ _ _ (by omega) (by omega)]; exact f58
        have t64 : lLeave (lLearn (rd2 m r) r b) r b (64 + r) = m (64 + r) ||| ((1 : Int32) <<< (Int32.ofNat b &&& 31)) := by
          rw [lLeave_at _ _ _ _ (by omega) (by omega) (by omega)]; unfold lLearn; rw [ru_ne _ _ _ _ (by omega), ru_eq, h64]
        rw [t46, t52, t58, t64]
        refine ⟨Or.inl ⟨rfl, rfl⟩, ⟨_, by omega, rfl⟩, ?_, fun h => by omega⟩
        intro j hj
        rw [bt_or] at hj
        cases h1 : bt (m (64 + r)) j with
        | true => exact i3 j h1
        | false => rw [h1, Bool.false_or] at hj; exact bt_low1 hn jb j hj
    · rw [decide_eq_false hz]
      simp only [cond_false]
      refine IvS_mk hi r _ g34 g35 gin goth ?_
      rw [h46, f52, f58, h64]
      refine ⟨Or.inr ⟨j0, b, jb, rfl, j2, _, ?_, by omega, rfl⟩, ⟨_, by omega, rfl⟩, i3, fun h => by omega⟩
      apply Classical.byContradiction
      intro hc
      apply hz
      rw [hpg, hy, zI_sub _ _ (Nat.min_le_right _ _), show y' - min (p - min p x) y' = 0 by omega]
      decide
theorem lReads_low (m : Nat → Int32) (r j : Nat) (h : j < 36) : lReads m r j = m j := by
  unfold lReads
  cases decide (m (46 + r) = -1)
  · cases decide (m (52 + r) - pgs m r ≤ 0)
    · simp only [cond_false]; exact rd2_at _ _ _ (by omega) (by omega) (by omega)
    · simp only [cond_true, cond_false]
      rw [lLeave_at _ _ _ _ (by omega) (by omega) (by omega), lLearn_at _ _ _ _ (by omega) (by omega)]; exact rd2_at _ _ _ (by omega) (by omega) (by omega)
  · simp only [cond_true]; exact rd1_at _ _ _ (by omega) (by omega)
theorem IvL_low {m m' : Nat → Int32} {n k : Nat} (hn : ∀ j, j < 34 → m' j = m j) (hi : IvL m n k) : IvL m' n k := by
  obtain ⟨⟨a1, a2⟩, ⟨b1, b2⟩, c, d, e, f, g⟩ := hi
  refine ⟨⟨by rw [hn 0 (by omega)]; exact a1, a2⟩, ⟨by rw [hn 2 (by omega)]; exact b1, b2⟩, ?_, ?_, ?_, ?_, ?_⟩
  · rw [hn 3 (by omega)]; exact c
  · intro b hb; rw [hn (4 + b) (by omega)]; exact d b hb
  · intro b hb; rw [hn (12 + b) (by omega)]; exact e b hb
  · intro b hb; rw [hn (20 + b) (by omega)]; exact f b hb
  · intro b hb; rw [hn (28 + b) (by omega)]; exact g b hb
theorem Lb_low {I : Nat → Nat → Int32} {m m' : Nat → Int32} (hn : ∀ j, j < 34 → m' j = m j) (hi : Lb I m) : Lb I m' := by
  obtain ⟨h1, h2, h3, h4, h5⟩ := hi
  refine ⟨fun j hj => ?_, fun j hj => ?_, fun j hj => ?_, fun j hj => ?_, fun j hj => ?_⟩
  · rw [hn _ (by omega)]; exact h1 j hj
  · rw [hn _ (by omega)]; exact h2 j hj
  · rw [hn _ (by omega)]; exact h3 j hj
  · rw [hn _ (by omega)]; exact h4 j hj
  · rw [hn _ (by omega)]; exact h5 j hj
theorem m_reads (env : am_E) (d : Nat) (r n k : Nat) (I : Nat → Nat → Int32) (J : Nat → Nat → Int64) (E : Nat → Nat → Nat) (hl : IvL (I 158) n k) (hi : IvS (I 158) n k) (hr : r < k) : am_ev env (d + 2, 240, 0, [some (.ref 156), some (.int (Int32.ofNat r)), none, none], [], am_hp I J E) = some (true, none, am_hp (am_ur I 158 (lReads (I 158) r)) J E) := by
  have hk := hl.2.1.2
  have hn := hl.1.2
  rcases (hi.2.2.2 r (by omega)).1 with ⟨h, _⟩ | ⟨_, b, hb, h, _⟩
  · exact m_reads1 env d r (by omega) I J E h
  · exact m_reads2 env d r b (by omega) (by omega) I J E h
theorem c_readOn (env : am_E) (d : Nat) (p : Nat) (hp : stq p = true) (r n k : Nat) (I : Nat → Nat → Int32) (J : Nat → Nat → Int64) (E : Nat → Nat → Nat) (m : Nat → Int32) (hl : Lb I m) (hv : IvL m n k) (hi : IvS m n k) (hr : r < k) : am_ev env (d + 2, 87, 0, [some (.ref p), some (.ref 5), some (.int (Int32.ofNat r)), none, none], [], am_hp (pS I p m) J E) = some (true, none, am_hp (pS I p (lReads m r)) J E) := by
  have hk := hv.2.1.2
  have hn := hv.1.2
  rcases (hi.2.2.2 r (by omega)).1 with ⟨h, _⟩ | ⟨_, b, hb, h, _⟩
  · exact c_readOn1 env (d + 1) p hp r (by omega) I J E m hl h
  · exact c_readOn2 env d p hp r b (by omega) (by omega) I J E m hl h (reads_zero hv hi hr)
abbrev lRd (k : Nat) (m : Nat → Int32) : Nat → Int32 := lp (fun r m => lReads m r) k m
def lDay (k : Nat) (m : Nat → Int32) : Nat → Int32 := ru (lRd k m) 34 (lRd k m 34 + 1)
theorem lRd_low (k : Nat) (m : Nat → Int32) (j : Nat) (h : j < 36) : lRd k m j = m j := by
  induction k with
  | zero => rfl
  | succ k ih => exact (lReads_low _ _ _ h).trans ih
theorem lRd_inv (m : Nat → Int32) (n k K : Nat) (hl : IvL m n k) (hi : IvS m n k) (hK : K ≤ k) : IvS (lRd K m) n k := by
  induction K with
  | zero => exact hi
  | succ K ih => exact IvS_reads (IvL_low (fun j hj => lRd_low K m j (by omega)) hl) (ih (by omega)) (by omega)
theorem lDay_low (k : Nat) (m : Nat → Int32) (j : Nat) (h : j < 34) : lDay k m j = m j := by
  unfold lDay; rw [ru_ne _ _ _ _ (by omega)]; exact lRd_low k m j (by omega)
theorem lDay_34 (k : Nat) (m : Nat → Int32) (y : Nat) (h : m 34 = Int32.ofNat y) : lDay k m 34 = Int32.ofNat (y + 1) := by
  unfold lDay; rw [ru_eq, lRd_low k m 34 (by omega), h]; exact zd_1 y
theorem lDay_inv (m : Nat → Int32) (n k y : Nat) (hl : IvL m n k) (hi : IvS m n k) (h : m 34 = Int32.ofNat y) (hy : y < 400) : IvS (lDay k m) n k := by
  have hi2 := lRd_inv m n k k hl hi (Nat.le_refl _)
  obtain ⟨a, b, c, d⟩ := hi2
  refine ⟨⟨y + 1, by omega, lDay_34 k m y h⟩, ?_, ?_, ?_⟩
  · unfold lDay; rw [ru_ne _ _ _ _ (by omega)]; exact b
  · intro c' hc; unfold lDay; rw [ru_ne _ _ _ _ (by omega), oc_ru _ _ _ _ (by omega)]; exact c c' hc
  · intro s hs; unfold lDay; rw [ru_ne _ _ _ _ (by omega), ru_ne _ _ _ _ (by omega), ru_ne _ _ _ _ (by omega), ru_ne _ _ _ _ (by omega)]; exact d s hs
theorem m_oneDay (env : am_E) (d : Nat) (n k : Nat) (I : Nat → Nat → Int32) (J : Nat → Nat → Int64) (E : Nat → Nat → Nat) (hl : IvL (I 158) n k) (hi : IvS (I 158) n k) : am_ev env (d + 3, 241, 0, [some (.ref 156), none], [], am_hp I J E) = some (true, none, am_hp (am_ur I 158 (lDay k (I 158))) J E) := by
  have hk := hl.2.1.2
  refine (bk_241_0 _ _ _ _ _).trans ?_
  have hr := lp_run (fun r m => am_ev env (d + 3, 241, 2, [some (.ref 156), some (.int (Int32.ofNat r))], [], am_hp (am_ur I 158 m) J E)) (fun r m => lReads m r) (fun r m => IvL m n k ∧ IvS m n k) k (fun r m hr hP => by
    refine ⟨?_, IvL_low (fun j hj => lReads_low m r j (by omega)) hP.1, IvS_reads hP.1 hP.2 hr⟩
    refine (bk_241_2 _ _ _ _ _ _).trans ?_
    have e1 : decide (Int32.ofNat k ≤ Int32.ofNat r) = false := zle_f k r hr (by omega)
    rw [ur_at, hP.1.2.1.1, e1]
    simp only [cond_false]
    have e2 := m_reads env d r n k (am_ur I 158 m) J E (by rw [ur_at]; exact hP.1) (by rw [ur_at]; exact hP.2) hr
    simp only [decide_true, decide_false, Bool.not_true, Bool.not_false, am_cont, Option.bind_some, Option.toList_some, Option.toList_none, List.singleton_append, List.nil_append, cond_true, cond_false, e2, ur_ur, ur_at, bk_241_17, zd_1]) (I 158) ⟨hl, hi⟩ k (Nat.le_refl _)
  have hr1 : am_ev env (d + 3, 241, 2, [some (.ref 156), some (.int (Int32.ofNat 0))], [], am_hp I J E) = am_ev env (d + 3, 241, 2, [some (.ref 156), some (.int (Int32.ofNat k))], [], am_hp (am_ur I 158 (lRd k (I 158))) J E) := by
    have := hr.1
    rw [ur_self] at this
    exact this
  refine Eq.trans hr1 ?_
  refine (bk_241_2 _ _ _ _ _ _).trans ?_
  have e1 : decide (Int32.ofNat k ≤ Int32.ofNat k) = true := zle_t k k (Nat.le_refl _) (by omega)
  have e3 : lRd k (I 158) 2 = Int32.ofNat k := hr.2.1.2.1.1
  rw [ur_at, e3, e1]
  simp only [cond_true, am_u_r, ur_ur, ur_at]
  rfl
theorem c_passDay (env : am_E) (d : Nat) (p : Nat) (hp : stq p = true) (n k : Nat) (I : Nat → Nat → Int32) (J : Nat → Nat → Int64) (E : Nat → Nat → Nat) (m : Nat → Int32) (hl : Lb I m) (hv : IvL m n k) (hi : IvS m n k) : am_ev env (d + 3, 86, 0, [some (.ref p), some (.ref 5), none], [], am_hp (pS I p m) J E) = some (true, none, am_hp (pS I p (lDay k m)) J E) := by
  have hk := hv.2.1.2
  have hpb := st_bd p hp
  refine (bk_86_0 _ _ _ _ _ _ _).trans ?_
  have hr := lp_run (fun r m => am_ev env (d + 3, 86, 2, [some (.ref p), some (.ref 5), some (.int (Int32.ofNat r))], [], am_hp (pS I p m) J E)) (fun r m => lReads m r) (fun r m => Lb I m ∧ IvL m n k ∧ IvS m n k) k (fun r m hr hP => by
    have hlow : ∀ j, j < 34 → lReads m r j = m j := fun j hj => lReads_low m r j (by omega)
    refine ⟨?_, Lb_low hlow hP.1, IvL_low hlow hP.2.1, IvS_reads hP.2.1 hP.2.2 hr⟩
    refine (bk_86_2 _ _ _ _ _ _ _ _).trans ?_
    have e1 : decide (Int32.ofNat k ≤ Int32.ofNat r) = false := zle_f k r hr (by omega)
    have e3 : pS I p m 5 2 = Int32.ofNat k := by rw [ps_ne I p m 5 (by omega), hP.1.1 2 (by omega)]; exact hP.2.1.2.1.1
    rw [e3, e1]
    have e2 := c_readOn env d p hp r n k I J E m hP.1 hP.2.1 hP.2.2 hr
    simp only [st_d0 p hp, st_b0 p hp, st_4 p hp, st_5 p hp, st_6 p hp, st_7 p hp, st_8 p hp, st_d1 p hp, st_b1 p hp, st_l1 p hp, st_d2 p hp, st_b2 p hp, st_l2 p hp, st_d3 p hp, st_b3 p hp, st_l3 p hp, st_d4 p hp, st_b4 p hp, st_l4 p hp, st_d5 p hp, st_b5 p hp, st_l5 p hp, st_t1 p hp, st_t2 p hp, st_t3 p hp, st_t4 p hp, st_t5 p hp, Bool.and_true, Bool.and_self, decide_true, lb_d, lb_b, lb_6, lb_7, lb_8, lb_10, lb_d7, lb_b7, lb_l7, lb_t7, lb_d8, lb_b8, lb_l8, lb_t8, lb_d9, lb_b9, lb_l9, lb_t9, lb_d11, lb_b11, lb_l11, lb_t11, decide_true, decide_false, Bool.not_true, Bool.not_false, am_cont, Option.bind_some, Option.toList_some, Option.toList_none, List.singleton_append, List.nil_append, cond_true, cond_false, e2, bk_86_16, zd_1]) m ⟨hl, hv, hi⟩ k (Nat.le_refl _)
  refine Eq.trans hr.1 ?_
  refine (bk_86_2 _ _ _ _ _ _ _ _).trans ?_
  have e1 : decide (Int32.ofNat k ≤ Int32.ofNat k) = true := zle_t k k (Nat.le_refl _) (by omega)
  have e3 : pS I p (lp (fun r m => lReads m r) k m) 5 2 = Int32.ofNat k := by rw [ps_ne I p _ 5 (by omega), hr.2.1.1 2 (by omega)]; exact hr.2.2.1.2.1.1
  rw [e3, e1]
  simp only [st_d0 p hp, st_b0 p hp, st_4 p hp, st_5 p hp, st_6 p hp, st_7 p hp, st_8 p hp, st_d1 p hp, st_b1 p hp, st_l1 p hp, st_d2 p hp, st_b2 p hp, st_l2 p hp, st_d3 p hp, st_b3 p hp, st_l3 p hp, st_d4 p hp, st_b4 p hp, st_l4 p hp, st_d5 p hp, st_b5 p hp, st_l5 p hp, st_t1 p hp, st_t2 p hp, st_t3 p hp, st_t4 p hp, st_t5 p hp, Bool.and_true, Bool.and_self, decide_true, lb_d, lb_b, lb_6, lb_7, lb_8, lb_10, lb_d7, lb_b7, lb_l7, lb_t7, lb_d8, lb_b8, lb_l8, lb_t8, lb_d9, lb_b9, lb_l9, lb_t9, lb_d11, lb_b11, lb_l11, lb_t11, decide_true, decide_false, Bool.not_true, Bool.not_false, am_cont, Option.bind_some, Option.toList_some, Option.toList_none, List.singleton_append, List.nil_append, cond_true, cond_false, ps_g0, ps_s0]
  rfl
abbrev lDays (k K : Nat) (m : Nat → Int32) : Nat → Int32 := lp (fun _ m => lDay k m) K m
theorem lDays_P (m : Nat → Int32) (n k y K : Nat) (hl : IvL m n k) (hi : IvS m n k) (h : m 34 = Int32.ofNat y) (hK : y + K ≤ 400) : (∀ j, j < 34 → lDays k K m j = m j) ∧ lDays k K m 34 = Int32.ofNat (y + K) ∧ IvS (lDays k K m) n k := by
  induction K with
  | zero => exact ⟨fun _ _ => rfl, h, hi⟩
  | succ K ih =>
    obtain ⟨i1, i2, i3⟩ := ih (by omega)
    refine ⟨fun j hj => (lDay_low k _ j hj).trans (i1 j hj), lDay_34 k _ (y + K) i2, lDay_inv _ n k (y + K) (IvL_low i1 hl) i3 i2 (by omega)⟩
theorem zsub400 (y : Nat) (h : y ≤ 400) : 400 - Int32.ofNat y = Int32.ofNat (400 - y) := zI_sub 400 y h
theorem m_passDays (env : am_E) (d : Nat) (N n k y : Nat) (I : Nat → Nat → Int32) (J : Nat → Nat → Int64) (E : Nat → Nat → Nat) (hN : N ≤ 60) (hl : IvL (I 158) n k) (hi : IvS (I 158) n k) (h : I 158 34 = Int32.ofNat y) (hy : y ≤ 400) : am_ev env (d + 4, 242, 0, [some (.ref 156), some (.int (Int32.ofNat N)), none, none], [], am_hp I J E) = some (true, some (.int (Int32.ofNat (min N (400 - y)))), am_hp (am_ur I 158 (lDays k (min N (400 - y)) (I 158))) J E) := by
  have el : (bif decide (Int32.ofNat (400 - y) ≤ Int32.ofNat N) then Int32.ofNat (400 - y) else Int32.ofNat N) = Int32.ofNat (min N (400 - y)) := lst_nat N (400 - y) (by omega) (by omega)
  simp only [bk_242_0, bk_242_15, h, zsub400 y hy, m_least, decide_true, decide_false, Bool.not_true, Bool.not_false, am_cont, Option.bind_some, Option.toList_some, Option.toList_none, List.singleton_append, List.nil_append, cond_true, cond_false, el]
  generalize hK : min N (400 - y) = K
  have hK1 : y + K ≤ 400 := by omega
  have hr := lp_run (fun i m => am_ev env (d + 4, 242, 18, [some (.ref 156), some (.int (Int32.ofNat N)), some (.int (Int32.ofNat K)), some (.int (Int32.ofNat i))], [], am_hp (am_ur I 158 m) J E)) (fun _ m => lDay k m) (fun i m => IvL m n k ∧ IvS m n k ∧ m 34 = Int32.ofNat (y + i)) K (fun i m hi2 hP => by
    refine ⟨?_, IvL_low (fun j hj => lDay_low k m j hj) hP.1, lDay_inv m n k (y + i) hP.1 hP.2.1 hP.2.2 (by omega), lDay_34 k m (y + i) hP.2.2⟩
    refine (bk_242_18 _ _ _ _ _ _ _ _).trans ?_
    have e1 : decide (Int32.ofNat K ≤ Int32.ofNat i) = false := zle_f K i hi2 (by omega)
    have e2 := m_oneDay env d n k (am_ur I 158 m) J E (by rw [ur_at]; exact hP.1) (by rw [ur_at]; exact hP.2.1)
    simp only [e1, decide_true, decide_false, Bool.not_true, Bool.not_false, am_cont, Option.bind_some, Option.toList_some, Option.toList_none, List.singleton_append, List.nil_append, cond_true, cond_false, e2, ur_ur, ur_at, bk_242_27, zd_1]) (I 158) ⟨hl, hi, h⟩ K (Nat.le_refl _)
  have hr1 : am_ev env (d + 4, 242, 18, [some (.ref 156), some (.int (Int32.ofNat N)), some (.int (Int32.ofNat K)), some (.int (Int32.ofNat 0))], [], am_hp I J E) = am_ev env (d + 4, 242, 18, [some (.ref 156), some (.int (Int32.ofNat N)), some (.int (Int32.ofNat K)), some (.int (Int32.ofNat K))], [], am_hp (am_ur I 158 (lDays k K (I 158))) J E) := by
    have := hr.1
    rw [ur_self] at this
    exact this
  refine Eq.trans hr1 ?_
  refine (bk_242_18 _ _ _ _ _ _ _ _).trans ?_
  have e1 : decide (Int32.ofNat K ≤ Int32.ofNat K) = true := zle_t K K (Nat.le_refl _) (by omega)
  rw [e1, cond_true]
theorem c_passDays (env : am_E) (d : Nat) (p : Nat) (hp : stq p = true) (N n k y : Nat) (I : Nat → Nat → Int32) (J : Nat → Nat → Int64) (E : Nat → Nat → Nat) (m : Nat → Int32) (hN : N ≤ 60) (hl : Lb I m) (hv : IvL m n k) (hi : IvS m n k) (h : m 34 = Int32.ofNat y) (hy : y ≤ 400) : am_ev env (d + 4, 85, 0, [some (.ref p), some (.ref 5), some (.int (Int32.ofNat N)), none], [], am_hp (pS I p m) J E) = some (true, some (.int (Int32.ofNat (min N (400 - y)))), am_hp (pS I p (lDays k (min N (400 - y)) m)) J E) := by
  have hpb := st_bd p hp
  refine (bk_85_0 _ _ _ _ _ _ _ _).trans ?_
  generalize hK : min N (400 - y) = K
  have hK1 : y + K ≤ 400 := by omega
  have hr := lp_run (fun i m => am_ev env (d + 4, 85, 2, [some (.ref p), some (.ref 5), some (.int (Int32.ofNat N)), some (.int (Int32.ofNat i))], [], am_hp (pS I p m) J E)) (fun _ m => lDay k m) (fun i m => Lb I m ∧ IvL m n k ∧ IvS m n k ∧ m 34 = Int32.ofNat (y + i)) K (fun i m hi2 hP => by
    have hlow : ∀ j, j < 34 → lDay k m j = m j := fun j hj => lDay_low k m j hj
    refine ⟨?_, Lb_low hlow hP.1, IvL_low hlow hP.2.1, lDay_inv m n k (y + i) hP.2.1 hP.2.2.1 hP.2.2.2 (by omega), lDay_34 k m (y + i) hP.2.2.2⟩
    refine (bk_85_2 _ _ _ _ _ _ _ _ _).trans ?_
    have e1 : decide (Int32.ofNat N ≤ Int32.ofNat i) = false := zle_f N i (by omega) (by omega)
    have e4 : decide ((400 : Int32) ≤ Int32.ofNat (y + i)) = false := zle_f 400 (y + i) (by omega) (by omega)
    have e2 := c_passDay env d p hp n k I J E m hP.1 hP.2.1 hP.2.2.1
    simp only [e1, ps_g0, hP.2.2.2, e4, st_d0 p hp, st_b0 p hp, st_4 p hp, st_5 p hp, st_6 p hp, st_7 p hp, st_8 p hp, st_d1 p hp, st_b1 p hp, st_l1 p hp, st_d2 p hp, st_b2 p hp, st_l2 p hp, st_d3 p hp, st_b3 p hp, st_l3 p hp, st_d4 p hp, st_b4 p hp, st_l4 p hp, st_d5 p hp, st_b5 p hp, st_l5 p hp, st_t1 p hp, st_t2 p hp, st_t3 p hp, st_t4 p hp, st_t5 p hp, Bool.and_true, Bool.and_self, decide_true, lb_d, lb_b, lb_6, lb_7, lb_8, lb_10, lb_d7, lb_b7, lb_l7, lb_t7, lb_d8, lb_b8, lb_l8, lb_t8, lb_d9, lb_b9, lb_l9, lb_t9, lb_d11, lb_b11, lb_l11, lb_t11, decide_true, decide_false, Bool.not_true, Bool.not_false, am_cont, Option.bind_some, Option.toList_some, Option.toList_none, List.singleton_append, List.nil_append, cond_true, cond_false, e2, bk_85_22, zd_1]) m ⟨hl, hv, hi, h⟩ K (Nat.le_refl _)
  refine Eq.trans hr.1 ?_
  refine (bk_85_2 _ _ _ _ _ _ _ _ _).trans ?_
  by_cases hNK : N ≤ K
  · have e1 : decide (Int32.ofNat N ≤ Int32.ofNat K) = true := zle_t N K hNK (by omega)
    simp only [e1, cond_true, bk_85_28]
  · have e1 : decide (Int32.ofNat N ≤ Int32.ofNat K) = false := zle_f N K (by omega) (by omega)
    have e4 : decide ((400 : Int32) ≤ Int32.ofNat (y + K)) = true := zle_t 400 (y + K) (by omega) (by omega)
    simp only [e1, ps_g0, hr.2.2.2.2, e4, st_d0 p hp, st_b0 p hp, st_4 p hp, st_5 p hp, st_6 p hp, st_7 p hp, st_8 p hp, st_d1 p hp, st_b1 p hp, st_l1 p hp, st_d2 p hp, st_b2 p hp, st_l2 p hp, st_d3 p hp, st_b3 p hp, st_l3 p hp, st_d4 p hp, st_b4 p hp, st_l4 p hp, st_d5 p hp, st_b5 p hp, st_l5 p hp, st_t1 p hp, st_t2 p hp, st_t3 p hp, st_t4 p hp, st_t5 p hp, Bool.and_true, Bool.and_self, decide_true, lb_d, lb_b, lb_6, lb_7, lb_8, lb_10, lb_d7, lb_b7, lb_l7, lb_t7, lb_d8, lb_b8, lb_l8, lb_t8, lb_d9, lb_b9, lb_l9, lb_t9, lb_d11, lb_b11, lb_l11, lb_t11, decide_true, decide_false, Bool.not_true, Bool.not_false, am_cont, Option.bind_some, Option.toList_some, Option.toList_none, List.singleton_append, List.nil_append, cond_true, cond_false, bk_85_28]
theorem agr_rd1 {n k : Nat} {m m' : Nat → Int32} (h : Agr n k m m') (r : Nat) (hr : r < k) (hk : k ≤ 6) : Agr n k (rd1 m r) (rd1 m' r) ∧ paid m r = paid m' r ∧ pgs m r = pgs m' r := by
  have e1 : paid m r = paid m' r := by unfold paid; rw [h (28 + r) (by unfold rel; omega), h (58 + r) (by unfold rel; omega)]
  have e2 : pgs m r = pgs m' r := by unfold pgs; rw [e1, h (28 + r) (by unfold rel; omega), h (52 + r) (by unfold rel; omega)]
  refine ⟨?_, e1, e2⟩
  unfold rd1
  exact agr_ru (agr_ru h _ _ _ (by rw [e1, h (58 + r) (by unfold rel; omega)])) _ _ _ (by rw [e1, h 37 (by unfold rel; omega)])
theorem agr_lReads {n k : Nat} {m m' : Nat → Int32} (h : Agr n k m m') (hl : IvL m n k) (hi : IvS m n k) (r : Nat) (hr : r < k) : Agr n k (lReads m r) (lReads m' r) := by
  have hk := hl.2.1.2
  have hn := hl.1.2
  obtain ⟨a1, a2, a3⟩ := agr_rd1 h r hr hk
  have h46 := h (46 + r) (by unfold rel; omega)
  have h52 := h (52 + r) (by unfold rel; omega)
  have a4 : Agr n k (rd2 m r) (rd2 m' r) := by
    unfold rd2
    exact agr_ru (agr_ru a1 _ _ _ (by rw [h52, a3])) _ _ _ (by rw [a2, a3, h 37 (by unfold rel; omega)])
  rcases (hi.2.2.2 r (by omega)).1 with ⟨e, _⟩ | ⟨_, b, hb, e, _⟩
  · rw [lReads_idle m r e, lReads_idle m' r (h46 ▸ e)]; exact a1
  · rw [lReads_has m r b (by omega) e, lReads_has m' r b (by omega) (h46 ▸ e), ← h52, ← a3]
    cases decide (m (52 + r) - pgs m r ≤ 0)
    · exact a4
    · exact agr_lLeave (agr_lLearn a4 r b (by omega)) r b hb
theorem agr_lRd {n k : Nat} {m m' : Nat → Int32} (h : Agr n k m m') (hl : IvL m n k) (hi : IvS m n k) (K : Nat) (hK : K ≤ k) : Agr n k (lRd K m) (lRd K m') := by
  induction K with
  | zero => exact h
  | succ K ih => exact agr_lReads (ih (by omega)) (IvL_low (fun j hj => lRd_low K m j (by omega)) hl) (lRd_inv m n k K hl hi (by omega)) K (by omega)
theorem agr_lDay {n k : Nat} {m m' : Nat → Int32} (h : Agr n k m m') (hl : IvL m n k) (hi : IvS m n k) : Agr n k (lDay k m) (lDay k m') := by
  have a := agr_lRd h hl hi k (Nat.le_refl _)
  unfold lDay
  exact agr_ru a _ _ _ (by rw [a 34 (by unfold rel; omega)])
theorem agr_lDays {n k : Nat} {m m' : Nat → Int32} (h : Agr n k m m') (hl : IvL m n k) (hi : IvS m n k) (y K : Nat) (h34 : m 34 = Int32.ofNat y) (hK : y + K ≤ 400) : Agr n k (lDays k K m) (lDays k K m') := by
  induction K with
  | zero => exact h
  | succ K ih =>
    obtain ⟨i1, i2, i3⟩ := lDays_P m n k y K hl hi h34 (by omega)
    exact agr_lDay (ih (by omega)) (IvL_low i1 hl) i3
