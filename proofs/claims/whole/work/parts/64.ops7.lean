/-! reader, now, deep: class and reference side by side -/
theorem swp_congr {a a' : Nat → Int32} {n : Nat} (h : ∀ b, b < n → a b = a' b) (s : Int32) : swp a n s = swp a' n s := by
  unfold swp; exact lp_congr _ _ _ _ (fun r t hr => by rw [h r hr])
theorem rq_congr {a a' : Nat → Int32} {n : Nat} (h : ∀ b, b < n → a b = a' b) (b : Nat) (hb : b < n) : rq n a b = rq n a' b := by
  unfold rq swps
  rw [h b hb]
  exact lp_congr _ _ _ _ (fun r t _ => swp_congr h t)
theorem opn_congr {a a' : Nat → Int32} {n : Nat} (h : ∀ b, b < n → a b = a' b) (s : Int32) : opn a s n = opn a' s n := by
  unfold opn; exact lp_congr _ _ _ _ (fun r t hr => by rw [h r hr])
theorem grs_congr {a a' : Nat → Int32} {n : Nat} (h : ∀ b, b < n → a b = a' b) (k : Nat) (s : Int32) : grs a n k s = grs a' n k s := by
  unfold grs
  exact lp_congr _ _ _ _ (fun r t _ => by show gr1 a n t = gr1 a' n t; unfold gr1; rw [opn_congr h])
theorem low_aft {m : Nat → Int32} {n k : Nat} (hl : IvL m n k) : lowa n (aft m) := by
  intro b hb j hj
  unfold aft at hj
  cases h : bt (m 35) b with
  | true => rw [h] at hj; exact absurd hj (by rw [show (bif true then (0 : Int32) else m (20 + b)) = 0 from rfl, bt_zero]; decide)
  | false => rw [h] at hj; exact (hl.2.2.2.2.2.1 b hb).1 j hj
theorem low_roh {m : Nat → Int32} {n k r : Nat} (hn : n ≤ 8) (hi : IvS m n k) (hr : r < 6) : lowb n (roh m r) := by
  obtain ⟨i1, i2, i3, i4⟩ := hi.2.2.2 r hr
  unfold roh
  rcases i1 with ⟨e, _⟩ | ⟨_, b, hb, e, _⟩
  · rw [decide_eq_true e]; exact i3
  · rw [decide_eq_false (by rw [e]; exact fun e => m1_ne b (by omega) e.symm), e]
    intro j hj
    have hj : bt (m (64 + r) ||| bit1 b) j = true := hj
    rw [bt_or] at hj
    cases h1 : bt (m (64 + r)) j with
    | true => exact i3 j h1
    | false => rw [h1, Bool.false_or] at hj; exact bt_low1 hn hb j hj
theorem scr_op (I : Nat → Nat → Int32) (J : Nat → Nat → Int64) (E : Nat → Nat → Nat) (n k t h : Nat) (hR : R1 I n k t h) (I1 : Nat → Nat → Int32) (h1 : ∀ q j, KR q j → I1 q j = I q j) (h2 : fr1 I I1) (v : Int32) (cf mf : am_O) (hc : cf (am_hp I J E) = some (true, some (.int v), am_hp I1 J E)) (hm : mf (am_hp I1 J E) = some (true, some (.int v), am_hp (th0 I1) J E)) : opR cf mf I J E (P1 I n k) :=
  ⟨v, I1, th0 I1, hc, hm, ⟨t, h, R1_th0 I1 n k t h (R1_ext I I1 n k t h h1 hR)⟩, fr1_trans h2 (th0_fr I1)⟩
theorem tk_KR (I : Nat → Nat → Int32) (n : Nat) (a : Nat → Int32) (q j : Nat) (h : KR q j) : tk I n a q j = I q j := by
  rw [tk_ne I n a q (by unfold KR at h; omega)]
theorem tk_fr (I : Nat → Nat → Int32) (n : Nat) (a : Nat → Int32) : fr1 I (tk I n a) := by
  intro q j hq
  by_cases h : q = 104
  · subst h; exact tk_104 I n a j (by unfold C1 at hq; omega)
  · rw [tk_ne I n a q ⟨h, by unfold C1 at hq; omega⟩]
theorem c_takeF (env : am_E) (d : Nat) (n : Nat) (hn : n ≤ 8) (I : Nat → Nat → Int32) (J : Nat → Nat → Int64) (E : Nat → Nat → Nat) (h0 : I 5 0 = Int32.ofNat n) : am_ev env (d + 2, 30, 0, [some (.ref 104), some (.ref 5), some (.int (I 12 1)), none], [], am_hp I J E) = some (true, none, am_hp (tk I n (aft (rS I 12))) J E) := by
  have et : tk I n (fun b => bif bt (I 12 1) b then 0 else I 9 b) = tk I n (aft (rS I 12)) := by
    unfold tk
    congr 1
    funext j
    unfold cpr
    by_cases h : 0 ≤ j ∧ j < 0 + n
    · rw [if_pos h, if_pos h]
      show (bif bt (I 12 1) (j - 0) then (0 : Int32) else I 9 (j - 0)) = aft (rS I 12) (j - 0)
      unfold aft
      rw [(r12f I).2.1, (rS_lb I 12).2.2.2.1 (j - 0) (by omega)]
    · rw [if_neg h, if_neg h]
  have ct := c_take env d n hn (I 12 1) I J E h0
  rw [et] at ct
  exact ct
theorem op_now (env : am_E) (d : Nat) (I : Nat → Nat → Int32) (J : Nat → Nat → Int64) (E : Nat → Nat → Nat) (n k t h : Nat) (hR : R1 I n k t h) (x : Int32) : opR (fun H => am_ev env (d + 20, 122, 0, [some (.ref 0), some (.int x), none], [], H)) (fun H => am_ev env (d + 20, 224, 0, [some (.ref 156), some (.int x), none, none], [], H)) I J E (P1 I n k) := by
  obtain ⟨hn, hk, ht, hh, e1, e2, e3, f0, f2, g0, g2⟩ := R1_f I n k t h hR
  obtain ⟨r1, r2, r3, r4, r5⟩ := id hR
  have ha := low_aft r1
  by_cases hx : x = 7
  · subst hx
    have hag : ∀ b, b < n → aft (rS I 12) b = aft (I 158) b := fun b hb => agr_aft r3 b hb
    have ct := c_takeF env (d + 17) n hn I J E f0
    have cr := c_ringed env (d + 16) n hn (aft (rS I 12)) (tk I n (aft (rS I 12))) J E (tk_or _ _ _)
    have i158 : tk I n (aft (rS I 12)) 158 = I 158 := tk_ne _ _ _ _ (by omega)
    generalize hI1 : tk I n (aft (rS I 12)) = I1 at ct cr i158
    have mr := m_ringed env (d + 14) n 0 hn (th0 I1) J E (by rw [th0_158, i158]; exact g0) (by rw [th0_158, i158]; exact ha)
    rw [th0_158, i158, aw_zero] at mr
    have ev : accO (fun b => bt (rq n (aft (rS I 12)) b) b) n = accO (fun b => bt (rq n (aft (I 158)) b) b) n :=
      accO_eq _ _ n n (Nat.le_refl _) (fun b hb => by rw [rq_congr hag b hb]) (fun r h1 h2 => by omega)
    rw [ev] at cr
    refine scr_op I J E n k t h hR I1 (fun q j hq => by rw [← hI1]; exact tk_KR I n _ q j hq) (by rw [← hI1]; exact tk_fr I n _) (accO (fun b => bt (rq n (aft (I 158)) b) b) n) _ _ ?_ ?_
    · simp only [bk_122_0, zq_7_0, zq_7_1, zq_7_2, zq_7_3, zq_7_4, zq_7_5, zq_7_6, zq_7_7, decide_true, decide_false, Bool.not_true, Bool.not_false, am_cont, Option.bind_some, Option.toList_some, Option.toList_none, List.singleton_append, List.nil_append, cond_true, cond_false, ct, bk_122_109, cr, bk_122_116]
    · simp only [bk_224_0, zq_7_0, zq_7_1, zq_7_2, zq_7_3, zq_7_4, zq_7_5, zq_7_6, zq_7_7, decide_true, decide_false, Bool.not_true, Bool.not_false, am_cont, Option.bind_some, Option.toList_some, Option.toList_none, List.singleton_append, List.nil_append, cond_true, cond_false, th0_u, mr, bk_224_167]
  · have d7 : decide (x = 7) = false := decide_eq_false hx
    have c94 := c_allOut env (d + 18) 12 st12 I J E (rS I 12)
    have c96 := c_readByAny env (d + 18) 12 st12 I J E (rS I 12)
    have c97 := c_fined env (d + 18) 12 st12 I J E (rS I 12)
    rw [ps_rS] at c94 c96 c97
    have v1 : accC (fun r => !decide (rS I 12 (46 + r) = -1)) 6 = accC (fun r => !decide (I 158 (46 + r) = -1)) k := by
      refine accC_eq _ _ k 6 hk (fun r hr => by rw [r3 (46 + r) (by unfold rel; omega)]) (fun r h1 h2 => ?_)
      rw [r3 (46 + r) (by unfold rel; omega)]
      rcases (r2.2.2.2 r h2).1 with ⟨e, _⟩ | ⟨e, _⟩
      · rw [decide_eq_true e]; rfl
      · omega
    have v3 : accD (rS I 12) = accD (I 158) := by
      unfold accD; exact lp_congr _ _ _ _ (fun r a hr => by rw [r3 (64 + r) (by unfold rel; omega)])
    have v4 : accO (fun r => !decide (rS I 12 (58 + r) ≤ 0)) 6 = accO (fun r => !decide (I 158 (58 + r) ≤ 0)) k := by
      refine accO_eq _ _ k 6 hk (fun r hr => by rw [r3 (58 + r) (by unfold rel; omega)]) (fun r h1 h2 => ?_)
      rw [r3 (58 + r) (by unfold rel; omega), ((r2.2.2.2 r h2).2.2.2 h1).1]; decide
    rw [v1] at c94
    rw [v3] at c96
    rw [v4] at c97
    have q0 : I 12 0 = I 158 34 := (r12f I).1.trans (r3 _ (by unfold rel; omega))
    have q1 : I 12 1 = I 158 35 := (r12f I).2.1.trans (r3 _ (by unfold rel; omega))
    have q2 : I 12 2 = I 158 36 := (r12f I).2.2.1.trans (r3 _ (by unfold rel; omega))
    have q3 : I 12 3 = I 158 37 := (r12f I).2.2.2.trans (r3 _ (by unfold rel; omega))
    have m1 := m_now1 env (d + 18) k x hk (th0 I) J E (by rw [th0_158]; exact g2)
    have m3 := m_doneBooks env (d + 18) (th0 I) J E
    have m4 := m_now4 env (d + 18) k x hk (th0 I) J E (by rw [th0_158]; exact g2)
    rw [th0_158] at m1 m3 m4
    refine none_op I J E n k t h hR (bif decide (x = 0) then I 158 34 else bif decide (x = 1) then accC (fun r => !decide (I 158 (46 + r) = -1)) k else bif decide (x = 2) then I 158 35 else bif decide (x = 3) then accD (I 158) else bif decide (x = 4) then accO (fun r => !decide (I 158 (58 + r) ≤ 0)) k else bif decide (x = 5) then I 158 36 else bif decide (x = 6) then I 158 37 else -1) _ _ ?_ ?_
    · simp only [bk_122_0, d7, decide_true, decide_false, Bool.not_true, Bool.not_false, am_cont, Option.bind_some, Option.toList_some, Option.toList_none, List.singleton_append, List.nil_append, cond_true, cond_false, q0, q1, q2, q3, c94, c96, c97, bk_122_65, bk_122_75, bk_122_80]
      cases decide (x = 0) <;> cases decide (x = 1) <;> cases decide (x = 2) <;> cases decide (x = 3) <;> cases decide (x = 4) <;> cases decide (x = 5) <;> cases decide (x = 6) <;> rfl
    · simp only [bk_224_0, d7, decide_true, decide_false, Bool.not_true, Bool.not_false, am_cont, Option.bind_some, Option.toList_some, Option.toList_none, List.singleton_append, List.nil_append, cond_true, cond_false, th0_u, th0_158, m1, m3, m4, bk_224_107]
      cases decide (x = 0) <;> cases decide (x = 1) <;> cases decide (x = 2) <;> cases decide (x = 3) <;> cases decide (x = 4) <;> cases decide (x = 5) <;> cases decide (x = 6) <;> rfl
/-- as opR; or the class throws, and the reference says so -/
def opT (cf mf : am_O) (I : Nat → Nat → Int32) (J : Nat → Nat → Int64) (E : Nat → Nat → Nat) (P : (Nat → Nat → Int32) → Prop) : Prop := (∃ v I1 I2, cf (am_hp I J E) = some (false, none, am_hp I1 J E) ∧ mf (am_hp I1 J E) = some (true, some (.int v), am_hp I2 J E) ∧ I2 156 0 = 1 ∧ P I2) ∨ (∃ v I1 I2, cf (am_hp I J E) = some (true, some (.int v), am_hp I1 J E) ∧ mf (am_hp I1 J E) = some (true, some (.int v), am_hp I2 J E) ∧ I2 156 0 = 0 ∧ P I2)
def th1 (I : Nat → Nat → Int32) : Nat → Nat → Int32 := am_u (th0 I) 156 0 1
theorem th1_d (I : Nat → Nat → Int32) (q j : Nat) (h : ¬ (q = 156 ∧ j = 0)) : th1 I q j = I q j := by
  unfold th1
  rw [am_u_d]
  by_cases h1 : q = 156
  · subst h1; rw [if_pos rfl, if_neg (fun e => h ⟨rfl, e⟩), th0_at I j (fun e => h ⟨rfl, e⟩)]
  · rw [if_neg h1, th0_ne I q h1]
theorem m_refuse (env : am_E) (d : Nat) (I : Nat → Nat → Int32) (J : Nat → Nat → Int64) (E : Nat → Nat → Nat) : am_ev env (d + 1, 170, 0, [some (.ref 156)], [], am_hp (th0 I) J E) = some (true, some (.int 0), am_hp (th1 I) J E) := by
  simp only [bk_170_0]
  rfl
theorem thr_op (I : Nat → Nat → Int32) (J : Nat → Nat → Int64) (E : Nat → Nat → Nat) (n k t h : Nat) (hR : R1 I n k t h) (I1 : Nat → Nat → Int32) (h1 : ∀ q j, KR q j → I1 q j = I q j) (h2 : fr1 I I1) (v : Int32) (cf mf : am_O) (hc : cf (am_hp I J E) = some (false, none, am_hp I1 J E)) (hm : mf (am_hp I1 J E) = some (true, some (.int v), am_hp (th1 I1) J E)) : opT cf mf I J E (P1 I n k) := by
  refine Or.inl ⟨v, I1, th1 I1, hc, hm, ?_, ⟨t, h, R1_ext I _ n k t h (fun q j hq => ?_) hR⟩, fun q j hq => ?_⟩
  · unfold th1; exact am_u_at _ _ _ _
  · rw [th1_d I1 q j (by unfold KR at hq; omega)]; exact h1 q j hq
  · rw [th1_d I1 q j (by unfold C1 at hq; omega)]; exact h2 q j hq
theorem opT_of (I : Nat → Nat → Int32) (J : Nat → Nat → Int64) (E : Nat → Nat → Nat) (n k t h : Nat) (hR : R1 I n k t h) (I1 : Nat → Nat → Int32) (h1 : ∀ q j, KR q j → I1 q j = I q j) (h2 : fr1 I I1) (v : Int32) (cf mf : am_O) (hc : cf (am_hp I J E) = some (true, some (.int v), am_hp I1 J E)) (hm : mf (am_hp I1 J E) = some (true, some (.int v), am_hp (th0 I1) J E)) : opT cf mf I J E (P1 I n k) := by
  refine Or.inr ⟨v, I1, th0 I1, hc, hm, ?_, ⟨t, h, R1_th0 I1 n k t h (R1_ext I I1 n k t h h1 hR)⟩, fr1_trans h2 (th0_fr I1)⟩
  unfold th0; rw [ur_at, ru_eq]
theorem zI_06 (x : Int32) : (decide (x < 0) || !decide (x ≤ 6)) = true ∨ x = 0 ∨ x = 1 ∨ x = 2 ∨ x = 3 ∨ x = 4 ∨ x = 5 ∨ x = 6 := by
  rcases zI_tri x 7 (by omega) with ⟨h1, h2⟩ | ⟨j, hj, rfl⟩
  · left
    rcases or_f h2 with g | g
    · rw [g]; rfl
    · have g : (7 : Int32) ≤ x := of_decide_eq_true g
      have : ¬ x ≤ 6 := by
        rw [Int32.le_iff_toInt_le] at g ⊢
        have a : (7 : Int32).toInt = 7 := by decide
        have b : (6 : Int32).toInt = 6 := by decide
        omega
      rw [decide_eq_false this]; simp
  · right
    have : j = 0 ∨ j = 1 ∨ j = 2 ∨ j = 3 ∨ j = 4 ∨ j = 5 ∨ j = 6 := by omega
    rcases this with rfl | rfl | rfl | rfl | rfl | rfl | rfl
    · left; rfl
    · right; left; rfl
    · right; right; left; rfl
    · right; right; right; left; rfl
    · right; right; right; right; left; rfl
    · right; right; right; right; right; left; rfl
    · right; right; right; right; right; right; rfl
theorem op_reader (env : am_E) (d : Nat) (I : Nat → Nat → Int32) (J : Nat → Nat → Int64) (E : Nat → Nat → Nat) (n k t h : Nat) (hR : R1 I n k t h) (x w : Int32) : opT (fun H => am_ev env (d + 20, 120, 0, [some (.ref 0), some (.int x), some (.int w), none], [], H)) (fun H => am_ev env (d + 20, 218, 0, [some (.ref 156), some (.int x), some (.int w), none, none], [], H)) I J E (P1 I n k) := by
  obtain ⟨hn, hk, ht, hh, e1, e2, e3, f0, f2, g0, g2⟩ := R1_f I n k t h hR
  obtain ⟨r1, r2, r3, r4, r5⟩ := id hR
  have cR := fun d => c_hasReader env d x I J E k hk f2
  have mR := fun d => m_isReader env d x (th0 I) J E k (by omega) (by rw [th0_158]; exact g2)
  have triv : ∀ q j, KR q j → I q j = I q j := fun _ _ _ => rfl
  have trivf : fr1 I I := fun _ _ _ => rfl
  cases hx : am_in x k
  · refine thr_op I J E n k t h hR I triv trivf 0 _ _ ?_ ?_
    · simp only [bk_120_0, bk_120_11, bk_120_24, cR, hx, bi_eq0, decide_true, decide_false, Bool.not_true, Bool.not_false, am_cont, Option.bind_some, Option.toList_some, Option.toList_none, List.singleton_append, List.nil_append, cond_true, cond_false]
    · simp only [bk_218_0, bk_218_10, bk_218_17, th0_u, mR, hx, bi_eq0, decide_true, decide_false, Bool.not_true, Bool.not_false, am_cont, Option.bind_some, Option.toList_some, Option.toList_none, List.singleton_append, List.nil_append, cond_true, cond_false, m_refuse]
  obtain ⟨r, hr, -, rfl⟩ := zI_cases _ _ hx
  have hlb := rS_lb I 12
  have q11 : I 11 r = I 158 (28 + r) := (hlb.2.2.2.2 r (by omega)).trans (r3 _ (by unfold rel; omega))
  have q14 : I 14 r = I 158 (46 + r) := (r14 I r (by omega)).trans (r3 _ (by unfold rel; omega))
  have q15 : I 15 r = I 158 (52 + r) := (r15 I r (by omega)).trans (r3 _ (by unfold rel; omega))
  have q16 : I 16 r = I 158 (58 + r) := (r16 I r (by omega)).trans (r3 _ (by unfold rel; omega))
  have q17 : I 17 r = I 158 (64 + r) := (r17 I r (by omega)).trans (r3 _ (by unfold rel; omega))
  rcases zI_06 w with hw | hw
  · have hne : decide (w = 0) = false ∧ decide (w = 1) = false ∧ decide (w = 2) = false ∧ decide (w = 3) = false ∧ decide (w = 4) = false ∧ decide (w = 5) = false ∧ decide (w = 6) = false := by
      refine ⟨?_, ?_, ?_, ?_, ?_, ?_, ?_⟩ <;> (apply decide_eq_false; rintro rfl; exact absurd hw (by decide))
    obtain ⟨n0, n1, n2, n3, n4, n5, n6⟩ := hne
    refine thr_op I J E n k t h hR I triv trivf 0 _ _ ?_ ?_
    · simp only [bk_120_0, bk_120_11, bk_120_24, cR, hx, bi_eq0, decide_true, decide_false, Bool.not_true, Bool.not_false, am_cont, Option.bind_some, Option.toList_some, Option.toList_none, List.singleton_append, List.nil_append, cond_true, cond_false]
      revert hw
      cases decide (w < 0) <;> cases decide (w ≤ 6) <;> intro hw <;> first | (exact absurd hw (by decide)) | rfl
    · simp only [bk_218_0, bk_218_10, bk_218_161, th0_u, mR, hx, bi_eq0, decide_true, decide_false, Bool.not_true, Bool.not_false, am_cont, Option.bind_some, Option.toList_some, Option.toList_none, List.singleton_append, List.nil_append, cond_true, cond_false, n0, n1, n2, n3, n4, n5, n6, m_refuse]
  · have d0 : ∀ a b : Int32, decide (a = b) = decide (a = b) := fun _ _ => rfl
    rcases hw with rfl | rfl | rfl | rfl | rfl | rfl | rfl
    · refine opT_of I J E n k t h hR I triv trivf (I 158 (28 + r)) _ _ ?_ ?_
      · have s1 : decide ((0 : Int32) < 0) = false := by decide
        have s2 : decide ((0 : Int32) ≤ 6) = true := by decide
        simp (disch := omega) only [bk_120_0, bk_120_11, cR, hx, bi_eq0, decide_true, decide_false, Bool.not_true, Bool.not_false, am_cont, Option.bind_some, Option.toList_some, Option.toList_none, List.singleton_append, List.nil_append, cond_true, cond_false, s1, s2, zq_0_0, zI_in, zI_nat, q11]
      · simp (disch := omega) only [bk_218_0, bk_218_10, th0_u, mR, hx, bi_eq0, decide_true, decide_false, Bool.not_true, Bool.not_false, am_cont, Option.bind_some, Option.toList_some, Option.toList_none, List.singleton_append, List.nil_append, cond_true, cond_false, zq_0_0, zc_72, zc_46, zc_52, zc_38, zc_58, zc_64, zc_28, zc_20, zc_34, zc_4, zc_8, zc_50, zc_48, zc_12, zc_96, zd_1, zd_2, zd_3, zd_8, zd_36, zd_20, zI_in, zI_nat, th0_158]
    · refine opT_of I J E n k t h hR I triv trivf (I 158 (46 + r)) _ _ ?_ ?_
      · have s1 : decide ((1 : Int32) < 0) = false := by decide
        have s2 : decide ((1 : Int32) ≤ 6) = true := by decide
        simp (disch := omega) only [bk_120_0, bk_120_11, cR, hx, bi_eq0, decide_true, decide_false, Bool.not_true, Bool.not_false, am_cont, Option.bind_some, Option.toList_some, Option.toList_none, List.singleton_append, List.nil_append, cond_true, cond_false, s1, s2, zq_1_0, zq_1_1, zI_in, zI_nat, q14]
      · simp (disch := omega) only [bk_218_0, bk_218_10, th0_u, mR, hx, bi_eq0, decide_true, decide_false, Bool.not_true, Bool.not_false, am_cont, Option.bind_some, Option.toList_some, Option.toList_none, List.singleton_append, List.nil_append, cond_true, cond_false, zq_1_0, zq_1_1, zc_72, zc_46, zc_52, zc_38, zc_58, zc_64, zc_28, zc_20, zc_34, zc_4, zc_8, zc_50, zc_48, zc_12, zc_96, zd_1, zd_2, zd_3, zd_8, zd_36, zd_20, zI_in, zI_nat, th0_158]
    · refine opT_of I J E n k t h hR I triv trivf (I 158 (52 + r)) _ _ ?_ ?_
      · have s1 : decide ((2 : Int32) < 0) = false := by decide
        have s2 : decide ((2 : Int32) ≤ 6) = true := by decide
        simp (disch := omega) only [bk_120_0, bk_120_11, cR, hx, bi_eq0, decide_true, decide_false, Bool.not_true, Bool.not_false, am_cont, Option.bind_some, Option.toList_some, Option.toList_none, List.singleton_append, List.nil_append, cond_true, cond_false, s1, s2, zq_2_0, zq_2_1, zq_2_2, zI_in, zI_nat, q15]
      · simp (disch := omega) only [bk_218_0, bk_218_10, th0_u, mR, hx, bi_eq0, decide_true, decide_false, Bool.not_true, Bool.not_false, am_cont, Option.bind_some, Option.toList_some, Option.toList_none, List.singleton_append, List.nil_append, cond_true, cond_false, zq_2_0, zq_2_1, zq_2_2, zc_72, zc_46, zc_52, zc_38, zc_58, zc_64, zc_28, zc_20, zc_34, zc_4, zc_8, zc_50, zc_48, zc_12, zc_96, zd_1, zd_2, zd_3, zd_8, zd_36, zd_20, zI_in, zI_nat, th0_158]
    · refine opT_of I J E n k t h hR I triv trivf (I 158 (58 + r)) _ _ ?_ ?_
      · have s1 : decide ((3 : Int32) < 0) = false := by decide
        have s2 : decide ((3 : Int32) ≤ 6) = true := by decide
        simp (disch := omega) only [bk_120_0, bk_120_11, cR, hx, bi_eq0, decide_true, decide_false, Bool.not_true, Bool.not_false, am_cont, Option.bind_some, Option.toList_some, Option.toList_none, List.singleton_append, List.nil_append, cond_true, cond_false, s1, s2, zq_3_0, zq_3_1, zq_3_2, zq_3_3, zI_in, zI_nat, q16]
      · simp (disch := omega) only [bk_218_0, bk_218_10, th0_u, mR, hx, bi_eq0, decide_true, decide_false, Bool.not_true, Bool.not_false, am_cont, Option.bind_some, Option.toList_some, Option.toList_none, List.singleton_append, List.nil_append, cond_true, cond_false, zq_3_0, zq_3_1, zq_3_2, zq_3_3, zc_72, zc_46, zc_52, zc_38, zc_58, zc_64, zc_28, zc_20, zc_34, zc_4, zc_8, zc_50, zc_48, zc_12, zc_96, zd_1, zd_2, zd_3, zd_8, zd_36, zd_20, zI_in, zI_nat, th0_158]
    · refine opT_of I J E n k t h hR I triv trivf (I 158 (64 + r)) _ _ ?_ ?_
      · have s1 : decide ((4 : Int32) < 0) = false := by decide
        have s2 : decide ((4 : Int32) ≤ 6) = true := by decide
        simp (disch := omega) only [bk_120_0, bk_120_11, cR, hx, bi_eq0, decide_true, decide_false, Bool.not_true, Bool.not_false, am_cont, Option.bind_some, Option.toList_some, Option.toList_none, List.singleton_append, List.nil_append, cond_true, cond_false, s1, s2, zq_4_0, zq_4_1, zq_4_2, zq_4_3, zq_4_4, zI_in, zI_nat, q17]
      · simp (disch := omega) only [bk_218_0, bk_218_10, th0_u, mR, hx, bi_eq0, decide_true, decide_false, Bool.not_true, Bool.not_false, am_cont, Option.bind_some, Option.toList_some, Option.toList_none, List.singleton_append, List.nil_append, cond_true, cond_false, zq_4_0, zq_4_1, zq_4_2, zq_4_3, zq_4_4, zc_72, zc_46, zc_52, zc_38, zc_58, zc_64, zc_28, zc_20, zc_34, zc_4, zc_8, zc_50, zc_48, zc_12, zc_96, zd_1, zd_2, zd_3, zd_8, zd_36, zd_20, zI_in, zI_nat, th0_158]
    · have c91 := c_lendable env (d + 15) 12 st12 r n (by omega) hn I J E (rS I 12) (rS_lb I 12) ((r3 0 (by unfold rel; omega)).trans g0)
      rw [ps_rS] at c91
      have v5 : accO (fun b => decide (cwLend (rS I 12) r b = 0)) n = accO (fun b => decide (wLend (I 158) r b = 0)) n :=
        accO_eq _ _ n n (Nat.le_refl _) (fun b hb => by rw [agr_cwLend r3 r b (by omega) hb, cwLend_eq r2 hb]) (fun r h1 h2 => by omega)
      rw [v5] at c91
      have m5 := m_reader5 env (d + 14) r n 5 (by omega) hn (th0 I) J E (by rw [th0_158]; exact g0)
      rw [th0_158] at m5
      refine opT_of I J E n k t h hR I triv trivf (accO (fun b => decide (wLend (I 158) r b = 0)) n) _ _ ?_ ?_
      · have s1 : decide ((5 : Int32) < 0) = false := by decide
        have s2 : decide ((5 : Int32) ≤ 6) = true := by decide
        simp (disch := omega) only [bk_120_0, bk_120_11, cR, hx, bi_eq0, decide_true, decide_false, Bool.not_true, Bool.not_false, am_cont, Option.bind_some, Option.toList_some, Option.toList_none, List.singleton_append, List.nil_append, cond_true, cond_false, s1, s2, zq_5_0, zq_5_1, zq_5_2, zq_5_3, zq_5_4, zq_5_5, c91, bk_120_133]
      · simp (disch := omega) only [bk_218_0, bk_218_10, th0_u, mR, hx, bi_eq0, decide_true, decide_false, Bool.not_true, Bool.not_false, am_cont, Option.bind_some, Option.toList_some, Option.toList_none, List.singleton_append, List.nil_append, cond_true, cond_false, zq_5_0, zq_5_1, zq_5_2, zq_5_3, zq_5_4, zq_5_5, m5]
    · have ce := c_everOf env (d + 14) n r hn (by omega) I J E f0
      have i158 : tk I n (aft (rS I 12)) 158 = I 158 := tk_ne _ _ _ _ (by omega)
      have ev : grs (aft (rS I 12)) n n (roh (rS I 12) r) = grs (aft (I 158)) n n (roh (I 158) r) := by
        rw [grs_congr (fun b hb => agr_aft r3 b hb)]
        unfold roh
        rw [r3 (46 + r) (by unfold rel; omega), r3 (64 + r) (by unfold rel; omega)]
      rw [ev] at ce
      generalize hI1 : tk I n (aft (rS I 12)) = I1 at ce i158
      have me := m_everOf env (d + 15) n r hn (by omega) (th0 I1) J E (by rw [th0_158, i158]; exact g0) (by rw [th0_158, i158]; exact low_roh hn r2 (by omega))
      rw [th0_158, i158] at me
      have mR1 := fun d => m_isReader env d (Int32.ofNat r) (th0 I1) J E k (by omega) (by rw [th0_158, i158]; exact g2)
      refine opT_of I J E n k t h hR I1 (fun q j hq => by rw [← hI1]; exact tk_KR I n _ q j hq) (by rw [← hI1]; exact tk_fr I n _) (grs (aft (I 158)) n n (roh (I 158) r)) _ _ ?_ ?_
      · have s1 : decide ((6 : Int32) < 0) = false := by decide
        have s2 : decide ((6 : Int32) ≤ 6) = true := by decide
        simp (disch := omega) only [bk_120_0, bk_120_11, cR, hx, bi_eq0, decide_true, decide_false, Bool.not_true, Bool.not_false, am_cont, Option.bind_some, Option.toList_some, Option.toList_none, List.singleton_append, List.nil_append, cond_true, cond_false, s1, s2, zq_6_0, zq_6_1, zq_6_2, zq_6_3, zq_6_4, zq_6_5, ce, bk_120_139]
      · simp (disch := omega) only [bk_218_0, bk_218_10, th0_u, mR1, hx, bi_eq0, decide_true, decide_false, Bool.not_true, Bool.not_false, am_cont, Option.bind_some, Option.toList_some, Option.toList_none, List.singleton_append, List.nil_append, cond_true, cond_false, zq_6_0, zq_6_1, zq_6_2, zq_6_3, zq_6_4, zq_6_5, zq_6_6, me, bk_218_156]
