/-! reader and mean once more: the class called one deeper than the reference, and the long row written between, as the law does -/
def opT2 (cf mf : am_O) (I : Nat → Nat → Int32) (J1 J2 : Nat → Nat → Int64) (E : Nat → Nat → Nat) (P : (Nat → Nat → Int32) → Prop) : Prop := (∃ v I1 I2, cf (am_hp I J1 E) = some (false, none, am_hp I1 J1 E) ∧ mf (am_hp I1 J2 E) = some (true, some (.int v), am_hp I2 J2 E) ∧ I2 156 0 = 1 ∧ P I2) ∨ (∃ v I1 I2, cf (am_hp I J1 E) = some (true, some (.int v), am_hp I1 J1 E) ∧ mf (am_hp I1 J2 E) = some (true, some (.int v), am_hp I2 J2 E) ∧ I2 156 0 = 0 ∧ P I2)
theorem thr_op2 (I : Nat → Nat → Int32) (J1 J2 : Nat → Nat → Int64) (E : Nat → Nat → Nat) (n k t h : Nat) (hR : R1 I n k t h) (I1 : Nat → Nat → Int32) (h1 : ∀ q j, KR q j → I1 q j = I q j) (h2 : fr1 I I1) (v : Int32) (cf mf : am_O) (hc : cf (am_hp I J1 E) = some (false, none, am_hp I1 J1 E)) (hm : mf (am_hp I1 J2 E) = some (true, some (.int v), am_hp (th1 I1) J2 E)) : opT2 cf mf I J1 J2 E (P1 I n k) := by
  refine Or.inl ⟨v, I1, th1 I1, hc, hm, ?_, ⟨t, h, R1_ext I _ n k t h (fun q j hq => ?_) hR⟩, fun q j hq => ?_⟩
  · unfold th1; exact am_u_at _ _ _ _
  · rw [th1_d I1 q j (by unfold KR at hq; omega)]; exact h1 q j hq
  · rw [th1_d I1 q j (by unfold C1 at hq; omega)]; exact h2 q j hq
theorem opT_of2 (I : Nat → Nat → Int32) (J1 J2 : Nat → Nat → Int64) (E : Nat → Nat → Nat) (n k t h : Nat) (hR : R1 I n k t h) (I1 : Nat → Nat → Int32) (h1 : ∀ q j, KR q j → I1 q j = I q j) (h2 : fr1 I I1) (v : Int32) (cf mf : am_O) (hc : cf (am_hp I J1 E) = some (true, some (.int v), am_hp I1 J1 E)) (hm : mf (am_hp I1 J2 E) = some (true, some (.int v), am_hp (th0 I1) J2 E)) : opT2 cf mf I J1 J2 E (P1 I n k) := by
  refine Or.inr ⟨v, I1, th0 I1, hc, hm, ?_, ⟨t, h, R1_th0 I1 n k t h (R1_ext I I1 n k t h h1 hR)⟩, fr1_trans h2 (th0_fr I1)⟩
  unfold th0; rw [ur_at, ru_eq]
theorem op_reader2 (env : am_E) (d1 d2 : Nat) (I : Nat → Nat → Int32) (J1 J2 : Nat → Nat → Int64) (E : Nat → Nat → Nat) (n k t h : Nat) (hR : R1 I n k t h) (x w : Int32) : opT2 (fun H => am_ev env (d1 + 20, 120, 0, [some (.ref 0), some (.int x), some (.int w), none], [], H)) (fun H => am_ev env (d2 + 20, 218, 0, [some (.ref 156), some (.int x), some (.int w), none, none], [], H)) I J1 J2 E (P1 I n k) := by
  obtain ⟨hn, hk, ht, hh, e1, e2, e3, f0, f2, g0, g2⟩ := R1_f I n k t h hR
  obtain ⟨r1, r2, r3, r4, r5⟩ := id hR
  have cR := fun d => c_hasReader env d x I J1 E k hk f2
  have mR := fun d => m_isReader env d x (th0 I) J2 E k (by omega) (by rw [th0_158]; exact g2)
  have triv : ∀ q j, KR q j → I q j = I q j := fun _ _ _ => rfl
  have trivf : fr1 I I := fun _ _ _ => rfl
  cases hx : am_in x k
  · refine thr_op2 I J1 J2 E n k t h hR I triv trivf 0 _ _ ?_ ?_
    · simp only [bk_120_0, bk_120_11, bk_120_24, cR, hx, bi_eq0, decide_true, decide_false, Bool.not_true, Bool.not_false, am_cont, Option.bind_some, Option.toList_some, Option.toList_none, List.singleton_append, List.nil_append, cond_true, cond_false]
    · simp only [bk_218_0, bk_218_10, bk_218_17, th0_u, mR, hx, bi_eq0, decide_true, decide_false, Bool.not_true, Bool.not_false, am_cont, Option.bind_some, Option.toList_some, Option.toList_none, List.singleton_append, List.nil_append, cond_true, cond_false, m_refuse]
  obtain ⟨r, hr, -, rfl⟩ := zI_cases _ _ hx
  have hlb := rS_lb I 12
  have q11 : I 11 r = I 158 (28 + r) := (hlb.2.2.2.2 r (by omega)).trans (r3 _ (by unfold rel; omega))
  have q14 : I 14 r = I 158 (46 + r) := (r14 I r (by omega)).trans (r3 _ (by unfold rel; omega))
  have q15 : I 15 r = I 158 (52 + r) := (r15 I r (by omega)).trans (r3 _ (by unfold rel; omega))
  have q16 : I 16 r = I 158 (58 + r) := (r16 I r (by omega)).trans (r3 _ (by unfold rel; omega))
  have q17 : I 17 r = I 158 (64 + r) := (r17 I r (by omega)).trans (r3 _ (by unfold rel; omega))
  rcases zI_06 w with hw | hw
  · have hne : decide (w = 0) = false ∧ decide (w = 1) = false ∧ decide (w = 2) = false ∧ decide (w = 3) = false ∧ decide (w = 4) = false ∧ decide (w = 5) = false ∧ decide (w = 6) = false := by
      refine ⟨?_, ?_, ?_, ?_, ?_, ?_, ?_⟩ <;> (apply decide_eq_false; rintro rfl; exact absurd hw (by decide))
    obtain ⟨n0, n1, n2, n3, n4, n5, n6⟩ := hne
    refine thr_op2 I J1 J2 E n k t h hR I triv trivf 0 _ _ ?_ ?_
    · simp only [bk_120_0, bk_120_11, bk_120_24, cR, hx, bi_eq0, decide_true, decide_false, Bool.not_true, Bool.not_false, am_cont, Option.bind_some, Option.toList_some, Option.toList_none, List.singleton_append, List.nil_append, cond_true, cond_false]
      revert hw
      cases decide (w < 0) <;> cases decide (w ≤ 6) <;> intro hw <;> first | (exact absurd hw (by decide)) | rfl
    · simp only [bk_218_0, bk_218_10, bk_218_161, th0_u, mR, hx, bi_eq0, decide_true, decide_false, Bool.not_true, Bool.not_false, am_cont, Option.bind_some, Option.toList_some, Option.toList_none, List.singleton_append, List.nil_append, cond_true, cond_false, n0, n1, n2, n3, n4, n5, n6, m_refuse]
  · have d0 : ∀ a b : Int32, decide (a = b) = decide (a = b) := fun _ _ => rfl
    rcases hw with rfl | rfl | rfl | rfl | rfl | rfl | rfl
    · refine opT_of2 I J1 J2 E n k t h hR I triv trivf (I 158 (28 + r)) _ _ ?_ ?_
      · have s1 : decide ((0 : Int32) < 0) = false := by decide
        have s2 : decide ((0 : Int32) ≤ 6) = true := by decide
        simp (disch := omega) only [bk_120_0, bk_120_11, cR, hx, bi_eq0, decide_true, decide_false, Bool.not_true, Bool.not_false, am_cont, Option.bind_some, Option.toList_some, Option.toList_none, List.singleton_append, List.nil_append, cond_true, cond_false, s1, s2, zq_0_0, zI_in, zI_nat, q11]
      · simp (disch := omega) only [bk_218_0, bk_218_10, th0_u, mR, hx, bi_eq0, decide_true, decide_false, Bool.not_true, Bool.not_false, am_cont, Option.bind_some, Option.toList_some, Option.toList_none, List.singleton_append, List.nil_append, cond_true, cond_false, zq_0_0, zc_72, zc_46, zc_52, zc_38, zc_58, zc_64, zc_28, zc_20, zc_34, zc_4, zc_8, zc_50, zc_48, zc_12, zc_96, zd_1, zd_2, zd_3, zd_8, zd_36, zd_20, zI_in, zI_nat, th0_158]
    · refine opT_of2 I J1 J2 E n k t h hR I triv trivf (I 158 (46 + r)) _ _ ?_ ?_
      · have s1 : decide ((1 : Int32) < 0) = false := by decide
        have s2 : decide ((1 : Int32) ≤ 6) = true := by decide
        simp (disch := omega) only [bk_120_0, bk_120_11, cR, hx, bi_eq0, decide_true, decide_false, Bool.not_true, Bool.not_false, am_cont, Option.bind_some, Option.toList_some, Option.toList_none, List.singleton_append, List.nil_append, cond_true, cond_false, s1, s2, zq_1_0, zq_1_1, zI_in, zI_nat, q14]
      · simp (disch := omega) only [bk_218_0, bk_218_10, th0_u, mR, hx, bi_eq0, decide_true, decide_false, Bool.not_true, Bool.not_false, am_cont, Option.bind_some, Option.toList_some, Option.toList_none, List.singleton_append, List.nil_append, cond_true, cond_false, zq_1_0, zq_1_1, zc_72, zc_46, zc_52, zc_38, zc_58, zc_64, zc_28, zc_20, zc_34, zc_4, zc_8, zc_50, zc_48, zc_12, zc_96, zd_1, zd_2, zd_3, zd_8, zd_36, zd_20, zI_in, zI_nat, th0_158]
    · refine opT_of2 I J1 J2 E n k t h hR I triv trivf (I 158 (52 + r)) _ _ ?_ ?_
      · have s1 : decide ((2 : Int32) < 0) = false := by decide
        have s2 : decide ((2 : Int32) ≤ 6) = true := by decide
        simp (disch := omega) only [bk_120_0, bk_120_11, cR, hx, bi_eq0, decide_true, decide_false, Bool.not_true, Bool.not_false, am_cont, Option.bind_some, Option.toList_some, Option.toList_none, List.singleton_append, List.nil_append, cond_true, cond_false, s1, s2, zq_2_0, zq_2_1, zq_2_2, zI_in, zI_nat, q15]
      · simp (disch := omega) only [bk_218_0, bk_218_10, th0_u, mR, hx, bi_eq0, decide_true, decide_false, Bool.not_true, Bool.not_false, am_cont, Option.bind_some, Option.toList_some, Option.toList_none, List.singleton_append, List.nil_append, cond_true, cond_false, zq_2_0, zq_2_1, zq_2_2, zc_72, zc_46, zc_52, zc_38, zc_58, zc_64, zc_28, zc_20, zc_34, zc_4, zc_8, zc_50, zc_48, zc_12, zc_96, zd_1, zd_2, zd_3, zd_8, zd_36, zd_20, zI_in, zI_nat, th0_158]
    · refine opT_of2 I J1 J2 E n k t h hR I triv trivf (I 158 (58 + r)) _ _ ?_ ?_
      · have s1 : decide ((3 : Int32) < 0) = false := by decide
        have s2 : decide ((3 : Int32) ≤ 6) = true := by decide
        simp (disch := omega) only [bk_120_0, bk_120_11, cR, hx, bi_eq0, decide_true, decide_false, Bool.not_true, Bool.not_false, am_cont, Option.bind_some, Option.toList_some, Option.toList_none, List.singleton_append, List.nil_append, cond_true, cond_false, s1, s2, zq_3_0, zq_3_1, zq_3_2, zq_3_3, zI_in, zI_nat, q16]
      · simp (disch := omega) only [bk_218_0, bk_218_10, th0_u, mR, hx, bi_eq0, decide_true, decide_false, Bool.not_true, Bool.not_false, am_cont, Option.bind_some, Option.toList_some, Option.toList_none, List.singleton_append, List.nil_append, cond_true, cond_false, zq_3_0, zq_3_1, zq_3_2, zq_3_3, zc_72, zc_46, zc_52, zc_38, zc_58, zc_64, zc_28, zc_20, zc_34, zc_4, zc_8, zc_50, zc_48, zc_12, zc_96, zd_1, zd_2, zd_3, zd_8, zd_36, zd_20, zI_in, zI_nat, th0_158]
    · refine opT_of2 I J1 J2 E n k t h hR I triv trivf (I 158 (64 + r)) _ _ ?_ ?_
      · have s1 : decide ((4 : Int32) < 0) = false := by decide
        have s2 : decide ((4 : Int32) ≤ 6) = true := by decide
        simp (disch := omega) only [bk_120_0, bk_120_11, cR, hx, bi_eq0, decide_true, decide_false, Bool.not_true, Bool.not_false, am_cont, Option.bind_some, Option.toList_some, Option.toList_none, List.singleton_append, List.nil_append, cond_true, cond_false, s1, s2, zq_4_0, zq_4_1, zq_4_2, zq_4_3, zq_4_4, zI_in, zI_nat, q17]
      · simp (disch := omega) only [bk_218_0, bk_218_10, th0_u, mR, hx, bi_eq0, decide_true, decide_false, Bool.not_true, Bool.not_false, am_cont, Option.bind_some, Option.toList_some, Option.toList_none, List.singleton_append, List.nil_append, cond_true, cond_false, zq_4_0, zq_4_1, zq_4_2, zq_4_3, zq_4_4, zc_72, zc_46, zc_52, zc_38, zc_58, zc_64, zc_28, zc_20, zc_34, zc_4, zc_8, zc_50, zc_48, zc_12, zc_96, zd_1, zd_2, zd_3, zd_8, zd_36, zd_20, zI_in, zI_nat, th0_158]
    · have c91 := c_lendable env (d1 + 15) 12 st12 r n (by omega) hn I J1 E (rS I 12) (rS_lb I 12) ((r3 0 (by unfold rel; omega)).trans g0)
      rw [ps_rS] at c91
      have v5 : accO (fun b => decide (cwLend (rS I 12) r b = 0)) n = accO (fun b => decide (wLend (I 158) r b = 0)) n :=
        accO_eq _ _ n n (Nat.le_refl _) (fun b hb => by rw [agr_cwLend r3 r b (by omega) hb, cwLend_eq r2 hb]) (fun r h1 h2 => by omega)
      rw [v5] at c91
      have m5 := m_reader5 env (d2 + 14) r n 5 (by omega) hn (th0 I) J2 E (by rw [th0_158]; exact g0)
      rw [th0_158] at m5
      refine opT_of2 I J1 J2 E n k t h hR I triv trivf (accO (fun b => decide (wLend (I 158) r b = 0)) n) _ _ ?_ ?_
      · have s1 : decide ((5 : Int32) < 0) = false := by decide
        have s2 : decide ((5 : Int32) ≤ 6) = true := by decide
        simp (disch := omega) only [bk_120_0, bk_120_11, cR, hx, bi_eq0, decide_true, decide_false, Bool.not_true, Bool.not_false, am_cont, Option.bind_some, Option.toList_some, Option.toList_none, List.singleton_append, List.nil_append, cond_true, cond_false, s1, s2, zq_5_0, zq_5_1, zq_5_2, zq_5_3, zq_5_4, zq_5_5, c91, bk_120_133]
      · simp (disch := omega) only [bk_218_0, bk_218_10, th0_u, mR, hx, bi_eq0, decide_true, decide_false, Bool.not_true, Bool.not_false, am_cont, Option.bind_some, Option.toList_some, Option.toList_none, List.singleton_append, List.nil_append, cond_true, cond_false, zq_5_0, zq_5_1, zq_5_2, zq_5_3, zq_5_4, zq_5_5, m5]
    · have ce := c_everOf env (d1 + 14) n r hn (by omega) I J1 E f0
      have i158 : tk I n (aft (rS I 12)) 158 = I 158 := tk_ne _ _ _ _ (by omega)
      have ev : grs (aft (rS I 12)) n n (roh (rS I 12) r) = grs (aft (I 158)) n n (roh (I 158) r) := by
        rw [grs_congr (fun b hb => agr_aft r3 b hb)]
        unfold roh
        rw [r3 (46 + r) (by unfold rel; omega), r3 (64 + r) (by unfold rel; omega)]
      rw [ev] at ce
      generalize hI1 : tk I n (aft (rS I 12)) = I1 at ce i158
      have me := m_everOf env (d2 + 15) n r hn (by omega) (th0 I1) J2 E (by rw [th0_158, i158]; exact g0) (by rw [th0_158, i158]; exact low_roh hn r2 (by omega))
      rw [th0_158, i158] at me
      have mR1 := fun d => m_isReader env d (Int32.ofNat r) (th0 I1) J2 E k (by omega) (by rw [th0_158, i158]; exact g2)
      refine opT_of2 I J1 J2 E n k t h hR I1 (fun q j hq => by rw [← hI1]; exact tk_KR I n _ q j hq) (by rw [← hI1]; exact tk_fr I n _) (grs (aft (I 158)) n n (roh (I 158) r)) _ _ ?_ ?_
      · have s1 : decide ((6 : Int32) < 0) = false := by decide
        have s2 : decide ((6 : Int32) ≤ 6) = true := by decide
        simp (disch := omega) only [bk_120_0, bk_120_11, cR, hx, bi_eq0, decide_true, decide_false, Bool.not_true, Bool.not_false, am_cont, Option.bind_some, Option.toList_some, Option.toList_none, List.singleton_append, List.nil_append, cond_true, cond_false, s1, s2, zq_6_0, zq_6_1, zq_6_2, zq_6_3, zq_6_4, zq_6_5, ce, bk_120_139]
      · simp (disch := omega) only [bk_218_0, bk_218_10, th0_u, mR1, hx, bi_eq0, decide_true, decide_false, Bool.not_true, Bool.not_false, am_cont, Option.bind_some, Option.toList_some, Option.toList_none, List.singleton_append, List.nil_append, cond_true, cond_false, zq_6_0, zq_6_1, zq_6_2, zq_6_3, zq_6_4, zq_6_5, zq_6_6, me, bk_218_156]
theorem op_mean2 (env : am_E) (d1 d2 : Nat) (I : Nat → Nat → Int32) (J1 J2 : Nat → Nat → Int64) (E : Nat → Nat → Nat) (n k t h : Nat) (hR : R1 I n k t h) (x w : Int32) : opT2 (fun H => am_ev env (d1 + 20, 143, 0, [some (.ref 0), some (.int x), some (.int w), none, none, none, none], [], H)) (fun H => am_ev env (d2 + 20, 263, 0, [some (.ref 156), some (.int x), some (.int w), none], [], H)) I J1 J2 E (P1 I n k) := by
  obtain ⟨hn, hk, ht, hh, e1, e2, e3, f0, f2, g0, g2⟩ := R1_f I n k t h hR
  obtain ⟨r1, r2, r3, r4, r5⟩ := id hR
  have ha := low_aft r1
  have hag : ∀ b, b < n → aft (rS I 12) b = aft (I 158) b := fun b hb => agr_aft r3 b hb
  have triv : ∀ q j, KR q j → I q j = I q j := fun _ _ _ => rfl
  have trivf : fr1 I I := fun _ _ _ => rfl
  have hmi : ∀ (I' : Nat → Nat → Int32) d, am_ev env (d + 1, 175, 0, [some (.int w), some (.int 0), some (.int 1)], [], am_hp I' J2 E) = some (true, some (.int (bi (am_in w 2))), am_hp I' J2 E) := by
    intro I' d
    have := m_isIn env d w 0 (Int32.ofNat 2 - 1) I' J2 E
    rw [m_upto w 2 (by omega), show (Int32.ofNat 2 - 1) = 1 by decide] at this
    exact this
  cases hx : am_in x n
  · -- no such book
    have mm : ∀ I', I' 158 = I 158 → am_ev env (d2 + 20, 263, 0, [some (.ref 156), some (.int x), some (.int w), none], [], am_hp I' J2 E) = some (true, some (.int 0), am_hp (th1 I') J2 E) := by
      intro I' h1
      simp only [bk_263_0, bk_263_10, bk_263_30, bk_263_34, th0_u, m_isBook env _ x (th0 I') J2 E n (by omega) (by rw [th0_158, h1]; exact g0), hx, bi_eq0, decide_true, decide_false, Bool.not_true, Bool.not_false, am_cont, Option.bind_some, Option.toList_some, Option.toList_none, List.singleton_append, List.nil_append, cond_true, cond_false, m_refuse]
    refine thr_op2 I J1 J2 E n k t h hR I triv trivf 0 _ _ ?_ (mm I rfl)
    simp only [bk_143_0, bk_143_14, bk_143_18, bk_142_0, bk_142_11, c_hasBook env _ x I J1 E n hn f0, hx, bi_eq0, decide_true, decide_false, Bool.not_true, Bool.not_false, am_cont, Option.bind_some, Option.toList_some, Option.toList_none, List.singleton_append, List.nil_append, cond_true, cond_false]
    cases decide (w < 0) <;> cases decide ((1 : Int32) < w) <;> rfl
  obtain ⟨b, hb, -, rfl⟩ := zI_cases _ _ hx
  have mB := fun I' (h1 : I' 158 = I 158) d => m_isBook env d (Int32.ofNat b) (th0 I') J2 E n (by omega) (by rw [th0_158, h1]; exact g0)
  have mK0 := fun I' (h1 : I' 158 = I 158) => m_isBlocked env (d2 + 13) n b hn hb (th0 I') J2 E (by rw [th0_158, h1]; exact g0) (by rw [th0_158, h1]; exact ha)
  have mK : ∀ I', I' 158 = I 158 → am_ev env (d2 + 13 + 6, 223, 0, [some (.ref 156), some (.int (Int32.ofNat b))], [], am_hp (th0 I') J2 E) = some (true, some (.int (bi (blkb n (aft (I 158)) b))), am_hp (th0 I') J2 E) := by
    intro I' h1
    have := mK0 I' h1
    rw [th0_158, h1] at this
    exact this
  cases hw : am_in w 2
  · have mm : am_ev env (d2 + 20, 263, 0, [some (.ref 156), some (.int (Int32.ofNat b)), some (.int w), none], [], am_hp I J2 E) = some (true, some (.int 0), am_hp (th1 I) J2 E) := by
      simp only [bk_263_0, bk_263_10, bk_263_18, bk_263_27, bk_263_30, bk_263_34, th0_u, mB I rfl, hx, mK I rfl, hmi, hw, bi_eq0, decide_true, decide_false, Bool.not_true, Bool.not_false, am_cont, Option.bind_some, Option.toList_some, Option.toList_none, List.singleton_append, List.nil_append, cond_true, cond_false, m_refuse]
      cases blkb n (aft (I 158)) b <;> rfl
    refine thr_op2 I J1 J2 E n k t h hR I triv trivf 0 _ _ ?_ mm
    rcases zI_tri w 2 (by omega) with ⟨_, h2⟩ | ⟨j, hj, rfl⟩
    · have h2' : (decide (w < 0) || decide ((1 : Int32) < w)) = true := by
        rcases or_f h2 with g | g
        · rw [g]; rfl
        · have g : (2 : Int32) ≤ w := of_decide_eq_true g
          have : (1 : Int32) < w := by
            rw [Int32.le_iff_toInt_le] at g
            rw [Int32.lt_iff_toInt_lt]
            have a : (2 : Int32).toInt = 2 := by decide
            have b : (1 : Int32).toInt = 1 := by decide
            omega
          rw [decide_eq_true this, Bool.or_true]
      simp only [bk_143_0, bk_143_18]
      rcases or_f h2' with g | g
      · rw [g]; rfl
      · rw [g]; cases decide (w < 0) <;> rfl
    · rw [zI_in j 2 hj (by omega)] at hw; cases hw
  obtain ⟨j, hj, -, rfl⟩ := zI_cases _ _ hw
  have s1 : decide (Int32.ofNat j < (0 : Int32)) = false := zlt_f j 0 (by omega) (by omega)
  have s2 : decide ((1 : Int32) < Int32.ofNat j) = false := zlt_f 1 j (by omega) (by omega)
  have cd := c_deep1 env d1 n b hn hb I J1 E f0
  rw [dpo_congr hag b] at cd
  have i158 : tk I n (aft (rS I 12)) 158 = I 158 := tk_ne _ _ _ _ (by omega)
  have iKR := fun q j => tk_KR I n (aft (rS I 12)) q j
  have ifr := tk_fr I n (aft (rS I 12))
  have irS : rS (tk I n (aft (rS I 12))) 12 = rS I 12 := rS_congr _ _ _ (fun q hq => tk_ne _ _ _ _ (by omega))
  have i5 : tk I n (aft (rS I 12)) 5 = I 5 := tk_ne _ _ _ _ (by omega)
  generalize hI0 : tk I n (aft (rS I 12)) = I0 at cd i158 iKR ifr irS i5
  rcases deep_val r1 b hb with ⟨v1, v2⟩ | ⟨v1, D, v2, v3, v4⟩
  · rw [v2] at cd
    have q1 : decide ((-1 : Int32) = -1) = true := by decide
    refine thr_op2 I J1 J2 E n k t h hR I0 iKR ifr 0 _ _ ?_ ?_
    · simp only [bk_143_0, bk_143_14, bk_143_18, s1, s2, cd, q1, decide_true, decide_false, Bool.not_true, Bool.not_false, am_cont, Option.bind_some, Option.toList_some, Option.toList_none, List.singleton_append, List.nil_append, cond_true, cond_false]
    · simp only [bk_263_0, bk_263_10, bk_263_18, bk_263_30, bk_263_34, th0_u, mB I0 i158, hx, mK I0 i158, v1, bi_eq0, decide_true, decide_false, Bool.not_true, Bool.not_false, am_cont, Option.bind_some, Option.toList_some, Option.toList_none, List.singleton_append, List.nil_append, cond_true, cond_false, m_refuse]
  · rw [v4] at cd
    have q1 : decide (Int32.ofNat D = -1) = false := decide_eq_false (fun e => m1_ne D (by omega) e.symm)
    have ct := c_takeF env (d1 + 17) n hn I0 J1 E (by rw [i5]; exact f0)
    have hc := c_allBefore env (d1 + 17) n b hn hb (aft (rS I0 12)) (tk I0 n (aft (rS I0 12))) J1 E (tk_or _ _ _)
    rw [irS] at ct hc
    rw [rq_congr hag b hb] at hc
    have k158 : tk I0 n (aft (rS I 12)) 158 = I 158 := (tk_ne _ _ _ _ (by omega)).trans i158
    have kKR : ∀ q j, KR q j → tk I0 n (aft (rS I 12)) q j = I q j := fun q j hq => (tk_KR I0 n _ q j hq).trans (iKR q j hq)
    have kfr : fr1 I (tk I0 n (aft (rS I 12))) := fr1_trans ifr (tk_fr I0 n _)
    have kLb := rS_lb (tk I0 n (aft (rS I 12))) 12
    have krS : rS (tk I0 n (aft (rS I 12))) 12 = rS I 12 := (rS_congr _ _ _ (fun q hq => tk_ne _ _ _ _ (by omega))).trans irS
    rw [krS] at kLb
    have k5 : tk I0 n (aft (rS I 12)) 5 0 = Int32.ofNat n := by rw [tk_ne _ _ _ _ (by omega), i5]; exact f0
    generalize tk I0 n (aft (rS I 12)) = I1 at ct hc k158 kKR kfr kLb k5
    have hrl := rq_low (by omega) ha hb
    have hlow : lowb n (rq n (aft (I 158)) b ||| bit1 b) := by
      intro c hc
      rw [bt_or] at hc
      cases h1 : bt (rq n (aft (I 158)) b) c with
      | true => exact hrl c h1
      | false => rw [h1, Bool.false_or] at hc; exact bt_low1 hn hb c hc
    have hbb : bt (rq n (aft (I 158)) b ||| bit1 b) b = true := by rw [bt_or, bt_one b b (by omega), decide_eq_true rfl, Bool.or_true]
    have ma0 := m_aheadOf env (d2 + 15) n b 0 hn hb (th0 I1) J2 E (by rw [th0_158, k158]; exact g0) (by rw [th0_158, k158]; exact ha)
    rw [th0_158, k158, aw_zero] at ma0
    have mp := m_pagesOf env (d2 + 17) n k (rq n (aft (I 158)) b ||| bit1 b) (th0 I1) J2 E (by rw [th0_158, k158]; exact r1) hlow
    rw [th0_158, k158] at mp
    have c72 := c_mean72 env (d1 + 18) n k (Int32.ofNat b) (Int32.ofNat j) (rq n (aft (I 158)) b ||| bit1 b) I1 J1 E (rS I 12) (IvL_agr (agr_symm r3) r1) k5 (fun b hb => kLb.2.1 b hb)
    rw [pagN_congr (m' := I 158) _ n (fun b hb => r3 (4 + b) (by unfold rel; omega))] at c72
    have hple := pagN_le r1 (rq n (aft (I 158)) b ||| bit1 b) n (Nat.le_refl _)
    obtain ⟨y, hy1, hy2, hy3⟩ := low_nat n hn _ hlow
    have e61 : am_ev env (d1 + 20, 143, 61, [some (.ref 0), some (.int (Int32.ofNat b)), some (.int (Int32.ofNat j)), none, none, none, none], [.int (rq n (aft (I 158)) b)], am_hp I1 J1 E) = am_ev env (d1 + 20, 143, 72, [some (.ref 0), some (.int (Int32.ofNat b)), some (.int (Int32.ofNat j)), some (.int (rq n (aft (I 158)) b ||| bit1 b)), some (.int 0), some (.int 0), none], [], am_hp I1 J1 E) := bk_143_61 _ _ _ _ _ _ _ _
    have m41 : am_ev env (d2 + 20, 263, 41, [some (.ref 156), some (.int (Int32.ofNat b)), some (.int (Int32.ofNat j)), none], [.int (rq n (aft (I 158)) b)], am_hp (th0 I1) J2 E) = (bif !(decide (Int32.ofNat j = 0)) then am_cont env (d2 + 19, 177, 0, [some (.int (rq n (aft (I 158)) b ||| bit1 b)), none, none], [], am_hp (th0 I1) J2 E) (d2 + 20) 263 62 [some (.ref 156), some (.int (Int32.ofNat b)), some (.int (Int32.ofNat j)), some (.int (rq n (aft (I 158)) b ||| bit1 b))] [] else am_cont env (d2 + 19, 245, 0, [some (.ref 156), some (.int (rq n (aft (I 158)) b ||| bit1 b)), none, none], [], am_hp (th0 I1) J2 E) (d2 + 20) 263 55 [some (.ref 156), some (.int (Int32.ofNat b)), some (.int (Int32.ofNat j)), some (.int (rq n (aft (I 158)) b ||| bit1 b))] []) := bk_263_41 _ _ _ _ _ _ _ _
    rw [hy3] at mp c72 hple e61 m41 hbb
    generalize hP : pagN (I 158) (Int32.ofNat y) n = Pg at mp c72 hple
    have hpc1 := pc_pos y n hn b hb hbb
    have hpc8 := pc_le8 y
    have hgp : 1 ≤ Nat.gcd Pg (pc y) := Nat.gcd_pos_of_pos_right Pg hpc1
    have hgle : Nat.gcd Pg (pc y) ≤ pc y := Nat.gcd_le_right Pg hpc1
    have gz : decide (Int32.ofNat (Nat.gcd Pg (pc y)) = 0) = false := (zdq0 _ (by omega)).trans (decide_eq_false (by omega))
    have g1 : decide ((1 : Int32) ≤ Int32.ofNat (Nat.gcd Pg (pc y))) = true := zle_t 1 _ hgp (by omega)
    have gj : decide (Int32.ofNat j = 0) = decide (j = 0) := zdq0 j (by omega)
    have gnn : decide (Int32.ofNat n ≤ Int32.ofNat n) = true := zle_t n n (Nat.le_refl _) (by omega)
    refine opT_of2 I J1 J2 E n k t h hR I1 kKR kfr (bif decide (j = 0) then Int32.ofNat Pg / Int32.ofNat (Nat.gcd Pg (pc y)) else Int32.ofNat (pc y) / Int32.ofNat (Nat.gcd Pg (pc y))) _ _ ?_ ?_
    · simp only [bk_143_0, bk_143_14, s1, s2, cd, q1, ct, hc, bk_143_53, decide_true, decide_false, Bool.not_true, Bool.not_false, am_cont, Option.bind_some, Option.toList_some, Option.toList_none, List.singleton_append, List.nil_append, cond_true, cond_false]
      rw [e61, c72]
      refine (bk_143_72 _ _ _ _ _ _ _ _ _ _).trans ?_
      rw [k5, gnn]
      simp (disch := omega) only [decide_true, decide_false, Bool.not_true, Bool.not_false, am_cont, Option.bind_some, Option.toList_some, Option.toList_none, List.singleton_append, List.nil_append, cond_true, cond_false, c_bitCount, bk_143_124, c_cd, bk_143_133, g1, gz, gj, bk_143_160]
      cases decide (j = 0) <;> rfl
    · simp only [bk_263_0, bk_263_10, bk_263_18, bk_263_27, th0_u, mB I1 k158, hx, mK I1 k158, v1, hmi, hw, bi_eq0, decide_true, decide_false, Bool.not_true, Bool.not_false, am_cont, Option.bind_some, Option.toList_some, Option.toList_none, List.singleton_append, List.nil_append, cond_true, cond_false, ma0]
      rw [m41, gj]
      cases decide (j = 0)
      · simp (disch := omega) only [decide_true, decide_false, Bool.not_true, Bool.not_false, am_cont, Option.bind_some, Option.toList_some, Option.toList_none, List.singleton_append, List.nil_append, cond_true, cond_false, m_bits, bk_263_62, mp, bk_263_67, bk_263_71, m_common, bk_263_74, gz]
      · simp (disch := omega) only [decide_true, decide_false, Bool.not_true, Bool.not_false, am_cont, Option.bind_some, Option.toList_some, Option.toList_none, List.singleton_append, List.nil_append, cond_true, cond_false, m_bits, mp, bk_263_55, bk_263_62, bk_263_67, bk_263_71, m_common, bk_263_74, gz]
theorem rel_J {I : Nat → Nat → Int32} {J : Nat → Nat → Int64} {E : Nat → Nat → Nat} (h : Rel I J E) (x : Int64) : Rel I (am_u J 178 0 x) E := by
  obtain ⟨n, k, hR, hT, hV, hTo, hSl, hW, hRg, hC, hFi, hHo, hN, hSe, hIm, h54⟩ := h
  have e : ∀ q, q ≠ 178 → am_u J 178 0 x q = J q := fun q hq => am_u_ne hq
  exact ⟨n, k, hR, hT, hV, hTo, hSl, hW, hRg, hC, hFi, hHo, RN_c hN (e 6 (by decide)) (e 10 (by decide)) (e 163 (by decide)), hSe, RIm_c hIm (fun _ _ _ => rfl) (fun q hq => e q (by omega)) (fun _ _ => rfl), h54⟩
theorem am_hp_inj {I I' : Nat → Nat → Int32} {J J' : Nat → Nat → Int64} {E E' : Nat → Nat → Nat} (h : am_hp I J E = am_hp I' J' E') : I = I' := congrArg (fun z : am_H => z.2.2.1) h
/-- the class throws and the reference says so; or both answer alike, the class's answer written into the long row -/
def opT3 (cf mf : am_O) (I : Nat → Nat → Int32) (J : Nat → Nat → Int64) (E : Nat → Nat → Nat) : Prop := (∃ v I1 I2, cf (am_hp I J E) = some (false, none, am_hp I1 J E) ∧ mf (am_hp I1 J E) = some (true, some (.int v), am_hp I2 J E) ∧ I2 156 0 = 1 ∧ Rel I2 J E) ∨ (∃ v I1 I2, cf (am_hp I J E) = some (true, some (.int v), am_hp I1 J E) ∧ mf (am_hp I1 (am_u J 178 0 v.toInt64) E) = some (true, some (.int v), am_hp I2 (am_u J 178 0 v.toInt64) E) ∧ I2 156 0 = 0 ∧ Rel I2 (am_u J 178 0 v.toInt64) E)
theorem opT3_of {cf mf : am_O} {I : Nat → Nat → Int32} {J : Nat → Nat → Int64} {E : Nat → Nat → Nat} {n k : Nat} (hT : RT I) (hV : RV I) (hTo : RTo I) (hSl : RSl I) (hW : RW I) (hRg : RRg I) (hC : RC I) (hFi : RFi I) (hHo : RHo I) (hN : RN J n k) (hSe : RSe I E n) (hIm : RIm I J E) (h54 : ∃ o, I 5 4 = bi o) (h : ∀ J2, opT2 cf mf I J J2 E (P1 I n k)) : opT3 cf mf I J E := by
  rcases h J with ⟨v, I1, I2, a, b, c, hp⟩ | ⟨v, I1, I2, a, b, c, hp⟩
  · exact Or.inl ⟨v, I1, I2, a, b, c, rel_P1 hT hV hTo hSl hW hRg hC hFi hHo hN hSe hIm h54 hp⟩
  · rcases h (am_u J 178 0 v.toInt64) with ⟨v', I1', I2', a', b', c', hp'⟩ | ⟨v', I1', I2', a', b', c', hp'⟩
    · rw [a] at a'; cases a'
    · have e := a.symm.trans a'
      have e0 := Option.some.inj e
      have e4 : (some (Value.int v) : Option Value) = some (Value.int v') := congrArg (fun z : am_R => z.2.1) e0
      have e1 : v' = v := (Value.int.inj (Option.some.inj e4)).symm
      have e2 : am_hp I1 J E = am_hp I1' J E := congrArg (fun z : am_R => z.2.2) e0
      have e3 := am_hp_inj e2
      subst e1
      subst e3
      exact Or.inr ⟨v', I1, I2', a, b', c', rel_J (rel_P1 hT hV hTo hSl hW hRg hC hFi hHo hN hSe hIm h54 hp') _⟩
theorem rl_reader (env : am_E) (I : Nat → Nat → Int32) (J : Nat → Nat → Int64) (E : Nat → Nat → Nat) (hrel : Rel I J E) (x w : Int32) : opT3 (fun H => am_ev env (98, 120, 0, [some (.ref 0), some (.int x), some (.int w), none], [], H)) (fun H => am_ev env (99, 218, 0, [some (.ref 156), some (.int x), some (.int w), none, none], [], H)) I J E := by
  obtain ⟨n, k, ⟨t, h, hR⟩, hT, hV, hTo, hSl, hW, hRg, hC, hFi, hHo, hN, hSe, hIm, h54⟩ := id hrel
  exact opT3_of hT hV hTo hSl hW hRg hC hFi hHo hN hSe hIm h54 (fun J2 => op_reader2 env 78 79 I J J2 E n k t h hR x w)
theorem rl_mean (env : am_E) (I : Nat → Nat → Int32) (J : Nat → Nat → Int64) (E : Nat → Nat → Nat) (hrel : Rel I J E) (x w : Int32) : opT3 (fun H => am_ev env (98, 143, 0, [some (.ref 0), some (.int x), some (.int w), none, none, none, none], [], H)) (fun H => am_ev env (99, 263, 0, [some (.ref 156), some (.int x), some (.int w), none], [], H)) I J E := by
  obtain ⟨n, k, ⟨t, h, hR⟩, hT, hV, hTo, hSl, hW, hRg, hC, hFi, hHo, hN, hSe, hIm, h54⟩ := id hrel
  exact opT3_of hT hV hTo hSl hW hRg hC hFi hHo hN hSe hIm h54 (fun J2 => op_mean2 env 78 79 I J J2 E n k t h hR x w)
