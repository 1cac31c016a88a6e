/-! a LIBRARY read by the class -/
theorem c_readReader (env : am_E) (d : Nat) (p : Nat) (hp : lbq p = true) (z lim : Nat) (hz : z ≤ 940) (hlim : lim ≤ 1000) (c : Nat → Nat) (u : Cu) (S : Lby) (I : Nat → Nat → Int32) (J : Nat → Nat → Int64) (E : Nat → Nat → Nat) (h : CS I J E z c lim u) (hl : CLy p I J S) (hw : LWy S) (hf : I 1 3 = 0) : ∃ b I' J' E', am_ev env (d + 4, 22, 0, [some (.ref p), some (.ref 1)], [], am_hp I J E) = some (true, some (.int (bi b)), am_hp I' J' E') ∧ FX (XP p) I J E I' J' E' ∧ cOut p I' J' E' z c lim b (pReader c z lim S u) := by
  have hp5 : 5 ≤ p := by have := lbq_c p hp; omega
  have hk6 := hw.1.2.1.2
  obtain ⟨n, f, k, o, T, U, m⟩ := S
  have hk6 : k ≤ 6 := hk6
  have hn8 : n ≤ 8 := hw.1.1.2
  have l0 : I p 2 = Int32.ofNat k := hl.2.2.1
  unfold pReader
  dsimp only
  have start := bk_22_0 env (d + 3) p I J E
  rw [ly_d p hp, ly_b p hp, l0, show decide (Int32.ofNat k < (6 : Int32)) = decide (k < 6) from zlt_d k 6 (by omega) (by omega)] at start
  by_cases h8 : k = 6
  · rw [if_pos h8]
    refine ⟨false, stp I 4, J, E, ?_, FX1p (stp_fx I J E 4), rfl, stp_3 I 4, by rw [stp_4]; exact c_at h⟩
    refine start.trans ?_
    rw [decide_eq_false (by omega : ¬ k < 6)]
    simp only [decide_true, decide_false, Bool.not_true, Bool.not_false, am_cont, Option.bind_some, Option.toList_some, Option.toList_none, List.singleton_append, List.nil_append, cond_true, cond_false, Bool.and_self, c_stop, bk_22_14]; rfl
  rw [if_neg h8]
  rw [decide_eq_true (by omega : k < 6)] at start
  obtain ⟨I1, J1, E1, k1, s1, f1, t3, t4⟩ := c_nx env d z lim hz hlim c u I J E h
  have l1 := CLy_fx hl f1 (fun q a b => by omega)
  have e24 := c_isNewName env (d + 1) p hp z lim c _ (n, f, k, o, T, U, m) I1 J1 E1 s1 l1 hw
  have g19 : am_ev env (d + 4, 22, 0, [some (.ref p), some (.ref 1)], [], am_hp I J E) = am_cont env (d + 3, 24, 0, [some (.ref p), some (.ref 1)], [], am_hp I1 J1 E1) (d + 4) 22 24 [some (.ref p), some (.ref 1)] [] := by
    refine start.trans ?_
    simp only [decide_true, decide_false, Bool.not_true, Bool.not_false, am_cont, Option.bind_some, Option.toList_some, Option.toList_none, List.singleton_append, List.nil_append, cond_true, cond_false, Bool.and_self, k1, bk_22_19, ly_d p hp, ly_b p hp]
  have hu1 := c_at s1
  have f13 : I1 1 3 = 0 := t3.trans hf
  generalize hq1 : lx c z lim u.2.2 = u1 at s1 e24 hu1 ⊢
  by_cases hin : isn u1 = true
  rotate_left
  · rw [Bool.not_eq_true] at hin
    rw [if_pos hin]
    rw [hin, if_neg (by decide)] at e24
    refine ⟨false, stp I1 1, J1, E1, ?_, FX_tr (FX1p f1) (FX1p (stp_fx I1 J1 E1 1)), rfl, stp_3 I1 1, by rw [stp_4]; exact hu1⟩
    refine g19.trans ?_
    rw [am_cont_some e24]
    simp only [decide_true, decide_false, Bool.not_true, Bool.not_false, am_cont, Option.bind_some, Option.toList_some, Option.toList_none, List.singleton_append, List.nil_append, cond_true, cond_false, bk_22_24, zq_0_0]; rfl
  rw [if_neg (by rw [hin]; decide)]
  rw [if_pos hin] at e24
  by_cases hdu : fdx T u1.1.2.1 n = 0 ∧ fdx U u1.1.2.1 k = 0
  rotate_left
  · rw [if_pos hdu]
    rw [if_neg hdu] at e24
    refine ⟨false, stp I1 3, J1, E1, ?_, FX_tr (FX1p f1) (FX1p (stp_fx I1 J1 E1 3)), rfl, stp_3 I1 3, by rw [stp_4]; exact hu1⟩
    refine g19.trans ?_
    rw [am_cont_some e24]
    simp only [decide_true, decide_false, Bool.not_true, Bool.not_false, am_cont, Option.bind_some, Option.toList_some, Option.toList_none, List.singleton_append, List.nil_append, cond_true, cond_false, bk_22_24, zq_0_0]; rfl
  rw [if_neg (fun q => q hdu)]
  rw [if_pos hdu] at e24
  obtain ⟨nm1, nm2⟩ := c_name s1 hin
  have l10 : I1 p 2 = Int32.ofNat k := l1.2.2.1
  have fa : FX (XQ p) I1 J1 E1 I1 (am_u J1 (p + 5) k (Int64.ofNat (pk 32 u1.1.2.1))) E1 := FX_uj (FX_refl _ _ _ _) _ _ _ ⟨by omega, by omega⟩
  have s1a : CS I1 (am_u J1 (p + 5) k (Int64.ofNat (pk 32 u1.1.2.1))) E1 z c lim u1 := CS_fx s1 fa (by omega) (by omega) (by omega)
  obtain ⟨I2, J2, E2, k2, s2, f2, t5, t6⟩ := c_nx env d z lim hz hlim c u1 I1 (am_u J1 (p + 5) k (Int64.ofNat (pk 32 u1.1.2.1))) E1 s1a
  have F2 : FX (XP p) I J E I2 J2 E2 := FX_tr (FX1p f1) (FX_tr (FXqp fa) (FX1p f2))
  have hu2 := c_at s2
  have l20 : I2 p 2 = Int32.ofNat k := by rw [f2.1 p (by omega)]; exact l10
  have e107 := c_num env (d + 1) z lim c _ 1 30 (by omega) (by omega) 1 30 rfl rfl I2 J2 E2 s2
  have g61 : am_ev env (d + 4, 22, 0, [some (.ref p), some (.ref 1)], [], am_hp I J E) = am_cont env (d + 3, 107, 0, [some (.ref 1), some (.int 1), some (.int 30)], [], am_hp I2 J2 E2) (d + 4) 22 61 [some (.ref p), some (.ref 1)] [.int (Int32.ofNat k), .ref (p + 6)] := by
    refine g19.trans ?_
    rw [am_cont_some e24]
    simp (disch := omega) only [decide_true, decide_false, Bool.not_true, Bool.not_false, am_cont, Option.bind_some, Option.toList_some, Option.toList_none, List.singleton_append, List.nil_append, cond_true, cond_false, bk_22_24, zq_1_0, ly_d p hp, ly_b p hp, ly_9 p hp, ly_10 p hp, ly_d5 p hp, ly_b5 p hp, ly_l5 p hp, Bool.and_self, l10, zI_in, zI_nat, nm1, k2, bk_22_46, l20]
  generalize hq2 : lx c z lim u1.2.2 = u2 at s2 hu2 e107 ⊢
  by_cases hp2 : pn u2 1 30 = 0
  rotate_left
  · rw [if_pos hp2]
    rw [if_neg hp2] at e107
    have l2s : stp I2 (Int32.ofNat (pn u2 1 30)) p 2 = Int32.ofNat k := by rw [(stp_fx I2 J2 E2 _).1 p (by omega)]; exact l20
    refine ⟨false, am_u (stp I2 (Int32.ofNat (pn u2 1 30))) (p + 6) k (-1), J2, E2, ?_, FX_u (FX_tr F2 (FX1p (stp_fx I2 J2 E2 _))) _ _ _ (Or.inr ⟨by omega, by omega⟩), rfl, ?_, ?_⟩
    · refine g61.trans ?_
      rw [am_cont_some e107]
      have nr : am_u (stp I2 (Int32.ofNat (pn u2 1 30))) (p + 6) k (-1) p 2 = Int32.ofNat k := by rw [am_u_ng _ _ _ _ _ (by omega)]; exact l2s
      simp (disch := omega) only [decide_true, decide_false, Bool.not_true, Bool.not_false, am_cont, Option.bind_some, Option.toList_some, Option.toList_none, List.singleton_append, List.nil_append, cond_true, cond_false, bk_22_61, ly_d p hp, ly_b p hp, ly_10 p hp, ly_d6 p hp, ly_b6 p hp, ly_l6 p hp, Bool.and_self, zI_in, zI_nat, nr, am_u_at]
      rfl
    · rw [am_u_ng _ _ _ _ _ (by omega)]; exact stp_3 _ _
    · rw [am_u_ng _ _ _ _ _ (by omega), stp_4]; exact hu2
  rw [if_neg (fun q => q hp2)]
  rw [if_pos hp2] at e107
  obtain ⟨v1, v2, v3⟩ := pn0 hp2
  have F4 : FX (XQ p) I2 J2 E2 (am_u (am_u I2 (p + 6) k (Int32.ofNat u2.1.2.2)) p 2 (Int32.ofNat (k + 1))) J2 E2 := FX_u (FX_u (FX_refl _ _ _ _) _ _ _ ⟨by omega, by omega⟩) _ _ _ ⟨by omega, by omega⟩
  refine ⟨true, am_u (am_u I2 (p + 6) k (Int32.ofNat u2.1.2.2)) p 2 (Int32.ofNat (k + 1)), J2, E2, ?_, FX_tr F2 (FXqp F4), rfl, CS_fx s2 F4 (by omega) (by omega) (by omega), ?_, ?_⟩
  · refine g61.trans ?_
    rw [am_cont_some e107]
    have nr : am_u I2 (p + 6) k (Int32.ofNat u2.1.2.2) p 2 = Int32.ofNat k := by rw [am_u_ng _ _ _ _ _ (by omega)]; exact l20
    simp (disch := omega) only [decide_true, decide_false, Bool.not_true, Bool.not_false, am_cont, Option.bind_some, Option.toList_some, Option.toList_none, List.singleton_append, List.nil_append, cond_true, cond_false, bk_22_61, ly_d p hp, ly_b p hp, ly_10 p hp, ly_d6 p hp, ly_b6 p hp, ly_l6 p hp, Bool.and_self, zI_in, zI_nat, nr, am_u_at, zm1, zd_1]
    rfl
  · have l3 : ∀ q, p ≤ q → q ≤ p + 6 → I2 q = I q := by
      intro q a b
      rw [f2.1 q (by omega), f1.1 q (by omega)]
    have j3 : ∀ q, p ≤ q → q ≤ p + 6 → q ≠ p + 5 → J2 q = J q := by
      intro q a b e
      rw [f2.2.1 q (by omega), am_u_ng _ _ _ _ _ e, f1.2.1 q (by omega)]
    have j3b : J2 (p + 5) = am_u J (p + 5) k (Int64.ofNat (pk 32 u1.1.2.1)) (p + 5) := by
      funext j
      rw [f2.2.1 (p + 5) (by omega), am_u_sg, am_u_sg, f1.2.1 (p + 5) (by omega)]
    obtain ⟨a1, a2, a3, a4, a5, a6, a7⟩ := hl
    dsimp only at a1 a2 a3 a4 a5 a6 a7
    refine ⟨?_, ?_, ?_, ?_, ?_, ?_, ?_⟩
    · rw [am_u_sg, if_neg (by omega), am_u_ng _ _ _ _ _ (by omega), l3 p (by omega) (by omega)]; exact a1
    · rw [am_u_sg, if_neg (by omega), am_u_ng _ _ _ _ _ (by omega), l3 p (by omega) (by omega)]; exact a2
    · rw [am_u_at]
    · rw [am_u_sg, if_neg (by omega), am_u_ng _ _ _ _ _ (by omega), l3 p (by omega) (by omega), a4]
      dsimp only
      rw [ru_ne _ _ _ _ (by omega), ru_ne _ _ _ _ (by omega)]
    · rw [am_u_sg, if_neg (by omega), am_u_ng _ _ _ _ _ (by omega), l3 p (by omega) (by omega)]; exact a5
    · intro b hb
      have hb : b < n := hb
      dsimp only
      rw [am_u_ng _ _ _ _ (p + 2) (by omega), am_u_ng _ _ _ _ (p + 2) (by omega), am_u_ng _ _ _ _ (p + 3) (by omega), am_u_ng _ _ _ _ (p + 3) (by omega), am_u_ng _ _ _ _ (p + 4) (by omega), am_u_ng _ _ _ _ (p + 4) (by omega), l3 (p + 2) (by omega) (by omega), l3 (p + 3) (by omega) (by omega), l3 (p + 4) (by omega) (by omega), j3 (p + 1) (by omega) (by omega) (by omega), ru_ne _ _ _ _ (by omega), ru_ne _ _ _ _ (by omega), ru_ne _ _ _ _ (by omega), ru_ne _ _ _ _ (by omega), ru_ne _ _ _ _ (by omega), ru_ne _ _ _ _ (by omega)]
      exact a6 b hb
    · intro r hr
      have hr : r < k + 1 := hr
      dsimp only
      rw [am_u_ng _ _ _ _ (p + 6) (by omega), am_u_sg, l3 (p + 6) (by omega) (by omega), j3b, am_u_sg]
      by_cases e : r = k
      · subst e
        rw [if_pos rfl, if_pos rfl, rug_eq, ru_ne _ _ _ _ (by omega), ru_eq]
        exact ⟨rfl, rfl⟩
      · rw [if_neg e, if_neg e, rug_ne _ _ _ _ e, ru_ne _ _ _ _ (by omega), ru_ne _ _ _ _ (by omega)]
        exact a7 r (by omega)
  · rw [am_u_ng _ _ _ _ _ (by omega), am_u_ng _ _ _ _ _ (by omega), t5]; exact f13
theorem c_readFine (env : am_E) (d : Nat) (p : Nat) (hp : lbq p = true) (z lim : Nat) (hz : z ≤ 940) (hlim : lim ≤ 1000) (c : Nat → Nat) (u : Cu) (S : Lby) (I : Nat → Nat → Int32) (J : Nat → Nat → Int64) (E : Nat → Nat → Nat) (h : CS I J E z c lim u) (hl : CLy p I J S) (hw : LWy S) (hf : I 1 3 = 0) : ∃ b I' J' E', am_ev env (d + 4, 23, 0, [some (.ref p), some (.ref 1)], [], am_hp I J E) = some (true, some (.int (bi b)), am_hp I' J' E') ∧ FX (XP p) I J E I' J' E' ∧ cOut p I' J' E' z c lim b (pFine c z lim S u) := by
  have hp5 : 5 ≤ p := by have := lbq_c p hp; omega
  obtain ⟨n, f, k, o, T, U, m⟩ := S
  have hn8 : n ≤ 8 := hw.1.1.2
  have hk6 : k ≤ 6 := hw.1.2.1.2
  have l0 : I p 4 = bi o := hl.2.2.2.2.1
  unfold pFine
  dsimp only
  have start := bk_23_0 env (d + 3) p I J E
  rw [ly_d p hp, ly_b p hp, l0, bi_eq0] at start
  by_cases h8 : o = true
  · rw [if_pos h8]
    refine ⟨false, stp I 3, J, E, ?_, FX1p (stp_fx I J E 3), rfl, stp_3 I 3, by rw [stp_4]; exact c_at h⟩
    refine start.trans ?_
    rw [h8]
    simp only [decide_true, decide_false, Bool.not_true, Bool.not_false, am_cont, Option.bind_some, Option.toList_some, Option.toList_none, List.singleton_append, List.nil_append, cond_true, cond_false, Bool.and_self, c_stop, bk_23_12]; rfl
  rw [if_neg h8]
  rw [Bool.not_eq_true] at h8
  rw [h8] at start
  obtain ⟨I1, J1, E1, k1, s1, f1, t3, t4⟩ := c_nx env d z lim hz hlim c u I J E h
  have l1 := CLy_fx hl f1 (fun q a b => by omega)
  have hu1 := c_at s1
  have f13 : I1 1 3 = 0 := t3.trans hf
  have e107 := c_num env (d + 1) z lim c _ 0 30 (by omega) (by omega) 0 30 rfl rfl I1 J1 E1 s1
  have g25 : am_ev env (d + 4, 23, 0, [some (.ref p), some (.ref 1)], [], am_hp I J E) = am_cont env (d + 3, 107, 0, [some (.ref 1), some (.int 0), some (.int 30)], [], am_hp I1 J1 E1) (d + 4) 23 25 [some (.ref p), some (.ref 1)] [.ref p] := by
    refine start.trans ?_
    simp only [decide_true, decide_false, Bool.not_true, Bool.not_false, am_cont, Option.bind_some, Option.toList_some, Option.toList_none, List.singleton_append, List.nil_append, cond_true, cond_false, Bool.and_self, k1, bk_23_17]
  generalize hq1 : lx c z lim u.2.2 = u1 at s1 e107 hu1 ⊢
  by_cases hp2 : pn u1 0 30 = 0
  rotate_left
  · rw [if_pos hp2]
    rw [if_neg hp2] at e107
    refine ⟨false, am_u (am_u (stp I1 (Int32.ofNat (pn u1 0 30))) p 3 (-1)) p 4 1, J1, E1, ?_, FX_u (FX_u (FX_tr (FX1p f1) (FX1p (stp_fx I1 J1 E1 _))) _ _ _ (Or.inr ⟨by omega, by omega⟩)) _ _ _ (Or.inr ⟨by omega, by omega⟩), rfl, ?_, ?_⟩
    · refine g25.trans ?_
      rw [am_cont_some e107]
      have nr : am_u (am_u (stp I1 (Int32.ofNat (pn u1 0 30))) p 3 (-1)) p 4 1 p 3 = -1 := by rw [am_u_sg, if_neg (by omega), am_u_at]
      simp (disch := omega) only [decide_true, decide_false, Bool.not_true, Bool.not_false, am_cont, Option.bind_some, Option.toList_some, Option.toList_none, List.singleton_append, List.nil_append, cond_true, cond_false, bk_23_25, ly_d p hp, ly_b p hp, Bool.and_self, nr, bk_23_46]
      rfl
    · rw [am_u_ng _ _ _ _ _ (by omega), am_u_ng _ _ _ _ _ (by omega)]; exact stp_3 _ _
    · rw [am_u_ng _ _ _ _ _ (by omega), am_u_ng _ _ _ _ _ (by omega), stp_4]; exact hu1
  rw [if_neg (fun q => q hp2)]
  rw [if_pos hp2] at e107
  obtain ⟨v1, v2, v3⟩ := pn0 hp2
  have F4 : FX (XQ p) I1 J1 E1 (am_u (am_u I1 p 3 (Int32.ofNat u1.1.2.2)) p 4 1) J1 E1 := FX_u (FX_u (FX_refl _ _ _ _) _ _ _ ⟨by omega, by omega⟩) _ _ _ ⟨by omega, by omega⟩
  refine ⟨true, am_u (am_u I1 p 3 (Int32.ofNat u1.1.2.2)) p 4 1, J1, E1, ?_, FX_tr (FX1p f1) (FXqp F4), rfl, CS_fx s1 F4 (by omega) (by omega) (by omega), ?_, ?_⟩
  · refine g25.trans ?_
    rw [am_cont_some e107]
    have nr : am_u (am_u I1 p 3 (Int32.ofNat u1.1.2.2)) p 4 1 p 3 = Int32.ofNat u1.1.2.2 := by rw [am_u_sg, if_neg (by omega), am_u_at]
    simp (disch := omega) only [decide_true, decide_false, Bool.not_true, Bool.not_false, am_cont, Option.bind_some, Option.toList_some, Option.toList_none, List.singleton_append, List.nil_append, cond_true, cond_false, bk_23_25, ly_d p hp, ly_b p hp, Bool.and_self, nr, zm1, bk_23_46]
    rfl
  · obtain ⟨a1, a2, a3, a4, a5, a6, a7⟩ := l1
    dsimp only at a1 a2 a3 a4 a5 a6 a7
    refine ⟨?_, ?_, ?_, ?_, ?_, ?_, ?_⟩
    · rw [am_u_sg, if_neg (by omega), am_u_sg, if_neg (by omega)]; exact a1
    · rw [am_u_sg, if_neg (by omega), am_u_sg, if_neg (by omega)]; exact a2
    · rw [am_u_sg, if_neg (by omega), am_u_sg, if_neg (by omega)]; exact a3
    · rw [am_u_sg, if_neg (by omega), am_u_at]
      dsimp only
      rw [ru_eq]
    · rw [am_u_at]; rfl
    · intro b hb
      have hb : b < n := hb
      dsimp only
      rw [am_u_ng _ _ _ _ (p + 2) (by omega), am_u_ng _ _ _ _ (p + 2) (by omega), am_u_ng _ _ _ _ (p + 3) (by omega), am_u_ng _ _ _ _ (p + 3) (by omega), am_u_ng _ _ _ _ (p + 4) (by omega), am_u_ng _ _ _ _ (p + 4) (by omega), ru_ne _ _ _ _ (by omega), ru_ne _ _ _ _ (by omega), ru_ne _ _ _ _ (by omega)]
      exact a6 b hb
    · intro r hr
      have hr : r < k := hr
      dsimp only
      rw [am_u_ng _ _ _ _ (p + 6) (by omega), am_u_ng _ _ _ _ (p + 6) (by omega), ru_ne _ _ _ _ (by omega)]
      exact a7 r hr
  · rw [am_u_ng _ _ _ _ _ (by omega), am_u_ng _ _ _ _ _ (by omega)]; exact f13
theorem c_readAfter (env : am_E) (d : Nat) (p : Nat) (hp : lbq p = true) (z lim : Nat) (hz : z ≤ 940) (hlim : lim ≤ 1000) (c : Nat → Nat) (u : Cu) (S : Lby) (I : Nat → Nat → Int32) (J : Nat → Nat → Int64) (E : Nat → Nat → Nat) (h : CS I J E z c lim u) (hl : CLy p I J S) (hw : LWy S) (hf : I 1 3 = 0) : ∃ b I' J' E', am_ev env (d + 4, 21, 0, [some (.ref p), some (.ref 1), none, none], [], am_hp I J E) = some (true, some (.int (bi b)), am_hp I' J' E') ∧ FX (XP p) I J E I' J' E' ∧ cOut p I' J' E' z c lim b (pAfter c z lim S u) := by
  have hp5 : 5 ≤ p := by have := lbq_c p hp; omega
  obtain ⟨n, f, k, o, T, U, m⟩ := S
  have hn8 : n ≤ 8 := hw.1.1.2
  have hk6 : k ≤ 6 := hw.1.2.1.2
  have hf16 : f ≤ 16 := hw.2.2.1
  have hT : ∀ b, b < n → gw (T b) := hw.2.2.2.2.1
  have l0 : I p 1 = Int32.ofNat f := hl.2.1
  unfold pAfter
  dsimp only
  have start := bk_21_0 env (d + 3) p I J E
  rw [ly_d p hp, ly_b p hp, l0, show decide (Int32.ofNat f < (16 : Int32)) = decide (f < 16) from zlt_d f 16 (by omega) (by omega)] at start
  by_cases h8 : f = 16
  · rw [if_pos h8]
    refine ⟨false, stp I 4, J, E, ?_, FX1p (stp_fx I J E 4), rfl, stp_3 I 4, by rw [stp_4]; exact c_at h⟩
    refine start.trans ?_
    rw [decide_eq_false (by omega : ¬ f < 16)]
    simp only [decide_true, decide_false, Bool.not_true, Bool.not_false, am_cont, Option.bind_some, Option.toList_some, Option.toList_none, List.singleton_append, List.nil_append, cond_true, cond_false, Bool.and_self, c_stop, bk_21_14]; rfl
  rw [if_neg h8]
  rw [decide_eq_true (by omega : f < 16)] at start
  obtain ⟨I1, J1, E1, k1, s1, f1, t3, t4⟩ := c_nx env d z lim hz hlim c u I J E h
  have l1 := CLy_fx hl f1 (fun q a b => by omega)
  have e25 := c_bookHere env (d + 1) p hp z lim c _ n hn8 T hT I1 J1 E1 s1 l1.1 (fun b hb => (l1.2.2.2.2.2.1 b hb).2.2.2)
  have g19 : am_ev env (d + 4, 21, 0, [some (.ref p), some (.ref 1), none, none], [], am_hp I J E) = am_cont env (d + 3, 25, 0, [some (.ref p), some (.ref 1), none], [], am_hp I1 J1 E1) (d + 4) 21 24 [some (.ref p), some (.ref 1), none, none] [] := by
    refine start.trans ?_
    simp only [decide_true, decide_false, Bool.not_true, Bool.not_false, am_cont, Option.bind_some, Option.toList_some, Option.toList_none, List.singleton_append, List.nil_append, cond_true, cond_false, Bool.and_self, k1, bk_21_19, ly_d p hp, ly_b p hp]
  have hu1 := c_at s1
  have f13 : I1 1 3 = 0 := t3.trans hf
  generalize hq1 : lx c z lim u.2.2 = u1 at s1 e25 hu1 ⊢
  by_cases hin : isn u1 = true
  rotate_left
  · rw [Bool.not_eq_true] at hin
    rw [if_pos hin]
    rw [hin, if_neg (by decide)] at e25
    refine ⟨false, stp I1 1, J1, E1, ?_, FX_tr (FX1p f1) (FX1p (stp_fx I1 J1 E1 1)), rfl, stp_3 I1 1, by rw [stp_4]; exact hu1⟩
    refine g19.trans ?_
    rw [am_cont_some e25]
    simp only [decide_true, decide_false, Bool.not_true, Bool.not_false, am_cont, Option.bind_some, Option.toList_some, Option.toList_none, List.singleton_append, List.nil_append, cond_true, cond_false, bk_21_24]; rfl
  rw [if_neg (by rw [hin]; decide)]
  rw [if_pos hin] at e25
  have fb1 := fdx_le T u1.1.2.1 n
  by_cases hdu : fdx T u1.1.2.1 n = 0
  · rw [if_pos hdu]
    rw [if_pos hdu] at e25
    refine ⟨false, stp I1 3, J1, E1, ?_, FX_tr (FX1p f1) (FX1p (stp_fx I1 J1 E1 3)), rfl, stp_3 I1 3, by rw [stp_4]; exact hu1⟩
    refine g19.trans ?_
    rw [am_cont_some e25]
    simp only [decide_true, decide_false, Bool.not_true, Bool.not_false, am_cont, Option.bind_some, Option.toList_some, Option.toList_none, List.singleton_append, List.nil_append, cond_true, cond_false, bk_21_24]; rfl
  rw [if_neg hdu]
  rw [if_neg hdu] at e25
  obtain ⟨I2, J2, E2, k2, s2, f2, t5, t6⟩ := c_nx env d z lim hz hlim c u1 I1 J1 E1 s1
  have l2 := CLy_fx l1 f2 (fun q a b => by omega)
  have F2 : FX (XP p) I J E I2 J2 E2 := FX_tr (FX1p f1) (FX1p f2)
  have hu2 := c_at s2
  have e25b := c_bookHere env (d + 1) p hp z lim c _ n hn8 T hT I2 J2 E2 s2 l2.1 (fun b hb => (l2.2.2.2.2.2.1 b hb).2.2.2)
  generalize hA : fdx T u1.1.2.1 n = A at hdu e25 fb1 ⊢
  have g36 : am_ev env (d + 4, 21, 0, [some (.ref p), some (.ref 1), none, none], [], am_hp I J E) = am_cont env (d + 3, 25, 0, [some (.ref p), some (.ref 1), none], [], am_hp I2 J2 E2) (d + 4) 21 41 [some (.ref p), some (.ref 1), some (.int (Int32.ofNat (A - 1))), none] [] := by
    refine g19.trans ?_
    rw [am_cont_some e25]
    simp (disch := omega) only [decide_true, decide_false, Bool.not_true, Bool.not_false, am_cont, Option.bind_some, Option.toList_some, Option.toList_none, List.singleton_append, List.nil_append, cond_true, cond_false, bk_21_24, zm1, k2, bk_21_36, ly_d p hp, ly_b p hp, Bool.and_self]
  generalize hq2 : lx c z lim u1.2.2 = u2 at s2 hu2 e25b ⊢
  by_cases hin2 : isn u2 = true
  rotate_left
  · rw [Bool.not_eq_true] at hin2
    rw [if_pos hin2]
    rw [hin2, if_neg (by decide)] at e25b
    refine ⟨false, stp I2 1, J2, E2, ?_, FX_tr F2 (FX1p (stp_fx I2 J2 E2 1)), rfl, stp_3 I2 1, by rw [stp_4]; exact hu2⟩
    refine g36.trans ?_
    rw [am_cont_some e25b]
    simp only [decide_true, decide_false, Bool.not_true, Bool.not_false, am_cont, Option.bind_some, Option.toList_some, Option.toList_none, List.singleton_append, List.nil_append, cond_true, cond_false, bk_21_41]; rfl
  rw [if_neg (by rw [hin2]; decide)]
  rw [if_pos hin2] at e25b
  have fb2 := fdx_le T u2.1.2.1 n
  by_cases hdu2 : fdx T u2.1.2.1 n = 0
  · rw [if_pos hdu2]
    rw [if_pos hdu2] at e25b
    refine ⟨false, stp I2 3, J2, E2, ?_, FX_tr F2 (FX1p (stp_fx I2 J2 E2 3)), rfl, stp_3 I2 3, by rw [stp_4]; exact hu2⟩
    refine g36.trans ?_
    rw [am_cont_some e25b]
    simp only [decide_true, decide_false, Bool.not_true, Bool.not_false, am_cont, Option.bind_some, Option.toList_some, Option.toList_none, List.singleton_append, List.nil_append, cond_true, cond_false, bk_21_41]; rfl
  rw [if_neg hdu2]
  rw [if_neg hdu2] at e25b
  generalize hB : fdx T u2.1.2.1 n = B at hdu2 e25b fb2 ⊢
  have l2a : I2 (p + 4) (A - 1) = m (20 + (A - 1)) := (l2.2.2.2.2.2.1 (A - 1) (show A - 1 < n by omega)).2.2.1
  have l21 : I2 p 1 = Int32.ofNat f := l2.2.1
  have s67 : am_ev env (d + 4, 21, 67, [some (.ref p), some (.ref 1), some (.int (Int32.ofNat (A - 1))), some (.int (Int32.ofNat (B - 1)))], [], am_hp I2 J2 E2) = some (true, some (.int 0), am_hp (stp I2 3) J2 E2) := by
    simp only [bk_21_67, decide_true, decide_false, Bool.not_true, Bool.not_false, am_cont, Option.bind_some, Option.toList_some, Option.toList_none, List.singleton_append, List.nil_append, cond_true, cond_false, c_stop, bk_21_72]; rfl
  have g64 : am_ev env (d + 4, 21, 0, [some (.ref p), some (.ref 1), none, none], [], am_hp I J E) = (bif decide (A = B) then am_ev env (d + 4, 21, 67, [some (.ref p), some (.ref 1), some (.int (Int32.ofNat (A - 1))), some (.int (Int32.ofNat (B - 1)))], [], am_hp I2 J2 E2) else bif bt (m (20 + (A - 1))) (B - 1) then am_ev env (d + 4, 21, 67, [some (.ref p), some (.ref 1), some (.int (Int32.ofNat (A - 1))), some (.int (Int32.ofNat (B - 1)))], [], am_hp I2 J2 E2) else some (true, some (.int 1), am_hp (am_u (am_u I2 (p + 4) (A - 1) (m (20 + (A - 1)) ||| bit1 (B - 1))) p 1 (Int32.ofNat (f + 1))) J2 E2)) := by
    refine g36.trans ?_
    rw [am_cont_some e25b]
    have nr : am_u I2 (p + 4) (A - 1) (m (20 + (A - 1)) ||| bit1 (B - 1)) p 1 = Int32.ofNat f := by rw [am_u_ng _ _ _ _ _ (by omega)]; exact l21
    have eAB : decide (Int32.ofNat (A - 1) = Int32.ofNat (B - 1)) = decide (A = B) := by
      rw [zI_deq _ _ (by omega) (by omega)]; exact decide_eq_decide.mpr (by omega)
    simp (disch := omega) only [decide_true, decide_false, Bool.not_true, Bool.not_false, am_cont, Option.bind_some, Option.toList_some, Option.toList_none, List.singleton_append, List.nil_append, cond_true, cond_false, bk_21_41, zm1, eAB, ly_d p hp, ly_b p hp, ly_8 p hp, ly_d4 p hp, ly_b4 p hp, ly_l4 p hp, Bool.and_self, zI_in, zI_nat, l2a, c_isIn, bk_21_64, bi_eq0, nr, zd_1]
    cases decide (A = B)
    · cases bt (m (20 + (A - 1))) (B - 1) <;> rfl
    · rfl
  by_cases hbad : A = B ∨ bt (m (20 + (A - 1))) (B - 1) = true
  · rw [if_pos hbad]
    refine ⟨false, stp I2 3, J2, E2, ?_, FX_tr F2 (FX1p (stp_fx I2 J2 E2 3)), rfl, stp_3 I2 3, by rw [stp_4]; exact hu2⟩
    refine g64.trans ?_
    by_cases e : A = B
    · rw [decide_eq_true e]; exact s67
    · rcases hbad with q | q
      · exact absurd q e
      · rw [decide_eq_false e, q]; exact s67
  · rw [if_neg hbad]
    have F4 : FX (XQ p) I2 J2 E2 (am_u (am_u I2 (p + 4) (A - 1) (m (20 + (A - 1)) ||| bit1 (B - 1))) p 1 (Int32.ofNat (f + 1))) J2 E2 := FX_u (FX_u (FX_refl _ _ _ _) _ _ _ ⟨by omega, by omega⟩) _ _ _ ⟨by omega, by omega⟩
    refine ⟨true, am_u (am_u I2 (p + 4) (A - 1) (m (20 + (A - 1)) ||| bit1 (B - 1))) p 1 (Int32.ofNat (f + 1)), J2, E2, ?_, FX_tr F2 (FXqp F4), rfl, CS_fx s2 F4 (by omega) (by omega) (by omega), ?_, ?_⟩
    · refine g64.trans ?_
      rw [decide_eq_false (fun e => hbad (Or.inl e)), Bool.eq_false_iff.mpr (fun e => hbad (Or.inr e))]
      rfl
    · obtain ⟨a1, a2, a3, a4, a5, a6, a7⟩ := l2
      dsimp only at a1 a2 a3 a4 a5 a6 a7
      refine ⟨?_, ?_, ?_, ?_, ?_, ?_, ?_⟩
      · rw [am_u_sg, if_neg (by omega), am_u_ng _ _ _ _ _ (by omega)]; exact a1
      · rw [am_u_at]
      · rw [am_u_sg, if_neg (by omega), am_u_ng _ _ _ _ _ (by omega)]; exact a3
      · rw [am_u_sg, if_neg (by omega), am_u_ng _ _ _ _ _ (by omega), a4]
        dsimp only
        rw [ru_ne _ _ _ _ (by omega), ru_ne _ _ _ _ (by omega)]
      · rw [am_u_sg, if_neg (by omega), am_u_ng _ _ _ _ _ (by omega)]; exact a5
      · intro b hb
        have hb : b < n := hb
        dsimp only
        rw [am_u_ng _ _ _ _ (p + 2) (by omega), am_u_ng _ _ _ _ (p + 2) (by omega), am_u_ng _ _ _ _ (p + 3) (by omega), am_u_ng _ _ _ _ (p + 3) (by omega), am_u_ng _ _ _ _ (p + 4) (by omega), am_u_sg, ru_ne _ _ _ (4 + b) (by omega), ru_ne _ _ _ (4 + b) (by omega), ru_ne _ _ _ (12 + b) (by omega), ru_ne _ _ _ (12 + b) (by omega), ru_ne _ 1 _ (20 + b) (by omega)]
        by_cases e : b = A - 1
        · rw [if_pos e, e, ru_eq]
          have := a6 (A - 1) (by omega)
          exact ⟨this.1, this.2.1, rfl, this.2.2.2⟩
        · rw [if_neg e, ru_ne _ _ _ _ (by omega)]
          exact a6 b hb
      · intro r hr
        have hr : r < k := hr
        dsimp only
        rw [am_u_ng _ _ _ _ (p + 6) (by omega), am_u_ng _ _ _ _ (p + 6) (by omega), ru_ne _ _ _ _ (by omega), ru_ne _ _ _ _ (by omega)]
        exact a7 r hr
    · rw [am_u_ng _ _ _ _ _ (by omega), am_u_ng _ _ _ _ _ (by omega), t5]; exact f13
theorem c_readLine (env : am_E) (d : Nat) (p : Nat) (hp : lbq p = true) (z lim : Nat) (hz : z ≤ 940) (hlim : lim ≤ 1000) (c : Nat → Nat) (u : Cu) (S : Lby) (I : Nat → Nat → Int32) (J : Nat → Nat → Int64) (E : Nat → Nat → Nat) (h : CS I J E z c lim u) (hl : CLy p I J S) (hw : LWy S) (hf : I 1 3 = 0) : ∃ b I' J' E', am_ev env (d + 5, 19, 0, [some (.ref p), some (.ref 1)], [], am_hp I J E) = some (true, some (.int (bi b)), am_hp I' J' E') ∧ FX (XP p) I J E I' J' E' ∧ cOut p I' J' E' z c lim b (pLine c z lim S u) := by
  have start := bk_19_0 env (d + 4) p I J E
  rw [ly_d p hp, ly_b p hp, show E 1 1 = kw u from c_word h] at start
  unfold pLine
  by_cases h1 : kw u = 1
  · rw [if_pos h1]
    obtain ⟨b, I', J', E', e1, e2⟩ := c_readBook env d p hp z lim hz hlim c u S I J E h hl hw hf
    refine ⟨b, I', J', E', start.trans ?_, e2⟩
    rw [decide_eq_true h1]
    simp only [decide_true, decide_false, Bool.not_true, Bool.not_false, am_cont, Option.bind_some, Option.toList_some, Option.toList_none, List.singleton_append, List.nil_append, cond_true, cond_false, Bool.and_self, e1, bk_19_15, bi_and]
  rw [if_neg h1]
  rw [decide_eq_false h1] at start
  by_cases h2 : kw u = 2
  · rw [if_pos h2]
    obtain ⟨b, I', J', E', e1, e2⟩ := c_readAfter env d p hp z lim hz hlim c u S I J E h hl hw hf
    refine ⟨b, I', J', E', start.trans ?_, e2⟩
    rw [decide_eq_true h2]
    simp only [decide_true, decide_false, Bool.not_true, Bool.not_false, am_cont, Option.bind_some, Option.toList_some, Option.toList_none, List.singleton_append, List.nil_append, cond_true, cond_false, Bool.and_self, e1, bk_19_31, bi_and]
  rw [if_neg h2]
  rw [decide_eq_false h2] at start
  by_cases h3 : kw u = 3
  · rw [if_pos h3]
    obtain ⟨b, I', J', E', e1, e2⟩ := c_readReader env d p hp z lim hz hlim c u S I J E h hl hw hf
    refine ⟨b, I', J', E', start.trans ?_, e2⟩
    rw [decide_eq_true h3]
    simp only [decide_true, decide_false, Bool.not_true, Bool.not_false, am_cont, Option.bind_some, Option.toList_some, Option.toList_none, List.singleton_append, List.nil_append, cond_true, cond_false, Bool.and_self, e1, bk_19_47, bi_and]
  rw [if_neg h3]
  rw [decide_eq_false h3] at start
  by_cases h4 : kw u = 4
  · rw [if_pos h4]
    obtain ⟨b, I', J', E', e1, e2⟩ := c_readFine env d p hp z lim hz hlim c u S I J E h hl hw hf
    refine ⟨b, I', J', E', start.trans ?_, e2⟩
    rw [decide_eq_true h4]
    simp only [decide_true, decide_false, Bool.not_true, Bool.not_false, am_cont, Option.bind_some, Option.toList_some, Option.toList_none, List.singleton_append, List.nil_append, cond_true, cond_false, Bool.and_self, e1, bk_19_63, bi_and]
  rw [if_neg h4]
  rw [decide_eq_false h4] at start
  refine ⟨false, stp I 1, J, E, start.trans ?_, FX1p (stp_fx I J E 1), rfl, stp_3 I 1, by rw [stp_4]; exact c_at h⟩
  simp only [decide_true, decide_false, Bool.not_true, Bool.not_false, am_cont, Option.bind_some, Option.toList_some, Option.toList_none, List.singleton_append, List.nil_append, cond_true, cond_false, c_stop, bk_19_69]; rfl
