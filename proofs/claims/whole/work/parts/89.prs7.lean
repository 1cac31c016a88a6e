/-! a LIBRARY read by the reference: after, lines, all -/
theorem m_bookHere (env : am_E) (d : Nat) (z lim : Nat) (c : Nat → Nat) (u : Cu) (S : Lby) (I : Nat → Nat → Int32) (J : Nat → Nat → Int64) (E : Nat → Nat → Nat) (h : MS I J z c lim u) (hl : MLy I J S) (hw : LWy S) : am_ev env (d + 4, 197, 0, [some (.ref 156)], [], am_hp I J E) = (if isn u = true then (if fdx S.2.2.2.2.1 u.1.2.1 S.1 = 0 then some (true, some (.int 0), am_hp (mbd (am_u I 156 13 (-1)) 3) J E) else some (true, some (.int 1), am_hp (am_u I 156 13 (Int32.ofNat (fdx S.2.2.2.2.1 u.1.2.1 S.1 - 1))) J E)) else some (true, some (.int 0), am_hp (mbd I 1) J E)) := by
  obtain ⟨w1, w2, w3, w4, w5, w6⟩ := hw
  have b1 := fdx_le S.2.2.2.2.1 u.1.2.1 S.1
  have hn8 := w1.1.2
  refine (bk_197_0 _ _ _ _ _).trans ?_
  simp only [decide_true, decide_false, Bool.not_true, Bool.not_false, am_cont, Option.bind_some, Option.toList_some, Option.toList_none, List.singleton_append, List.nil_append, cond_true, cond_false, m_isName env _ z lim c u I J E h, bk_197_4, bi_eq0, Bool.not_not]
  by_cases hn : isn u = true
  · obtain ⟨n1, n2⟩ := m_name h hn
    have e0 : I 159 0 = Int32.ofNat S.1 := (hl.1 0 (by omega)).trans w1.1.1
    have f1 := m_findIn env (d + 2) 164 0 S.1 14 k164.1 k164.2.1 k164.2.2 (by omega) (by omega) 0 (I 159 0) rfl e0 S.2.2.2.2.1 u.1.2.1 n2 w5 I J E (fun b hb => by rw [Nat.zero_add]; exact hl.2.2.1 b hb)
    have fr : ∀ v, GM X0 (fun j => j = 13) I J (am_u I 156 13 v) J := fun v => ⟨fun q hq _ => am_u_ng _ _ _ _ _ hq, fun j hj => by rw [am_u_sg, if_neg hj], fun _ _ _ => rfl⟩
    have mb := fun v => m_bad env (d + 2) z lim c u 3 (am_u I 156 13 v) J E (MS_gm h (fr v) (fun j hj => by omega) (fun q => q) rfl) (Or.inl (by have := (isn_f hn).1; omega))
    rw [hn, if_pos rfl, n1]
    simp only [decide_true, decide_false, Bool.not_true, Bool.not_false, am_cont, Option.bind_some, Option.toList_some, Option.toList_none, List.singleton_append, List.nil_append, cond_true, cond_false, f1, bk_197_32, am_u_at, bv_m1 _ (show fdx S.2.2.2.2.1 u.1.2.1 S.1 < 100000 by omega)]
    by_cases q1 : fdx S.2.2.2.2.1 u.1.2.1 S.1 = 0
    · rw [decide_eq_true q1, if_pos q1, q1]
      simp only [decide_true, decide_false, Bool.not_true, Bool.not_false, am_cont, Option.bind_some, Option.toList_some, Option.toList_none, List.singleton_append, List.nil_append, cond_true, cond_false, show bv 0 = -1 from rfl, mb, bk_197_48, zq_0_0, bk_197_56]
      rfl
    · rw [decide_eq_false q1, if_neg q1]
      have : bv (fdx S.2.2.2.2.1 u.1.2.1 S.1) = Int32.ofNat (fdx S.2.2.2.2.1 u.1.2.1 S.1 - 1) := by unfold bv; rw [if_neg q1]
      rw [this]
      simp only [decide_true, decide_false, Bool.not_true, Bool.not_false, am_cont, Option.bind_some, Option.toList_some, Option.toList_none, List.singleton_append, List.nil_append, cond_true, cond_false, bk_197_51, bk_197_56]
      rfl
  · rw [if_neg hn]
    rw [Bool.not_eq_true] at hn
    have mb := m_bad env (d + 2) z lim c u 1 I J E h (Or.inr rfl)
    rw [hn]
    simp only [decide_true, decide_false, Bool.not_true, Bool.not_false, am_cont, Option.bind_some, Option.toList_some, Option.toList_none, List.singleton_append, List.nil_append, cond_true, cond_false, mb, bk_197_12]
    rfl
theorem GM1t (I : Nat → Nat → Int32) (J : Nat → Nat → Int64) (v : Int32) : GM X0 C5t I J (am_u I 156 13 v) J := ⟨fun q hq _ => am_u_ng _ _ _ _ _ hq, fun j hj => by rw [am_u_sg, if_neg (fun e => hj (Or.inr e))], fun _ _ _ => rfl⟩
theorem MS13 {I : Nat → Nat → Int32} {J : Nat → Nat → Int64} {z : Nat} {c : Nat → Nat} {lim : Nat} {u : Cu} (h : MS I J z c lim u) (v : Int32) : MS (am_u I 156 13 v) J z c lim u := MS_gm (X := X0) (C := fun j => j = 13) h ⟨fun q hq _ => am_u_ng _ _ _ _ _ hq, fun j hj => by rw [am_u_sg, if_neg hj], fun _ _ _ => rfl⟩ (fun j hj => by omega) (fun q => q) rfl
theorem m_readAfter (env : am_E) (d : Nat) (z lim : Nat) (hz : z ≤ 940) (hlim : lim ≤ 1000) (c : Nat → Nat) (u : Cu) (S : Lby) (I : Nat → Nat → Int32) (J : Nat → Nat → Int64) (E : Nat → Nat → Nat) (h : MS I J z c lim u) (h2 : u.1.1 = 2) (hl : MLy I J S) (hw : LWy S) (hf : I 156 10 = 0) : ∃ b I' J', am_ev env (d + 5, 201, 0, [some (.ref 156), none], [], am_hp I J E) = some (true, some (.int (bi b)), am_hp I' J' E) ∧ GM XM CM I J I' J' ∧ mOut I' J' z c lim b (pAfter c z lim S u) := by
  obtain ⟨n, f, k, o, T, U, m⟩ := S
  have hn8 : n ≤ 8 := hw.1.1.2
  have hk6 : k ≤ 6 := hw.1.2.1.2
  have hf16 : f ≤ 16 := hw.2.2.1
  have l0 : I 159 1 = Int32.ofNat f := (hl.1 1 (by omega)).trans hw.2.1
  unfold pAfter
  dsimp only
  have start := bk_201_0 env (d + 4) I J E
  by_cases h8 : f = 16
  · rw [if_pos h8]
    have e := m_first0 env (d + 2) z lim c u 1 16 (by omega) 1 16 rfl rfl I J E h h2 (by rw [l0, h8])
    refine ⟨false, mbd I 4, J, start.trans ?_, GM13 (mbd_gm I J 4), rfl, mbd_10 I 4, by rw [mbd_11]; exact m_at h⟩
    rw [am_cont_some e]
    simp only [decide_true, decide_false, Bool.not_true, Bool.not_false, am_cont, Option.bind_some, Option.toList_some, Option.toList_none, List.singleton_append, List.nil_append, cond_true, cond_false, bk_201_7, zq_0_0, bk_201_17]; rfl
  rw [if_neg h8]
  obtain ⟨I1, J1, k1, s1, f1⟩ := m_first1 env (d + 1) z lim hz hlim c u 1 f 16 (by omega) (by omega) (by omega) 1 16 rfl rfl I J E h l0 h8
  have l1 := MLy_gm hl f1 (by unfold C5; omega) (fun q => q) (fun q => q)
  have hat1 := m_at s1
  have f10 : I1 156 10 = 0 := by rw [f1.2.1 10 (by unfold C5; omega)]; exact hf
  have e1 := m_bookHere env d z lim c _ (n, f, k, o, T, U, m) I1 J1 E s1 l1 hw
  have g7 : am_ev env (d + 5, 201, 0, [some (.ref 156), none], [], am_hp I J E) = am_cont env (d + 4, 197, 0, [some (.ref 156)], [], am_hp I1 J1 E) (d + 5) 201 14 [some (.ref 156), none] [] := by
    refine start.trans ?_
    rw [am_cont_some k1]
    simp only [decide_true, decide_false, Bool.not_true, Bool.not_false, am_cont, Option.bind_some, Option.toList_some, Option.toList_none, List.singleton_append, List.nil_append, cond_true, cond_false, bk_201_7, zq_1_0]
  generalize hq1 : lx c z lim u.2.2 = u1 at s1 hat1 e1 ⊢
  have bad : ∀ I0, am_ev env (d + 4, 197, 0, [some (.ref 156)], [], am_hp I1 J1 E) = some (true, some (.int 0), am_hp I0 J1 E) → am_ev env (d + 5, 201, 0, [some (.ref 156), none], [], am_hp I J E) = some (true, some (.int (bi false)), am_hp I0 J1 E) := by
    intro I0 e
    refine g7.trans ?_
    rw [am_cont_some e]
    simp only [decide_true, decide_false, Bool.not_true, Bool.not_false, am_cont, Option.bind_some, Option.toList_some, Option.toList_none, List.singleton_append, List.nil_append, cond_true, cond_false, bk_201_14, zq_0_0, bk_201_17]; rfl
  by_cases hin : isn u1 = true
  rotate_left
  · rw [if_neg hin] at e1
    rw [Bool.not_eq_true] at hin
    rw [if_pos hin]
    exact ⟨false, mbd I1 1, J1, bad _ e1, GM_tr (GM5 f1) (GM13 (mbd_gm _ _ _)), rfl, mbd_10 _ _, by rw [mbd_11]; exact hat1⟩
  rw [if_neg (by rw [hin]; decide)]
  rw [if_pos hin] at e1
  have fb1 := fdx_le T u1.1.2.1 n
  by_cases hdu : fdx T u1.1.2.1 n = 0
  · rw [if_pos hdu]
    rw [if_pos hdu] at e1
    exact ⟨false, mbd (am_u I1 156 13 (-1)) 3, J1, bad _ e1, GM_tr (GM5 f1) (GM_tr (GM5t (GM1t _ _ _)) (GM13 (mbd_gm _ _ _))), rfl, mbd_10 _ _, by rw [mbd_11, am_u_sg, if_neg (by omega)]; exact hat1⟩
  rw [if_neg hdu]
  rw [if_neg hdu] at e1
  dsimp only at e1
  generalize hA : fdx T u1.1.2.1 n = A at hdu e1 fb1 ⊢
  obtain ⟨I2, J2, k2, s2, f2⟩ := m_nx env (d + 2) z lim hz hlim c u1 (am_u I1 156 13 (Int32.ofNat (A - 1))) J1 E (MS13 s1 _)
  have l1a : MLy (am_u I1 156 13 (Int32.ofNat (A - 1))) J1 (n, f, k, o, T, U, m) := MLy_gm l1 (GM1t _ _ _) (by unfold C5t; omega) (fun q => q) (fun q => q)
  have l2 := MLy_gm l1a f2 (by unfold C5; omega) (fun q => q) (fun q => q)
  have hat2 := m_at s2
  have F2 : GM XM CM I J I2 J2 := GM_tr (GM5 f1) (GM_tr (GM5t (GM1t _ _ _)) (GM5 f2))
  have e2 := m_bookHere env d z lim c _ (n, f, k, o, T, U, m) I2 J2 E s2 l2 hw
  have g28 : am_ev env (d + 5, 201, 0, [some (.ref 156), none], [], am_hp I J E) = am_cont env (d + 4, 197, 0, [some (.ref 156)], [], am_hp I2 J2 E) (d + 5) 201 32 [some (.ref 156), some (.int (Int32.ofNat (A - 1)))] [] := by
    refine g7.trans ?_
    rw [am_cont_some e1]
    simp only [decide_true, decide_false, Bool.not_true, Bool.not_false, am_cont, Option.bind_some, Option.toList_some, Option.toList_none, List.singleton_append, List.nil_append, cond_true, cond_false, bk_201_14, zq_1_0, am_u_at, k2, bk_201_28]
  generalize hq2 : lx c z lim u1.2.2 = u2 at s2 hat2 e2 ⊢
  have bad2 : ∀ I0, am_ev env (d + 4, 197, 0, [some (.ref 156)], [], am_hp I2 J2 E) = some (true, some (.int 0), am_hp I0 J2 E) → am_ev env (d + 5, 201, 0, [some (.ref 156), none], [], am_hp I J E) = some (true, some (.int (bi false)), am_hp I0 J2 E) := by
    intro I0 e
    refine g28.trans ?_
    rw [am_cont_some e]
    simp only [decide_true, decide_false, Bool.not_true, Bool.not_false, am_cont, Option.bind_some, Option.toList_some, Option.toList_none, List.singleton_append, List.nil_append, cond_true, cond_false, bk_201_32, zq_0_0]; rfl
  by_cases hin2 : isn u2 = true
  rotate_left
  · rw [if_neg hin2] at e2
    rw [Bool.not_eq_true] at hin2
    rw [if_pos hin2]
    exact ⟨false, mbd I2 1, J2, bad2 _ e2, GM_tr F2 (GM13 (mbd_gm _ _ _)), rfl, mbd_10 _ _, by rw [mbd_11]; exact hat2⟩
  rw [if_neg (by rw [hin2]; decide)]
  rw [if_pos hin2] at e2
  have fb2 := fdx_le T u2.1.2.1 n
  by_cases hdu2 : fdx T u2.1.2.1 n = 0
  · rw [if_pos hdu2]
    rw [if_pos hdu2] at e2
    exact ⟨false, mbd (am_u I2 156 13 (-1)) 3, J2, bad2 _ e2, GM_tr F2 (GM_tr (GM5t (GM1t _ _ _)) (GM13 (mbd_gm _ _ _))), rfl, mbd_10 _ _, by rw [mbd_11, am_u_sg, if_neg (by omega)]; exact hat2⟩
  rw [if_neg hdu2]
  rw [if_neg hdu2] at e2
  dsimp only at e2
  generalize hB : fdx T u2.1.2.1 n = B at hdu2 e2 fb2 ⊢
  have hk2 := (isn_f hin2).1
  have mb := m_bad env (d + 3) z lim c u2 3 (am_u I2 156 13 (Int32.ofNat (B - 1))) J2 E (MS13 s2 _) (Or.inl (by omega))
  have s64 : am_ev env (d + 5, 201, 64, [some (.ref 156), some (.int (Int32.ofNat (A - 1)))], [], am_hp (am_u I2 156 13 (Int32.ofNat (B - 1))) J2 E) = some (true, some (.int (bi false)), am_hp (mbd (am_u I2 156 13 (Int32.ofNat (B - 1))) 3) J2 E) := by
    simp only [bk_201_64, decide_true, decide_false, Bool.not_true, Bool.not_false, am_cont, Option.bind_some, Option.toList_some, Option.toList_none, List.singleton_append, List.nil_append, cond_true, cond_false, mb, bk_201_69]; rfl
  have l2a : am_u I2 156 13 (Int32.ofNat (B - 1)) 159 (20 + (A - 1)) = m (20 + (A - 1)) := by rw [am_u_ng _ _ _ _ _ (by omega)]; exact l2.1 _ (by omega)
  have l21 : am_u (am_u I2 156 13 (Int32.ofNat (B - 1))) 159 (20 + (A - 1)) (m (20 + (A - 1)) ||| bit1 (B - 1)) 159 1 = Int32.ofNat f := by
    rw [am_u_sg, if_neg (by omega), am_u_ng _ _ _ _ _ (by omega)]; exact (l2.1 1 (by omega)).trans hw.2.1
  have g61 : am_ev env (d + 5, 201, 0, [some (.ref 156), none], [], am_hp I J E) = (bif decide (A = B) then am_ev env (d + 5, 201, 64, [some (.ref 156), some (.int (Int32.ofNat (A - 1)))], [], am_hp (am_u I2 156 13 (Int32.ofNat (B - 1))) J2 E) else bif bt (m (20 + (A - 1))) (B - 1) then am_ev env (d + 5, 201, 64, [some (.ref 156), some (.int (Int32.ofNat (A - 1)))], [], am_hp (am_u I2 156 13 (Int32.ofNat (B - 1))) J2 E) else am_ev env (d + 5, 201, 98, [some (.ref 156), some (.int (Int32.ofNat (A - 1)))], [], am_hp (am_u (am_u (am_u I2 156 13 (Int32.ofNat (B - 1))) 159 (20 + (A - 1)) (m (20 + (A - 1)) ||| bit1 (B - 1))) 159 1 (Int32.ofNat (f + 1))) J2 E)) := by
    refine g28.trans ?_
    rw [am_cont_some e2]
    have eAB : decide (Int32.ofNat (B - 1) = Int32.ofNat (A - 1)) = decide (A = B) := by
      rw [zI_deq _ _ (by omega) (by omega)]; exact decide_eq_decide.mpr (by omega)
    simp (disch := omega) only [decide_true, decide_false, Bool.not_true, Bool.not_false, am_cont, Option.bind_some, Option.toList_some, Option.toList_none, List.singleton_append, List.nil_append, cond_true, cond_false, bk_201_32, zq_1_0, am_u_at, eAB, zc_20, zI_in, zI_nat, l2a, m_has, bk_201_61, bi_eq0, l21, zd_1]
    cases decide (A = B)
    · cases bt (m (20 + (A - 1))) (B - 1) <;> rfl
    · rfl
  by_cases hbad : A = B ∨ bt (m (20 + (A - 1))) (B - 1) = true
  · rw [if_pos hbad]
    refine ⟨false, mbd (am_u I2 156 13 (Int32.ofNat (B - 1))) 3, J2, ?_, GM_tr F2 (GM_tr (GM5t (GM1t _ _ _)) (GM13 (mbd_gm _ _ _))), rfl, mbd_10 _ _, by rw [mbd_11, am_u_sg, if_neg (by omega)]; exact hat2⟩
    refine g61.trans ?_
    by_cases e : A = B
    · rw [decide_eq_true e]; exact s64
    · rcases hbad with q | q
      · exact absurd q e
      · rw [decide_eq_false e, q]; exact s64
  · rw [if_neg hbad]
    have fe : GM (fun q => q = 159) (fun _ => False) (am_u I2 156 13 (Int32.ofNat (B - 1))) J2 (am_u (am_u (am_u I2 156 13 (Int32.ofNat (B - 1))) 159 (20 + (A - 1)) (m (20 + (A - 1)) ||| bit1 (B - 1))) 159 1 (Int32.ofNat (f + 1))) J2 := GM_tr (GMi _ _ _ _) (GMi _ _ _ _)
    obtain ⟨I3, J3, k3, s3, f3⟩ := m_nx env (d + 2) z lim hz hlim c u2 _ J2 E (MS_gm (MS13 s2 (Int32.ofNat (B - 1))) fe (fun _ _ hc => hc) (by omega) rfl)
    refine ⟨true, I3, J3, ?_, GM_tr F2 (GM_tr (GM5t (GM1t _ _ _)) (GM_tr (GMm fe (fun q hq => Or.inl hq) (fun _ hj => hj.elim)) (GM5 f3))), rfl, s3, ?_, ?_⟩
    · refine g61.trans ?_
      rw [decide_eq_false (fun e => hbad (Or.inl e)), Bool.eq_false_iff.mpr (fun e => hbad (Or.inr e))]
      simp only [decide_true, decide_false, Bool.not_true, Bool.not_false, am_cont, Option.bind_some, Option.toList_some, Option.toList_none, List.singleton_append, List.nil_append, cond_true, cond_false, bk_201_98, k3, bk_201_102]; rfl
    · obtain ⟨a1, a2, a3, a4⟩ := l2
      dsimp only at a1 a2 a3 a4
      refine ⟨fun j hj => ?_, ?_, fun b hb => ?_, fun r hr => ?_⟩
      · rw [f3.1 159 (by omega) (fun q => q), am_u_sg, am_u_sg, am_u_ng _ _ _ _ _ (by omega), a1 j hj]
        rfl
      · rw [f3.2.1 23 (by unfold C5; omega), am_u_ng _ _ _ _ _ (by omega), am_u_ng _ _ _ _ _ (by omega), am_u_sg, if_neg (by omega)]; exact a2
      · rw [f3.2.2 164 (by omega) (fun q => q)]; exact a3 b hb
      · rw [f3.2.2 164 (by omega) (fun q => q)]; exact a4 r hr
    · rw [f3.2.1 10 (by unfold C5; omega), am_u_ng _ _ _ _ _ (by omega), am_u_ng _ _ _ _ _ (by omega), am_u_sg, if_neg (by omega), f2.2.1 10 (by unfold C5; omega), am_u_sg, if_neg (by omega)]; exact f10
theorem m_readLine (env : am_E) (d : Nat) (z lim : Nat) (hz : z ≤ 940) (hlim : lim ≤ 1000) (c : Nat → Nat) (u : Cu) (S : Lby) (I : Nat → Nat → Int32) (J : Nat → Nat → Int64) (E : Nat → Nat → Nat) (h : MS I J z c lim u) (hl : MLy I J S) (hw : LWy S) (hf : I 156 10 = 0) : ∃ b I' J', am_ev env (d + 6, 204, 0, [some (.ref 156)], [], am_hp I J E) = some (true, some (.int (bi b)), am_hp I' J' E) ∧ GM XM CM I J I' J' ∧ mOut I' J' z c lim b (pLine c z lim S u) := by
  have start := bk_204_0 env (d + 5) I J E
  have w0 := m_isWord env (d + 2) z lim c u 0 (by omega) 0 rfl I J E h
  have w1 := m_isWord env (d + 2) z lim c u 1 (by omega) 1 rfl I J E h
  have w2 := m_isWord env (d + 2) z lim c u 2 (by omega) 2 rfl I J E h
  have w3 := m_isWord env (d + 2) z lim c u 3 (by omega) 3 rfl I J E h
  have hk2 : ∀ j, kw u = j + 1 → u.1.1 = 2 := fun j hj => by rw [kw_iff] at hj; exact hj.1
  unfold pLine
  by_cases h1 : kw u = 1
  · rw [if_pos h1]
    obtain ⟨b, I', J', e1, e2⟩ := m_readBook env d z lim hz hlim c u S I J E h (hk2 0 h1) hl hw hf
    refine ⟨b, I', J', start.trans ?_, e2⟩
    rw [am_cont_some w0, decide_eq_true (show kw u = 0 + 1 from h1)]
    simp only [decide_true, decide_false, Bool.not_true, Bool.not_false, am_cont, Option.bind_some, Option.toList_some, Option.toList_none, List.singleton_append, List.nil_append, cond_true, cond_false, bk_204_5, bi_t, zq_1_0, e1, bk_204_12, bi_and]
  rw [if_neg h1]
  rw [am_cont_some w0, decide_eq_false (show ¬ kw u = 0 + 1 from h1)] at start
  simp only [decide_true, decide_false, Bool.not_true, Bool.not_false, am_cont, Option.bind_some, Option.toList_some, Option.toList_none, List.singleton_append, List.nil_append, cond_true, cond_false, bk_204_5, bi_f, zq_0_0, w1] at start
  by_cases h2 : kw u = 2
  · rw [if_pos h2]
    obtain ⟨b, I', J', e1, e2⟩ := m_readAfter env d z lim hz hlim c u S I J E h (hk2 1 h2) hl hw hf
    refine ⟨b, I', J', start.trans ?_, e2⟩
    rw [decide_eq_true (show kw u = 1 + 1 from h2)]
    simp only [decide_true, decide_false, Bool.not_true, Bool.not_false, am_cont, Option.bind_some, Option.toList_some, Option.toList_none, List.singleton_append, List.nil_append, cond_true, cond_false, bk_204_18, bi_t, zq_1_0, e1, bk_204_25, bi_and]
  rw [if_neg h2]
  rw [decide_eq_false (show ¬ kw u = 1 + 1 from h2)] at start
  simp only [decide_true, decide_false, Bool.not_true, Bool.not_false, am_cont, Option.bind_some, Option.toList_some, Option.toList_none, List.singleton_append, List.nil_append, cond_true, cond_false, bk_204_18, bi_f, zq_0_0, w2] at start
  by_cases h3 : kw u = 3
  · rw [if_pos h3]
    obtain ⟨b, I', J', e1, e2⟩ := m_readReader env d z lim hz hlim c u S I J E h (hk2 2 h3) hl hw hf
    refine ⟨b, I', J', start.trans ?_, e2⟩
    rw [decide_eq_true (show kw u = 2 + 1 from h3)]
    simp only [decide_true, decide_false, Bool.not_true, Bool.not_false, am_cont, Option.bind_some, Option.toList_some, Option.toList_none, List.singleton_append, List.nil_append, cond_true, cond_false, bk_204_31, bi_t, zq_1_0, e1, bk_204_38, bi_and]
  rw [if_neg h3]
  rw [decide_eq_false (show ¬ kw u = 2 + 1 from h3)] at start
  simp only [decide_true, decide_false, Bool.not_true, Bool.not_false, am_cont, Option.bind_some, Option.toList_some, Option.toList_none, List.singleton_append, List.nil_append, cond_true, cond_false, bk_204_31, bi_f, zq_0_0, w3] at start
  by_cases h4 : kw u = 4
  · rw [if_pos h4]
    obtain ⟨b, I', J', e1, e2⟩ := m_readFine env d z lim hz hlim c u S I J E h (hk2 3 h4) hl hw hf
    refine ⟨b, I', J', start.trans ?_, e2⟩
    rw [decide_eq_true (show kw u = 3 + 1 from h4)]
    simp only [decide_true, decide_false, Bool.not_true, Bool.not_false, am_cont, Option.bind_some, Option.toList_some, Option.toList_none, List.singleton_append, List.nil_append, cond_true, cond_false, bk_204_44, bi_t, zq_1_0, e1, bk_204_51, bk_204_59, bi_and]
  rw [if_neg h4]
  rw [decide_eq_false (show ¬ kw u = 3 + 1 from h4)] at start
  have mb := m_bad env (d + 4) z lim c u 1 I J E h (Or.inr rfl)
  simp only [decide_true, decide_false, Bool.not_true, Bool.not_false, am_cont, Option.bind_some, Option.toList_some, Option.toList_none, List.singleton_append, List.nil_append, cond_true, cond_false, bk_204_44, bi_f, zq_0_0, mb, bk_204_59] at start
  exact ⟨false, mbd I 1, J, start.trans rfl, GM13 (mbd_gm I J 1), rfl, mbd_10 I 1, by rw [mbd_11]; exact m_at h⟩
def mRes (lim : Nat) (I : Nat → Nat → Int32) (J : Nat → Nat → Int64) (env : am_E) (d : Nat) (E : Nat → Nat → Nat) (w : Option (Bool × Option Value × am_H)) (res : (Nat × Nat) ⊕ (Lby × Nat)) : Prop := match res with
  | .inl x => w = some (true, some (.int (-1 - Int32.ofNat x.2)), am_hp I J E) ∧ I 156 10 = Int32.ofNat x.1
  | .inr y => w = am_ev env (d + 7, 205, 78, [some (.ref 156), some (.int (Int32.ofNat (y.2))), some (.int 0)], [], am_hp I J E) ∧ MLy I J y.1 ∧ I 156 10 = 0
theorem m_libLoop (env : am_E) (d : Nat) (z : Nat) (hz : z ≤ 940) (c : Nat → Nat) (E : Nat → Nat → Nat) : ∀ (f : Nat) (S : Lby) (p0 : Nat) (u : Cu) (l : Nat) (I : Nat → Nat → Int32) (J : Nat → Nat → Int64), MS I J z c 900 u → MLy I J S → LWy S → I 156 10 = 0 → p0 ≤ z → u = lx c z 900 p0 → z < u.2.2 + f → ∃ I' J', GM XM CM I J I' J' ∧ mRes 900 I' J' env d E (am_ev env (d + 7, 205, 42, [some (.ref 156), some (.int (Int32.ofNat l)), none], [], am_hp I J E)) (pLib c z 900 f S u l) := by
  intro f
  induction f with
  | zero =>
    intro S p0 u l I J h hl hw hf hp0 hu hz1
    have := h.2.2.2.2.1
    omega
  | succ f ih =>
    intro S p0 u l I J h hl hw hf hp0 hu hz1
    have hg := lx_good c z 900 p0 hp0
    rw [← hu] at hg
    have hat := hg.2.2.2.2.1
    have start := bk_205_42 env (d + 6) (Int32.ofNat l) I J E
    rw [show decide (I 156 7 = (0 : Int32)) = decide (u.1.1 = 0) from m_kind h 0 (by omega)] at start
    unfold pLib
    by_cases h0 : u.1.1 = 0
    · rw [if_pos h0]
      refine ⟨I, J, GM_refl _ _ _ _, start.trans ?_, hl, hf⟩
      rw [decide_eq_true h0]; rfl
    rw [if_neg h0]
    rw [decide_eq_false h0] at start
    obtain ⟨b, I1, J1, e1, F1, o1⟩ := m_readLine env d z 900 hz (by omega) c u S I J E h hl hw hf
    have po := pLine_o c z 900 S u h.2.2.2.2.1 hat hw
    have pk := pLine_kw c z 900 S u
    cases hr : pLine c z 900 S u with
    | inl x =>
      rw [hr] at o1 po
      obtain ⟨b1, b2, b3⟩ := o1
      refine ⟨I1, J1, F1, start.trans ?_, b2⟩
      rw [b1] at e1
      simp only [decide_true, decide_false, Bool.not_true, Bool.not_false, am_cont, Option.bind_some, Option.toList_some, Option.toList_none, List.singleton_append, List.nil_append, cond_true, cond_false, e1, bk_205_53, bi_f, zq_0_0, bk_205_63, b3]
    | inr y =>
      rw [hr] at o1 po
      obtain ⟨b1, b2, b3, b4⟩ := o1
      obtain ⟨po1, po2, po3⟩ := po
      have hw2 := lx_good c z 900 y.2.2.2 po2
      rw [b1] at e1
      have g53 : am_ev env (d + 7, 205, 42, [some (.ref 156), some (.int (Int32.ofNat l)), none], [], am_hp I J E) = am_cont env (d + 6, 191, 0, [some (.ref 156)], [], am_hp I1 J1 E) (d + 7) 205 60 [some (.ref 156), some (.int (Int32.ofNat l)), none] [] := by
        refine start.trans ?_
        simp only [decide_true, decide_false, Bool.not_true, Bool.not_false, am_cont, Option.bind_some, Option.toList_some, Option.toList_none, List.singleton_append, List.nil_append, cond_true, cond_false, e1, bk_205_53, bi_t, zq_1_0]
      show ∃ I' J', _ ∧ mRes 900 I' J' env d E _ (if isg (lx c z 900 y.2.2.2) 59 = true then pLib c z 900 f y.1 (lx c z 900 (lx c z 900 y.2.2.2).2.2) (l + 1) else .inl (1, (lx c z 900 y.2.2.2).2.1))
      have hat2 := m_at b2
      by_cases hsg : isg (lx c z 900 y.2.2.2) 59 = true
      · rw [if_pos hsg]
        obtain ⟨I3, J3, k3, s3, f3⟩ := m_end1 env (d + 3) z 900 hz (by omega) c (lx c z 900 y.2.2.2) I1 J1 E b2 hsg
        have l3 := MLy_gm b3 f3 (by unfold C5; omega) (fun q => q) (fun q => q)
        have hk4 := (isg_f hsg).1
        have hwp := hw2.2.2.2.2.2.2.1 (by omega)
        have hwz := hw2.2.2.2.2.2.1
        have hu3 := lx_good c z 900 (lx c z 900 y.2.2.2).2.2 hwz
        have hg3 := hu3.2.2.2.2.2.2.2.1
        obtain ⟨I4, J4, F4, r4⟩ := ih y.1 (lx c z 900 y.2.2.2).2.2 (lx c z 900 (lx c z 900 y.2.2.2).2.2) (l + 1) I3 J3 s3 l3 po3 (by rw [f3.2.1 10 (by unfold C5; omega)]; exact b4) hwz rfl (by omega)
        refine ⟨I4, J4, GM_tr F1 (GM_tr (GM5 f3) F4), ?_⟩
        have e : am_ev env (d + 7, 205, 42, [some (.ref 156), some (.int (Int32.ofNat l)), none], [], am_hp I J E) = am_ev env (d + 7, 205, 42, [some (.ref 156), some (.int (Int32.ofNat (l + 1))), none], [], am_hp I3 J3 E) := by
          refine g53.trans ?_
          rw [am_cont_some k3]
          simp only [decide_true, decide_false, Bool.not_true, Bool.not_false, am_cont, Option.bind_some, Option.toList_some, Option.toList_none, List.singleton_append, List.nil_append, cond_true, cond_false, bk_205_60, zq_1_0, zd_1]
        rw [e]
        exact r4
      · rw [if_neg hsg]
        rw [Bool.not_eq_true] at hsg
        have e191 := m_end0 env (d + 3) z 900 c (lx c z 900 y.2.2.2) I1 J1 E b2 hsg
        refine ⟨mbd I1 1, J1, GM_tr F1 (GM13 (mbd_gm _ _ _)), g53.trans ?_, mbd_10 _ _⟩
        rw [am_cont_some e191]
        simp only [decide_true, decide_false, Bool.not_true, Bool.not_false, am_cont, Option.bind_some, Option.toList_some, Option.toList_none, List.singleton_append, List.nil_append, cond_true, cond_false, bk_205_60, zq_0_0, bk_205_63, mbd_11, hat2]
