/-! a LIBRARY read by the reference -/
def MLy (I : Nat → Nat → Int32) (J : Nat → Nat → Int64) (S : Lby) : Prop := (∀ j, j < 34 → I 159 j = S.2.2.2.2.2.2 j) ∧ I 156 23 = bi S.2.2.2.1 ∧ (∀ b, b < S.1 → J 164 b = Int64.ofNat (pk 27 (S.2.2.2.2.1 b))) ∧ ∀ r, r < S.2.2.1 → J 164 (8 + r) = Int64.ofNat (pk 27 (S.2.2.2.2.2.1 r))
abbrev XM : Nat → Prop := fun q => q = 159 ∨ q = 164
abbrev CM : Nat → Prop := fun j => (5 ≤ j ∧ j ≤ 13) ∨ j = 23
def mOut (I : Nat → Nat → Int32) (J : Nat → Nat → Int64) (z : Nat) (c : Nat → Nat) (lim : Nat) (b : Bool) (res : PLr) : Prop := match res with
  | .inl x => b = false ∧ I 156 10 = Int32.ofNat x.1 ∧ I 156 11 = Int32.ofNat x.2
  | .inr y => b = true ∧ MS I J z c lim (lx c z lim y.2.2.2) ∧ MLy I J y.1 ∧ I 156 10 = 0
theorem GMm {X C : Nat → Prop} {I I1 : Nat → Nat → Int32} {J J1 : Nat → Nat → Int64} (h : GM X C I J I1 J1) (hx : ∀ q, X q → XM q) (hc : ∀ j, C j → CM j) : GM XM CM I J I1 J1 := GM_mono h hx hc
theorem GM5 {I I1 : Nat → Nat → Int32} {J J1 : Nat → Nat → Int64} (h : GM X0 C5 I J I1 J1) : GM XM CM I J I1 J1 := GM_mono h (fun q hq => hq.elim) (fun j hj => Or.inl ⟨hj.1, by omega⟩)
theorem GM13 {I I1 : Nat → Nat → Int32} {J J1 : Nat → Nat → Int64} (h : GM X0 C13 I J I1 J1) : GM XM CM I J I1 J1 := GM_mono h (fun q hq => hq.elim) (fun j hj => Or.inl hj)
theorem GM5t {I I1 : Nat → Nat → Int32} {J J1 : Nat → Nat → Int64} (h : GM X0 C5t I J I1 J1) : GM XM CM I J I1 J1 := GM_mono h (fun q hq => hq.elim) (fun j hj => by rcases hj with hj | hj <;> (left; omega))
theorem m_first0 (env : am_E) (d : Nat) (z lim : Nat) (c : Nat → Nat) (u : Cu) (a v : Nat) (ha : a < 34) (x y : Int32) (hx : x = Int32.ofNat a) (hy : y = Int32.ofNat v) (I : Nat → Nat → Int32) (J : Nat → Nat → Int64) (E : Nat → Nat → Nat) (h : MS I J z c lim u) (h2 : u.1.1 = 2) (hv : I 159 a = Int32.ofNat v) : am_ev env (d + 2, 198, 0, [some (.ref 156), some (.int x), some (.int y)], [], am_hp I J E) = some (true, some (.int 0), am_hp (mbd I 4) J E) := by
  refine (bk_198_0 _ _ _ _ _ _ _).trans ?_
  rw [hx, zI_in a 34 ha (by omega), zI_nat a (by omega), hv, hy, decide_eq_true rfl]
  have mb := m_bad env d z lim c u 4 I J E h (Or.inl (by omega))
  simp only [decide_true, decide_false, Bool.not_true, Bool.not_false, am_cont, Option.bind_some, Option.toList_some, Option.toList_none, List.singleton_append, List.nil_append, cond_true, cond_false, mb, bk_198_15]
  rfl
theorem m_first1 (env : am_E) (d : Nat) (z lim : Nat) (hz : z ≤ 940) (hlim : lim ≤ 1000) (c : Nat → Nat) (u : Cu) (a v w : Nat) (ha : a < 34) (hv2 : v ≤ 1000) (hw2 : w ≤ 1000) (x y : Int32) (hx : x = Int32.ofNat a) (hy : y = Int32.ofNat w) (I : Nat → Nat → Int32) (J : Nat → Nat → Int64) (E : Nat → Nat → Nat) (h : MS I J z c lim u) (hv : I 159 a = Int32.ofNat v) (hne : v ≠ w) : ∃ I' J', am_ev env (d + 3, 198, 0, [some (.ref 156), some (.int x), some (.int y)], [], am_hp I J E) = some (true, some (.int 1), am_hp I' J' E) ∧ MS I' J' z c lim (lx c z lim u.2.2) ∧ GM X0 C5 I J I' J' := by
  obtain ⟨I', J', k1, k2, k3⟩ := m_nx env d z lim hz hlim c u I J E h
  refine ⟨I', J', ?_, k2, k3⟩
  refine (bk_198_0 _ _ _ _ _ _ _).trans ?_
  rw [hx, zI_in a 34 ha (by omega), zI_nat a (by omega), hv, hy, zI_deq _ _ (by omega) (by omega), decide_eq_false hne]
  simp only [decide_true, decide_false, Bool.not_true, Bool.not_false, am_cont, Option.bind_some, Option.toList_some, Option.toList_none, List.singleton_append, List.nil_append, cond_true, cond_false, k1, bk_198_20]
theorem k164 : decide (164 < 179) = true ∧ Nat.beq (am_K 164).1 101 = true ∧ (am_K 164).2 = 14 := by decide +kernel
theorem k163 : decide (163 < 179) = true ∧ Nat.beq (am_K 163).1 101 = true ∧ (am_K 163).2 = 14 := by decide +kernel
theorem m_name {I : Nat → Nat → Int32} {J : Nat → Nat → Int64} {z : Nat} {c : Nat → Nat} {lim : Nat} {u : Cu} (h : MS I J z c lim u) (hn : isn u = true) : J 156 12 = Int64.ofNat (pk 27 u.1.2.1) ∧ gw u.1.2.1 := ⟨h.1.2.1 (isn_f hn).1, h.2.2.2.2.2.1 (isn_f hn).1⟩
theorem m_new0 (env : am_E) (d : Nat) (z lim : Nat) (c : Nat → Nat) (u : Cu) (S : Lby) (x : Int32) (I : Nat → Nat → Int32) (J : Nat → Nat → Int64) (E : Nat → Nat → Nat) (h : MS I J z c lim u) (hl : MLy I J S) (hw : LWy S) (hno : ¬ (isn u = true ∧ fdx S.2.2.2.2.1 u.1.2.1 S.1 = 0 ∧ fdx S.2.2.2.2.2.1 u.1.2.1 S.2.2.1 = 0)) : am_ev env (d + 4, 196, 0, [some (.ref 156), some (.int x)], [], am_hp I J E) = some (true, some (.int 0), am_hp (mbd I (if isn u = true then 3 else 1)) J E) := by
  obtain ⟨w1, w2, w3, w4, w5, w6⟩ := hw
  have b1 := fdx_le S.2.2.2.2.1 u.1.2.1 S.1
  have b2 := fdx_le S.2.2.2.2.2.1 u.1.2.1 S.2.2.1
  have hn8 := w1.1.2
  have hk6 := w1.2.1.2
  refine (bk_196_0 _ _ _ _ _ _).trans ?_
  simp only [decide_true, decide_false, Bool.not_true, Bool.not_false, am_cont, Option.bind_some, Option.toList_some, Option.toList_none, List.singleton_append, List.nil_append, cond_true, cond_false, m_isName env _ z lim c u I J E h, bk_196_4, bi_eq0, Bool.not_not]
  by_cases hn : isn u = true
  · obtain ⟨n1, n2⟩ := m_name h hn
    have e0 : I 159 0 = Int32.ofNat S.1 := (hl.1 0 (by omega)).trans w1.1.1
    have e2 : I 159 2 = Int32.ofNat S.2.2.1 := (hl.1 2 (by omega)).trans w1.2.1.1
    have f1 := m_findIn env (d + 2) 164 0 S.1 14 k164.1 k164.2.1 k164.2.2 (by omega) (by omega) 0 (I 159 0) rfl e0 S.2.2.2.2.1 u.1.2.1 n2 w5 I J E (fun b hb => by rw [Nat.zero_add]; exact hl.2.2.1 b hb)
    have f2 := m_findIn env (d + 2) 164 8 S.2.2.1 14 k164.1 k164.2.1 k164.2.2 (by omega) (by omega) 8 (I 159 2) rfl e2 S.2.2.2.2.2.1 u.1.2.1 n2 w6 I J E (fun b hb => hl.2.2.2 b hb)
    have mb := m_bad env (d + 2) z lim c u 3 I J E h (Or.inl (by have := (isn_f hn).1; omega))
    have s58 : am_ev env (d + 4, 196, 58, [some (.ref 156), some (.int x)], [], am_hp I J E) = some (true, some (.int 0), am_hp (mbd I 3) J E) := by
      simp only [bk_196_58, decide_true, decide_false, Bool.not_true, Bool.not_false, am_cont, Option.bind_some, Option.toList_some, Option.toList_none, List.singleton_append, List.nil_append, cond_true, cond_false, mb, bk_196_63]; rfl
    rw [hn, if_pos rfl, n1]
    simp only [decide_true, decide_false, Bool.not_true, Bool.not_false, am_cont, Option.bind_some, Option.toList_some, Option.toList_none, List.singleton_append, List.nil_append, cond_true, cond_false, f1, bk_196_31, bv_m1 _ (show fdx S.2.2.2.2.1 u.1.2.1 S.1 < 100000 by omega), n1, f2, bk_196_54, bv_m1 _ (show fdx S.2.2.2.2.2.1 u.1.2.1 S.2.2.1 < 100000 by omega)]
    by_cases q1 : fdx S.2.2.2.2.1 u.1.2.1 S.1 = 0
    · rw [decide_eq_true q1, decide_eq_false (fun e => hno ⟨hn, q1, e⟩)]; exact s58
    · rw [decide_eq_false q1]; exact s58
  · rw [if_neg hn]
    rw [Bool.not_eq_true] at hn
    have mb := m_bad env (d + 2) z lim c u 1 I J E h (Or.inr rfl)
    rw [hn]
    simp only [decide_true, decide_false, Bool.not_true, Bool.not_false, am_cont, Option.bind_some, Option.toList_some, Option.toList_none, List.singleton_append, List.nil_append, cond_true, cond_false, mb, bk_196_12]
    rfl
theorem m_new1 (env : am_E) (d : Nat) (z lim : Nat) (hz : z ≤ 940) (hlim : lim ≤ 1000) (c : Nat → Nat) (u : Cu) (S : Lby) (q : Nat) (hq : q < 14) (x : Int32) (hx : x = Int32.ofNat q) (I : Nat → Nat → Int32) (J : Nat → Nat → Int64) (E : Nat → Nat → Nat) (h : MS I J z c lim u) (hl : MLy I J S) (hw : LWy S) (hn : isn u = true) (q1 : fdx S.2.2.2.2.1 u.1.2.1 S.1 = 0) (q2 : fdx S.2.2.2.2.2.1 u.1.2.1 S.2.2.1 = 0) : ∃ I' J', am_ev env (d + 4, 196, 0, [some (.ref 156), some (.int x)], [], am_hp I J E) = some (true, some (.int 1), am_hp I' J' E) ∧ MS I' J' z c lim (lx c z lim u.2.2) ∧ GM X0 C5 I (am_u J 164 q (Int64.ofNat (pk 27 u.1.2.1))) I' J' := by
  obtain ⟨w1, w2, w3, w4, w5, w6⟩ := hw
  have hn8 := w1.1.2
  have hk6 := w1.2.1.2
  obtain ⟨n1, n2⟩ := m_name h hn
  have e0 : I 159 0 = Int32.ofNat S.1 := (hl.1 0 (by omega)).trans w1.1.1
  have e2 : I 159 2 = Int32.ofNat S.2.2.1 := (hl.1 2 (by omega)).trans w1.2.1.1
  have f1 := m_findIn env (d + 2) 164 0 S.1 14 k164.1 k164.2.1 k164.2.2 (by omega) (by omega) 0 (I 159 0) rfl e0 S.2.2.2.2.1 u.1.2.1 n2 w5 I J E (fun b hb => by rw [Nat.zero_add]; exact hl.2.2.1 b hb)
  have f2 := m_findIn env (d + 2) 164 8 S.2.2.1 14 k164.1 k164.2.1 k164.2.2 (by omega) (by omega) 8 (I 159 2) rfl e2 S.2.2.2.2.2.1 u.1.2.1 n2 w6 I J E (fun b hb => hl.2.2.2 b hb)
  obtain ⟨I', J', k1, k2, k3⟩ := m_nx env (d + 1) z lim hz hlim c u I (am_u J 164 q (Int64.ofNat (pk 27 u.1.2.1))) E (MS_gm (X := fun q => q = 164) (C := fun _ => False) h ⟨fun _ _ _ => rfl, fun _ _ => rfl, fun r _ hr => am_u_ng _ _ _ _ _ hr⟩ (fun _ _ hc => hc) (by omega) (am_u_ng _ _ _ _ _ (by omega)))
  refine ⟨I', J', ?_, k2, k3⟩
  refine (bk_196_0 _ _ _ _ _ _).trans ?_
  simp only [decide_true, decide_false, Bool.not_true, Bool.not_false, am_cont, Option.bind_some, Option.toList_some, Option.toList_none, List.singleton_append, List.nil_append, cond_true, cond_false, m_isName env _ z lim c u I J E h, bk_196_4, bi_eq0, Bool.not_not]
  rw [hn, n1]
  simp only [decide_true, decide_false, Bool.not_true, Bool.not_false, am_cont, Option.bind_some, Option.toList_some, Option.toList_none, List.singleton_append, List.nil_append, cond_true, cond_false, f1, bk_196_31, q1, n1, f2, bk_196_54, q2, hx, zI_in q 14 hq (by omega), zI_nat q (by omega), k1, bk_196_78]
  rfl
theorem m_put1 (env : am_E) (d : Nat) (a : Nat) (ha : a < 34) (x : Int32) (hx : x = Int32.ofNat a) (I : Nat → Nat → Int32) (J : Nat → Nat → Int64) (E : Nat → Nat → Nat) : am_ev env (d + 1, 199, 0, [some (.ref 156), some (.int x), some (.int 1)], [], am_hp I J E) = some (true, some (.int 1), am_hp (am_u I 159 a (I 156 13)) J E) := by
  refine (bk_199_0 _ _ _ _ _ _ _).trans ?_
  rw [hx, zI_in a 34 ha (by omega), zI_nat a (by omega)]
  simp only [zq_1_0, decide_true, decide_false, Bool.not_true, Bool.not_false, am_cont, Option.bind_some, Option.toList_some, Option.toList_none, List.singleton_append, List.nil_append, cond_true, cond_false, bk_199_14]
  rfl
theorem m_put0 (env : am_E) (d : Nat) (x : Int32) (I : Nat → Nat → Int32) (J : Nat → Nat → Int64) (E : Nat → Nat → Nat) : am_ev env (d + 1, 199, 0, [some (.ref 156), some (.int x), some (.int 0)], [], am_hp I J E) = some (true, some (.int 0), am_hp I J E) := by
  refine (bk_199_0 _ _ _ _ _ _ _).trans ?_
  simp only [zq_0_0, decide_true, decide_false, Bool.not_true, Bool.not_false, am_cont, Option.bind_some, Option.toList_some, Option.toList_none, List.singleton_append, List.nil_append, cond_true, cond_false, bk_199_14]
  rfl
theorem MLy_gm {X C : Nat → Prop} {I I1 : Nat → Nat → Int32} {J J1 : Nat → Nat → Int64} {S : Lby} (h : MLy I J S) (hf : GM X C I J I1 J1) (hC : ¬ C 23) (h1 : ¬ X 159) (h2 : ¬ X 164) : MLy I1 J1 S := by
  obtain ⟨a1, a2, a3, a4⟩ := h
  exact ⟨fun j hj => by rw [hf.1 159 (by omega) h1]; exact a1 j hj, by rw [hf.2.1 23 hC]; exact a2, fun b hb => by rw [hf.2.2 164 (by omega) h2]; exact a3 b hb, fun b hb => by rw [hf.2.2 164 (by omega) h2]; exact a4 b hb⟩
theorem GMi (I : Nat → Nat → Int32) (J : Nat → Nat → Int64) (k : Nat) (v : Int32) : GM (fun q => q = 159) (fun _ => False) I J (am_u I 159 k v) J := ⟨fun _ _ hr => am_u_ng _ _ _ _ _ hr, fun j _ => by rw [am_u_ng _ _ _ _ _ (by omega)], fun _ _ _ => rfl⟩
theorem m_readBook (env : am_E) (d : Nat) (z lim : Nat) (hz : z ≤ 940) (hlim : lim ≤ 1000) (c : Nat → Nat) (u : Cu) (S : Lby) (I : Nat → Nat → Int32) (J : Nat → Nat → Int64) (E : Nat → Nat → Nat) (h : MS I J z c lim u) (h2 : u.1.1 = 2) (hl : MLy I J S) (hw : LWy S) (hf : I 156 10 = 0) : ∃ b I' J', am_ev env (d + 5, 200, 0, [some (.ref 156), none], [], am_hp I J E) = some (true, some (.int (bi b)), am_hp I' J' E) ∧ GM XM CM I J I' J' ∧ mOut I' J' z c lim b (pBook c z lim S u) := by
  obtain ⟨n, f, k, o, T, U, m⟩ := S
  have hn8 : n ≤ 8 := hw.1.1.2
  have hk6 : k ≤ 6 := hw.1.2.1.2
  have l0 : I 159 0 = Int32.ofNat n := (hl.1 0 (by omega)).trans hw.1.1.1
  unfold pBook
  dsimp only
  have start := bk_200_0 env (d + 4) I J E
  by_cases h8 : n = 8
  · rw [if_pos h8]
    have e := m_first0 env (d + 2) z lim c u 0 8 (by omega) 0 8 rfl rfl I J E h h2 (by rw [l0, h8])
    refine ⟨false, mbd I 4, J, start.trans ?_, GM13 (mbd_gm I J 4), rfl, mbd_10 I 4, by rw [mbd_11]; exact m_at h⟩
    rw [am_cont_some e]
    simp only [decide_true, decide_false, Bool.not_true, Bool.not_false, am_cont, Option.bind_some, Option.toList_some, Option.toList_none, List.singleton_append, List.nil_append, cond_true, cond_false, bk_200_7, zq_0_0]; rfl
  rw [if_neg h8]
  obtain ⟨I1, J1, k1, s1, f1⟩ := m_first1 env (d + 1) z lim hz hlim c u 0 n 8 (by omega) (by omega) (by omega) 0 8 rfl rfl I J E h l0 h8
  have l1 := MLy_gm hl f1 (by unfold C5; omega) (fun q => q) (fun q => q)
  have l10 : I1 159 0 = Int32.ofNat n := (l1.1 0 (by omega)).trans hw.1.1.1
  have hat1 := m_at s1
  have f10 : I1 156 10 = 0 := by rw [f1.2.1 10 (by unfold C5; omega)]; exact hf
  have g7 : am_ev env (d + 5, 200, 0, [some (.ref 156), none], [], am_hp I J E) = am_cont env (d + 4, 196, 0, [some (.ref 156), some (.int (Int32.ofNat n))], [], am_hp I1 J1 E) (d + 5) 200 24 [some (.ref 156), some (.int (Int32.ofNat n))] [] := by
    refine start.trans ?_
    rw [am_cont_some k1]
    simp only [decide_true, decide_false, Bool.not_true, Bool.not_false, am_cont, Option.bind_some, Option.toList_some, Option.toList_none, List.singleton_append, List.nil_append, cond_true, cond_false, bk_200_7, zq_1_0, l10]
  generalize hq1 : lx c z lim u.2.2 = u1 at s1 hat1 ⊢
  by_cases hno : ¬ (isn u1 = true ∧ fdx T u1.1.2.1 n = 0 ∧ fdx U u1.1.2.1 k = 0)
  · have e := m_new0 env d z lim c u1 (n, f, k, o, T, U, m) (Int32.ofNat n) I1 J1 E s1 l1 hw hno
    have fin : ∀ v : Int32, am_ev env (d + 4, 196, 0, [some (.ref 156), some (.int (Int32.ofNat n))], [], am_hp I1 J1 E) = some (true, some (.int 0), am_hp (mbd I1 v) J1 E) → am_ev env (d + 5, 200, 0, [some (.ref 156), none], [], am_hp I J E) = some (true, some (.int (bi false)), am_hp (mbd I1 v) J1 E) := by
      intro v ev
      refine g7.trans ?_
      rw [am_cont_some ev]
      simp only [decide_true, decide_false, Bool.not_true, Bool.not_false, am_cont, Option.bind_some, Option.toList_some, Option.toList_none, List.singleton_append, List.nil_append, cond_true, cond_false, bk_200_24, zq_0_0, bk_200_62]; rfl
    by_cases hin : isn u1 = true
    · rw [if_neg (by rw [hin]; decide), if_pos (fun q => hno ⟨hin, q⟩)]
      rw [if_pos hin] at e
      exact ⟨false, mbd I1 3, J1, fin 3 e, GM_tr (GM5 f1) (GM13 (mbd_gm I1 J1 3)), rfl, mbd_10 I1 3, by rw [mbd_11]; exact hat1⟩
    · rw [if_neg hin] at e
      rw [Bool.not_eq_true] at hin
      rw [if_pos hin]
      exact ⟨false, mbd I1 1, J1, fin 1 e, GM_tr (GM5 f1) (GM13 (mbd_gm I1 J1 1)), rfl, mbd_10 I1 1, by rw [mbd_11]; exact hat1⟩
  · obtain ⟨hin, q1, q2⟩ := Classical.not_not.mp hno
    rw [if_neg (by rw [hin]; decide), if_neg (fun q => q ⟨q1, q2⟩)]
    obtain ⟨I2, J2, k2, s2, f2⟩ := m_new1 env d z lim hz hlim c u1 (n, f, k, o, T, U, m) n (by omega) (Int32.ofNat n) rfl I1 J1 E s1 l1 hw hin q1 q2
    have fj : GM XM CM I1 J1 I1 (am_u J1 164 n (Int64.ofNat (pk 27 u1.1.2.1))) := ⟨fun _ _ _ => rfl, fun _ _ => rfl, fun r _ hr => am_u_ng _ _ _ _ _ (fun e => hr (Or.inr e))⟩
    have F2 : GM XM CM I J I2 J2 := GM_tr (GM5 f1) (GM_tr fj (GM5 f2))
    have hat2 := m_at s2
    have g24 : am_ev env (d + 5, 200, 0, [some (.ref 156), none], [], am_hp I J E) = am_cont env (d + 4, 190, 0, [some (.ref 156), some (.int 1), some (.int 99)], [], am_hp I2 J2 E) (d + 5) 200 38 [some (.ref 156), some (.int (Int32.ofNat n))] [.int (Int32.ofNat (4 + n)), .ref 156] := by
      refine g7.trans ?_
      rw [am_cont_some k2]
      simp only [decide_true, decide_false, Bool.not_true, Bool.not_false, am_cont, Option.bind_some, Option.toList_some, Option.toList_none, List.singleton_append, List.nil_append, cond_true, cond_false, bk_200_24, zq_1_0, zc_4]
    generalize hq2 : lx c z lim u1.2.2 = u2 at s2 hat2 ⊢
    by_cases hp2 : pn u2 1 99 = 0
    rotate_left
    · rw [if_pos hp2]
      have e := m_num0 env (d + 1) z lim c u2 1 99 (by omega) (by omega) 1 99 rfl rfl I2 J2 E s2 hp2
      refine ⟨false, mbd I2 (Int32.ofNat (pn u2 1 99)), J2, g24.trans ?_, GM_tr F2 (GM13 (mbd_gm _ _ _)), rfl, mbd_10 _ _, by rw [mbd_11]; exact hat2⟩
      rw [am_cont_some e]
      simp only [decide_true, decide_false, Bool.not_true, Bool.not_false, am_cont, Option.bind_some, Option.toList_some, Option.toList_none, List.singleton_append, List.nil_append, cond_true, cond_false, bk_200_38, m_put0, bk_200_41, zq_0_0, bk_200_62]; rfl
    rw [if_neg (fun q => q hp2)]
    obtain ⟨I3, J3, k3, s3, t3, f3⟩ := m_num1 env (d + 1) z lim hz hlim c u2 1 99 (by omega) (by omega) 1 99 rfl rfl I2 J2 E s2 hp2
    have fb : GM (fun q => q = 159) (fun _ => False) I3 J3 (am_u I3 159 (4 + n) (Int32.ofNat u2.1.2.2)) J3 := GMi _ _ _ _
    have s3a : MS (am_u I3 159 (4 + n) (Int32.ofNat u2.1.2.2)) J3 z c lim (lx c z lim u2.2.2) := MS_gm s3 fb (fun _ _ hc => hc) (by omega) rfl
    have F3 : GM XM CM I J (am_u I3 159 (4 + n) (Int32.ofNat u2.1.2.2)) J3 := GM_tr F2 (GM_tr (GM5t f3) (GMm fb (fun q hq => Or.inl hq) (fun _ hj => hj.elim)))
    have hat3 := m_at s3a
    have g41 : am_ev env (d + 5, 200, 0, [some (.ref 156), none], [], am_hp I J E) = am_cont env (d + 4, 190, 0, [some (.ref 156), some (.int 0), some (.int 9)], [], am_hp (am_u I3 159 (4 + n) (Int32.ofNat u2.1.2.2)) J3 E) (d + 5) 200 56 [some (.ref 156), some (.int (Int32.ofNat n))] [.int (Int32.ofNat (12 + n)), .ref 156] := by
      refine g24.trans ?_
      rw [am_cont_some k3]
      have mp := m_put1 env (d + 3) (4 + n) (by omega) (Int32.ofNat (4 + n)) rfl I3 J3 E
      rw [t3] at mp
      simp only [decide_true, decide_false, Bool.not_true, Bool.not_false, am_cont, Option.bind_some, Option.toList_some, Option.toList_none, List.singleton_append, List.nil_append, cond_true, cond_false, bk_200_38, mp, bk_200_41, zq_1_0, zc_12]
    generalize hq3 : lx c z lim u2.2.2 = u3 at s3a hat3 ⊢
    by_cases hp3 : pn u3 0 9 = 0
    rotate_left
    · rw [if_pos hp3]
      have e := m_num0 env (d + 1) z lim c u3 0 9 (by omega) (by omega) 0 9 rfl rfl _ J3 E s3a hp3
      refine ⟨false, mbd (am_u I3 159 (4 + n) (Int32.ofNat u2.1.2.2)) (Int32.ofNat (pn u3 0 9)), J3, g41.trans ?_, GM_tr F3 (GM13 (mbd_gm _ _ _)), rfl, mbd_10 _ _, by rw [mbd_11]; exact hat3⟩
      rw [am_cont_some e]
      simp only [decide_true, decide_false, Bool.not_true, Bool.not_false, am_cont, Option.bind_some, Option.toList_some, Option.toList_none, List.singleton_append, List.nil_append, cond_true, cond_false, bk_200_56, m_put0, bk_200_59, zq_0_0, bk_200_62]; rfl
    rw [if_neg (fun q => q hp3)]
    obtain ⟨I4, J4, k4, s4, t4, f4⟩ := m_num1 env (d + 1) z lim hz hlim c u3 0 9 (by omega) (by omega) 0 9 rfl rfl _ J3 E s3a hp3
    have row4 : I4 159 = am_u I3 159 (4 + n) (Int32.ofNat u2.1.2.2) 159 := f4.1 159 (by omega) (fun q => q)
    have row3 : I3 159 = I 159 := by
      rw [f3.1 159 (by omega) (fun q => q), f2.1 159 (by omega) (fun q => q), f1.1 159 (by omega) (fun q => q)]
    have l40 : am_u I4 159 (12 + n) (Int32.ofNat u3.1.2.2) 159 0 = Int32.ofNat n := by
      rw [am_u_sg, if_neg (by omega), row4, am_u_sg, if_neg (by omega), row3]; exact l0
    have fe : GM (fun q => q = 159) (fun _ => False) I4 J4 (am_u (am_u I4 159 (12 + n) (Int32.ofNat u3.1.2.2)) 159 0 (Int32.ofNat (n + 1))) J4 := GM_tr (GMi _ _ _ _) (GMi _ _ _ _)
    refine ⟨true, am_u (am_u I4 159 (12 + n) (Int32.ofNat u3.1.2.2)) 159 0 (Int32.ofNat (n + 1)), J4, g41.trans ?_, GM_tr F3 (GM_tr (GM5t f4) (GMm fe (fun q hq => Or.inl hq) (fun _ hj => hj.elim))), rfl, MS_gm s4 fe (fun _ _ hc => hc) (by omega) rfl, ?_, ?_⟩
    · rw [am_cont_some k4]
      have mp := m_put1 env (d + 3) (12 + n) (by omega) (Int32.ofNat (12 + n)) rfl I4 J4 E
      rw [t4] at mp
      simp only [decide_true, decide_false, Bool.not_true, Bool.not_false, am_cont, Option.bind_some, Option.toList_some, Option.toList_none, List.singleton_append, List.nil_append, cond_true, cond_false, bk_200_56, mp, bk_200_59, zq_1_0, l40, zd_1]; rfl
    · obtain ⟨a1, a2, a3, a4⟩ := hl
      dsimp only at a1 a2 a3 a4
      have j4 : J4 164 = am_u J 164 n (Int64.ofNat (pk 27 u1.1.2.1)) 164 := by
        funext j
        rw [f4.2.2 164 (by omega) (fun q => q), f3.2.2 164 (by omega) (fun q => q), f2.2.2 164 (by omega) (fun q => q), am_u_sg, am_u_sg, f1.2.2 164 (by omega) (fun q => q)]
      refine ⟨fun j hj => ?_, ?_, fun b hb => ?_, fun r hr => ?_⟩
      · rw [am_u_sg, am_u_sg, row4, am_u_sg, row3]
        show _ = ru (ru (ru m (4 + n) (Int32.ofNat u2.1.2.2)) (12 + n) (Int32.ofNat u3.1.2.2)) 0 (Int32.ofNat (n + 1)) j
        unfold ru
        rw [a1 j hj]
      · rw [am_u_ng _ _ _ _ _ (by omega), am_u_ng _ _ _ _ _ (by omega), f4.2.1 23 (by unfold C5t; omega), am_u_ng _ _ _ _ _ (by omega), f3.2.1 23 (by unfold C5t; omega), f2.2.1 23 (by unfold C5; omega), f1.2.1 23 (by unfold C5; omega)]; exact a2
      · have hb : b < n + 1 := hb
        rw [j4, am_u_sg]
        show _ = Int64.ofNat (pk 27 (rug T n u1.1.2.1 b))
        by_cases e : b = n
        · subst e; rw [if_pos rfl, rug_eq]
        · rw [if_neg e, rug_ne _ _ _ _ e]; exact a3 b (by omega)
      · have hr : r < k := hr
        rw [j4, am_u_sg, if_neg (by omega)]; exact a4 r hr
    · rw [am_u_ng _ _ _ _ _ (by omega), am_u_ng _ _ _ _ _ (by omega), f4.2.1 10 (by unfold C5t; omega), am_u_ng _ _ _ _ _ (by omega), f3.2.1 10 (by unfold C5t; omega), f2.2.1 10 (by unfold C5; omega)]; exact f10
theorem m_readReader (env : am_E) (d : Nat) (z lim : Nat) (hz : z ≤ 940) (hlim : lim ≤ 1000) (c : Nat → Nat) (u : Cu) (S : Lby) (I : Nat → Nat → Int32) (J : Nat → Nat → Int64) (E : Nat → Nat → Nat) (h : MS I J z c lim u) (h2 : u.1.1 = 2) (hl : MLy I J S) (hw : LWy S) (hf : I 156 10 = 0) : ∃ b I' J', am_ev env (d + 5, 202, 0, [some (.ref 156), none], [], am_hp I J E) = some (true, some (.int (bi b)), am_hp I' J' E) ∧ GM XM CM I J I' J' ∧ mOut I' J' z c lim b (pReader c z lim S u) := by
  obtain ⟨n, f, k, o, T, U, m⟩ := S
  have hn8 : n ≤ 8 := hw.1.1.2
  have hk6 : k ≤ 6 := hw.1.2.1.2
  have l0 : I 159 2 = Int32.ofNat k := (hl.1 2 (by omega)).trans hw.1.2.1.1
  unfold pReader
  dsimp only
  have start := bk_202_0 env (d + 4) I J E
  by_cases h8 : k = 6
  · rw [if_pos h8]
    have e := m_first0 env (d + 2) z lim c u 2 6 (by omega) 2 6 rfl rfl I J E h h2 (by rw [l0, h8])
    refine ⟨false, mbd I 4, J, start.trans ?_, GM13 (mbd_gm I J 4), rfl, mbd_10 I 4, by rw [mbd_11]; exact m_at h⟩
    rw [am_cont_some e]
    simp only [decide_true, decide_false, Bool.not_true, Bool.not_false, am_cont, Option.bind_some, Option.toList_some, Option.toList_none, List.singleton_append, List.nil_append, cond_true, cond_false, bk_202_7, zq_0_0]; rfl
  rw [if_neg h8]
  obtain ⟨I1, J1, k1, s1, f1⟩ := m_first1 env (d + 1) z lim hz hlim c u 2 k 6 (by omega) (by omega) (by omega) 2 6 rfl rfl I J E h l0 h8
  have l1 := MLy_gm hl f1 (by unfold C5; omega) (fun q => q) (fun q => q)
  have l10 : I1 159 2 = Int32.ofNat k := (l1.1 2 (by omega)).trans hw.1.2.1.1
  have hat1 := m_at s1
  have f10 : I1 156 10 = 0 := by rw [f1.2.1 10 (by unfold C5; omega)]; exact hf
  have g7 : am_ev env (d + 5, 202, 0, [some (.ref 156), none], [], am_hp I J E) = am_cont env (d + 4, 196, 0, [some (.ref 156), some (.int (Int32.ofNat (8 + k)))], [], am_hp I1 J1 E) (d + 5) 202 27 [some (.ref 156), some (.int (Int32.ofNat k))] [] := by
    refine start.trans ?_
    rw [am_cont_some k1]
    simp only [decide_true, decide_false, Bool.not_true, Bool.not_false, am_cont, Option.bind_some, Option.toList_some, Option.toList_none, List.singleton_append, List.nil_append, cond_true, cond_false, bk_202_7, zq_1_0, l10, zc_8]
  generalize hq1 : lx c z lim u.2.2 = u1 at s1 hat1 ⊢
  by_cases hno : ¬ (isn u1 = true ∧ fdx T u1.1.2.1 n = 0 ∧ fdx U u1.1.2.1 k = 0)
  · have e := m_new0 env d z lim c u1 (n, f, k, o, T, U, m) (Int32.ofNat (8 + k)) I1 J1 E s1 l1 hw hno
    have fin : ∀ v : Int32, am_ev env (d + 4, 196, 0, [some (.ref 156), some (.int (Int32.ofNat (8 + k)))], [], am_hp I1 J1 E) = some (true, some (.int 0), am_hp (mbd I1 v) J1 E) → am_ev env (d + 5, 202, 0, [some (.ref 156), none], [], am_hp I J E) = some (true, some (.int (bi false)), am_hp (mbd I1 v) J1 E) := by
      intro v ev
      refine g7.trans ?_
      rw [am_cont_some ev]
      simp only [decide_true, decide_false, Bool.not_true, Bool.not_false, am_cont, Option.bind_some, Option.toList_some, Option.toList_none, List.singleton_append, List.nil_append, cond_true, cond_false, bk_202_27, zq_0_0, bk_202_48]; rfl
    by_cases hin : isn u1 = true
    · rw [if_neg (by rw [hin]; decide), if_pos (fun q => hno ⟨hin, q⟩)]
      rw [if_pos hin] at e
      exact ⟨false, mbd I1 3, J1, fin 3 e, GM_tr (GM5 f1) (GM13 (mbd_gm I1 J1 3)), rfl, mbd_10 I1 3, by rw [mbd_11]; exact hat1⟩
    · rw [if_neg hin] at e
      rw [Bool.not_eq_true] at hin
      rw [if_pos hin]
      exact ⟨false, mbd I1 1, J1, fin 1 e, GM_tr (GM5 f1) (GM13 (mbd_gm I1 J1 1)), rfl, mbd_10 I1 1, by rw [mbd_11]; exact hat1⟩
  · obtain ⟨hin, q1, q2⟩ := Classical.not_not.mp hno
    rw [if_neg (by rw [hin]; decide), if_neg (fun q => q ⟨q1, q2⟩)]
    obtain ⟨I2, J2, k2, s2, f2⟩ := m_new1 env d z lim hz hlim c u1 (n, f, k, o, T, U, m) (8 + k) (by omega) (Int32.ofNat (8 + k)) rfl I1 J1 E s1 l1 hw hin q1 q2
    have fj : GM XM CM I1 J1 I1 (am_u J1 164 (8 + k) (Int64.ofNat (pk 27 u1.1.2.1))) := ⟨fun _ _ _ => rfl, fun _ _ => rfl, fun r _ hr => am_u_ng _ _ _ _ _ (fun e => hr (Or.inr e))⟩
    have F2 : GM XM CM I J I2 J2 := GM_tr (GM5 f1) (GM_tr fj (GM5 f2))
    have hat2 := m_at s2
    have g24 : am_ev env (d + 5, 202, 0, [some (.ref 156), none], [], am_hp I J E) = am_cont env (d + 4, 190, 0, [some (.ref 156), some (.int 1), some (.int 30)], [], am_hp I2 J2 E) (d + 5) 202 42 [some (.ref 156), some (.int (Int32.ofNat k))] [.int (Int32.ofNat (28 + k)), .ref 156] := by
      refine g7.trans ?_
      rw [am_cont_some k2]
      simp only [decide_true, decide_false, Bool.not_true, Bool.not_false, am_cont, Option.bind_some, Option.toList_some, Option.toList_none, List.singleton_append, List.nil_append, cond_true, cond_false, bk_202_27, zq_1_0, zc_28]
    generalize hq2 : lx c z lim u1.2.2 = u2 at s2 hat2 ⊢
    by_cases hp2 : pn u2 1 30 = 0
    rotate_left
    · rw [if_pos hp2]
      have e := m_num0 env (d + 1) z lim c u2 1 30 (by omega) (by omega) 1 30 rfl rfl I2 J2 E s2 hp2
      refine ⟨false, mbd I2 (Int32.ofNat (pn u2 1 30)), J2, g24.trans ?_, GM_tr F2 (GM13 (mbd_gm _ _ _)), rfl, mbd_10 _ _, by rw [mbd_11]; exact hat2⟩
      rw [am_cont_some e]
      simp only [decide_true, decide_false, Bool.not_true, Bool.not_false, am_cont, Option.bind_some, Option.toList_some, Option.toList_none, List.singleton_append, List.nil_append, cond_true, cond_false, bk_202_42, m_put0, bk_202_45, zq_0_0, bk_202_48]; rfl
    rw [if_neg (fun q => q hp2)]
    obtain ⟨I3, J3, k3, s3, t3, f3⟩ := m_num1 env (d + 1) z lim hz hlim c u2 1 30 (by omega) (by omega) 1 30 rfl rfl I2 J2 E s2 hp2
    have row3 : I3 159 = I 159 := by
      rw [f3.1 159 (by omega) (fun q => q), f2.1 159 (by omega) (fun q => q), f1.1 159 (by omega) (fun q => q)]
    have l40 : am_u I3 159 (28 + k) (Int32.ofNat u2.1.2.2) 159 2 = Int32.ofNat k := by
      rw [am_u_sg, if_neg (by omega), row3]; exact l0
    have fe : GM (fun q => q = 159) (fun _ => False) I3 J3 (am_u (am_u I3 159 (28 + k) (Int32.ofNat u2.1.2.2)) 159 2 (Int32.ofNat (k + 1))) J3 := GM_tr (GMi _ _ _ _) (GMi _ _ _ _)
    refine ⟨true, am_u (am_u I3 159 (28 + k) (Int32.ofNat u2.1.2.2)) 159 2 (Int32.ofNat (k + 1)), J3, g24.trans ?_, GM_tr F2 (GM_tr (GM5t f3) (GMm fe (fun q hq => Or.inl hq) (fun _ hj => hj.elim))), rfl, MS_gm s3 fe (fun _ _ hc => hc) (by omega) rfl, ?_, ?_⟩
    · rw [am_cont_some k3]
      have mp := m_put1 env (d + 3) (28 + k) (by omega) (Int32.ofNat (28 + k)) rfl I3 J3 E
      rw [t3] at mp
      simp only [decide_true, decide_false, Bool.not_true, Bool.not_false, am_cont, Option.bind_some, Option.toList_some, Option.toList_none, List.singleton_append, List.nil_append, cond_true, cond_false, bk_202_42, mp, bk_202_45, zq_1_0, l40, zd_1]; rfl
    · obtain ⟨a1, a2, a3, a4⟩ := hl
      dsimp only at a1 a2 a3 a4
      have j4 : J3 164 = am_u J 164 (8 + k) (Int64.ofNat (pk 27 u1.1.2.1)) 164 := by
        funext j
        rw [f3.2.2 164 (by omega) (fun q => q), f2.2.2 164 (by omega) (fun q => q), am_u_sg, am_u_sg, f1.2.2 164 (by omega) (fun q => q)]
      refine ⟨fun j hj => ?_, ?_, fun b hb => ?_, fun r hr => ?_⟩
      · rw [am_u_sg, am_u_sg, row3]
        show _ = ru (ru m (28 + k) (Int32.ofNat u2.1.2.2)) 2 (Int32.ofNat (k + 1)) j
        unfold ru
        rw [a1 j hj]
      · rw [am_u_ng _ _ _ _ _ (by omega), am_u_ng _ _ _ _ _ (by omega), f3.2.1 23 (by unfold C5t; omega), f2.2.1 23 (by unfold C5; omega), f1.2.1 23 (by unfold C5; omega)]; exact a2
      · have hb : b < n := hb
        rw [j4, am_u_sg, if_neg (by omega)]; exact a3 b hb
      · have hr : r < k + 1 := hr
        rw [j4, am_u_sg]
        show _ = Int64.ofNat (pk 27 (rug U k u1.1.2.1 r))
        by_cases e : r = k
        · subst e; rw [if_pos rfl, rug_eq]
        · rw [if_neg (by omega), rug_ne _ _ _ _ e]; exact a4 r (by omega)
    · rw [am_u_ng _ _ _ _ _ (by omega), am_u_ng _ _ _ _ _ (by omega), f3.2.1 10 (by unfold C5t; omega), f2.2.1 10 (by unfold C5; omega)]; exact f10
theorem m_readFine (env : am_E) (d : Nat) (z lim : Nat) (hz : z ≤ 940) (hlim : lim ≤ 1000) (c : Nat → Nat) (u : Cu) (S : Lby) (I : Nat → Nat → Int32) (J : Nat → Nat → Int64) (E : Nat → Nat → Nat) (h : MS I J z c lim u) (h2 : u.1.1 = 2) (hl : MLy I J S) (hw : LWy S) (hf : I 156 10 = 0) : ∃ b I' J', am_ev env (d + 5, 203, 0, [some (.ref 156)], [], am_hp I J E) = some (true, some (.int (bi b)), am_hp I' J' E) ∧ GM XM CM I J I' J' ∧ mOut I' J' z c lim b (pFine c z lim S u) := by
  obtain ⟨n, f, k, o, T, U, m⟩ := S
  have l0 : I 156 23 = bi o := hl.2.1
  unfold pFine
  dsimp only
  have start := bk_203_0 env (d + 4) I J E
  rw [l0, bi_eq0] at start
  by_cases h8 : o = true
  · rw [if_pos h8]
    have e := m_bad env (d + 3) z lim c u 3 I J E h (Or.inl (by omega))
    refine ⟨false, mbd I 3, J, start.trans ?_, GM13 (mbd_gm I J 3), rfl, mbd_10 I 3, by rw [mbd_11]; exact m_at h⟩
    rw [h8]
    simp only [decide_true, decide_false, Bool.not_true, Bool.not_false, am_cont, Option.bind_some, Option.toList_some, Option.toList_none, List.singleton_append, List.nil_append, cond_true, cond_false, e, bk_203_12]; rfl
  rw [if_neg h8]
  rw [Bool.not_eq_true] at h8
  rw [h8] at start
  have f0 : GM X0 (fun j => j = 23) I J (am_u I 156 23 1) J := ⟨fun q hq _ => am_u_ng _ _ _ _ _ hq, fun j hj => by rw [am_u_sg, if_neg hj], fun _ _ _ => rfl⟩
  obtain ⟨I1, J1, k1, s1, f1⟩ := m_nx env (d + 2) z lim hz hlim c u (am_u I 156 23 1) J E (MS_gm h f0 (fun j hj => by omega) (fun q => q) rfl)
  have F1 : GM XM CM I J I1 J1 := GM_tr (GMm f0 (fun q hq => hq.elim) (fun j hj => Or.inr hj)) (GM5 f1)
  have hat1 := m_at s1
  have g22 : am_ev env (d + 5, 203, 0, [some (.ref 156)], [], am_hp I J E) = am_cont env (d + 4, 190, 0, [some (.ref 156), some (.int 0), some (.int 30)], [], am_hp I1 J1 E) (d + 5) 203 31 [some (.ref 156)] [.int 3, .ref 156] := by
    refine start.trans ?_
    simp only [decide_true, decide_false, Bool.not_true, Bool.not_false, am_cont, Option.bind_some, Option.toList_some, Option.toList_none, List.singleton_append, List.nil_append, cond_true, cond_false, k1, bk_203_22]
  generalize hq1 : lx c z lim u.2.2 = u1 at s1 hat1 ⊢
  by_cases hp2 : pn u1 0 30 = 0
  rotate_left
  · rw [if_pos hp2]
    have e := m_num0 env (d + 1) z lim c u1 0 30 (by omega) (by omega) 0 30 rfl rfl I1 J1 E s1 hp2
    refine ⟨false, mbd I1 (Int32.ofNat (pn u1 0 30)), J1, g22.trans ?_, GM_tr F1 (GM13 (mbd_gm _ _ _)), rfl, mbd_10 _ _, by rw [mbd_11]; exact hat1⟩
    rw [am_cont_some e]
    simp only [decide_true, decide_false, Bool.not_true, Bool.not_false, am_cont, Option.bind_some, Option.toList_some, Option.toList_none, List.singleton_append, List.nil_append, cond_true, cond_false, bk_203_31, m_put0, bk_203_34]; rfl
  rw [if_neg (fun q => q hp2)]
  obtain ⟨I3, J3, k3, s3, t3, f3⟩ := m_num1 env (d + 1) z lim hz hlim c u1 0 30 (by omega) (by omega) 0 30 rfl rfl I1 J1 E s1 hp2
  have row3 : I3 159 = I 159 := by
    rw [f3.1 159 (by omega) (fun q => q), f1.1 159 (by omega) (fun q => q), am_u_ng _ _ _ _ _ (by omega)]
  have fe : GM (fun q => q = 159) (fun _ => False) I3 J3 (am_u I3 159 3 (Int32.ofNat u1.1.2.2)) J3 := GMi _ _ _ _
  refine ⟨true, am_u I3 159 3 (Int32.ofNat u1.1.2.2), J3, g22.trans ?_, GM_tr F1 (GM_tr (GM5t f3) (GMm fe (fun q hq => Or.inl hq) (fun _ hj => hj.elim))), rfl, MS_gm s3 fe (fun _ _ hc => hc) (by omega) rfl, ?_, ?_⟩
  · rw [am_cont_some k3]
    have mp := m_put1 env (d + 3) 3 (by omega) 3 rfl I3 J3 E
    rw [t3] at mp
    simp only [decide_true, decide_false, Bool.not_true, Bool.not_false, am_cont, Option.bind_some, Option.toList_some, Option.toList_none, List.singleton_append, List.nil_append, cond_true, cond_false, bk_203_31, mp, bk_203_34]; rfl
  · obtain ⟨a1, a2, a3, a4⟩ := hl
    dsimp only at a1 a2 a3 a4
    have j4 : J3 164 = J 164 := by
      rw [f3.2.2 164 (by omega) (fun q => q), f1.2.2 164 (by omega) (fun q => q)]
    refine ⟨fun j hj => ?_, ?_, fun b hb => ?_, fun r hr => ?_⟩
    · rw [am_u_sg, row3]
      show _ = ru m 3 (Int32.ofNat u1.1.2.2) j
      unfold ru
      rw [a1 j hj]
    · rw [am_u_ng _ _ _ _ _ (by omega), f3.2.1 23 (by unfold C5t; omega), f1.2.1 23 (by unfold C5; omega), am_u_at]; rfl
    · rw [j4]; exact a3 b hb
    · rw [j4]; exact a4 r hr
  · rw [am_u_ng _ _ _ _ _ (by omega), f3.2.1 10 (by unfold C5t; omega), f1.2.1 10 (by unfold C5; omega), am_u_sg, if_neg (by omega)]; exact hf
