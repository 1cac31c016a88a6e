/-! slip: whole -/
theorem in_n1 (n : Nat) : am_in (-1) n = false := rfl
theorem c_slT (env : am_E) (d : Nat) (r f : Nat) (hr : r < 6) (hf : f < 100) (L : List Nat) (hL : L.length + 8 ≤ 40) (I : Nat → Nat → Int32) (J : Nat → Nat → Int64) (E : Nat → Nat → Nat) (h : COb I L) (h16 : I 16 r = Int32.ofNat f) : ∃ I', am_ev env (d + 20, 155, 119, [some (.ref 0), some (.int (Int32.ofNat r)), some (.ref 12)], [], am_hp I J E) = some (true, some (.int (I' 0 12)), am_hp I' J E) ∧ COb I' (L ++ (if f = 0 then [] else am_strs.getD 3 [] ++ dgs f)) ∧ FCb I I' := by
  have start := bk_155_119 env (d + 19) (Int32.ofNat r) I J E
  rw [zI_in r 6 hr (by omega), zI_nat r (by omega), h16, show decide (Int32.ofNat f ≤ (0 : Int32)) = decide (f ≤ 0) from zle_d f 0 (by omega) (by omega)] at start
  by_cases h0 : f = 0
  · rw [decide_eq_true (by omega : f ≤ 0)] at start
    rw [if_pos h0, List.append_nil]
    refine ⟨I, start.trans ?_, h, ⟨fun _ _ _ => rfl, fun _ _ => rfl⟩⟩
    simp only [decide_true, decide_false, Bool.not_true, Bool.not_false, am_cont, Option.bind_some, Option.toList_some, Option.toList_none, List.singleton_append, List.nil_append, cond_true, cond_false, bk_155_145]
  · rw [decide_eq_false (by omega : ¬ f ≤ 0)] at start
    rw [if_neg h0]
    obtain ⟨I1, e1, e2, e3⟩ := c_text env (d + 17) 3 (by omega) L (by omega) I J E h
    have hl : (am_strs.getD 3 []).length = 6 := by decide
    obtain ⟨I2, f1, f2, f3⟩ := c_number env (d + 17) (L ++ am_strs.getD 3 []) (by rw [List.length_append, hl]; omega) f hf I1 J E e2
    have g16 : I1 16 r = Int32.ofNat f := by rw [e3.1 16 (by omega) (by omega)]; exact h16
    rw [List.append_assoc] at f2
    refine ⟨I2, start.trans ?_, f2, FCb_tr e3 f3⟩
    have s1 := bk_155_135 env (d + 19) (Int32.ofNat r) I1 J E
    rw [zI_in r 6 hr (by omega), zI_nat r (by omega), g16] at s1
    simp only [decide_true, decide_false, Bool.not_true, Bool.not_false, am_cont, Option.bind_some, Option.toList_some, Option.toList_none, List.singleton_append, List.nil_append, cond_true, cond_false, f1, bk_155_145] at s1
    simp only [decide_true, decide_false, Bool.not_true, Bool.not_false, am_cont, Option.bind_some, Option.toList_some, Option.toList_none, List.singleton_append, List.nil_append, cond_true, cond_false, e1, s1]
theorem m_slT (env : am_E) (d : Nat) (r f : Nat) (hr : r < 6) (hf : f < 100) (L : List Nat) (hL : L.length + 8 ≤ 40) (I : Nat → Nat → Int32) (J : Nat → Nat → Int64) (E : Nat → Nat → Nat) (h : MOb I L) (h16 : I 158 (58 + r) = Int32.ofNat f) : ∃ I', am_ev env (d + 20, 269, 94, [some (.ref 156), some (.int (Int32.ofNat r))], [], am_hp I J E) = some (true, some (.int (I' 156 41)), am_hp I' J E) ∧ MOb I' (L ++ (if f = 0 then [] else am_strs.getD 3 [] ++ dgs f)) ∧ FMb I I' := by
  have start := bk_269_94 env (d + 19) (Int32.ofNat r) I J E
  rw [zc_58 r, zI_in (58 + r) 312 (by omega) (by omega), zI_nat (58 + r) (by omega), h16, show decide (Int32.ofNat f = (0 : Int32)) = decide (f = 0) from decide_eq_decide.mpr (Iff.of_eq (zI_eq f 0 (by omega) (by omega)))] at start
  by_cases h0 : f = 0
  · rw [decide_eq_true h0] at start
    rw [if_pos h0, List.append_nil]
    refine ⟨I, start.trans ?_, h, ⟨fun _ _ _ => rfl, fun _ _ => rfl⟩⟩
    simp only [decide_true, decide_false, Bool.not_true, Bool.not_false, am_cont, Option.bind_some, Option.toList_some, Option.toList_none, List.singleton_append, List.nil_append, cond_true, cond_false]
  · rw [decide_eq_false h0] at start
    rw [if_neg h0]
    have hw := m_wordOf env (d + 17) 22 (by omega) 22 rfl I J E
    have hg : gw (kws.getD 22 []) := kws_good _ (by decide)
    obtain ⟨I1, e1, e2, e3⟩ := m_next env (d + 10) (kws.getD 22 []) hg L (by omega) I J E h
    have hl : (wrd (kws.getD 22 [])).length = 4 := by decide
    obtain ⟨I2, f1, f2, f3⟩ := m_count env (d + 15) f hf (L ++ (32 :: wrd (kws.getD 22 []))) (by rw [List.length_append, List.length_cons, hl]; omega) I1 J E e2
    have g16 : I1 158 (58 + r) = Int32.ofNat f := by rw [e3.1 158 (by omega) (by omega)]; exact h16
    rw [List.append_assoc, show (32 :: wrd (kws.getD 22 [])) ++ (32 :: dgs f) = am_strs.getD 3 [] ++ dgs f from rfl] at f2
    refine ⟨I2, start.trans ?_, f2, FMb_tr e3 f3⟩
    have s1 := bk_269_120 env (d + 19) (Int32.ofNat r) I1 J E
    rw [zc_58 r, zI_in (58 + r) 312 (by omega) (by omega), zI_nat (58 + r) (by omega), g16] at s1
    simp only [decide_true, decide_false, Bool.not_true, Bool.not_false, am_cont, Option.bind_some, Option.toList_some, Option.toList_none, List.singleton_append, List.nil_append, cond_true, cond_false, f1, bk_269_133] at s1
    simp only [decide_true, decide_false, Bool.not_true, Bool.not_false, am_cont, Option.bind_some, Option.toList_some, Option.toList_none, List.singleton_append, List.nil_append, cond_true, cond_false, hw, bk_269_117, e1, s1]
/-- what a slip says -/
def slp (U : List Nat) (o : Option (List Nat × Nat)) (f : Nat) : List Nat := (wrd U ++ (match o with | none => am_strs.getD 2 [] | some (T, y) => am_strs.getD 0 [] ++ (wrd T ++ ([32] ++ dgs y)))) ++ (if f = 0 then [] else am_strs.getD 3 [] ++ dgs f)
theorem dgs_l (v : Nat) : (dgs v).length ≤ 2 := by
  unfold dgs
  by_cases h : v < 10
  · rw [if_pos h]; exact Nat.le_succ 1
  · rw [if_neg h]; exact Nat.le_refl 2
def Hs (n : Nat) (J : Nat → Nat → Int64) (x y : Int32) (o : Option (List Nat × Nat)) : Prop := match o with | none => x = -1 | some (T, v) => ∃ b, b < n ∧ x = Int32.ofNat b ∧ gw T ∧ J 6 b = Int64.ofNat (pk 32 T) ∧ J 163 b = Int64.ofNat (pk 27 T) ∧ v < 100 ∧ y = Int32.ofNat v
theorem c_slip (env : am_E) (d : Nat) (n k r f : Nat) (hn : n ≤ 8) (hk : k ≤ 6) (hr : r < k) (hf : f < 100) (U : List Nat) (hU : gw U) (o : Option (List Nat × Nat)) (I : Nat → Nat → Int32) (J : Nat → Nat → Int64) (E : Nat → Nat → Nat) (f0 : I 5 0 = Int32.ofNat n) (f2 : I 5 2 = Int32.ofNat k) (hJ : J 10 r = Int64.ofNat (pk 32 U)) (hs : Hs n J (I 14 r) (I 15 r) o) (h16 : I 16 r = Int32.ofNat f) : ∃ I', am_ev env (d + 20, 155, 0, [some (.ref 0), some (.int (Int32.ofNat r)), none], [], am_hp I J E) = some (true, some (.int (I' 0 12)), am_hp I' J E) ∧ COb I' (slp U o f) ∧ FCb I I' := by
  have h7 := hU.2.2
  have cR := c_hasReader env (d + 18) (Int32.ofNat r) I J E k hk f2
  rw [zI_in r k hr (by omega)] at cR
  have s0 := bk_155_11 env (d + 19) (Int32.ofNat r) (bi true) I J E
  rw [zI_in r 6 (by omega) (by omega), zI_nat r (by omega), hJ] at s0
  have fz : FCb I (am_u I 0 12 0) := ⟨fun q _ b => am_u_nr _ _ _ _ _ b, fun j hj => by rw [am_u_sg, if_neg hj]⟩
  have z0 : COb (am_u I 0 12 0) [] := ⟨am_u_at _ _ _ _, fun j hj => absurd hj (Nat.not_lt_zero _)⟩
  obtain ⟨I1, e1, e2, e3⟩ := c_nameW env (d + 17) U hU [] (by decide) (am_u I 0 12 0) J E z0
  rw [List.nil_append] at e2
  have F1 := FCb_tr fz e3
  have g14 : I1 14 r = I 14 r := by rw [F1.1 14 (by omega) (by omega)]
  have g15 : I1 15 r = I 15 r := by rw [F1.1 15 (by omega) (by omega)]
  have g16 : I1 16 r = I 16 r := by rw [F1.1 16 (by omega) (by omega)]
  have g5 : I1 5 0 = Int32.ofNat n := by rw [F1.1 5 (by omega) (by omega)]; exact f0
  have p45 : am_ev env (d + 20, 155, 0, [some (.ref 0), some (.int (Int32.ofNat r)), none], [], am_hp I J E) = am_ev env (d + 20, 155, 45, [some (.ref 0), some (.int (Int32.ofNat r)), some (.ref 12)], [], am_hp I1 J E) := by
    refine (bk_155_0 _ _ _ _ _ _).trans ?_
    simp only [decide_true, decide_false, Bool.not_true, Bool.not_false, am_cont, Option.bind_some, Option.toList_some, Option.toList_none, List.singleton_append, List.nil_append, cond_true, cond_false, cR]
    refine s0.trans ?_
    rw [show decide (bi true = 0) = false by decide]
    simp only [decide_true, decide_false, Bool.not_true, Bool.not_false, am_cont, Option.bind_some, Option.toList_some, Option.toList_none, List.singleton_append, List.nil_append, cond_true, cond_false, e1]
  have s1 := bk_155_45 env (d + 19) (Int32.ofNat r) I1 J E
  have cB := c_hasBook env (d + 18) (I1 14 r) I1 J E n hn g5
  rw [zI_in r 6 (by omega) (by omega), zI_nat r (by omega)] at s1
  simp only [decide_true, decide_false, Bool.not_true, Bool.not_false, am_cont, Option.bind_some, Option.toList_some, Option.toList_none, List.singleton_append, List.nil_append, cond_true, cond_false, cB, bk_155_61, bi_eq0] at s1
  cases o with
  | none =>
    have hx : I 14 r = -1 := hs
    rw [g14, hx, in_n1] at s1
    obtain ⟨I2, a1, a2, a3⟩ := c_text env (d + 17) 2 (by omega) (wrd U) (by rw [wrd_l]; omega) I1 J E e2
    have hl : (am_strs.getD 2 []).length = 5 := by decide
    have F2 := FCb_tr F1 a3
    obtain ⟨I3, b1, b2, b3⟩ := c_slT env d r f (by omega) hf _ (by rw [List.length_append, wrd_l, hl]; omega) I2 J E a2 (by rw [F2.1 16 (by omega) (by omega)]; exact h16)
    refine ⟨I3, p45.trans (s1.trans ?_), b2, FCb_tr F2 b3⟩
    simp only [decide_true, decide_false, Bool.not_true, Bool.not_false, am_cont, Option.bind_some, Option.toList_some, Option.toList_none, List.singleton_append, List.nil_append, cond_true, cond_false, a1]
    exact b1
  | some o =>
    obtain ⟨T, v⟩ := o
    obtain ⟨b, hb, hx, hT, j6, -, hv, hy⟩ := hs
    have t7 := hT.2.2
    have d2 := dgs_l v
    rw [g14, hx, zI_in b n hb (by omega)] at s1
    obtain ⟨I2, a1, a2, a3⟩ := c_text env (d + 17) 0 (by omega) (wrd U) (by rw [wrd_l]; omega) I1 J E e2
    have hl : (am_strs.getD 0 []).length = 5 := by decide
    have hl1 : (am_strs.getD 1 []).length = 1 := by decide
    have F2 := FCb_tr F1 a3
    obtain ⟨I3, b1, b2, b3⟩ := c_nameW env (d + 17) T hT (wrd U ++ am_strs.getD 0 []) (by rw [List.length_append, wrd_l, hl]; omega) I2 J E a2
    have F3 := FCb_tr F2 b3
    obtain ⟨I4, c1, c2, c3⟩ := c_text env (d + 17) 1 (by omega) _ (by rw [List.length_append, List.length_append, wrd_l, wrd_l, hl]; omega) I3 J E b2
    have F4 := FCb_tr F3 c3
    obtain ⟨I5, k1, k2, k3⟩ := c_number env (d + 17) _ (by rw [List.length_append, List.length_append, List.length_append, wrd_l, wrd_l, hl, hl1]; omega) v hv I4 J E c2
    have F5 := FCb_tr F4 k3
    obtain ⟨I6, m1, m2, m3⟩ := c_slT env d r f (by omega) hf _ (by rw [List.length_append, List.length_append, List.length_append, List.length_append, wrd_l, wrd_l, hl, hl1]; omega) I5 J E k2 (by rw [F5.1 16 (by omega) (by omega)]; exact h16)
    have w14 : I2 14 r = Int32.ofNat b := by rw [F2.1 14 (by omega) (by omega)]; exact hx
    have w15 : I4 15 r = Int32.ofNat v := by rw [F4.1 15 (by omega) (by omega)]; exact hy
    have t1 := bk_155_71 env (d + 19) (Int32.ofNat r) I2 J E
    rw [zI_in r 6 (by omega) (by omega), zI_nat r (by omega), w14, zI_in b 8 (by omega) (by omega), zI_nat b (by omega), j6] at t1
    simp only [decide_true, decide_false, Bool.not_true, Bool.not_false, am_cont, Option.bind_some, Option.toList_some, Option.toList_none, List.singleton_append, List.nil_append, cond_true, cond_false, b1] at t1
    have t2 := bk_155_92 env (d + 19) (Int32.ofNat r) I3 J E
    simp only [decide_true, decide_false, Bool.not_true, Bool.not_false, am_cont, Option.bind_some, Option.toList_some, Option.toList_none, List.singleton_append, List.nil_append, cond_true, cond_false, c1] at t2
    have t3 := bk_155_99 env (d + 19) (Int32.ofNat r) I4 J E
    rw [zI_in r 6 (by omega) (by omega), zI_nat r (by omega), w15] at t3
    simp only [decide_true, decide_false, Bool.not_true, Bool.not_false, am_cont, Option.bind_some, Option.toList_some, Option.toList_none, List.singleton_append, List.nil_append, cond_true, cond_false, k1, bk_155_109] at t3
    refine ⟨I6, p45.trans (s1.trans ?_), ?_, FCb_tr F5 m3⟩
    · simp only [decide_true, decide_false, Bool.not_true, Bool.not_false, am_cont, Option.bind_some, Option.toList_some, Option.toList_none, List.singleton_append, List.nil_append, cond_true, cond_false, a1]
      exact t1.trans (t2.trans (t3.trans m1))
    · rw [show slp U (some (T, v)) f = (wrd U ++ (am_strs.getD 0 [] ++ (wrd T ++ (am_strs.getD 1 [] ++ dgs v)))) ++ (if f = 0 then [] else am_strs.getD 3 [] ++ dgs f) from rfl]
      simp only [List.append_assoc] at m2 ⊢
      exact m2
