/-! slip: class and reference -/
theorem m_slip (env : am_E) (d : Nat) (n k r f : Nat) (hn : n ≤ 8) (hk : k ≤ 6) (hr : r < k) (hf : f < 100) (U : List Nat) (hU : gw U) (o : Option (List Nat × Nat)) (I : Nat → Nat → Int32) (J : Nat → Nat → Int64) (E : Nat → Nat → Nat) (f2 : I 158 2 = Int32.ofNat k) (hJ : J 163 (8 + r) = Int64.ofNat (pk 27 U)) (hs : Hs n J (I 158 (46 + r)) (I 158 (52 + r)) o) (h16 : I 158 (58 + r) = Int32.ofNat f) : ∃ I', am_ev env (d + 20, 269, 0, [some (.ref 156), some (.int (Int32.ofNat r))], [], am_hp I J E) = some (true, some (.int (I' 156 41)), am_hp I' J E) ∧ MOb I' (slp U o f) ∧ FMb (th0 I) I' := by
  have h7 := hU.2.2
  have cR := m_isReader env (d + 17) (Int32.ofNat r) (th0 I) J E k (by omega) (by rw [th0_158]; exact f2)
  rw [zI_in r k hr (by omega)] at cR
  have s0 := bk_269_10 env (d + 19) (Int32.ofNat r) (bi true) (th0 I) J E
  rw [zc_8 r, zI_in (8 + r) 14 (by omega) (by omega), zI_nat (8 + r) (by omega), hJ] at s0
  have fz : FMb (th0 I) (am_u (th0 I) 156 41 0) := ⟨fun q _ b => am_u_nr _ _ _ _ _ b, fun j hj => by rw [am_u_sg, if_neg hj]⟩
  have z0 : MOb (am_u (th0 I) 156 41 0) [] := ⟨am_u_at _ _ _ _, fun j hj => absurd hj (Nat.not_lt_zero _)⟩
  obtain ⟨I1, e1, e2, e3⟩ := m_word env J E U hU (d + 19) [] (am_u (th0 I) 156 41 0) (by omega) (by show 0 + U.length ≤ 63; omega) z0
  rw [List.nil_append] at e2
  have F1 := FMb_tr fz e3
  have q1 : ∀ I', FMb (th0 I) I' → I' 158 = I 158 := fun I' hF => (hF.1 158 (by omega) (by omega)).trans (th0_158 I)
  have p33 : am_ev env (d + 20, 269, 0, [some (.ref 156), some (.int (Int32.ofNat r))], [], am_hp I J E) = am_ev env (d + 20, 269, 33, [some (.ref 156), some (.int (Int32.ofNat r))], [], am_hp I1 J E) := by
    refine (bk_269_0 _ _ _ _ _ _).trans ?_
    simp only [decide_true, decide_false, Bool.not_true, Bool.not_false, am_cont, Option.bind_some, Option.toList_some, Option.toList_none, List.singleton_append, List.nil_append, cond_true, cond_false, th0_u, cR]
    refine s0.trans ?_
    rw [show decide (bi true = 0) = false by decide]
    simp only [decide_true, decide_false, Bool.not_true, Bool.not_false, am_cont, Option.bind_some, Option.toList_some, Option.toList_none, List.singleton_append, List.nil_append, cond_true, cond_false, e1]
  have s1 := bk_269_33 env (d + 19) (Int32.ofNat r) I1 J E
  have cI := fun I' (h : I' 158 = I 158) => m_isIdle env (d + 18) r (by omega) I' J E
  have i1 := m_isIdle env (d + 18) r (by omega) I1 J E
  rw [q1 I1 F1] at i1
  cases o with
  | none =>
    have hx : I 158 (46 + r) = -1 := hs
    rw [hx] at i1
    have hw := m_wordOf env (d + 17) 15 (by omega) 15 rfl I1 J E
    have hg : gw (kws.getD 15 []) := kws_good _ (by decide)
    obtain ⟨I2, a1, a2, a3⟩ := m_next env (d + 10) (kws.getD 15 []) hg (wrd U) (by rw [wrd_l]; omega) I1 J E e2
    rw [show (32 :: wrd (kws.getD 15 [])) = am_strs.getD 2 [] from rfl] at a2
    have hl : (am_strs.getD 2 []).length = 5 := by decide
    have F2 := FMb_tr F1 a3
    have i2 := m_isIdle env (d + 18) r (by omega) I2 J E
    rw [q1 I2 F2, hx] at i2
    obtain ⟨I3, b1, b2, b3⟩ := m_slT env d r f (by omega) hf _ (by rw [List.length_append, wrd_l, hl]; omega) I2 J E a2 (by rw [q1 I2 F2]; exact h16)
    refine ⟨I3, p33.trans (s1.trans ?_), b2, FMb_tr F2 b3⟩
    simp only [decide_true, decide_false, Bool.not_true, Bool.not_false, am_cont, Option.bind_some, Option.toList_some, Option.toList_none, List.singleton_append, List.nil_append, cond_true, cond_false, i1, bk_269_39, bi_eq0, bk_269_49, hw, bk_269_52, a1, bk_269_55, i2, bk_269_60]
    exact b1
  | some o =>
    obtain ⟨T, v⟩ := o
    obtain ⟨b, hb, hx, hT, -, j6, hv, hy⟩ := hs
    have t7 := hT.2.2
    have d2 := dgs_l v
    have hne : decide (Int32.ofNat b = -1) = false := decide_eq_false (fun q => by rw [zI_ne b (by omega)] at q; exact q)
    rw [hx, hne] at i1
    have hw := m_wordOf env (d + 17) 18 (by omega) 18 rfl I1 J E
    have hg : gw (kws.getD 18 []) := kws_good _ (by decide)
    have hl : (32 :: wrd (kws.getD 18 [])).length = 4 := by decide
    obtain ⟨I2, a1, a2, a3⟩ := m_next env (d + 10) (kws.getD 18 []) hg (wrd U) (by rw [wrd_l]; omega) I1 J E e2
    have F2 := FMb_tr F1 a3
    have i2 := m_isIdle env (d + 18) r (by omega) I2 J E
    rw [q1 I2 F2, hx, hne] at i2
    obtain ⟨I3, b1, b2, b3⟩ := m_next env (d + 10) T hT _ (by rw [List.length_append, wrd_l, hl]; omega) I2 J E a2
    have F3 := FMb_tr F2 b3
    obtain ⟨I5, k1, k2, k3⟩ := m_count env (d + 15) v hv _ (by rw [List.length_append, List.length_append, List.length_cons (a := 32) (as := wrd T), wrd_l, wrd_l, hl]; omega) I3 J E b2
    have F5 := FMb_tr F3 k3
    obtain ⟨I6, m1, m2, m3⟩ := m_slT env d r f (by omega) hf _ (by rw [List.length_append, List.length_append, List.length_append, List.length_cons (a := 32) (as := wrd T), List.length_cons (a := 32) (as := dgs v), wrd_l, wrd_l, hl]; omega) I5 J E k2 (by rw [q1 I5 F5]; exact h16)
    have t1 := bk_269_60 env (d + 19) (Int32.ofNat r) (bi false) I2 J E
    rw [zc_46 r, zI_in (46 + r) 312 (by omega) (by omega), zI_nat (46 + r) (by omega), q1 I2 F2, hx, zI_in b 14 (by omega) (by omega), zI_nat b (by omega), j6] at t1
    simp only [decide_true, decide_false, Bool.not_true, Bool.not_false, am_cont, Option.bind_some, Option.toList_some, Option.toList_none, List.singleton_append, List.nil_append, cond_true, cond_false, bi_eq0, b1] at t1
    have t3 := bk_269_81 env (d + 19) (Int32.ofNat r) I3 J E
    rw [zc_52 r, zI_in (52 + r) 312 (by omega) (by omega), zI_nat (52 + r) (by omega), q1 I3 F3, hy] at t3
    simp only [decide_true, decide_false, Bool.not_true, Bool.not_false, am_cont, Option.bind_some, Option.toList_some, Option.toList_none, List.singleton_append, List.nil_append, cond_true, cond_false, k1] at t3
    refine ⟨I6, p33.trans (s1.trans ?_), ?_, FMb_tr F5 m3⟩
    · simp only [decide_true, decide_false, Bool.not_true, Bool.not_false, am_cont, Option.bind_some, Option.toList_some, Option.toList_none, List.singleton_append, List.nil_append, cond_true, cond_false, i1, bk_269_39, bi_eq0, bk_269_49, hw, bk_269_52, a1, bk_269_55, i2]
      exact t1.trans (t3.trans m1)
    · rw [show slp U (some (T, v)) f = (wrd U ++ ((32 :: wrd (kws.getD 18 [])) ++ ((32 :: wrd T) ++ (32 :: dgs v)))) ++ (if f = 0 then [] else am_strs.getD 3 [] ++ dgs f) from rfl]
      simp only [List.append_assoc] at m2 ⊢
      exact m2
def XSl (q j : Nat) : Prop := (q = 0 ∧ j = 12) ∨ q = 116 ∨ (q = 156 ∧ j = 41) ∨ q = 174
def XSl0 (q j : Nat) : Prop := (q = 0 ∧ j = 12) ∨ q = 116 ∨ (q = 156 ∧ (j = 0 ∨ j = 41)) ∨ q = 174
def PSl (I : Nat → Nat → Int32) (n k : Nat) (I2 : Nat → Nat → Int32) : Prop := (∃ t h, R1 I2 n k t h) ∧ RSl I2 ∧ frX XSl I I2
theorem PSl_of {I I2 : Nat → Nat → Int32} {n k t h : Nat} (hR : R1 I n k t h) (hd : dfx XSl0 I I2) (e : RSl I2) : PSl I n k I2 :=
  ⟨⟨t, h, dfx_R1 hd (fun q j hq => by unfold KR at hq; unfold XSl0; omega) hR⟩, e, dfx_fr hd (fun q j hq => by unfold XSl0 at hq; unfold C1 XSl; omega)⟩
theorem dfx_FC {I I' I2 : Nat → Nat → Int32} (h : dfx XSl0 I I') (hf : FCb I' I2) : dfx XSl0 I I2 := by
  intro q j hq
  by_cases h0 : q = 0
  · subst h0
    rw [hf.2 j (fun e => hq (Or.inl ⟨rfl, e⟩))]; exact h 0 j hq
  · rw [hf.1 q (fun e => hq (Or.inr (Or.inl e))) h0]; exact h q j hq
theorem dfx_FM {I I' I2 : Nat → Nat → Int32} (h : dfx XSl0 I I') (hf : FMb I' I2) : dfx XSl0 I I2 := by
  intro q j hq
  by_cases h0 : q = 156
  · subst h0
    rw [hf.2 j (fun e => hq (Or.inr (Or.inr (Or.inl ⟨rfl, Or.inr e⟩))))]; exact h 156 j hq
  · rw [hf.1 q (fun e => hq (Or.inr (Or.inr (Or.inr e)))) h0]; exact h q j hq
theorem slp_l (U : List Nat) (hU : gw U) (o : Option (List Nat × Nat)) (f n : Nat) (J : Nat → Nat → Int64) (x y : Int32) (hs : Hs n J x y o) : (slp U o f).length ≤ 40 := by
  have h7 := hU.2.2
  have df := dgs_l f
  have hl0 : (am_strs.getD 0 []).length = 5 := by decide
  have hl2 : (am_strs.getD 2 []).length = 5 := by decide
  have hl3 : (am_strs.getD 3 []).length = 6 := by decide
  have ht : (if f = 0 then [] else am_strs.getD 3 [] ++ dgs f).length ≤ 8 := by
    by_cases h0 : f = 0
    · rw [if_pos h0]; exact Nat.zero_le _
    · rw [if_neg h0, List.length_append, hl3]; omega
  unfold slp
  cases o with
  | none =>
    dsimp only
    rw [List.length_append, List.length_append, wrd_l, hl2]; omega
  | some o =>
    obtain ⟨T, v⟩ := o
    obtain ⟨b, -, -, hT, -⟩ := hs
    have t7 := hT.2.2
    have dv := dgs_l v
    dsimp only
    rw [List.length_append, List.length_append, List.length_append, List.length_append, List.length_append, wrd_l, wrd_l, hl0]
    show U.length + (5 + (T.length + (1 + (dgs v).length))) + _ ≤ 40
    omega
theorem op_slip (env : am_E) (d : Nat) (I : Nat → Nat → Int32) (J : Nat → Nat → Int64) (E : Nat → Nat → Nat) (n k t h : Nat) (hR : R1 I n k t h) (hN : RN J n k) (hv : RSl I) (x : Int32) : opR (fun H => am_ev env (d + 20, 155, 0, [some (.ref 0), some (.int x), none], [], H)) (fun H => am_ev env (d + 20, 269, 0, [some (.ref 156), some (.int x)], [], H)) I J E (PSl I n k) := by
  obtain ⟨hn, hk, ht, hh, e1, e2, e3, f0, f2, g0, g2⟩ := R1_f I n k t h hR
  obtain ⟨r1, r2, r3, r4, r5⟩ := id hR
  obtain ⟨T, U, hT, hU⟩ := hN
  cases hx : am_in x k
  · refine ⟨-1, I, th0 I, ?_, ?_, PSl_of hR (dfx_th0 (dfx_refl _ _) (by unfold XSl0; omega)) ?_⟩
    · have cR := fun d => c_hasReader env d x I J E k hk f2
      simp only [bk_155_0, bk_155_11, cR, hx, bi_eq0, decide_true, decide_false, Bool.not_true, Bool.not_false, am_cont, Option.bind_some, Option.toList_some, Option.toList_none, List.singleton_append, List.nil_append, cond_true, cond_false]
    · have cR := fun d => m_isReader env d x (th0 I) J E k (by omega) (by rw [th0_158]; exact g2)
      simp only [bk_269_0, bk_269_10, th0_u, cR, hx, bi_eq0, decide_true, decide_false, Bool.not_true, Bool.not_false, am_cont, Option.bind_some, Option.toList_some, Option.toList_none, List.singleton_append, List.nil_append, cond_true, cond_false]
    · obtain ⟨z, z0, z1, z2, z3⟩ := hv
      refine ⟨z, z0, ?_, ?_, fun j hj => ?_⟩
      · rw [th0_ne _ _ (by omega)]; exact z1
      · rw [th0_at _ _ (by omega)]; exact z2
      · rw [th0_ne _ _ (by omega), th0_ne _ _ (by omega)]; exact z3 j hj
  obtain ⟨r, hr, -, rfl⟩ := zI_cases _ _ hx
  have q14 : I 14 r = I 158 (46 + r) := (r14 I r (by omega)).trans (r3 _ (by unfold rel; omega))
  have q15 : I 15 r = I 158 (52 + r) := (r15 I r (by omega)).trans (r3 _ (by unfold rel; omega))
  have q16 : I 16 r = I 158 (58 + r) := (r16 I r (by omega)).trans (r3 _ (by unfold rel; omega))
  obtain ⟨u1, u2, u3⟩ := hU r hr
  obtain ⟨v1, ⟨f, vf, v2⟩, -, -⟩ := r2.2.2.2 r (by omega)
  have ho : ∃ o, Hs n J (I 158 (46 + r)) (I 158 (52 + r)) o := by
    rcases v1 with ⟨a, -⟩ | ⟨-, b, hb, a, -, y, y1, y2, y3⟩
    · exact ⟨none, a⟩
    · obtain ⟨t1, t2, t3⟩ := hT b hb
      exact ⟨some (T b, y), b, hb, a, t1, t2, t3, by omega, y3⟩
  obtain ⟨o, ho⟩ := ho
  have hlen := slp_l (U r) u1 o f n J _ _ ho
  obtain ⟨I1, a1, ⟨a2, a3⟩, a4⟩ := c_slip env d n k r f hn hk hr (by omega) (U r) u1 o I J E f0 f2 u2 (by rw [q14, q15]; exact ho) (by rw [q16]; exact v2)
  have w8 : I1 158 = I 158 := a4.1 158 (by omega) (by omega)
  obtain ⟨I2, b1, ⟨b2, b3⟩, b4⟩ := m_slip env d n k r f hn hk hr (by omega) (U r) u1 o I1 J E (by rw [w8]; exact g2) u3 (by rw [w8]; exact ho) (by rw [w8]; exact v2)
  rw [a2] at a1
  rw [b2] at b1
  have k1 : ∀ q, q ≠ 174 → q ≠ 156 → I2 q = I1 q := fun q h1 h2 => (b4.1 q h1 h2).trans (th0_ne _ _ h2)
  refine ⟨_, I1, I2, a1, b1, PSl_of hR (dfx_FM (dfx_th0 (dfx_FC (dfx_refl _ _) a4) (by unfold XSl0; omega)) b4) ⟨(slp (U r) o f).length, hlen, ?_, b2, fun j hj => ?_⟩⟩
  · rw [k1 0 (by omega) (by omega)]; exact a2
  · rw [k1 116 (by omega) (by omega), a3 j hj, b3 j hj]
