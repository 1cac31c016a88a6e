/-! a RECORD read by the class, all; by the reference, a deed -/
def rRec (c : Nat → Nat) (z lim n k : Nat) (T U : Nat → List Nat) : Nat → Nat → (Nat → Rl) → Cu → (Nat × Nat) ⊕ (Nat × (Nat → Rl))
  | 0, _, _, _ => .inl (1, 0)
  | f + 1, l, D, u => if u.1.1 = 0 then .inr (l, D) else match rLine c z lim n k T U l u with
    | .inl x => .inl x
    | .inr y => if isg (lx c z lim y.2.2.2) 59 = true then rRec c z lim n k T U f (l + 1) (rug D l y.1) (lx c z lim (lx c z lim y.2.2.2).2.2) else .inl (1, (lx c z lim y.2.2.2).2.1)
abbrev X8 : Nat → Prop := fun q => q = 1 ∨ (99 ≤ q ∧ q ≤ 103)
def cRr (I : Nat → Nat → Int32) (res : (Nat × Nat) ⊕ (Nat × (Nat → Rl))) : Prop := match res with
  | .inl x => I 1 3 = Int32.ofNat x.1 ∧ I 1 4 = Int32.ofNat x.2
  | .inr y => I 1 3 = 0 ∧ I 99 1 = Int32.ofNat y.1 ∧ ∀ i, i < y.1 → CLn I i (y.2 i)
theorem CLn_k {I I' : Nat → Nat → Int32} {i : Nat} {e : Rl} (h : CLn I i e) (hk : ∀ q, 100 ≤ q → q ≤ 103 → I' q i = I q i) : CLn I' i e := by
  obtain ⟨a1, a2, a3, a4, a5⟩ := h
  exact ⟨by rw [hk 100 (by omega) (by omega)]; exact a1, by rw [hk 101 (by omega) (by omega)]; exact a2, by rw [hk 102 (by omega) (by omega)]; exact a3, by rw [hk 102 (by omega) (by omega)]; exact a4, by rw [hk 103 (by omega) (by omega)]; exact a5⟩
theorem FX98 {I I1 : Nat → Nat → Int32} {J J1 : Nat → Nat → Int64} {E E1 : Nat → Nat → Nat} (h : FX X9 I J E I1 J1 E1) : FX X8 I J E I1 J1 E1 := FX_mono h (fun q hq => by rcases hq with hq | hq; exact Or.inl hq; exact Or.inr ⟨by omega, hq.2⟩)
theorem FX18 {I I1 : Nat → Nat → Int32} {J J1 : Nat → Nat → Int64} {E E1 : Nat → Nat → Nat} (h : FX (fun q => q = 1) I J E I1 J1 E1) : FX X8 I J E I1 J1 E1 := FX_mono h (fun q hq => Or.inl hq)
theorem c_recLoop (env : am_E) (d : Nat) (z : Nat) (hz : z ≤ 940) (c : Nat → Nat) (n k : Nat) (T U : Nat → List Nat) : ∀ (f l : Nat) (D : Nat → Rl) (p0 : Nat) (u : Cu) (I : Nat → Nat → Int32) (J : Nat → Nat → Int64) (E : Nat → Nat → Nat), CS I J E z c 400 u → NMc I J n k T U → I 99 1 = Int32.ofNat l → (∀ i, i < l → CLn I i (D i)) → I 1 3 = 0 → l ≤ 40 → p0 ≤ z → u = lx c z 400 p0 → z < u.2.2 + f → ∃ I' J' E', am_ev env (d + 6, 47, 14, [some (.ref 99), some (.ref 1), some (.ref 5), some (.int (Int32.ofNat l))], [], am_hp I J E) = some (true, none, am_hp I' J' E') ∧ FX X8 I J E I' J' E' ∧ cRr I' (rRec c z 400 n k T U f l D u) := by
  intro f
  induction f with
  | zero =>
    intro l D p0 u I J E h hm h99 hln hf hl hp0 hu hz1
    have := h.2.2.2.1
    omega
  | succ f ih =>
    intro l D p0 u I J E h hm h99 hln hf hl hp0 hu hz1
    have hg := lx_good c z 400 p0 hp0
    rw [← hu] at hg
    have hat := hg.2.2.2.2.1
    have start := bk_47_14 env (d + 5) 5 (Int32.ofNat l) I J E
    rw [show decide ((400 : Int32) ≤ Int32.ofNat l) = false from zle_f 400 l (by omega) (by omega), show decide (I 1 0 = (0 : Int32)) = decide (u.1.1 = 0) from c_kind0 h] at start
    unfold rRec
    by_cases h0 : u.1.1 = 0
    · rw [if_pos h0]
      refine ⟨I, J, E, start.trans ?_, FX_refl _ _ _ _, hf, h99, hln⟩
      rw [decide_eq_true h0]
      simp only [decide_true, decide_false, Bool.not_true, Bool.not_false, am_cont, Option.bind_some, Option.toList_some, Option.toList_none, List.singleton_append, List.nil_append, cond_true, cond_false, bk_47_68]
    rw [if_neg h0]
    rw [decide_eq_false h0] at start
    obtain ⟨b, I1, J1, E1, e1, F1, o1⟩ := c_readLine48 env d z 400 hz (by omega) c u n k T U l hl I J E h hm h99 hf
    have po := rLine_o c z 400 n k T U l hl u h.2.2.2.1 hat
    cases hr : rLine c z 400 n k T U l u with
    | inl x =>
      rw [hr] at o1 po
      obtain ⟨b1, b2, b3⟩ := o1
      refine ⟨I1, J1, E1, start.trans ?_, FX98 F1, b2, b3⟩
      rw [b1] at e1
      simp only [decide_true, decide_false, Bool.not_true, Bool.not_false, am_cont, Option.bind_some, Option.toList_some, Option.toList_none, List.singleton_append, List.nil_append, cond_true, cond_false, e1, bk_47_34, bi_f, zq_0_0]
    | inr y =>
      rw [hr] at o1 po
      obtain ⟨b1, b2, b3, b4, b5⟩ := o1
      obtain ⟨po1, po2, po3, po4, po5⟩ := po
      rw [b1] at e1
      obtain ⟨I2, J2, E2, k2, s2, f2, t3, t4⟩ := c_nx env (d + 2) z 400 hz (by omega) c y.2 I1 J1 E1 b2
      have hw2 := lx_good c z 400 y.2.2.2 po2
      have F2 : FX X8 I J E I2 J2 E2 := FX_tr (FX98 F1) (FX18 f2)
      have h992 : I2 99 1 = Int32.ofNat l := by rw [f2.1 99 (by omega), F1.1 99 (by omega)]; exact h99
      have g42 : am_ev env (d + 6, 47, 14, [some (.ref 99), some (.ref 1), some (.ref 5), some (.int (Int32.ofNat l))], [], am_hp I J E) = am_cont env (d + 5, 106, 0, [some (.ref 1), some (.int 59)], [], am_hp I2 J2 E2) (d + 6) 47 48 [some (.ref 99), some (.ref 1), some (.ref 5), some (.int (Int32.ofNat l))] [] := by
        refine start.trans ?_
        simp only [decide_true, decide_false, Bool.not_true, Bool.not_false, am_cont, Option.bind_some, Option.toList_some, Option.toList_none, List.singleton_append, List.nil_append, cond_true, cond_false, e1, bk_47_34, bi_t, zq_1_0, k2, bk_47_42]
      show ∃ I' J' E', _ ∧ _ ∧ cRr I' (if isg (lx c z 400 y.2.2.2) 59 = true then rRec c z 400 n k T U f (l + 1) (rug D l y.1) (lx c z 400 (lx c z 400 y.2.2.2).2.2) else .inl (1, (lx c z 400 y.2.2.2).2.1))
      have hat2 := c_at s2
      by_cases hsg : isg (lx c z 400 y.2.2.2) 59 = true
      · rw [if_pos hsg]
        obtain ⟨I3, J3, E3, k3, s3, f3, t5, t6⟩ := c_sign1 env (d + 1) z 400 hz (by omega) c (lx c z 400 y.2.2.2) 59 (by omega) (by omega) 59 rfl I2 J2 E2 s2 hsg
        have h993 : I3 99 1 = Int32.ofNat l := by rw [f3.1 99 (by omega)]; exact h992
        have fb : FX (fun q => q = 99) I3 J3 E3 (am_u I3 99 1 (Int32.ofNat (l + 1))) J3 E3 := FX_u (FX_refl _ _ _ _) _ _ _ rfl
        have F3 : FX X8 I J E (am_u I3 99 1 (Int32.ofNat (l + 1))) J3 E3 := FX_tr F2 (FX_tr (FX18 f3) (FX_mono fb (fun q hq => Or.inr ⟨by omega, by omega⟩)))
        have hk4 := (isg_f hsg).1
        have hwp := hw2.2.2.2.2.2.2.1 (by omega)
        have hwz := hw2.2.2.2.2.2.1
        have hu3 := lx_good c z 400 (lx c z 400 y.2.2.2).2.2 hwz
        have hg3 := hu3.2.2.2.2.2.2.2.1
        have cell : ∀ q i, 100 ≤ q → q ≤ 103 → am_u I3 99 1 (Int32.ofNat (l + 1)) q i = I1 q i := fun q i a b => by rw [am_u_ng _ _ _ _ _ (by omega), f3.1 q (by omega), f2.1 q (by omega)]
        obtain ⟨I4, J4, E4, e4, F4, r4⟩ := ih (l + 1) (rug D l y.1) (lx c z 400 y.2.2.2).2.2 (lx c z 400 (lx c z 400 y.2.2.2).2.2) (am_u I3 99 1 (Int32.ofNat (l + 1))) J3 E3 (CS_fx s3 fb (by omega) (by omega) (by omega)) (NMc_fx hm F3 (by omega) (by omega) (by omega)) (am_u_at _ _ _ _) (fun i hi => by
          by_cases e : i = l
          · subst e; rw [rug_eq]; exact CLn_k b3 (fun q a b => cell q _ a b)
          · rw [rug_ne _ _ _ _ e]; exact CLn_k (hln i (by omega)) (fun q a b => by rw [cell q i a b]; exact b4 q a b i e)) (by rw [am_u_ng _ _ _ _ _ (by omega), t5, t3]; exact b5) (by omega) hwz rfl (by omega)
        refine ⟨I4, J4, E4, g42.trans ?_, FX_tr F3 F4, r4⟩
        rw [am_cont_some k3]
        simp only [decide_true, decide_false, Bool.not_true, Bool.not_false, am_cont, Option.bind_some, Option.toList_some, Option.toList_none, List.singleton_append, List.nil_append, cond_true, cond_false, bk_47_48, zq_1_0, h993, zd_1]
        exact e4
      · rw [if_neg hsg]
        rw [Bool.not_eq_true] at hsg
        have e106 := c_sign0 env (d + 3) z 400 c (lx c z 400 y.2.2.2) 59 (by omega) (by omega) 59 rfl I2 J2 E2 s2 hsg
        refine ⟨stp I2 1, J2, E2, g42.trans ?_, FX_tr F2 (FX18 (stp_fx I2 J2 E2 1)), stp_3 I2 1, by rw [stp_4]; exact hat2⟩
        rw [am_cont_some e106]
        simp only [decide_true, decide_false, Bool.not_true, Bool.not_false, am_cont, Option.bind_some, Option.toList_some, Option.toList_none, List.singleton_append, List.nil_append, cond_true, cond_false, bk_47_48, zq_0_0]
theorem c_recRead (env : am_E) (d : Nat) (z : Nat) (hz : z ≤ 940) (c : Nat → Nat) (n k : Nat) (T U : Nat → List Nat) (I : Nat → Nat → Int32) (J : Nat → Nat → Int64) (E : Nat → Nat → Nat) (ht : Tp I z c) (hm : NMc I J n k T U) : ∃ I' J' E', am_ev env (d + 6, 47, 0, [some (.ref 99), some (.ref 1), some (.ref 5), none], [], am_hp I J E) = some (true, none, am_hp I' J' E') ∧ FX X8 I J E I' J' E' ∧ cRr I' (rRec c z 400 n k T U (z + 1) 0 (fun _ => (0, 0, 0, 0)) (lx c z 400 0)) := by
  have F0 : FX X8 I J E (am_u I 99 1 0) J E := FX_u (FX_refl _ _ _ _) _ _ _ (Or.inr ⟨by omega, by omega⟩)
  have t0 : Tp (am_u I 99 1 0) z c := ⟨by rw [F0.1 2 (by omega)]; exact ht.1, fun j hj => by rw [F0.1 3 (by omega)]; exact ht.2 j hj⟩
  obtain ⟨I1, J1, E1, k1, s1, f1, t3⟩ := c_begin env (d + 1) z 400 hz (by omega) 400 rfl c (am_u I 99 1 0) J E t0
  have F1 : FX X8 I J E I1 J1 E1 := FX_tr F0 (FX18 f1)
  have hle := (lx_ge c z 400 0 (Nat.zero_le _)).1
  obtain ⟨I2, J2, E2, e2, F2, r2⟩ := c_recLoop env d z hz c n k T U (z + 1) 0 (fun _ => (0, 0, 0, 0)) 0 (lx c z 400 0) I1 J1 E1 s1 (NMc_fx hm F1 (by omega) (by omega) (by omega)) (by rw [f1.1 99 (by omega), am_u_at]; rfl) (fun i hi => absurd hi (Nat.not_lt_zero _)) t3 (by omega) (Nat.zero_le _) rfl (by omega)
  refine ⟨I2, J2, E2, ?_, FX_tr F1 F2, r2⟩
  refine (bk_47_0 _ _ _ _ _ _).trans ?_
  simp only [decide_true, decide_false, Bool.not_true, Bool.not_false, am_cont, Option.bind_some, Option.toList_some, Option.toList_none, List.singleton_append, List.nil_append, cond_true, cond_false, k1, bk_47_12]
  exact e2
/-- the reference's names -/
def NMm (I : Nat → Nat → Int32) (J : Nat → Nat → Int64) (n k : Nat) (T U : Nat → List Nat) : Prop := (I 158 0 = Int32.ofNat n ∧ n ≤ 8) ∧ (I 158 2 = Int32.ofNat k ∧ k ≤ 6) ∧ (∀ b, b < n → gw (T b) ∧ J 163 b = Int64.ofNat (pk 27 (T b))) ∧ ∀ r, r < k → gw (U r) ∧ J 163 (8 + r) = Int64.ofNat (pk 27 (U r))
theorem NMm_gm {X C : Nat → Prop} {I I1 : Nat → Nat → Int32} {J J1 : Nat → Nat → Int64} {n k : Nat} {T U : Nat → List Nat} (h : NMm I J n k T U) (hf : GM X C I J I1 J1) (h1 : ¬ X 158) (h2 : ¬ X 163) : NMm I1 J1 n k T U := by
  obtain ⟨a1, a2, a3, a4⟩ := h
  exact ⟨by rw [hf.1 158 (by omega) h1]; exact a1, by rw [hf.1 158 (by omega) h1]; exact a2, fun b hb => by rw [hf.2.2 163 (by omega) h2]; exact a3 b hb, fun b hb => by rw [hf.2.2 163 (by omega) h2]; exact a4 b hb⟩
/-- a name out of a table: found or not -/
theorem m_named (env : am_E) (d : Nat) (z lim : Nat) (hz : z ≤ 940) (hlim : lim ≤ 1000) (c : Nat → Nat) (u : Cu) (base n : Nat) (hb : base + n ≤ 14) (T : Nat → List Nat) (x y : Int32) (hx : x = Int32.ofNat base) (hy : y = Int32.ofNat n) (I : Nat → Nat → Int32) (J : Nat → Nat → Int64) (E : Nat → Nat → Nat) (h : MS I J z c lim u) (hT : ∀ b, b < n → gw (T b) ∧ J 163 (base + b) = Int64.ofNat (pk 27 (T b))) : (fnB T n u = 0 → ∃ I' J', am_ev env (d + 4, 280, 0, [some (.ref 156), some (.int x), some (.int y)], [], am_hp I J E) = some (true, some (.int 1), am_hp I' J' E) ∧ MS I' J' z c lim (lx c z lim u.2.2) ∧ I' 156 13 = Int32.ofNat (fdx T u.1.2.1 n - 1) ∧ GM X0 C5t I J I' J') ∧ (fnB T n u ≠ 0 → ∃ I', am_ev env (d + 4, 280, 0, [some (.ref 156), some (.int x), some (.int y)], [], am_hp I J E) = some (true, some (.int 0), am_hp I' J E) ∧ I' 156 10 = Int32.ofNat (fnB T n u) ∧ I' 156 11 = Int32.ofNat u.2.1 ∧ GM X0 C13 I J I' J) := by
  have b1 := fdx_le T u.1.2.1 n
  have start := bk_280_0 env (d + 3) x y I J E
  simp only [decide_true, decide_false, Bool.not_true, Bool.not_false, am_cont, Option.bind_some, Option.toList_some, Option.toList_none, List.singleton_append, List.nil_append, cond_true, cond_false, m_isName env _ z lim c u I J E h, bk_280_4, bi_eq0, Bool.not_not] at start
  have hat := m_at h
  by_cases hn : isn u = true
  · obtain ⟨n1, n2⟩ := m_name h hn
    have f1 := m_findIn env (d + 2) 163 base n 14 k163.1 k163.2.1 k163.2.2 hb (by omega) x y hx hy T u.1.2.1 n2 (fun b hb => (hT b hb).1) I J E (fun b hb => (hT b hb).2)
    rw [hn, n1] at start
    simp only [decide_true, decide_false, Bool.not_true, Bool.not_false, am_cont, Option.bind_some, Option.toList_some, Option.toList_none, List.singleton_append, List.nil_append, cond_true, cond_false, f1, bk_280_27, am_u_at, bv_m1 _ (show fdx T u.1.2.1 n < 100000 by omega)] at start
    unfold fnB
    rw [if_pos hn]
    by_cases q1 : fdx T u.1.2.1 n = 0
    · refine ⟨fun e => by rw [if_pos q1] at e; omega, fun _ => ?_⟩
      rw [if_pos q1]
      have mb := m_bad env (d + 2) z lim c u 3 (am_u I 156 13 (-1)) J E (MS13 h _) (Or.inl (by have := (isn_f hn).1; omega))
      refine ⟨mbd (am_u I 156 13 (-1)) 3, start.trans ?_, mbd_10 _ _, by rw [mbd_11, am_u_sg, if_neg (by omega)]; exact hat, GM_tr (GM_mono (GM1t I J (-1)) (fun q hq => hq) (fun j hj => by unfold C5t at hj; unfold C13; omega)) (mbd_gm _ _ _)⟩
      rw [q1]
      simp only [decide_true, decide_false, Bool.not_true, Bool.not_false, am_cont, Option.bind_some, Option.toList_some, Option.toList_none, List.singleton_append, List.nil_append, cond_true, cond_false, show bv 0 = -1 from rfl, mb, bk_280_43]
      rfl
    · refine ⟨fun _ => ?_, fun e => by rw [if_neg q1] at e; exact absurd rfl e⟩
      have hbv : bv (fdx T u.1.2.1 n) = Int32.ofNat (fdx T u.1.2.1 n - 1) := by unfold bv; rw [if_neg q1]
      obtain ⟨I', J', k1, k2, k3⟩ := m_nx env (d + 1) z lim hz hlim c u (am_u I 156 13 (Int32.ofNat (fdx T u.1.2.1 n - 1))) J E (MS13 h _)
      refine ⟨I', J', start.trans ?_, k2, by rw [k3.2.1 13 (by unfold C5; omega), am_u_at], GM_tr (GM1t I J _) (GM_mono k3 (fun q hq => hq) (fun j hj => Or.inl hj))⟩
      rw [decide_eq_false q1, hbv]
      simp only [decide_true, decide_false, Bool.not_true, Bool.not_false, am_cont, Option.bind_some, Option.toList_some, Option.toList_none, List.singleton_append, List.nil_append, cond_true, cond_false, k1, bk_280_48]
  · refine ⟨fun e => by unfold fnB at e; rw [if_neg hn] at e; omega, fun _ => ?_⟩
    unfold fnB
    rw [if_neg hn]
    rw [Bool.not_eq_true] at hn
    have mb := m_bad env (d + 2) z lim c u 1 I J E h (Or.inr rfl)
    refine ⟨mbd I 1, start.trans ?_, mbd_10 _ _, by rw [mbd_11]; exact hat, mbd_gm _ _ _⟩
    rw [hn]
    simp only [decide_true, decide_false, Bool.not_true, Bool.not_false, am_cont, Option.bind_some, Option.toList_some, Option.toList_none, List.singleton_append, List.nil_append, cond_true, cond_false, mb, bk_280_12]
    rfl
theorem m_bookName (env : am_E) (d : Nat) (z lim : Nat) (hz : z ≤ 940) (hlim : lim ≤ 1000) (c : Nat → Nat) (u : Cu) (n k : Nat) (T U : Nat → List Nat) (I : Nat → Nat → Int32) (J : Nat → Nat → Int64) (E : Nat → Nat → Nat) (h : MS I J z c lim u) (hm : NMm I J n k T U) : (fnB T n u = 0 → ∃ I' J', am_ev env (d + 5, 281, 0, [some (.ref 156)], [], am_hp I J E) = some (true, some (.int 1), am_hp I' J' E) ∧ MS I' J' z c lim (lx c z lim u.2.2) ∧ I' 156 13 = Int32.ofNat (fdx T u.1.2.1 n - 1) ∧ GM X0 C5t I J I' J') ∧ (fnB T n u ≠ 0 → ∃ I', am_ev env (d + 5, 281, 0, [some (.ref 156)], [], am_hp I J E) = some (true, some (.int 0), am_hp I' J E) ∧ I' 156 10 = Int32.ofNat (fnB T n u) ∧ I' 156 11 = Int32.ofNat u.2.1 ∧ GM X0 C13 I J I' J) := by
  have hn := hm.1.2
  obtain ⟨g1, g0⟩ := m_named env d z lim hz hlim c u 0 n (by omega) T 0 (I 158 0) rfl hm.1.1 I J E h (fun b hb => by rw [Nat.zero_add]; exact hm.2.2.1 b hb)
  refine ⟨fun e => ?_, fun e => ?_⟩
  · obtain ⟨I', J', k1, k2⟩ := g1 e
    refine ⟨I', J', (bk_281_0 _ _ _ _ _).trans ?_, k2⟩
    simp only [decide_true, decide_false, Bool.not_true, Bool.not_false, am_cont, Option.bind_some, Option.toList_some, Option.toList_none, List.singleton_append, List.nil_append, cond_true, cond_false, k1, bk_281_11]; rfl
  · obtain ⟨I', k1, k2⟩ := g0 e
    refine ⟨I', (bk_281_0 _ _ _ _ _).trans ?_, k2⟩
    simp only [decide_true, decide_false, Bool.not_true, Bool.not_false, am_cont, Option.bind_some, Option.toList_some, Option.toList_none, List.singleton_append, List.nil_append, cond_true, cond_false, k1, bk_281_11]; rfl
theorem m_keep1 (env : am_E) (d : Nat) (a : Nat) (ha : a < 160) (I : Nat → Nat → Int32) (J : Nat → Nat → Int64) (E : Nat → Nat → Nat) : am_ev env (d + 1, 279, 0, [some (.ref 156), some (.int (Int32.ofNat a)), some (.int 1)], [], am_hp I J E) = some (true, some (.int 1), am_hp (am_u I 175 a (I 156 13)) J E) := by
  refine (bk_279_0 _ _ _ _ _ _ _).trans ?_
  rw [zI_in a 160 ha (by omega), zI_nat a (by omega)]
  simp only [zq_1_0, decide_true, decide_false, Bool.not_true, Bool.not_false, am_cont, Option.bind_some, Option.toList_some, Option.toList_none, List.singleton_append, List.nil_append, cond_true, cond_false, bk_279_14]
  rfl
theorem m_keep0 (env : am_E) (d : Nat) (x : Int32) (I : Nat → Nat → Int32) (J : Nat → Nat → Int64) (E : Nat → Nat → Nat) : am_ev env (d + 1, 279, 0, [some (.ref 156), some (.int x), some (.int 0)], [], am_hp I J E) = some (true, some (.int 0), am_hp I J E) := by
  refine (bk_279_0 _ _ _ _ _ _ _).trans ?_
  simp only [zq_0_0, decide_true, decide_false, Bool.not_true, Bool.not_false, am_cont, Option.bind_some, Option.toList_some, Option.toList_none, List.singleton_append, List.nil_append, cond_true, cond_false, bk_279_14]
  rfl
abbrev X175 : Nat → Prop := fun q => q = 175
theorem GMk (I : Nat → Nat → Int32) (J : Nat → Nat → Int64) (k : Nat) (v : Int32) : GM X175 C13 I J (am_u I 175 k v) J := ⟨fun _ _ hr => am_u_ng _ _ _ _ _ hr, fun j _ => by rw [am_u_ng _ _ _ _ _ (by omega)], fun _ _ _ => rfl⟩
theorem GMk0 (I : Nat → Nat → Int32) (J : Nat → Nat → Int64) (k : Nat) (v : Int32) : GM X175 (fun _ => False) I J (am_u I 175 k v) J := ⟨fun _ _ hr => am_u_ng _ _ _ _ _ hr, fun j _ => by rw [am_u_ng _ _ _ _ _ (by omega)], fun _ _ _ => rfl⟩
theorem GMx5 {I I1 : Nat → Nat → Int32} {J J1 : Nat → Nat → Int64} (h : GM X0 C5 I J I1 J1) : GM X175 C13 I J I1 J1 := GM_mono h (fun q hq => hq.elim) (fun j hj => ⟨hj.1, by omega⟩)
theorem GMx5t {I I1 : Nat → Nat → Int32} {J J1 : Nat → Nat → Int64} (h : GM X0 C5t I J I1 J1) : GM X175 C13 I J I1 J1 := GM_mono h (fun q hq => hq.elim) (fun j hj => by unfold C5t at hj; unfold C13; omega)
theorem GMx13 {I I1 : Nat → Nat → Int32} {J J1 : Nat → Nat → Int64} (h : GM X0 C13 I J I1 J1) : GM X175 C13 I J I1 J1 := GM_mono h (fun q hq => hq.elim) (fun j hj => hj)
def mDo (I0 I : Nat → Nat → Int32) (J : Nat → Nat → Int64) (z : Nat) (c : Nat → Nat) (lim a : Nat) (b : Bool) (res : RLr) : Prop := match res with
  | .inl x => b = false ∧ I 156 10 = Int32.ofNat x.1 ∧ I 156 11 = Int32.ofNat x.2
  | .inr y => b = true ∧ MS I J z c lim (lx c z lim y.2.2.2) ∧ I 175 a = Int32.ofNat y.1.1 ∧ I 175 (a + 2) = Int32.ofNat y.1.2.2.1 ∧ I 175 (a + 3) = Int32.ofNat y.1.2.2.2 ∧ (∀ j, j ≠ a → j ≠ a + 2 → j ≠ a + 3 → I 175 j = I0 175 j) ∧ I 156 10 = 0
theorem m_readDoes (env : am_E) (d : Nat) (z lim : Nat) (hz : z ≤ 940) (hlim : lim ≤ 1000) (c : Nat → Nat) (u : Cu) (n k : Nat) (T U : Nat → List Nat) (a r : Nat) (ha : a + 3 < 160) (I : Nat → Nat → Int32) (J : Nat → Nat → Int64) (E : Nat → Nat → Nat) (h : MS I J z c lim u) (hm : NMm I J n k T U) (h2 : I 175 (a + 2) = 0) (h3 : I 175 (a + 3) = 0) (hf : I 156 10 = 0) : ∃ b I' J', am_ev env (d + 6, 282, 0, [some (.ref 156), some (.int (Int32.ofNat a)), none], [], am_hp I J E) = some (true, some (.int (bi b)), am_hp I' J' E) ∧ GM X175 C13 I J I' J' ∧ mDo I I' J' z c lim a b (rDeed c z lim n k T U r u) := by
  have w4 := m_isWord env (d + 2) z lim c u 4 (by omega) 4 rfl I J E h
  have w5 := m_isWord env (d + 2) z lim c u 5 (by omega) 5 rfl I J E h
  have w6 := m_isWord env (d + 2) z lim c u 6 (by omega) 6 rfl I J E h
  have hat := m_at h
  have to22 : am_ev env (d + 6, 282, 0, [some (.ref 156), some (.int (Int32.ofNat a)), none], [], am_hp I J E) = am_ev env (d + 6, 282, 22, [some (.ref 156), some (.int (Int32.ofNat a)), some (.int (if 5 ≤ kw u ∧ kw u ≤ 7 then Int32.ofNat (kw u - 1) else 7))], [], am_hp I J E) := by
    refine (bk_282_0 _ _ _ _ _ _).trans ?_
    refine (bk_282_2 _ _ _ _ _ _ _).trans ?_
    rw [show decide ((6 : Int32) < 4) = false by decide]
    simp only [decide_true, decide_false, Bool.not_true, Bool.not_false, am_cont, Option.bind_some, Option.toList_some, Option.toList_none, List.singleton_append, List.nil_append, cond_true, cond_false, w4, bk_282_13, bi_eq0, Bool.not_not]
    by_cases q5 : kw u = 5
    · rw [decide_eq_true (show kw u = 4 + 1 from q5), if_pos (by omega), q5]; rfl
    rw [decide_eq_false (show ¬ kw u = 4 + 1 from q5)]
    simp only [decide_true, decide_false, Bool.not_true, Bool.not_false, am_cont, Option.bind_some, Option.toList_some, Option.toList_none, List.singleton_append, List.nil_append, cond_true, cond_false]
    refine (bk_282_2 _ _ _ _ _ _ _).trans ?_
    rw [show decide ((6 : Int32) < 4 + 1) = false by decide, show (4 : Int32) + 1 = 5 by decide]
    simp only [decide_true, decide_false, Bool.not_true, Bool.not_false, am_cont, Option.bind_some, Option.toList_some, Option.toList_none, List.singleton_append, List.nil_append, cond_true, cond_false, w5, bk_282_13, bi_eq0, Bool.not_not]
    by_cases q6 : kw u = 6
    · rw [decide_eq_true (show kw u = 5 + 1 from q6), if_pos (by omega), q6]; rfl
    rw [decide_eq_false (show ¬ kw u = 5 + 1 from q6)]
    simp only [decide_true, decide_false, Bool.not_true, Bool.not_false, am_cont, Option.bind_some, Option.toList_some, Option.toList_none, List.singleton_append, List.nil_append, cond_true, cond_false]
    refine (bk_282_2 _ _ _ _ _ _ _).trans ?_
    rw [show decide ((6 : Int32) < 5 + 1) = false by decide, show (5 : Int32) + 1 = 6 by decide]
    simp only [decide_true, decide_false, Bool.not_true, Bool.not_false, am_cont, Option.bind_some, Option.toList_some, Option.toList_none, List.singleton_append, List.nil_append, cond_true, cond_false, w6, bk_282_13, bi_eq0, Bool.not_not]
    by_cases q7 : kw u = 7
    · rw [decide_eq_true (show kw u = 6 + 1 from q7), if_pos (by omega), q7]; rfl
    rw [decide_eq_false (show ¬ kw u = 6 + 1 from q7), if_neg (by omega)]
    simp only [decide_true, decide_false, Bool.not_true, Bool.not_false, am_cont, Option.bind_some, Option.toList_some, Option.toList_none, List.singleton_append, List.nil_append, cond_true, cond_false]
    refine (bk_282_2 _ _ _ _ _ _ _).trans ?_
    rw [show decide ((6 : Int32) < 6 + 1) = true by decide]
    rfl
  unfold rDeed
  by_cases hg : 5 ≤ kw u ∧ kw u ≤ 7
  rotate_left
  · rw [if_neg (by omega), if_pos (by omega)]
    rw [if_neg hg] at to22
    have mb := m_bad env (d + 4) z lim c u 1 I J E h (Or.inr rfl)
    refine ⟨false, mbd I 1, J, to22.trans ?_, GMx13 (mbd_gm _ _ _), rfl, mbd_10 _ _, by rw [mbd_11]; exact hat⟩
    refine (bk_282_22 _ _ _ _ _ _ _).trans ?_
    rw [show decide ((7 : Int32) ≤ 6) = false by decide]
    simp only [decide_true, decide_false, Bool.not_true, Bool.not_false, am_cont, Option.bind_some, Option.toList_some, Option.toList_none, List.singleton_append, List.nil_append, cond_true, cond_false, mb, bk_282_33]; rfl
  rw [if_pos hg] at to22
  obtain ⟨I1, J1, k1, s1, f1⟩ := m_nx env (d + 3) z lim hz hlim c u (am_u I 175 a (Int32.ofNat (kw u - 5))) J E (MS_gm h (GMk0 I J a (Int32.ofNat (kw u - 5))) (fun _ _ q => q) (by omega) rfl)
  have F1 : GM X175 C13 I J I1 J1 := GM_tr (GMk I J a _) (GMx5 f1)
  have m1 := NMm_gm hm F1 (by omega) (by omega)
  have r175 : I1 175 = am_u I 175 a (Int32.ofNat (kw u - 5)) 175 := f1.1 175 (by omega) (fun q => q)
  have f10 : I1 156 10 = 0 := by rw [f1.2.1 10 (by unfold C5; omega), am_u_ng _ _ _ _ _ (by omega)]; exact hf
  have g47 : am_ev env (d + 6, 282, 0, [some (.ref 156), some (.int (Int32.ofNat a)), none], [], am_hp I J E) = am_ev env (d + 6, 282, 47, [some (.ref 156), some (.int (Int32.ofNat a)), some (.int (Int32.ofNat (kw u - 1)))], [], am_hp I1 J1 E) := by
    refine to22.trans ((bk_282_22 _ _ _ _ _ _ _).trans ?_)
    rw [show decide (Int32.ofNat (kw u - 1) ≤ (6 : Int32)) = true from zle_t _ 6 (by omega) (by omega), show Int32.ofNat (kw u - 1) - 4 = Int32.ofNat (kw u - 1 - 4) from zI_sub _ 4 (by omega), show kw u - 1 - 4 = kw u - 5 by omega, zI_in a 160 (by omega) (by omega), zI_nat a (by omega)]
    simp only [decide_true, decide_false, Bool.not_true, Bool.not_false, am_cont, Option.bind_some, Option.toList_some, Option.toList_none, List.singleton_append, List.nil_append, cond_true, cond_false, k1]
  have g47b := bk_282_47 env (d + 5) (Int32.ofNat a) (Int32.ofNat (kw u - 1)) I1 J1 E
  have ra : I1 175 a = Int32.ofNat (kw u - 5) := by rw [r175, am_u_at]
  rw [zI_in a 160 (by omega) (by omega), zI_nat a (by omega), ra, show decide (Int32.ofNat (kw u - 5) = (0 : Int32)) = decide (kw u = 5) from (zI_deq _ 0 (by omega) (by omega)).trans (decide_eq_decide.mpr (by omega)), show decide (Int32.ofNat (kw u - 5) = (2 : Int32)) = decide (kw u = 7) from (zI_deq _ 2 (by omega) (by omega)).trans (decide_eq_decide.mpr (by omega))] at g47b
  have oth : ∀ j, j ≠ a → I1 175 j = I 175 j := fun j hj => by rw [r175, am_u_sg, if_neg hj]
  by_cases h6 : kw u = 6
  · rw [if_pos h6]
    refine ⟨true, I1, J1, g47.trans (g47b.trans ?_), F1, rfl, s1, by rw [ra, h6], by rw [oth _ (by omega), h2]; rfl, by rw [oth _ (by omega), h3]; rfl, fun j q1 _ _ => oth j q1, f10⟩
    rw [decide_eq_false (by omega : ¬ kw u = 5), decide_eq_false (by omega : ¬ kw u = 7)]; rfl
  rw [if_neg h6, if_neg (by omega)]
  obtain ⟨n1, n0⟩ := m_bookName env d z lim hz hlim c (lx c z lim u.2.2) n k T U I1 J1 E s1 m1
  by_cases hb0 : fnB T n (lx c z lim u.2.2) = 0
  rotate_left
  · rw [if_pos hb0]
    obtain ⟨I2, k2, b2, b3, f2⟩ := n0 hb0
    refine ⟨false, I2, J1, g47.trans (g47b.trans ?_), GM_tr F1 (GMx13 f2), rfl, b2, b3⟩
    by_cases h5 : kw u = 5
    · rw [decide_eq_true h5]
      simp only [decide_true, decide_false, Bool.not_true, Bool.not_false, am_cont, Option.bind_some, Option.toList_some, Option.toList_none, List.singleton_append, List.nil_append, cond_true, cond_false, k2, bk_282_88, m_keep0, bk_282_91]; rfl
    · rw [decide_eq_false h5, decide_eq_true (by omega : kw u = 7)]
      simp only [decide_true, decide_false, Bool.not_true, Bool.not_false, am_cont, Option.bind_some, Option.toList_some, Option.toList_none, List.singleton_append, List.nil_append, cond_true, cond_false, k2, bk_282_100, m_keep0, bk_282_103, zq_0_0, bk_282_132, bk_282_133]; rfl
  rw [if_neg (fun q => q hb0)]
  obtain ⟨I2, J2, k2, s2, t2, f2⟩ := n1 hb0
  generalize fdx T (lx c z lim u.2.2).1.2.1 n - 1 = B at t2 ⊢
  have mk := m_keep1 env (d + 4) (a + 2) (by omega) I2 J2 E
  rw [t2] at mk
  have r2 : I2 175 = I1 175 := f2.1 175 (by omega) (fun q => q)
  have f102 : I2 156 10 = 0 := by rw [f2.2.1 10 (by unfold C5t; omega)]; exact f10
  have F2 : GM X175 C13 I J (am_u I2 175 (a + 2) (Int32.ofNat B)) J2 := GM_tr F1 (GM_tr (GMx5t f2) (GMk _ _ _ _))
  have s2a : MS (am_u I2 175 (a + 2) (Int32.ofNat B)) J2 z c lim (lx c z lim (lx c z lim u.2.2).2.2) := MS_gm s2 (GMk0 I2 J2 _ _) (fun _ _ q => q) (by omega) rfl
  by_cases h5 : kw u = 5
  · rw [if_pos h5]
    refine ⟨true, am_u I2 175 (a + 2) (Int32.ofNat B), J2, g47.trans (g47b.trans ?_), F2, rfl, s2a, ?_, ?_, ?_, fun j q1 q2 q3 => ?_, ?_⟩
    · rw [decide_eq_true h5]
      simp only [decide_true, decide_false, Bool.not_true, Bool.not_false, am_cont, Option.bind_some, Option.toList_some, Option.toList_none, List.singleton_append, List.nil_append, cond_true, cond_false, k2, bk_282_88, zd_2, mk, bk_282_91]; rfl
    · rw [am_u_sg, if_neg (by omega), r2, ra, h5]
    · rw [am_u_at]
    · rw [am_u_sg, if_neg (by omega), r2, oth _ (by omega), h3]; rfl
    · rw [am_u_sg, if_neg q2, r2, oth j q1]
    · rw [am_u_ng _ _ _ _ _ (by omega)]; exact f102
  rw [if_neg h5]
  have m2 := NMm_gm hm F2 (by omega) (by omega)
  have hk6 := hm.2.1.2
  obtain ⟨p1, p0⟩ := m_named env (d + 1) z lim hz hlim c (lx c z lim (lx c z lim u.2.2).2.2) 8 k (by omega) U 8 (am_u I2 175 (a + 2) (Int32.ofNat B) 158 2) rfl m2.2.1.1 (am_u I2 175 (a + 2) (Int32.ofNat B)) J2 E s2a (fun r hr => m2.2.2.2 r hr)
  have g103 : am_ev env (d + 6, 282, 0, [some (.ref 156), some (.int (Int32.ofNat a)), none], [], am_hp I J E) = am_cont env (d + 5, 280, 0, [some (.ref 156), some (.int 8), some (.int (am_u I2 175 (a + 2) (Int32.ofNat B) 158 2))], [], am_hp (am_u I2 175 (a + 2) (Int32.ofNat B)) J2 E) (d + 6) 282 122 [some (.ref 156), some (.int (Int32.ofNat a)), some (.int (Int32.ofNat (kw u - 1)))] [.int (Int32.ofNat (a + 3)), .ref 156] := by
    refine g47.trans (g47b.trans ?_)
    rw [decide_eq_false h5, decide_eq_true (by omega : kw u = 7)]
    simp only [decide_true, decide_false, Bool.not_true, Bool.not_false, am_cont, Option.bind_some, Option.toList_some, Option.toList_none, List.singleton_append, List.nil_append, cond_true, cond_false, k2, bk_282_100, zd_2, mk, bk_282_103, zq_1_0, zd_3]
  by_cases hr0 : fnB U k (lx c z lim (lx c z lim u.2.2).2.2) = 0
  rotate_left
  · rw [if_pos hr0]
    obtain ⟨I3, k3, b2, b3, f3⟩ := p0 hr0
    refine ⟨false, I3, J2, g103.trans ?_, GM_tr F2 (GMx13 f3), rfl, b2, b3⟩
    rw [am_cont_some k3]
    simp only [decide_true, decide_false, Bool.not_true, Bool.not_false, am_cont, Option.bind_some, Option.toList_some, Option.toList_none, List.singleton_append, List.nil_append, cond_true, cond_false, bk_282_122, m_keep0, bk_282_125, zq_0_0, bk_282_132, bk_282_133]; rfl
  rw [if_neg (fun q => q hr0)]
  obtain ⟨I3, J3, k3, s3, t3, f3⟩ := p1 hr0
  generalize fdx U (lx c z lim (lx c z lim u.2.2).2.2).1.2.1 k - 1 = Q at t3 ⊢
  have mk3 := m_keep1 env (d + 4) (a + 3) (by omega) I3 J3 E
  rw [t3] at mk3
  have r3 : I3 175 = am_u I2 175 (a + 2) (Int32.ofNat B) 175 := f3.1 175 (by omega) (fun q => q)
  refine ⟨true, am_u I3 175 (a + 3) (Int32.ofNat Q), J3, g103.trans ?_, GM_tr F2 (GM_tr (GMx5t f3) (GMk _ _ _ _)), rfl, MS_gm s3 (GMk0 I3 J3 _ _) (fun _ _ q => q) (by omega) rfl, ?_, ?_, ?_, fun j q1 q2 q3 => ?_, ?_⟩
  · rw [am_cont_some k3]
    simp only [decide_true, decide_false, Bool.not_true, Bool.not_false, am_cont, Option.bind_some, Option.toList_some, Option.toList_none, List.singleton_append, List.nil_append, cond_true, cond_false, bk_282_122, mk3, bk_282_125, zq_1_0, bk_282_133]; rfl
  · rw [am_u_sg, if_neg (by omega), r3, am_u_sg, if_neg (by omega), r2, ra, show kw u - 5 = 2 by omega]
  · rw [am_u_sg, if_neg (by omega), r3, am_u_at]
  · rw [am_u_at]
  · rw [am_u_sg, if_neg q3, r3, am_u_sg, if_neg q2, r2, oth j q1]
  · rw [am_u_ng _ _ _ _ _ (by omega), f3.2.1 10 (by unfold C5t; omega), am_u_ng _ _ _ _ _ (by omega)]; exact f102
