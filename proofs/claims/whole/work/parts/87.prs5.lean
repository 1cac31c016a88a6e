/-! a LIBRARY as numbers; the class reads one -/
theorem lx_ge (c : Nat → Nat) (z lim p : Nat) (hp : p ≤ z) : p ≤ (lx c z lim p).2.2 ∧ (lx c z lim p).2.2 ≤ z := ⟨(lx_good c z lim p hp).2.2.2.2.2.2.2.1, lx_le c z lim p hp⟩
theorem pn_in (u : Cu) (a b : Nat) (h : pn u a b ≠ 0) : 1 ≤ pn u a b ∧ pn u a b ≤ 4 := by
  unfold pn at h ⊢
  by_cases h3 : u.1.1 = 3
  · rw [if_pos h3] at h ⊢
    by_cases q : a ≤ u.1.2.2 ∧ u.1.2.2 ≤ b
    · rw [if_pos q] at h; exact absurd rfl h
    · rw [if_neg q]; omega
  · rw [if_neg h3]; omega
theorem lx_at (c : Nat → Nat) (z lim p : Nat) (hp : p ≤ z) : (lx c z lim p).2.1 ≤ lim := (lx_good c z lim p hp).2.2.2.2.1
/-- what is so of a line's end -/
def plo (z lim : Nat) (S : Lby) (u : Cu) (r : PLr) : Prop := match r with
  | .inl x => 1 ≤ x.1 ∧ x.1 ≤ 4 ∧ x.2 ≤ lim
  | .inr y => u.2.2 ≤ y.2.2.2 ∧ y.2.2.2 ≤ z ∧ LWy y.1
theorem IvL_book {m : Nat → Int32} {n k : Nat} (h : IvL m n k) (hn : n < 8) (h0 : m (20 + n) = 0) (x y : Nat) (hx : 1 ≤ x ∧ x ≤ 99) (hy : y ≤ 9) : IvL (ru (ru (ru m (4 + n) (Int32.ofNat x)) (12 + n) (Int32.ofNat y)) 0 (Int32.ofNat (n + 1))) (n + 1) k := by
  obtain ⟨⟨a1, a2⟩, ⟨b1, b2⟩, ⟨f, c1, c2⟩, d1, e1, g1, i1⟩ := h
  refine ⟨⟨ru_eq _ _ _, by omega⟩, ⟨by rw [ru_ne _ _ _ _ (by omega), ru_ne _ _ _ _ (by omega), ru_ne _ _ _ _ (by omega)]; exact b1, b2⟩, ⟨f, c1, by rw [ru_ne _ _ _ _ (by omega), ru_ne _ _ _ _ (by omega), ru_ne _ _ _ _ (by omega)]; exact c2⟩, ?_, ?_, ?_, ?_⟩
  · intro b hb
    rw [ru_ne _ _ _ _ (by omega), ru_ne _ _ _ _ (by omega)]
    by_cases e : b = n
    · subst e; rw [ru_eq]; exact ⟨x, hx.1, hx.2, rfl⟩
    · rw [ru_ne _ _ _ _ (by omega)]; exact d1 b (by omega)
  · intro b hb
    rw [ru_ne _ _ _ _ (by omega)]
    by_cases e : b = n
    · subst e; rw [ru_eq]; exact ⟨y, hy, rfl⟩
    · rw [ru_ne _ _ _ _ (by omega), ru_ne _ _ _ _ (by omega)]; exact e1 b (by omega)
  · intro b hb
    rw [ru_ne _ _ _ _ (by omega), ru_ne _ _ _ _ (by omega), ru_ne _ _ _ _ (by omega)]
    by_cases e : b = n
    · subst e; rw [h0]; exact ⟨fun k hk => (by rw [bt_zero] at hk; cases hk), bt_zero _⟩
    · exact ⟨fun k hk => by have := (g1 b (by omega)).1 k hk; omega, (g1 b (by omega)).2⟩
  · intro r hr
    rw [ru_ne _ _ _ _ (by omega), ru_ne _ _ _ _ (by omega), ru_ne _ _ _ _ (by omega)]; exact i1 r hr
theorem IvL_after {m : Nat → Int32} {n k : Nat} (h : IvL m n k) (a b : Nat) (ha : a < n) (hb : b < n) (hab : a ≠ b) (v : Int32) : IvL (ru (ru m (20 + a) (m (20 + a) ||| bit1 b)) 1 v) n k := by
  obtain ⟨⟨a1, a2⟩, ⟨b1, b2⟩, ⟨f, c1, c2⟩, d1, e1, g1, i1⟩ := h
  refine ⟨⟨by rw [ru_ne _ _ _ _ (by omega), ru_ne _ _ _ _ (by omega)]; exact a1, a2⟩, ⟨by rw [ru_ne _ _ _ _ (by omega), ru_ne _ _ _ _ (by omega)]; exact b1, b2⟩, ⟨f, c1, by rw [ru_ne _ _ _ _ (by omega), ru_ne _ _ _ _ (by omega)]; exact c2⟩, ?_, ?_, ?_, ?_⟩
  · intro x hx; rw [ru_ne _ _ _ _ (by omega), ru_ne _ _ _ _ (by omega)]; exact d1 x hx
  · intro x hx; rw [ru_ne _ _ _ _ (by omega), ru_ne _ _ _ _ (by omega)]; exact e1 x hx
  · intro x hx
    rw [ru_ne _ 1 _ _ (by omega)]
    by_cases e : x = a
    · subst e
      rw [ru_eq]
      refine ⟨fun j hj => ?_, ?_⟩
      · rw [bt_or, bt_one b j (by omega)] at hj
        rcases or_f hj with q | q
        · exact (g1 x hx).1 j q
        · have := of_decide_eq_true q; omega
      · rw [bt_or, bt_one b x (by omega), (g1 x hx).2, decide_eq_false hab]; rfl
    · rw [ru_ne _ _ _ _ (by omega)]; exact g1 x hx
  · intro x hx; rw [ru_ne _ _ _ _ (by omega), ru_ne _ _ _ _ (by omega)]; exact i1 x hx
theorem IvL_reader {m : Nat → Int32} {n k : Nat} (h : IvL m n k) (hk : k < 6) (x : Nat) (hx : 1 ≤ x ∧ x ≤ 30) : IvL (ru (ru m (28 + k) (Int32.ofNat x)) 2 (Int32.ofNat (k + 1))) n (k + 1) := by
  obtain ⟨⟨a1, a2⟩, ⟨b1, b2⟩, ⟨f, c1, c2⟩, d1, e1, g1, i1⟩ := h
  refine ⟨⟨by rw [ru_ne _ _ _ _ (by omega), ru_ne _ _ _ _ (by omega)]; exact a1, a2⟩, ⟨ru_eq _ _ _, by omega⟩, ⟨f, c1, by rw [ru_ne _ _ _ _ (by omega), ru_ne _ _ _ _ (by omega)]; exact c2⟩, ?_, ?_, ?_, ?_⟩
  · intro x hx; rw [ru_ne _ _ _ _ (by omega), ru_ne _ _ _ _ (by omega)]; exact d1 x hx
  · intro x hx; rw [ru_ne _ _ _ _ (by omega), ru_ne _ _ _ _ (by omega)]; exact e1 x hx
  · intro x hx; rw [ru_ne _ _ _ _ (by omega), ru_ne _ _ _ _ (by omega)]; exact g1 x hx
  · intro r hr
    rw [ru_ne _ _ _ _ (by omega)]
    by_cases e : r = k
    · subst e; rw [ru_eq]; exact ⟨x, hx.1, hx.2, rfl⟩
    · rw [ru_ne _ _ _ _ (by omega)]; exact i1 r (by omega)
theorem IvL_fine {m : Nat → Int32} {n k : Nat} (h : IvL m n k) (x : Nat) (hx : x ≤ 30) : IvL (ru m 3 (Int32.ofNat x)) n k := by
  obtain ⟨⟨a1, a2⟩, ⟨b1, b2⟩, ⟨f, c1, c2⟩, d1, e1, g1, i1⟩ := h
  refine ⟨⟨by rw [ru_ne _ _ _ _ (by omega)]; exact a1, a2⟩, ⟨by rw [ru_ne _ _ _ _ (by omega)]; exact b1, b2⟩, ⟨x, hx, ru_eq _ _ _⟩, ?_, ?_, ?_, ?_⟩
  · intro x hx; rw [ru_ne _ _ _ _ (by omega)]; exact d1 x hx
  · intro x hx; rw [ru_ne _ _ _ _ (by omega)]; exact e1 x hx
  · intro x hx; rw [ru_ne _ _ _ _ (by omega)]; exact g1 x hx
  · intro x hx; rw [ru_ne _ _ _ _ (by omega)]; exact i1 x hx
theorem pLine_o (c : Nat → Nat) (z lim : Nat) (S : Lby) (u : Cu) (hu : u.2.2 ≤ z) (hat : u.2.1 ≤ lim) (hw : LWy S) : plo z lim S u (pLine c z lim S u) := by
  obtain ⟨n, f, k, o, T, U, m⟩ := S
  obtain ⟨w1, w2, w3, w4, w5, w6⟩ := hw
  dsimp only at w1 w2 w3 w4 w5 w6
  have hn8 := w1.1.2
  have hk6 := w1.2.1.2
  obtain ⟨p1, q1⟩ := lx_ge c z lim u.2.2 hu
  have g1 := tg_lx c z lim u.2.2 hu
  have a1 := lx_at c z lim u.2.2 hu
  obtain ⟨p2, q2⟩ := lx_ge c z lim _ q1
  have a2 := lx_at c z lim _ q1
  obtain ⟨p3, q3⟩ := lx_ge c z lim _ q2
  have a3 := lx_at c z lim _ q2
  unfold pLine
  by_cases h1 : kw u = 1
  · rw [if_pos h1]
    unfold pBook
    dsimp only
    generalize lx c z lim u.2.2 = u1 at *
    generalize lx c z lim u1.2.2 = u2 at *
    generalize lx c z lim u2.2.2 = u3 at *
    by_cases c1 : n = 8
    · rw [if_pos c1]; exact ⟨by show 1 ≤ 4; omega, by show 4 ≤ 4; omega, hat⟩
    rw [if_neg c1]
    by_cases c2 : isn u1 = false
    · rw [if_pos c2]; exact ⟨by show 1 ≤ 1; omega, by show 1 ≤ 4; omega, a1⟩
    rw [if_neg c2]
    by_cases c3 : ¬ (fdx T u1.1.2.1 n = 0 ∧ fdx U u1.1.2.1 k = 0)
    · rw [if_pos c3]; exact ⟨by show 1 ≤ 3; omega, by show 3 ≤ 4; omega, a1⟩
    rw [if_neg c3]
    by_cases c4 : pn u2 1 99 ≠ 0
    · rw [if_pos c4]; exact ⟨(pn_in _ _ _ c4).1, (pn_in _ _ _ c4).2, a2⟩
    rw [if_neg c4]
    by_cases c5 : pn u3 0 9 ≠ 0
    · rw [if_pos c5]; exact ⟨(pn_in _ _ _ c5).1, (pn_in _ _ _ c5).2, a3⟩
    rw [if_neg c5]
    obtain ⟨-, v1, v2⟩ := pn0 (Classical.not_not.mp c4)
    obtain ⟨-, y1, y2⟩ := pn0 (Classical.not_not.mp c5)
    rw [Bool.not_eq_false] at c2
    refine ⟨by show u.2.2 ≤ u3.2.2; omega, q3, ?_, ?_, w3, ?_, ?_, w6⟩
    · exact IvL_book w1 (by omega) (w4 n (Nat.le_refl _) (by omega)) _ _ ⟨v1, v2⟩ y2
    · dsimp only
      rw [ru_ne _ _ _ _ (by omega), ru_ne _ _ _ _ (by omega), ru_ne _ _ _ _ (by omega)]; exact w2
    · intro b hb1 hb2
      have hb1 : n + 1 ≤ b := hb1
      dsimp only
      rw [ru_ne _ _ _ _ (by omega), ru_ne _ _ _ _ (by omega), ru_ne _ _ _ _ (by omega)]; exact w4 b (by omega) hb2
    · intro b hb
      have hb : b < n + 1 := hb
      show gw (rug T n u1.1.2.1 b)
      by_cases e : b = n
      · subst e; rw [rug_eq]; exact g1.1 (isn_f c2).1
      · rw [rug_ne _ _ _ _ e]; exact w5 b (by omega)
  rw [if_neg h1]
  by_cases h2 : kw u = 2
  · rw [if_pos h2]
    unfold pAfter
    dsimp only
    generalize lx c z lim u.2.2 = u1 at *
    generalize lx c z lim u1.2.2 = u2 at *
    by_cases c1 : f = 16
    · rw [if_pos c1]; exact ⟨by show 1 ≤ 4; omega, by show 4 ≤ 4; omega, hat⟩
    rw [if_neg c1]
    by_cases c2 : isn u1 = false
    · rw [if_pos c2]; exact ⟨by show 1 ≤ 1; omega, by show 1 ≤ 4; omega, a1⟩
    rw [if_neg c2]
    have fb1 := fdx_le T u1.1.2.1 n
    by_cases c3 : fdx T u1.1.2.1 n = 0
    · rw [if_pos c3]; exact ⟨by show 1 ≤ 3; omega, by show 3 ≤ 4; omega, a1⟩
    rw [if_neg c3]
    by_cases c4 : isn u2 = false
    · rw [if_pos c4]; exact ⟨by show 1 ≤ 1; omega, by show 1 ≤ 4; omega, a2⟩
    rw [if_neg c4]
    have fb2 := fdx_le T u2.1.2.1 n
    by_cases c5 : fdx T u2.1.2.1 n = 0
    · rw [if_pos c5]; exact ⟨by show 1 ≤ 3; omega, by show 3 ≤ 4; omega, a2⟩
    rw [if_neg c5]
    generalize fdx T u1.1.2.1 n = A at *
    generalize fdx T u2.1.2.1 n = B at *
    by_cases c6 : A = B ∨ bt (m (20 + (A - 1))) (B - 1) = true
    · rw [if_pos c6]; exact ⟨by show 1 ≤ 3; omega, by show 3 ≤ 4; omega, a2⟩
    rw [if_neg c6]
    refine ⟨by show u.2.2 ≤ u2.2.2; omega, q2, ?_, ?_, by show f + 1 ≤ 16; omega, ?_, w5, w6⟩
    · exact IvL_after w1 (A - 1) (B - 1) (by omega) (by omega) (fun e => c6 (Or.inl (by omega))) _
    · dsimp only; exact ru_eq _ _ _
    · intro b hb1 hb2
      have hb1 : n ≤ b := hb1
      dsimp only
      rw [ru_ne _ _ _ _ (by omega), ru_ne _ _ _ _ (by omega)]; exact w4 b hb1 hb2
  rw [if_neg h2]
  by_cases h3 : kw u = 3
  · rw [if_pos h3]
    unfold pReader
    dsimp only
    generalize lx c z lim u.2.2 = u1 at *
    generalize lx c z lim u1.2.2 = u2 at *
    by_cases c1 : k = 6
    · rw [if_pos c1]; exact ⟨by show 1 ≤ 4; omega, by show 4 ≤ 4; omega, hat⟩
    rw [if_neg c1]
    by_cases c2 : isn u1 = false
    · rw [if_pos c2]; exact ⟨by show 1 ≤ 1; omega, by show 1 ≤ 4; omega, a1⟩
    rw [if_neg c2]
    by_cases c3 : ¬ (fdx T u1.1.2.1 n = 0 ∧ fdx U u1.1.2.1 k = 0)
    · rw [if_pos c3]; exact ⟨by show 1 ≤ 3; omega, by show 3 ≤ 4; omega, a1⟩
    rw [if_neg c3]
    by_cases c4 : pn u2 1 30 ≠ 0
    · rw [if_pos c4]; exact ⟨(pn_in _ _ _ c4).1, (pn_in _ _ _ c4).2, a2⟩
    rw [if_neg c4]
    obtain ⟨-, v1, v2⟩ := pn0 (Classical.not_not.mp c4)
    rw [Bool.not_eq_false] at c2
    refine ⟨by show u.2.2 ≤ u2.2.2; omega, q2, ?_, ?_, w3, ?_, w5, ?_⟩
    · exact IvL_reader w1 (by omega) _ ⟨v1, v2⟩
    · dsimp only
      rw [ru_ne _ _ _ _ (by omega), ru_ne _ _ _ _ (by omega)]; exact w2
    · intro b hb1 hb2
      have hb1 : n ≤ b := hb1
      dsimp only
      rw [ru_ne _ _ _ _ (by omega), ru_ne _ _ _ _ (by omega)]; exact w4 b hb1 hb2
    · intro b hb
      have hb : b < k + 1 := hb
      show gw (rug U k u1.1.2.1 b)
      by_cases e : b = k
      · subst e; rw [rug_eq]; exact g1.1 (isn_f c2).1
      · rw [rug_ne _ _ _ _ e]; exact w6 b (by omega)
  rw [if_neg h3]
  by_cases h4 : kw u = 4
  · rw [if_pos h4]
    unfold pFine
    dsimp only
    generalize lx c z lim u.2.2 = u1 at *
    by_cases c1 : o = true
    · rw [if_pos c1]; exact ⟨by show 1 ≤ 3; omega, by show 3 ≤ 4; omega, hat⟩
    rw [if_neg c1]
    by_cases c4 : pn u1 0 30 ≠ 0
    · rw [if_pos c4]; exact ⟨(pn_in _ _ _ c4).1, (pn_in _ _ _ c4).2, a1⟩
    rw [if_neg c4]
    obtain ⟨-, v1, v2⟩ := pn0 (Classical.not_not.mp c4)
    refine ⟨p1, q1, IvL_fine w1 _ v2, ?_, w3, ?_, w5, w6⟩
    · dsimp only
      rw [ru_ne _ _ _ _ (by omega)]; exact w2
    · intro b hb1 hb2
      dsimp only
      rw [ru_ne _ _ _ _ (by omega)]; exact w4 b hb1 hb2
  rw [if_neg h4]
  exact ⟨by show 1 ≤ 1; omega, by show 1 ≤ 4; omega, hat⟩
def pLib (c : Nat → Nat) (z lim : Nat) : Nat → Lby → Cu → Nat → (Nat × Nat) ⊕ (Lby × Nat)
  | 0, _, _, _ => .inl (1, 0)
  | f + 1, S, u, l => if u.1.1 = 0 then .inr (S, l) else match pLine c z lim S u with
    | .inl x => .inl x
    | .inr y => if isg (lx c z lim y.2.2.2) 59 = true then pLib c z lim f y.1 (lx c z lim (lx c z lim y.2.2.2).2.2) (l + 1) else .inl (1, (lx c z lim y.2.2.2).2.1)
def cRes (p : Nat) (lim : Nat) (I : Nat → Nat → Int32) (J : Nat → Nat → Int64) (v : Int32) (res : (Nat × Nat) ⊕ (Lby × Nat)) : Prop := match res with
  | .inl x => I 1 3 = Int32.ofNat x.1 ∧ I 1 4 = Int32.ofNat x.2 ∧ 1 ≤ x.1 ∧ x.1 ≤ 4 ∧ x.2 ≤ lim
  | .inr y => v = Int32.ofNat y.2 ∧ CLy p I J y.1 ∧ I 1 3 = 0 ∧ LWy y.1
theorem pLine_kw (c : Nat → Nat) (z lim : Nat) (S : Lby) (u : Cu) (y : Lby × Cu) (h : pLine c z lim S u = .inr y) : u.1.1 = 2 := by
  unfold pLine at h
  have : kw u ≠ 0 := by
    intro e
    rw [if_neg (by omega), if_neg (by omega), if_neg (by omega), if_neg (by omega)] at h
    cases h
  unfold kw cwd at this
  by_cases q : u.1.1 = 2
  · exact q
  · rw [if_neg q] at this; exact absurd rfl this
theorem isg_f {u : Cu} {x : Nat} (h : isg u x = true) : u.1.1 = 4 ∧ u.1.2.2 = x := by
  unfold isg at h
  obtain ⟨h1, h2⟩ := and_f h
  exact ⟨of_decide_eq_true h1, of_decide_eq_true h2⟩
theorem c_libLoop (env : am_E) (d : Nat) (p : Nat) (hp : lbq p = true) (z : Nat) (hz : z ≤ 940) (c : Nat → Nat) : ∀ (f : Nat) (S : Lby) (p0 : Nat) (u : Cu) (l : Nat) (I : Nat → Nat → Int32) (J : Nat → Nat → Int64) (E : Nat → Nat → Nat), CS I J E z c 900 u → CLy p I J S → LWy S → I 1 3 = 0 → p0 ≤ z → u = lx c z 900 p0 → z < u.2.2 + f → 2 * l ≤ u.2.1 → ∃ v I' J' E', am_ev env (d + 6, 18, 34, [some (.ref p), some (.ref 1), some (.int (Int32.ofNat l))], [], am_hp I J E) = some (true, some (.int v), am_hp I' J' E') ∧ FX (XP p) I J E I' J' E' ∧ cRes p 900 I' J' v (pLib c z 900 f S u l) := by
  have hp5 : 5 ≤ p := by have := lbq_c p hp; omega
  intro f
  induction f with
  | zero =>
    intro S p0 u l I J E h hl hw hf hp0 hu hz1 h2
    have := h.2.2.2.1
    omega
  | succ f ih =>
    intro S p0 u l I J E h hl hw hf hp0 hu hz1 h2
    have hg := lx_good c z 900 p0 hp0
    rw [← hu] at hg
    have hat := hg.2.2.2.2.1
    have start := bk_18_34 env (d + 5) p (Int32.ofNat l) I J E
    rw [show decide ((900 : Int32) ≤ Int32.ofNat l) = false from zle_f 900 l (by omega) (by omega), show decide (I 1 0 = (0 : Int32)) = decide (u.1.1 = 0) from c_kind0 h, ly_d p hp, ly_b p hp] at start
    unfold pLib
    by_cases h0 : u.1.1 = 0
    · rw [if_pos h0]
      refine ⟨Int32.ofNat l, I, J, E, start.trans ?_, FX_refl _ _ _ _, rfl, hl, hf, hw⟩
      rw [decide_eq_true h0]
      simp only [decide_true, decide_false, Bool.not_true, Bool.not_false, am_cont, Option.bind_some, Option.toList_some, Option.toList_none, List.singleton_append, List.nil_append, cond_true, cond_false, bk_18_79]
    rw [if_neg h0]
    rw [decide_eq_false h0] at start
    obtain ⟨b, I1, J1, E1, e1, F1, o1⟩ := c_readLine env d p hp z 900 hz (by omega) c u S I J E h hl hw hf
    have po := pLine_o c z 900 S u h.2.2.2.1 hat hw
    have pk := pLine_kw c z 900 S u
    cases hr : pLine c z 900 S u with
    | inl x =>
      rw [hr] at o1 po
      obtain ⟨b1, b2, b3⟩ := o1
      refine ⟨Int32.ofNat l, I1, J1, E1, start.trans ?_, F1, b2, b3, po⟩
      rw [b1] at e1
      simp only [decide_true, decide_false, Bool.not_true, Bool.not_false, am_cont, Option.bind_some, Option.toList_some, Option.toList_none, List.singleton_append, List.nil_append, cond_true, cond_false, Bool.and_self, e1, bk_18_53, bi_f, zq_0_0]
    | inr y =>
      rw [hr] at o1 po
      obtain ⟨b1, b2, b3, b4⟩ := o1
      obtain ⟨po1, po2, po3⟩ := po
      have hk2 := pk y hr
      have hkp := hg.2.2.2.2.2.2.1 (by omega)
      rw [b1] at e1
      obtain ⟨I2, J2, E2, k2, s2, f2, t3, t4⟩ := c_nx env (d + 2) z 900 hz (by omega) c y.2 I1 J1 E1 b2
      have l2 := CLy_fx b3 f2 (fun q a b => by omega)
      have hw2 := lx_good c z 900 y.2.2.2 po2
      have g62 : am_ev env (d + 6, 18, 34, [some (.ref p), some (.ref 1), some (.int (Int32.ofNat l))], [], am_hp I J E) = am_cont env (d + 5, 106, 0, [some (.ref 1), some (.int 59)], [], am_hp I2 J2 E2) (d + 6) 18 68 [some (.ref p), some (.ref 1), some (.int (Int32.ofNat l))] [] := by
        refine start.trans ?_
        simp only [decide_true, decide_false, Bool.not_true, Bool.not_false, am_cont, Option.bind_some, Option.toList_some, Option.toList_none, List.singleton_append, List.nil_append, cond_true, cond_false, Bool.and_self, e1, bk_18_53, bi_t, zq_1_0, k2, bk_18_62]
      show ∃ v I' J' E', _ ∧ _ ∧ cRes p 900 I' J' v (if isg (lx c z 900 y.2.2.2) 59 = true then pLib c z 900 f y.1 (lx c z 900 (lx c z 900 y.2.2.2).2.2) (l + 1) else .inl (1, (lx c z 900 y.2.2.2).2.1))
      have hat2 := c_at s2
      by_cases hsg : isg (lx c z 900 y.2.2.2) 59 = true
      · rw [if_pos hsg]
        obtain ⟨I3, J3, E3, k3, s3, f3, t5, t6⟩ := c_sign1 env (d + 1) z 900 hz (by omega) c (lx c z 900 y.2.2.2) 59 (by omega) (by omega) 59 rfl I2 J2 E2 s2 hsg
        have l3 := CLy_fx l2 f3 (fun q a b => by omega)
        have hk4 := (isg_f hsg).1
        have hwp := hw2.2.2.2.2.2.2.1 (by omega)
        have hwz := hw2.2.2.2.2.2.1
        have hu3 := lx_good c z 900 (lx c z 900 y.2.2.2).2.2 hwz
        have hm := hu3.2.2.2.2.2.2.2.2
        have hg3 := hu3.2.2.2.2.2.2.2.1
        obtain ⟨v, I4, J4, E4, e4, F4, r4⟩ := ih y.1 (lx c z 900 y.2.2.2).2.2 (lx c z 900 (lx c z 900 y.2.2.2).2.2) (l + 1) I3 J3 E3 s3 l3 po3 (t5.trans (t3.trans b4)) hwz rfl (by omega) (by omega)
        refine ⟨v, I4, J4, E4, g62.trans ?_, FX_tr F1 (FX_tr (FX1p f2) (FX_tr (FX1p f3) F4)), r4⟩
        rw [am_cont_some k3]
        simp only [decide_true, decide_false, Bool.not_true, Bool.not_false, am_cont, Option.bind_some, Option.toList_some, Option.toList_none, List.singleton_append, List.nil_append, cond_true, cond_false, bk_18_68, zq_1_0, zd_1]
        exact e4
      · rw [if_neg hsg]
        rw [Bool.not_eq_true] at hsg
        have e106 := c_sign0 env (d + 3) z 900 c (lx c z 900 y.2.2.2) 59 (by omega) (by omega) 59 rfl I2 J2 E2 s2 hsg
        refine ⟨Int32.ofNat l, stp I2 1, J2, E2, g62.trans ?_, FX_tr F1 (FX_tr (FX1p f2) (FX1p (stp_fx I2 J2 E2 1))), stp_3 I2 1, by rw [stp_4]; exact hat2, by show 1 ≤ 1; omega, by show 1 ≤ 4; omega, hw2.2.2.2.2.1⟩
        rw [am_cont_some e106]
        simp only [decide_true, decide_false, Bool.not_true, Bool.not_false, am_cont, Option.bind_some, Option.toList_some, Option.toList_none, List.singleton_append, List.nil_append, cond_true, cond_false, bk_18_68, zq_0_0]
def S00 : Lby := (0, 0, 0, false, fun _ => [], fun _ => [], fun j => if j = 3 then 5 else 0)
theorem S00_w : LWy S00 := by
  refine ⟨⟨⟨rfl, by show 0 ≤ 8; omega⟩, ⟨rfl, by show 0 ≤ 6; omega⟩, ⟨5, by omega, rfl⟩, ?_, ?_, ?_, ?_⟩, rfl, by show 0 ≤ 16; omega, ?_, ?_, ?_⟩
  · intro b hb; exact absurd hb (Nat.not_lt_zero _)
  · intro b hb; exact absurd hb (Nat.not_lt_zero _)
  · intro b hb; exact absurd hb (Nat.not_lt_zero _)
  · intro b hb; exact absurd hb (Nat.not_lt_zero _)
  · intro b _ _; show (if 20 + b = 3 then (5 : Int32) else 0) = 0; rw [if_neg (by omega)]
  · intro b hb; exact absurd hb (Nat.not_lt_zero _)
  · intro b hb; exact absurd hb (Nat.not_lt_zero _)
theorem c_begin (env : am_E) (d : Nat) (z lim : Nat) (hz : z ≤ 940) (hlim : lim ≤ 1000) (x : Int32) (hx : x = Int32.ofNat lim) (c : Nat → Nat) (I : Nat → Nat → Int32) (J : Nat → Nat → Int64) (E : Nat → Nat → Nat) (ht : Tp I z c) : ∃ I' J' E', am_ev env (d + 4, 102, 0, [some (.ref 1), some (.int x)], [], am_hp I J E) = some (true, none, am_hp I' J' E') ∧ CS I' J' E' z c lim (lx c z lim 0) ∧ FX (fun q => q = 1) I J E I' J' E' ∧ I' 1 3 = 0 := by
  have e0 : am_u (am_u (am_u (am_u I 1 7 x) 1 9 0) 1 3 0) 1 4 0 = am_ur I 1 (ru (ru (ru (ru (I 1) 7 x) 9 0) 3 0) 4 0) := by
    rw [am_u_r I 1 7 x, am_u_g32, am_u_g32, am_u_g32]
  obtain ⟨I', J', E', k1, k2, k3, k4, k5⟩ := c_nx0 env d z lim 0 hz hlim (Nat.zero_le _) c (am_ur I 1 (ru (ru (ru (ru (I 1) 7 x) 9 0) 3 0) 4 0)) J E (by rw [ur_at, ru_ne _ _ _ _ (by omega), ru_ne _ _ _ _ (by omega), ru_eq]; rfl) (by rw [ur_at, ru_ne _ _ _ _ (by omega), ru_ne _ _ _ _ (by omega), ru_ne _ _ _ _ (by omega), ru_eq]; exact hx) (Tp_ur ht 1 (by omega) (by omega) _)
  refine ⟨I', J', E', ?_, k2, FX_tr (I1 := am_ur I 1 (ru (ru (ru (ru (I 1) 7 x) 9 0) 3 0) 4 0)) ⟨fun q hq => ur_ne _ _ _ _ hq, fun _ _ => rfl, fun _ _ => rfl⟩ k3, ?_⟩
  · refine (bk_102_0 _ _ _ _ _ _).trans ?_
    rw [e0]
    simp only [decide_true, decide_false, Bool.not_true, Bool.not_false, am_cont, Option.bind_some, Option.toList_some, Option.toList_none, List.singleton_append, List.nil_append, cond_true, cond_false, k1, bk_102_24]
  · rw [k4, ur_at, ru_ne _ _ _ _ (by omega), ru_eq]
theorem c_readFrom (env : am_E) (d : Nat) (p : Nat) (hp : lbq p = true) (z : Nat) (hz : z ≤ 940) (c : Nat → Nat) (I : Nat → Nat → Int32) (J : Nat → Nat → Int64) (E : Nat → Nat → Nat) (ht : Tp I z c) : ∃ v I' J' E', am_ev env (d + 6, 18, 0, [some (.ref p), some (.ref 1), none], [], am_hp I J E) = some (true, some (.int v), am_hp I' J' E') ∧ FX (XP p) I J E I' J' E' ∧ cRes p 900 I' J' v (pLib c z 900 (z + 1) S00 (lx c z 900 0) 0) := by
  have hp5 : 5 ≤ p := by have := lbq_c p hp; omega
  have F0 : FX (XP p) I J E (am_u (am_u (am_u (am_u (am_u I p 0 0) p 1 0) p 2 0) p 3 5) p 4 0) J E := FX_u (FX_u (FX_u (FX_u (FX_u (FX_refl _ _ _ _) _ _ _ (Or.inr ⟨by omega, by omega⟩)) _ _ _ (Or.inr ⟨by omega, by omega⟩)) _ _ _ (Or.inr ⟨by omega, by omega⟩)) _ _ _ (Or.inr ⟨by omega, by omega⟩)) _ _ _ (Or.inr ⟨by omega, by omega⟩)
  have t0 : Tp (am_u (am_u (am_u (am_u (am_u I p 0 0) p 1 0) p 2 0) p 3 5) p 4 0) z c := ⟨by rw [F0.1 2 (by omega)]; exact ht.1, fun j hj => by rw [F0.1 3 (by omega)]; exact ht.2 j hj⟩
  obtain ⟨I1, J1, E1, k1, s1, f1, t3⟩ := c_begin env (d + 1) z 900 hz (by omega) 900 rfl c (am_u (am_u (am_u (am_u (am_u I p 0 0) p 1 0) p 2 0) p 3 5) p 4 0) J E t0
  have l1 : CLy p I1 J1 S00 := by
    have e : I1 p = am_u (am_u (am_u (am_u (am_u I p 0 0) p 1 0) p 2 0) p 3 5) p 4 0 p := f1.1 p (by omega)
    refine ⟨?_, ?_, ?_, ?_, ?_, fun b hb => absurd hb (Nat.not_lt_zero _), fun b hb => absurd hb (Nat.not_lt_zero _)⟩
    · rw [e, am_u_sg, if_neg (by omega), am_u_sg, if_neg (by omega), am_u_sg, if_neg (by omega), am_u_sg, if_neg (by omega), am_u_at]; rfl
    · rw [e, am_u_sg, if_neg (by omega), am_u_sg, if_neg (by omega), am_u_sg, if_neg (by omega), am_u_at]; rfl
    · rw [e, am_u_sg, if_neg (by omega), am_u_sg, if_neg (by omega), am_u_at]; rfl
    · rw [e, am_u_sg, if_neg (by omega), am_u_at]; rfl
    · rw [e, am_u_at]; rfl
  have hle := (lx_ge c z 900 0 (Nat.zero_le _)).1
  obtain ⟨v, I2, J2, E2, e2, F2, r2⟩ := c_libLoop env d p hp z hz c (z + 1) S00 0 (lx c z 900 0) 0 I1 J1 E1 s1 l1 S00_w t3 (Nat.zero_le _) rfl (by omega) (by omega)
  refine ⟨v, I2, J2, E2, ?_, FX_tr F0 (FX_tr (FX1p f1) F2), r2⟩
  refine (bk_18_0 _ _ _ _ _ _).trans ?_
  rw [ly_d p hp, ly_b p hp]
  simp only [decide_true, decide_false, Bool.not_true, Bool.not_false, am_cont, Option.bind_some, Option.toList_some, Option.toList_none, List.singleton_append, List.nil_append, cond_true, cond_false, Bool.and_self, k1, bk_18_32]
  exact e2
