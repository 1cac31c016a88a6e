/-! AT ONCE: seat and someoneLeaves -/
def SA (env : am_E) (J : Nat → Nat → Int64) (E : Nat → Nat → Nat) (W : Nat → Nat → Bool) (c : Nat → Nat) (k D f : Nat) : Prop := ∀ (r m : Nat) (t : Nat → Int32) (u : Nat → Nat) (S : Nat → Bool) (I : Nat → Nat → Int32), r < k → 8 ≤ ao_k S + f → m ≤ ao_k S → Vw I W c k t u S → (t r = -1 ∨ ∃ b, b < 8 ∧ t r = Int32.ofNat b ∧ S b = true) → SR r I J E W c k t u S (am_ev env (D, 5, 0, [some (.ref 109), some (.int (Int32.ofNat r)), some (.int (Int32.ofNat m)), none], [], am_hp I J E))
theorem c_leaves (env : am_E) (J : Nat → Nat → Int64) (E : Nat → Nat → Nat) (W : Nat → Nat → Bool) (c : Nat → Nat) (k D f : Nat) (hk : k ≤ 6) (hA : SA env J E W c k D f) (b m : Nat) (hb : b < 8) (hm : m ≤ 8) (t : Nat → Int32) (u : Nat → Nat) (S : Nat → Bool) (h8 : 8 ≤ ao_k S + f) (hmk : m + 1 ≤ ao_k S) (hSb : S b = true) (I : Nat → Nat → Int32) : ∀ i q I3 S3, q + i = k → FS I I3 → Vw I3 W c k t u S3 → Fl W c k t u S S3 → (∀ p, p < q → t p = Int32.ofNat b → ∀ x, x < 8 → W p x = true → S3 x = true) → (∃ I' S', am_ev env (D + 1, 6, 2, [some (.ref 109), some (.int (Int32.ofNat b)), some (.int (Int32.ofNat m)), some (.int (Int32.ofNat q))], [], am_hp I3 J E) = some (true, some (.int 0), am_hp I' J E) ∧ FS I I' ∧ Vw I' W c k t u S' ∧ Fl W c k t u S S' ∧ ∀ p, p < k → t p = Int32.ofNat b → ∀ x, x < 8 → W p x = true → S' x = true) ∨ ∃ I' t' u' S' p S4, p < k ∧ t p = Int32.ofNat b ∧ am_ev env (D + 1, 6, 2, [some (.ref 109), some (.int (Int32.ofNat b)), some (.int (Int32.ofNat m)), some (.int (Int32.ofNat q))], [], am_hp I3 J E) = some (true, some (.int 1), am_hp I' J E) ∧ FS I I' ∧ Vw I' W c k t' u' S' ∧ (∀ x, S x = true → S4 x = true) ∧ Sc W c k t u p S4 t' u' := by
  intro i
  induction i with
  | zero =>
    intro q I3 S3 hq hF hV hl hp
    refine Or.inl ⟨I3, S3, (bk_6_2 _ _ _ _ _ _ _ _).trans ?_, hF, hV, hl, fun p h1 => hp p (by omega)⟩
    rw [hV.1, zle_t k q (by omega) (by omega)]
    rfl
  | succ i ih =>
    intro q I3 S3 hq hF hV hl hp
    have head := bk_6_2 env D (Int32.ofNat b) (Int32.ofNat m) (Int32.ofNat q) I3 J E
    rw [hV.1, zle_f k q (by omega) (by omega), zI_in q 6 (by omega) (by omega), zI_nat q (by omega), hV.2.2.2.1 q (by omega)] at head
    by_cases ht : t q = Int32.ofNat b
    · rw [decide_eq_true ht] at head
      have hk3 := ao_k_le hl.1
      have hs := hA q (m + 1) t u S3 I3 (by omega) (by omega) (by omega) hV (Or.inr ⟨b, hb, ht, hl.1 b hSb⟩)
      simp only [decide_true, decide_false, Bool.not_true, Bool.not_false, am_cont, Option.bind_some, Option.toList_some, Option.toList_none, List.singleton_append, List.nil_append, cond_true, cond_false, zd_1] at head
      rcases hs with ⟨I', S', e, e1, e2, e3, e4⟩ | ⟨I', t', u', S', e, e1, e2, e3⟩
      · rw [e] at head
        simp only [decide_true, decide_false, Bool.not_true, Bool.not_false, am_cont, Option.bind_some, Option.toList_some, Option.toList_none, List.singleton_append, List.nil_append, cond_true, cond_false, bk_6_28, bk_6_33, zd_1] at head
        have := ih (q + 1) I' S' (by omega) (FS_tr hF e1) e2 (Fl_tr hl e3) (fun p h1 h2 x hx hw => by
          by_cases hpq : p = q
          · subst hpq; exact e4 x hx hw
          · exact e3.1 x (hp p (by omega) h2 x hx hw))
        rw [head]
        exact this
      · rw [e] at head
        simp only [decide_true, decide_false, Bool.not_true, Bool.not_false, am_cont, Option.bind_some, Option.toList_some, Option.toList_none, List.singleton_append, List.nil_append, cond_true, cond_false, bk_6_28] at head
        refine Or.inr ⟨I', t', u', S', q, S3, by omega, ht, head.trans ?_, FS_tr hF e1, e2, hl.1, e3⟩
        rfl
    · rw [decide_eq_false ht] at head
      simp only [decide_true, decide_false, Bool.not_true, Bool.not_false, am_cont, Option.bind_some, Option.toList_some, Option.toList_none, List.singleton_append, List.nil_append, cond_true, cond_false, bk_6_33, zd_1] at head
      rw [head]
      exact ih (q + 1) I3 S3 (by omega) hF hV hl (fun p h1 h2 => by
        by_cases hpq : p = q
        · subst hpq; exact absurd h2 ht
        · exact hp p (by omega) h2)
theorem c_seat (env : am_E) (d : Nat) (J : Nat → Nat → Int64) (E : Nat → Nat → Nat) (W : Nat → Nat → Bool) (c : Nat → Nat) (k : Nat) (hk : k ≤ 6) : ∀ f, SA env J E W c k (d + 2 * f + 2) f := by
  intro f
  induction f with
  | zero =>
    intro r m t u S I hr h8 hm hV ht
    have hS : ∀ x, x < 8 → S x = true := fun x hx => by
      rcases ao_n_full S 8 0 with h | h
      · exact h x (by omega) (by omega)
      · exact absurd h (by show ¬ ao_k S < 8; omega)
    have htop : ao_k S ≤ 8 := ao_n_top S 8 0
    have loop : ∀ i b, b + i = 8 → am_ev env (d + 2, 5, 10, [some (.ref 109), some (.int (Int32.ofNat r)), some (.int (Int32.ofNat m)), some (.int (Int32.ofNat b))], [], am_hp I J E) = some (true, some (.int 0), am_hp I J E) := by
      intro i
      induction i with
      | zero =>
        intro b hb
        have hb : b = 8 := hb
        refine (bk_5_10 _ _ _ _ _ _ _ _).trans ?_
        rw [show decide ((8 : Int32) ≤ Int32.ofNat b) = true from zle_t 8 b (by omega) (by omega)]
        rfl
      | succ i ih =>
        intro b hb
        refine (bk_5_10 _ _ _ _ _ _ _ _).trans ?_
        have hi := c_isIn env d (I 111 r &&& (I 109 6 ^^^ -1)) b (by omega) I J E
        rw [bt_and, bt_not _ _ (by omega), hV.2.2.2.2.2 b (by omega), hS b (by omega), Bool.not_true, Bool.and_false] at hi
        rw [show decide ((8 : Int32) ≤ Int32.ofNat b) = false from zle_f 8 b (by omega) (by omega), zI_in r 6 (by omega) (by omega), zI_nat r (by omega)]
        simp only [decide_true, decide_false, Bool.not_true, Bool.not_false, am_cont, Option.bind_some, Option.toList_some, Option.toList_none, List.singleton_append, List.nil_append, cond_true, cond_false, hi, bk_5_33, bi_eq0, bk_5_103, zd_1]
        exact ih (b + 1) (by omega)
    refine Or.inl ⟨I, S, (bk_5_0 _ _ _ _ _ _ _).trans ?_, FS_refl I, hV, Fl_refl _ _ _ _ _ _, fun b hb _ => hS b hb⟩
    rw [show decide (Int32.ofNat m ≤ (8 : Int32)) = true from zle_t m 8 (by omega) (by omega)]
    exact loop 8 0 (by omega)
  | succ f ihf =>
    intro r m t u S I hr h8 hm hV ht
    have htop : ao_k S ≤ 8 := ao_n_top S 8 0
    have loop : ∀ i b I1 S1, b + i = 8 → FS I I1 → Vw I1 W c k t u S1 → Fl W c k t u S S1 → (∀ x, x < b → W r x = true → S1 x = true) → SR r I J E W c k t u S (am_ev env (d + 2 * f + 4, 5, 10, [some (.ref 109), some (.int (Int32.ofNat r)), some (.int (Int32.ofNat m)), some (.int (Int32.ofNat b))], [], am_hp I1 J E)) := by
      intro i
      induction i with
      | zero =>
        intro b I1 S1 hb hF hv hl hw
        refine Or.inl ⟨I1, S1, (bk_5_10 _ _ _ _ _ _ _ _).trans ?_, hF, hv, hl, fun x hx => hw x (by omega)⟩
        rw [show decide ((8 : Int32) ≤ Int32.ofNat b) = true from zle_t 8 b (by omega) (by omega)]
        rfl
      | succ i ih =>
        intro b I1 S1 hb hF hv hl hw
        have head := bk_5_10 env (d + 2 * f + 3) (Int32.ofNat r) (Int32.ofNat m) (Int32.ofNat b) I1 J E
        have hi := c_isIn env (d + 2 * f + 2) (I1 111 r &&& (I1 109 6 ^^^ -1)) b (by omega) I1 J E
        rw [bt_and, bt_not _ _ (by omega), hv.2.2.2.2.2 b (by omega), hv.2.1 r hr b (by omega)] at hi
        rw [show decide ((8 : Int32) ≤ Int32.ofNat b) = false from zle_f 8 b (by omega) (by omega), zI_in r 6 (by omega) (by omega), zI_nat r (by omega)] at head
        simp only [decide_true, decide_false, Bool.not_true, Bool.not_false, am_cont, Option.bind_some, Option.toList_some, Option.toList_none, List.singleton_append, List.nil_append, cond_true, cond_false, hi] at head
        cases hc : W r b && !S1 b with
        | false =>
          rw [hc] at head
          simp only [decide_true, decide_false, Bool.not_true, Bool.not_false, am_cont, Option.bind_some, Option.toList_some, Option.toList_none, List.singleton_append, List.nil_append, cond_true, cond_false, bk_5_33, bi_eq0, bk_5_103, zd_1] at head
          rw [head]
          refine ih (b + 1) I1 S1 (by omega) hF hv hl (fun x hx hwx => ?_)
          by_cases hxb : x = b
          · subst hxb
            rw [hwx, Bool.true_and] at hc
            cases e : S1 x with
            | true => rfl
            | false => rw [e] at hc; exact absurd hc (by decide)
          · exact hw x (by omega) hwx
        | true =>
          rw [hc] at head
          rw [Bool.and_eq_true] at hc
          obtain ⟨hwb, hsb⟩ := hc
          have hsb : S1 b = false := by
            cases e : S1 b with
            | false => rfl
            | true => rw [e] at hsb; exact absurd hsb (by decide)
          have hS0 : S b = false := by
            cases e : S b with
            | false => rfl
            | true => rw [hl.1 b e] at hsb; exact absurd hsb (by decide)
          have s33 := bk_5_33 env (d + 2 * f + 3) (Int32.ofNat r) (Int32.ofNat m) (Int32.ofNat b) (bi true) I1 J E
          have hv2 := Vw_seen hv b (by omega)
          have hF2 : FS I (am_u I1 109 6 ((I1 109 6) ||| (1 <<< (Int32.ofNat b &&& 31)))) := FS_tr hF (FS_u 109 6 _ (Or.inl ⟨rfl, rfl⟩))
          generalize am_u I1 109 6 ((I1 109 6) ||| (1 <<< (Int32.ofNat b &&& 31))) = I2 at s33 hv2 hF2
          have hcb := hv2.2.2.1 b (by omega)
          have hub := hv2.2.2.2.2.1 b (by omega)
          have hcmp : decide (I2 112 b ≤ I2 114 b) = decide (c b ≤ u b) := by rw [hcb.1 ⟨r, hwb⟩, hub.1]; exact zle_d (c b) (u b) (by omega) (by omega)
          rw [bi_eq0, zI_in b 8 (by omega) (by omega), zI_nat b (by omega), zI_in r 6 (by omega) (by omega), zI_nat r (by omega), hcmp] at s33
          by_cases hcu : c b ≤ u b
          · rw [decide_eq_true hcu] at s33
            have ka := ao_k_add S1 b (by omega) hsb
            have kl := ao_k_le hl.1
            have hlv := c_leaves env J E W c k (d + 2 * f + 2) f hk ihf b m (by omega) (by omega) t u (ao_ad S1 b) (by omega) (by omega) (by unfold ao_ad; rw [decide_eq_true rfl, Bool.or_true]) I k 0 I2 (ao_ad S1 b) (by omega) hF2 hv2 (Fl_refl _ _ _ _ _ _) (fun p hp => absurd hp (Nat.not_lt_zero _))
            have s6 := bk_6_0 env (d + 2 * f + 2) (Int32.ofNat b) (Int32.ofNat m) I2 J E
            have had : ∀ x, S1 x = true → ao_ad S1 b x = true := fun x hx => by unfold ao_ad; rw [hx, Bool.true_or]
            rcases hlv with ⟨I', S', e, e1, e2, e3, e4⟩ | ⟨I', t', u', S', q, S4, hq, htq, e, e1, e2, e3, e4⟩
            · have s6 := s6.trans e
              simp only [decide_true, decide_false, Bool.not_true, Bool.not_false, am_cont, Option.bind_some, Option.toList_some, Option.toList_none, List.singleton_append, List.nil_append, cond_true, cond_false, s6, bk_5_91, bk_5_103, zd_1] at s33
              rw [head, s33]
              refine ih (b + 1) I' S' (by omega) e1 e2 (Fl_tr hl ⟨fun x hx => e3.1 x (had x hx), fun x hx y1 y2 => ?_⟩) (fun x hx hwx => ?_)
              · by_cases hxb : x = b
                · subst hxb; exact ⟨hcu, e4⟩
                · exact e3.2 x hx y1 (by unfold ao_ad; rw [y2, decide_eq_false hxb]; rfl)
              · by_cases hxb : x = b
                · subst hxb; exact e3.1 x (by unfold ao_ad; rw [decide_eq_true rfl, Bool.or_true])
                · exact e3.1 x (had x (hw x (by omega) hwx))
            · have s6 := s6.trans e
              have s91 := bk_5_91 env (d + 2 * f + 3) (Int32.ofNat r) (Int32.ofNat m) (Int32.ofNat b) 1 I' J E
              rw [zI_in r 6 (by omega) (by omega), zI_nat r (by omega)] at s91
              simp only [decide_true, decide_false, Bool.not_true, Bool.not_false, am_cont, Option.bind_some, Option.toList_some, Option.toList_none, List.singleton_append, List.nil_append, cond_true, cond_false, s6] at s33
              refine Or.inr ⟨_, _, u', S', head.trans (s33.trans (s91.trans ?_)), FS_tr e1 (FS_u 113 r (Int32.ofNat b) (Or.inr (Or.inl rfl))), Vw_set e2 r (Int32.ofNat b), Sc_leave r q b hr hq (by omega) hwb hS0 (fun x hx => e3 x (had x (hl.1 x hx))) ht htq e4⟩
              rfl
          · rw [decide_eq_false hcu] at s33
            refine Or.inr ⟨_, _, _, _, head.trans (s33.trans ?_), FS_tr hF2 (FS_tr (FS_u 114 b (I2 114 b + 1) (Or.inr (Or.inr rfl))) (FS_u 113 r (Int32.ofNat b) (Or.inr (Or.inl rfl)))), Vw_set (Vw_use hv2 b (by omega) (by omega)) r (Int32.ofNat b), Sc_now r b hr (by omega) hwb hS0 (by omega)⟩
            rfl
    have s0 := bk_5_0 env (d + 2 * f + 3) (Int32.ofNat r) (Int32.ofNat m) I J E
    rw [show decide (Int32.ofNat m ≤ (8 : Int32)) = true from zle_t m 8 (by omega) (by omega)] at s0
    have := loop 8 0 I S (by omega) (FS_refl I) hV (Fl_refl _ _ _ _ _ _) (fun x hx => absurd hx (Nat.not_lt_zero _))
    show SR r I J E W c k t u S (am_ev env (d + 2 * f + 3 + 1, 5, 0, [some (.ref 109), some (.int (Int32.ofNat r)), some (.int (Int32.ofNat m)), none], [], am_hp I J E))
    rw [s0]
    exact this
