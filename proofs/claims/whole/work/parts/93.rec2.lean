/-! a RECORD read by the class -/
theorem c_act49 (env : am_E) (d : Nat) (w : Nat) (I : Nat → Nat → Int32) (J : Nat → Nat → Int64) (E : Nat → Nat → Nat) : am_ev env (d + 1, 49, 0, [some (.retAddr w)], [], am_hp I J E) = some (true, some (.int (if 8 ≤ w ∧ w ≤ 11 then Int32.ofNat (10 * (w - 5)) else -1)), am_hp I J E) := by
  refine (bk_49_0 _ _ _ _ _ _).trans ?_
  by_cases h8 : w = 8
  · subst h8; rfl
  rw [decide_eq_false h8]
  by_cases h9 : w = 9
  · subst h9; rfl
  rw [decide_eq_false h9]
  by_cases h10 : w = 10
  · subst h10; rfl
  rw [decide_eq_false h10]
  by_cases h11 : w = 11
  · subst h11
    simp only [decide_true, decide_false, Bool.not_true, Bool.not_false, am_cont, Option.bind_some, Option.toList_some, Option.toList_none, List.singleton_append, List.nil_append, cond_true, cond_false, bk_49_43]; rfl
  rw [decide_eq_false h11, if_neg (by omega)]
  simp only [decide_true, decide_false, Bool.not_true, Bool.not_false, am_cont, Option.bind_some, Option.toList_some, Option.toList_none, List.singleton_append, List.nil_append, cond_true, cond_false, bk_49_43]
theorem c_readLine48 (env : am_E) (d : Nat) (z lim : Nat) (hz : z ≤ 940) (hlim : lim ≤ 1000) (c : Nat → Nat) (u : Cu) (n k : Nat) (T U : Nat → List Nat) (l : Nat) (hl : l ≤ 40) (I : Nat → Nat → Int32) (J : Nat → Nat → Int64) (E : Nat → Nat → Nat) (h : CS I J E z c lim u) (hm : NMc I J n k T U) (h99 : I 99 1 = Int32.ofNat l) (hf : I 1 3 = 0) : ∃ b I' J' E', am_ev env (d + 5, 48, 0, [some (.ref 99), some (.ref 1), some (.ref 5), none, none], [], am_hp I J E) = some (true, some (.int (bi b)), am_hp I' J' E') ∧ FX X9 I J E I' J' E' ∧ cRo I I' J' E' z c lim l b (rLine c z lim n k T U l u) := by
  have hw := c_word h
  have hat := c_at h
  have start := bk_48_0 env (d + 4) 5 I J E
  rw [hw, lb_d, lb_b] at start
  have l40 : decide (Int32.ofNat l < (40 : Int32)) = decide (l < 40) := zlt_d l 40 (by omega) (by omega)
  have s48 : ∀ (w : Nat) (x : Int32), am_ev env (d + 5, 48, 48, [some (.ref 99), some (.ref 1), some (.ref 5), some (.retAddr w), some (.int x)], [], am_hp I J E) = (bif decide (l < 40) then am_cont env (d + 4, 103, 0, [some (.ref 1), none], [], am_hp I J E) (d + 5) 48 67 [some (.ref 99), some (.ref 1), some (.ref 5), some (.retAddr w), some (.int x)] [] else some (true, some (.int 0), am_hp (stp I 4) J E)) := by
    intro w x
    refine (bk_48_48 _ _ _ _ _ _ _ _).trans ?_
    rw [h99, l40]
    cases decide (l < 40)
    · simp only [decide_true, decide_false, Bool.not_true, Bool.not_false, am_cont, Option.bind_some, Option.toList_some, Option.toList_none, List.singleton_append, List.nil_append, cond_true, cond_false, c_stop, bk_48_62]; rfl
    · rfl
  have full : ∀ (w : Nat) (x : Int32), l = 40 → am_ev env (d + 5, 48, 48, [some (.ref 99), some (.ref 1), some (.ref 5), some (.retAddr w), some (.int x)], [], am_hp I J E) = some (true, some (.int (bi false)), am_hp (stp I 4) J E) := by
    intro w x e
    rw [s48, decide_eq_false (by omega : ¬ l < 40)]; rfl
  have fullR : l = 40 → ∃ b I' J' E', (some (true, some (.int (bi false)), am_hp (stp I 4) J E) : Option am_R) = some (true, some (.int (bi b)), am_hp I' J' E') ∧ FX X9 I J E I' J' E' ∧ cRo I I' J' E' z c lim l b (.inl (4, u.2.1)) := fun _ => ⟨false, stp I 4, J, E, rfl, FX19 (stp_fx I J E 4), rfl, stp_3 I 4, by rw [stp_4]; exact hat⟩
  obtain ⟨I1, J1, E1, k1, s1, f1, t3, t4⟩ := c_nx env (d + 1) z lim hz hlim c u I J E h
  have m1 := NMc_fx hm f1 (by omega) (by omega) (by omega)
  have h991 : I1 99 1 = Int32.ofNat l := by rw [f1.1 99 (by omega)]; exact h99
  have f13 : I1 1 3 = 0 := t3.trans hf
  have hat1 := c_at s1
  have more : ∀ (w : Nat) (x : Int32), l < 40 → am_ev env (d + 5, 48, 48, [some (.ref 99), some (.ref 1), some (.ref 5), some (.retAddr w), some (.int x)], [], am_hp I J E) = am_ev env (d + 5, 48, 67, [some (.ref 99), some (.ref 1), some (.ref 5), some (.retAddr w), some (.int x)], [], am_hp I1 J1 E1) := by
    intro w x e
    rw [s48, decide_eq_true e]
    simp only [decide_true, decide_false, Bool.not_true, Bool.not_false, am_cont, Option.bind_some, Option.toList_some, Option.toList_none, List.singleton_append, List.nil_append, cond_true, cond_false, k1]
  unfold rLine
  by_cases h0 : kw u = 0
  · rw [if_pos h0]
    rw [decide_eq_true h0] at start
    have e26 := c_readerN env (d + 2) z lim c u n k T U I J E h hm
    by_cases hr0 : fnB U k u = 0
    rotate_left
    · rw [if_pos hr0]
      rw [if_neg hr0] at e26
      refine ⟨false, stp I (Int32.ofNat (fnB U k u)), J, E, start.trans ?_, FX19 (stp_fx I J E _), rfl, stp_3 _ _, by rw [stp_4]; exact hat⟩
      simp only [decide_true, decide_false, Bool.not_true, Bool.not_false, am_cont, Option.bind_some, Option.toList_some, Option.toList_none, List.singleton_append, List.nil_append, cond_true, cond_false, Bool.and_self, e26, bk_48_17]; rfl
    rw [if_neg (fun q => q hr0)]
    rw [if_pos hr0] at e26
    have fb := fdx_le U u.1.2.1 k
    have hk6 := hm.2.1.2
    have hR : fdx U u.1.2.1 k - 1 < 1000 := by omega
    generalize fdx U u.1.2.1 k - 1 = R at e26 hR ⊢
    rw [h0] at start
    have g48 : R < 1000 → am_ev env (d + 5, 48, 0, [some (.ref 99), some (.ref 1), some (.ref 5), none, none], [], am_hp I J E) = am_ev env (d + 5, 48, 48, [some (.ref 99), some (.ref 1), some (.ref 5), some (.retAddr 0), some (.int (Int32.ofNat R))], [], am_hp I J E) := by
      intro hR
      refine start.trans ?_
      simp (disch := omega) only [decide_true, decide_false, Bool.not_true, Bool.not_false, am_cont, Option.bind_some, Option.toList_some, Option.toList_none, List.singleton_append, List.nil_append, cond_true, cond_false, Bool.and_self, e26, bk_48_17, zm1]
    by_cases h40 : l = 40
    · rw [if_pos h40, (g48 hR).trans (full 0 _ h40)]; exact fullR h40
    rw [if_neg h40]
    obtain ⟨b, I2, J2, E2, e2, F2, r2⟩ := c_readDeed env d z lim hz hlim c (lx c z lim u.2.2) n k T U l R (by omega) I1 J1 E1 s1 m1 h991 f13
    refine ⟨b, I2, J2, E2, (g48 hR).trans ((more 0 _ (by omega)).trans ?_), FX_tr (FX19 f1) F2, ?_⟩
    · refine (bk_48_67 _ _ _ _ _ _ _ _).trans ?_
      rw [decide_eq_true rfl]
      simp only [decide_true, decide_false, Bool.not_true, Bool.not_false, am_cont, Option.bind_some, Option.toList_some, Option.toList_none, List.singleton_append, List.nil_append, cond_true, cond_false, e2, bk_48_79, bi_and]
    · cases hrd : rDeed c z lim n k T U R (lx c z lim u.2.2) with
      | inl x => rw [hrd] at r2; exact r2
      | inr y =>
        rw [hrd] at r2
        obtain ⟨q1, q2, q3, q4, q5⟩ := r2
        exact ⟨q1, q2, q3, Ksl_t (Ksl_fx f1 l) q4, q5⟩
  rw [if_neg h0]
  rw [decide_eq_false h0] at start
  by_cases h12 : kw u = 12
  · rw [if_pos h12]
    rw [h12] at start
    have g48 : am_ev env (d + 5, 48, 0, [some (.ref 99), some (.ref 1), some (.ref 5), none, none], [], am_hp I J E) = am_ev env (d + 5, 48, 48, [some (.ref 99), some (.ref 1), some (.ref 5), some (.retAddr 12), some (.int (-1))], [], am_hp I J E) := by
      refine start.trans ?_
      rw [decide_eq_true rfl]; rfl
    by_cases h40 : l = 40
    · rw [if_pos h40, g48.trans (full 12 _ h40)]; exact fullR h40
    rw [if_neg h40]
    have fa := FXu I1 J1 E1 100 l 70 (by omega)
    have sa : CS (am_u I1 100 l 70) J1 E1 z c lim (lx c z lim u.2.2) := CS_fx s1 fa (by omega) (by omega) (by omega)
    have n99 : am_u I1 100 l 70 99 1 = Int32.ofNat l := by rw [am_u_ng _ _ _ _ _ (by omega)]; exact h991
    have e107 := c_num env (d + 2) z lim c _ 1 60 (by omega) (by omega) 1 60 rfl rfl _ J1 E1 sa
    have g67 : am_ev env (d + 5, 48, 0, [some (.ref 99), some (.ref 1), some (.ref 5), none, none], [], am_hp I J E) = am_cont env (d + 4, 107, 0, [some (.ref 1), some (.int 1), some (.int 60)], [], am_hp (am_u I1 100 l 70) J1 E1) (d + 5) 48 113 [some (.ref 99), some (.ref 1), some (.ref 5), some (.retAddr 12), some (.int (-1))] [.int (Int32.ofNat l), .ref 102] := by
      refine g48.trans ((more 12 _ (by omega)).trans ?_)
      refine (bk_48_67 _ _ _ _ _ _ _ _).trans ?_
      rw [decide_eq_true rfl, decide_eq_false (by omega : ¬ (12 : Nat) = 0), h991, zI_in l 40 (by omega) (by omega), zI_nat l (by omega), n99]
      rfl
    have hata := c_at sa
    generalize hq1 : lx c z lim u.2.2 = u1 at sa e107 hata ⊢
    by_cases hp : pn u1 1 60 = 0
    rotate_left
    · rw [if_pos hp]
      rw [if_neg hp] at e107
      have n992 : ∀ v, am_u (stp (am_u I1 100 l 70) (Int32.ofNat (pn u1 1 60))) 102 l v 99 1 = Int32.ofNat l := fun v => by rw [am_u_ng _ _ _ _ _ (by omega), (stp_fx _ J1 E1 _).1 99 (by omega)]; exact n99
      refine ⟨false, am_u (stp (am_u I1 100 l 70) (Int32.ofNat (pn u1 1 60))) 102 l (-1), J1, E1, g67.trans ?_, FX_u (FX_tr (FX19 f1) (FX_tr (FXr9 fa) (FX19 (stp_fx _ J1 E1 _)))) _ _ _ (Or.inr ⟨by omega, by omega⟩), rfl, ?_, ?_⟩
      · rw [am_cont_some e107]
        simp (disch := omega) only [decide_true, decide_false, Bool.not_true, Bool.not_false, am_cont, Option.bind_some, Option.toList_some, Option.toList_none, List.singleton_append, List.nil_append, cond_true, cond_false, bk_48_113, zI_in, zI_nat, n992, am_u_at, bk_48_132]
        rfl
      · rw [am_u_ng _ _ _ _ _ (by omega)]; exact stp_3 _ _
      · rw [am_u_ng _ _ _ _ _ (by omega), stp_4]; exact hata
    rw [if_neg (fun q => q hp)]
    rw [if_pos hp] at e107
    obtain ⟨v1, v2, v3⟩ := pn0 hp
    have fb := FXu (am_u I1 100 l 70) J1 E1 102 l (Int32.ofNat u1.1.2.2) (by omega)
    have n992 : am_u (am_u I1 100 l 70) 102 l (Int32.ofNat u1.1.2.2) 99 1 = Int32.ofNat l := by rw [am_u_ng _ _ _ _ _ (by omega)]; exact n99
    refine ⟨true, am_u (am_u I1 100 l 70) 102 l (Int32.ofNat u1.1.2.2), J1, E1, g67.trans ?_, FX_tr (FX19 f1) (FX_tr (FXr9 fa) (FXr9 fb)), rfl, CS_fx sa fb (by omega) (by omega) (by omega), ⟨?_, fun q => ?_, fun q => ?_, fun _ => ?_, fun q => ?_⟩, Ksl_t (Ksl_fx f1 l) (Ksl_t (Ksl_u _ _ _ _) (Ksl_u _ _ _ _)), ?_⟩
    · rw [am_cont_some e107]
      simp (disch := omega) only [decide_true, decide_false, Bool.not_true, Bool.not_false, am_cont, Option.bind_some, Option.toList_some, Option.toList_none, List.singleton_append, List.nil_append, cond_true, cond_false, bk_48_113, zI_in, zI_nat, n992, am_u_at, zm1, bk_48_132]
      rfl
    · rw [am_u_ng _ _ _ _ _ (by omega), am_u_at]; rfl
    · have q : 7 ≤ 2 := q; omega
    · have q : 7 = 0 ∨ 7 = 2 := q; omega
    · rw [am_u_at]
    · have q : 7 = 2 := q; omega
    · rw [am_u_ng _ _ _ _ _ (by omega), am_u_ng _ _ _ _ _ (by omega)]; exact f13
  rw [if_neg h12]
  rw [decide_eq_false h12] at start
  have e49 := c_act49 env (d + 3) (kw u) I J E
  by_cases h8 : 8 ≤ kw u ∧ kw u ≤ 11
  rotate_left
  · rw [if_neg h8]
    rw [if_neg h8] at e49
    refine ⟨false, stp I 1, J, E, start.trans ?_, FX19 (stp_fx I J E 1), rfl, stp_3 I 1, by rw [stp_4]; exact hat⟩
    simp only [decide_true, decide_false, Bool.not_true, Bool.not_false, am_cont, Option.bind_some, Option.toList_some, Option.toList_none, List.singleton_append, List.nil_append, cond_true, cond_false, e49, bk_48_38, c_stop, bk_48_47]
    rfl
  rw [if_pos h8]
  rw [if_pos h8] at e49
  have g48 : am_ev env (d + 5, 48, 0, [some (.ref 99), some (.ref 1), some (.ref 5), none, none], [], am_hp I J E) = am_ev env (d + 5, 48, 48, [some (.ref 99), some (.ref 1), some (.ref 5), some (.retAddr (kw u)), some (.int (-1))], [], am_hp I J E) := by
    refine start.trans ?_
    simp (disch := omega) only [decide_true, decide_false, Bool.not_true, Bool.not_false, am_cont, Option.bind_some, Option.toList_some, Option.toList_none, List.singleton_append, List.nil_append, cond_true, cond_false, e49, bk_48_38, zm1]
  by_cases h40 : l = 40
  · rw [if_pos h40, g48.trans (full (kw u) _ h40)]; exact fullR h40
  rw [if_neg h40]
  have e49b := c_act49 env (d + 3) (kw u) I1 J1 E1
  rw [if_pos h8] at e49b
  have fa := FXu I1 J1 E1 100 l (Int32.ofNat (10 * (kw u - 5))) (by omega)
  have sa : CS (am_u I1 100 l (Int32.ofNat (10 * (kw u - 5)))) J1 E1 z c lim (lx c z lim u.2.2) := CS_fx s1 fa (by omega) (by omega) (by omega)
  have n99 : am_u I1 100 l (Int32.ofNat (10 * (kw u - 5))) 99 1 = Int32.ofNat l := by rw [am_u_ng _ _ _ _ _ (by omega)]; exact h991
  have ma := NMc_fx m1 fa (by omega) (by omega) (by omega)
  have e25 := c_bookN env (d + 2) z lim c _ n k T U _ J1 E1 sa ma
  have g67 : am_ev env (d + 5, 48, 0, [some (.ref 99), some (.ref 1), some (.ref 5), none, none], [], am_hp I J E) = am_cont env (d + 4, 25, 0, [some (.ref 5), some (.ref 1), none], [], am_hp (am_u I1 100 l (Int32.ofNat (10 * (kw u - 5)))) J1 E1) (d + 5) 48 159 [some (.ref 99), some (.ref 1), some (.ref 5), some (.retAddr (kw u)), some (.int (-1))] [.int (Int32.ofNat l), .ref 102] := by
    refine g48.trans ((more (kw u) _ (by omega)).trans ?_)
    refine (bk_48_67 _ _ _ _ _ _ _ _).trans ?_
    rw [decide_eq_false h0, decide_eq_false h12, h991]
    simp (disch := omega) only [decide_true, decide_false, Bool.not_true, Bool.not_false, am_cont, Option.bind_some, Option.toList_some, Option.toList_none, List.singleton_append, List.nil_append, cond_true, cond_false, e49b, bk_48_145, zI_in, zI_nat, lb_d, lb_b, Bool.and_self, n99]
  have hata := c_at sa
  generalize hq1 : lx c z lim u.2.2 = u1 at sa e25 hata ⊢
  by_cases hp : fnB T n u1 = 0
  rotate_left
  · rw [if_pos hp]
    rw [if_neg hp] at e25
    have n992 : ∀ v, am_u (stp (am_u I1 100 l (Int32.ofNat (10 * (kw u - 5)))) (Int32.ofNat (fnB T n u1))) 102 l v 99 1 = Int32.ofNat l := fun v => by rw [am_u_ng _ _ _ _ _ (by omega), (stp_fx _ J1 E1 _).1 99 (by omega)]; exact n99
    refine ⟨false, am_u (stp (am_u I1 100 l (Int32.ofNat (10 * (kw u - 5)))) (Int32.ofNat (fnB T n u1))) 102 l (-1), J1, E1, g67.trans ?_, FX_u (FX_tr (FX19 f1) (FX_tr (FXr9 fa) (FX19 (stp_fx _ J1 E1 _)))) _ _ _ (Or.inr ⟨by omega, by omega⟩), rfl, ?_, ?_⟩
    · rw [am_cont_some e25]
      simp (disch := omega) only [decide_true, decide_false, Bool.not_true, Bool.not_false, am_cont, Option.bind_some, Option.toList_some, Option.toList_none, List.singleton_append, List.nil_append, cond_true, cond_false, bk_48_159, zI_in, zI_nat, n992, am_u_at, bk_48_178]
      rfl
    · rw [am_u_ng _ _ _ _ _ (by omega)]; exact stp_3 _ _
    · rw [am_u_ng _ _ _ _ _ (by omega), stp_4]; exact hata
  rw [if_neg (fun q => q hp)]
  rw [if_pos hp] at e25
  have fb1 := fdx_le T u1.1.2.1 n
  have hn8 := hm.1.2
  have hB8 : fdx T u1.1.2.1 n - 1 < 1000 := by omega
  generalize fdx T u1.1.2.1 n - 1 = B at e25 hB8 ⊢
  have fb := FXu (am_u I1 100 l (Int32.ofNat (10 * (kw u - 5)))) J1 E1 102 l (Int32.ofNat B) (by omega)
  have n992 : am_u (am_u I1 100 l (Int32.ofNat (10 * (kw u - 5)))) 102 l (Int32.ofNat B) 99 1 = Int32.ofNat l := by rw [am_u_ng _ _ _ _ _ (by omega)]; exact n99
  refine ⟨true, am_u (am_u I1 100 l (Int32.ofNat (10 * (kw u - 5)))) 102 l (Int32.ofNat B), J1, E1, g67.trans ?_, FX_tr (FX19 f1) (FX_tr (FXr9 fa) (FXr9 fb)), rfl, CS_fx sa fb (by omega) (by omega) (by omega), ⟨?_, fun q => ?_, fun q => ?_, fun _ => ?_, fun q => ?_⟩, Ksl_t (Ksl_fx f1 l) (Ksl_t (Ksl_u _ _ _ _) (Ksl_u _ _ _ _)), ?_⟩
  · rw [am_cont_some e25]
    simp (disch := omega) only [decide_true, decide_false, Bool.not_true, Bool.not_false, am_cont, Option.bind_some, Option.toList_some, Option.toList_none, List.singleton_append, List.nil_append, cond_true, cond_false, bk_48_159, zI_in, zI_nat, n992, am_u_at, zm1, bk_48_178]
    rfl
  · rw [am_u_ng _ _ _ _ _ (by omega), am_u_at]
  · have q : kw u - 5 ≤ 2 := q; omega
  · have q : kw u - 5 = 0 ∨ kw u - 5 = 2 := q; omega
  · rw [am_u_at]
  · have q : kw u - 5 = 2 := q; omega
  · rw [am_u_ng _ _ _ _ _ (by omega), am_u_ng _ _ _ _ _ (by omega)]; exact f13
/-- what is so of a line -/
def DV (n k : Nat) (e : Rl) : Prop := e.1 ≤ 7 ∧ (e.1 ≤ 2 → e.2.1 < k) ∧ (e.1 = 0 ∨ e.1 = 2 → e.2.2.1 < n) ∧ (e.1 = 2 → e.2.2.2 < k) ∧ (3 ≤ e.1 ∧ e.1 ≤ 6 → e.2.1 < n) ∧ (e.1 = 7 → 1 ≤ e.2.1 ∧ e.2.1 ≤ 60)
def rlo (z lim n k l : Nat) (u : Cu) (r : RLr) : Prop := match r with
  | .inl x => 1 ≤ x.1 ∧ x.1 ≤ 4 ∧ x.2 ≤ lim
  | .inr y => u.2.2 ≤ y.2.2.2 ∧ y.2.2.2 ≤ z ∧ l < 40 ∧ u.1.1 = 2 ∧ DV n k y.1
theorem kw2 (u : Cu) (h : kw u ≠ 0) : u.1.1 = 2 := by
  unfold kw cwd at h
  by_cases q : u.1.1 = 2
  · exact q
  · rw [if_neg q] at h; exact absurd rfl h
theorem rDeed_o (c : Nat → Nat) (z lim n k : Nat) (T U : Nat → List Nat) (r : Nat) (hr : r < k) (u : Cu) (hu : u.2.2 ≤ z) (hat : u.2.1 ≤ lim) : match rDeed c z lim n k T U r u with | .inl x => 1 ≤ x.1 ∧ x.1 ≤ 4 ∧ x.2 ≤ lim | .inr y => u.2.2 ≤ y.2.2.2 ∧ y.2.2.2 ≤ z ∧ DV n k y.1 := by
  obtain ⟨p1, q1⟩ := lx_ge c z lim u.2.2 hu
  have a1 := lx_at c z lim u.2.2 hu
  obtain ⟨p2, q2⟩ := lx_ge c z lim _ q1
  have a2 := lx_at c z lim _ q1
  unfold rDeed
  generalize lx c z lim u.2.2 = u1 at *
  generalize lx c z lim u1.2.2 = u2 at *
  by_cases h6 : kw u = 6
  · rw [if_pos h6]; exact ⟨Nat.le_refl _, hu, by show 1 ≤ 7; omega, fun _ => hr, fun q => by have q : 1 = 0 ∨ 1 = 2 := q; omega, fun q => by have q : 1 = 2 := q; omega, fun q => by have q : 3 ≤ 1 ∧ 1 ≤ 6 := q; omega, fun q => by have q : 1 = 7 := q; omega⟩
  rw [if_neg h6]
  by_cases h7 : ¬ (kw u = 7 ∨ kw u = 5)
  · rw [if_pos h7]; exact ⟨by show 1 ≤ 1; omega, by show 1 ≤ 4; omega, hat⟩
  rw [if_neg h7]
  by_cases hb : fnB T n u1 ≠ 0
  · rw [if_pos hb]; exact ⟨(fnB_in hb).1, (fnB_in hb).2, a1⟩
  rw [if_neg hb]
  have fb1 := fdx_le T u1.1.2.1 n
  have hb0 := (fnB0 (Classical.not_not.mp hb)).2
  by_cases h5 : kw u = 5
  · rw [if_pos h5]; exact ⟨p1, q1, by show 0 ≤ 7; omega, fun _ => hr, fun _ => by show fdx T u1.1.2.1 n - 1 < n; omega, fun q => by have q : 0 = 2 := q; omega, fun q => by have q : 3 ≤ 0 ∧ 0 ≤ 6 := q; omega, fun q => by have q : 0 = 7 := q; omega⟩
  rw [if_neg h5]
  by_cases hq : fnB U k u2 ≠ 0
  · rw [if_pos hq]; exact ⟨(fnB_in hq).1, (fnB_in hq).2, a2⟩
  rw [if_neg hq]
  have fb2 := fdx_le U u2.1.2.1 k
  have hq0 := (fnB0 (Classical.not_not.mp hq)).2
  exact ⟨by show u.2.2 ≤ u2.2.2; omega, q2, by show 2 ≤ 7; omega, fun _ => hr, fun _ => by show fdx T u1.1.2.1 n - 1 < n; omega, fun _ => by show fdx U u2.1.2.1 k - 1 < k; omega, fun q => by have q : 3 ≤ 2 ∧ 2 ≤ 6 := q; omega, fun q => by have q : 2 = 7 := q; omega⟩
theorem rLine_o (c : Nat → Nat) (z lim n k : Nat) (T U : Nat → List Nat) (l : Nat) (hl : l ≤ 40) (u : Cu) (hu : u.2.2 ≤ z) (hat : u.2.1 ≤ lim) : rlo z lim n k l u (rLine c z lim n k T U l u) := by
  obtain ⟨p1, q1⟩ := lx_ge c z lim u.2.2 hu
  have a1 := lx_at c z lim u.2.2 hu
  unfold rLine
  by_cases h0 : kw u = 0
  · rw [if_pos h0]
    by_cases hr : fnB U k u ≠ 0
    · rw [if_pos hr]; exact ⟨(fnB_in hr).1, (fnB_in hr).2, hat⟩
    rw [if_neg hr]
    have hf := fnB0 (Classical.not_not.mp hr)
    have fb := fdx_le U u.1.2.1 k
    by_cases h40 : l = 40
    · rw [if_pos h40]; exact ⟨by show 1 ≤ 4; omega, by show 4 ≤ 4; omega, hat⟩
    rw [if_neg h40]
    have hd := rDeed_o c z lim n k T U (fdx U u.1.2.1 k - 1) (by have := hf.2; omega) (lx c z lim u.2.2) q1 a1
    cases hrd : rDeed c z lim n k T U (fdx U u.1.2.1 k - 1) (lx c z lim u.2.2) with
    | inl x => rw [hrd] at hd; exact hd
    | inr y => rw [hrd] at hd; exact ⟨by omega, hd.2.1, by omega, (isn_f hf.1).1, hd.2.2⟩
  rw [if_neg h0]
  have h2 := kw2 u h0
  by_cases h12 : kw u = 12
  · rw [if_pos h12]
    by_cases h40 : l = 40
    · rw [if_pos h40]; exact ⟨by show 1 ≤ 4; omega, by show 4 ≤ 4; omega, hat⟩
    rw [if_neg h40]
    by_cases hp : pn (lx c z lim u.2.2) 1 60 ≠ 0
    · rw [if_pos hp]; exact ⟨(pn_in _ _ _ hp).1, (pn_in _ _ _ hp).2, a1⟩
    rw [if_neg hp]
    obtain ⟨-, v1, v2⟩ := pn0 (Classical.not_not.mp hp)
    exact ⟨p1, q1, by omega, h2, by show 7 ≤ 7; omega, fun q => by have q : 7 ≤ 2 := q; omega, fun q => by have q : 7 = 0 ∨ 7 = 2 := q; omega, fun q => by have q : 7 = 2 := q; omega, fun q => by have q : 3 ≤ 7 ∧ 7 ≤ 6 := q; omega, fun _ => ⟨v1, v2⟩⟩
  rw [if_neg h12]
  by_cases h8 : 8 ≤ kw u ∧ kw u ≤ 11
  · rw [if_pos h8]
    by_cases h40 : l = 40
    · rw [if_pos h40]; exact ⟨by show 1 ≤ 4; omega, by show 4 ≤ 4; omega, hat⟩
    rw [if_neg h40]
    by_cases hp : fnB T n (lx c z lim u.2.2) ≠ 0
    · rw [if_pos hp]; exact ⟨(fnB_in hp).1, (fnB_in hp).2, a1⟩
    rw [if_neg hp]
    have fb1 := fdx_le T (lx c z lim u.2.2).1.2.1 n
    have hb0 := (fnB0 (Classical.not_not.mp hp)).2
    exact ⟨p1, q1, by omega, h2, by show kw u - 5 ≤ 7; omega, fun q => by have q : kw u - 5 ≤ 2 := q; omega, fun q => by have q : kw u - 5 = 0 ∨ kw u - 5 = 2 := q; omega, fun q => by have q : kw u - 5 = 2 := q; omega, fun _ => by show fdx T (lx c z lim u.2.2).1.2.1 n - 1 < n; omega, fun q => by have q : kw u - 5 = 7 := q; omega⟩
  rw [if_neg h8]
  exact ⟨by show 1 ≤ 1; omega, by show 1 ≤ 4; omega, hat⟩
