/-! a SENTENCE read by the class -/
theorem k37 : decide (37 < 179) = true ∧ Nat.beq (am_K 37).1 5 = true ∧ am_SR 37 2 = 38 ∧ am_SR 37 3 = 39 ∧ am_SR 37 4 = 40 := by decide +kernel
theorem k38 : decide (38 < 179) = true ∧ Nat.beq (am_K 38).1 105 = true ∧ (am_K 38).2 = 40 ∧ decide (39 < 179) = true ∧ Nat.beq (am_K 39).1 100 = true ∧ (am_K 39).2 = 40 ∧ decide (40 < 179) = true ∧ Nat.beq (am_K 40).1 100 = true ∧ (am_K 40).2 = 40 := by decide +kernel
def CSt (I : Nat → Nat → Int32) (E : Nat → Nat → Nat) (S : Ssn) : Prop := I 37 0 = Int32.ofNat S.2.1 ∧ I 37 1 = Int32.ofNat S.1 ∧ (∀ i, i < S.1 → E 38 i = (S.2.2.1 i).1 ∧ I 39 i = Int32.ofNat (S.2.2.1 i).2.2 ∧ I 40 i = Int32.ofNat (S.2.2.1 i).2.1) ∧ ∀ j, j < 40 → E 38 j ≤ 24
abbrev X3 : Nat → Prop := fun q => q = 1 ∨ (37 ≤ q ∧ q ≤ 41)
abbrev X3s : Nat → Prop := fun q => 37 ≤ q ∧ q ≤ 41
theorem CSt_fx {X : Nat → Prop} {I I1 : Nat → Nat → Int32} {J J1 : Nat → Nat → Int64} {E E1 : Nat → Nat → Nat} {S : Ssn} (h : CSt I E S) (hf : FX X I J E I1 J1 E1) (hX : ∀ q, 37 ≤ q → q ≤ 41 → ¬ X q) : CSt I1 E1 S := by
  unfold CSt
  rw [hf.1 37 (hX _ (by omega) (by omega)), hf.1 39 (hX _ (by omega) (by omega)), hf.1 40 (hX _ (by omega) (by omega)), hf.2.2 38 (hX _ (by omega) (by omega))]
  exact h
theorem FX13 {I I1 : Nat → Nat → Int32} {J J1 : Nat → Nat → Int64} {E E1 : Nat → Nat → Nat} (h : FX (fun q => q = 1) I J E I1 J1 E1) : FX X3 I J E I1 J1 E1 := FX_mono h (fun q hq => Or.inl hq)
theorem FXs3 {I I1 : Nat → Nat → Int32} {J J1 : Nat → Nat → Int64} {E E1 : Nat → Nat → Nat} (h : FX X3s I J E I1 J1 E1) : FX X3 I J E I1 J1 E1 := FX_mono h (fun q hq => Or.inr hq)
theorem c_addStep (env : am_E) (d : Nat) (S : Ssn) (hs : S.1 < 40) (w v g : Nat) (hw : w ≤ 24) (cc : Nat × Nat) (x y : Int32) (hx : x = Int32.ofNat g) (hy : y = Int32.ofNat v) (I : Nat → Nat → Int32) (J : Nat → Nat → Int64) (E : Nat → Nat → Nat) (h : CSt I E S) : ∃ I' E', am_ev env (d + 1, 65, 0, [some (.ref 37), some (.retAddr w), some (.int x), some (.int y)], [], am_hp I J E) = some (true, none, am_hp I' J E') ∧ CSt I' E' (sadd S (w, v, g) cc) ∧ FX X3s I J E I' J E' := by
  obtain ⟨a1, a2, a3, a4⟩ := h
  have start := bk_65_0 env d 37 w x y I J E
  have n1 : am_u I 39 S.1 x 37 1 = Int32.ofNat S.1 := by rw [am_u_ng _ _ _ _ _ (by omega)]; exact a2
  have n2 : am_u (am_u I 39 S.1 x) 40 S.1 y 37 1 = Int32.ofNat S.1 := by rw [am_u_ng _ _ _ _ _ (by omega)]; exact n1
  rw [k37.1, k37.2.1, k37.2.2.1, k37.2.2.2.1, k37.2.2.2.2, k38.1, k38.2.1, k38.2.2.1, k38.2.2.2.1, k38.2.2.2.2.1, k38.2.2.2.2.2.1, k38.2.2.2.2.2.2.1, k38.2.2.2.2.2.2.2.1, k38.2.2.2.2.2.2.2.2, a2, zI_in S.1 40 hs (by omega), zI_nat S.1 (by omega), n1, zI_in S.1 40 hs (by omega), zI_nat S.1 (by omega), n2, show decide ((40 : Int32) ≤ Int32.ofNat S.1) = false from zle_f 40 S.1 hs (by omega), show Nat.ble w 24 = true from Nat.ble_eq_true_of_le hw, zd_1] at start
  simp only [Bool.and_self, decide_true, decide_false, Bool.not_true, Bool.not_false, am_cont, Option.bind_some, Option.toList_some, Option.toList_none, List.singleton_append, List.nil_append, cond_true, cond_false, bk_65_49] at start
  refine ⟨_, _, start, ⟨?_, ?_, fun i hi => ?_, fun j hj => ?_⟩, FX_u (FX_u (FX_ue (FX_u (FX_refl _ _ _ _) 39 S.1 x ⟨by omega, by omega⟩) 38 S.1 w ⟨by omega, by omega⟩) 40 S.1 y ⟨by omega, by omega⟩) 37 1 _ ⟨by omega, by omega⟩⟩
  · rw [am_u_sg, if_neg (by omega), am_u_ng _ _ _ _ _ (by omega), am_u_ng _ _ _ _ _ (by omega)]; exact a1
  · rw [am_u_at]; rfl
  · have hi : i < S.1 + 1 := hi
    show am_u E 38 S.1 w 38 i = (rug S.2.2.1 S.1 (w, v, g) i).1 ∧ am_u (am_u (am_u I 39 S.1 x) 40 S.1 y) 37 1 _ 39 i = Int32.ofNat (rug S.2.2.1 S.1 (w, v, g) i).2.2 ∧ am_u (am_u (am_u I 39 S.1 x) 40 S.1 y) 37 1 _ 40 i = Int32.ofNat (rug S.2.2.1 S.1 (w, v, g) i).2.1
    rw [am_u_sg, am_u_ng _ 37 _ _ 39 (by omega), am_u_ng _ 40 _ _ 39 (by omega), am_u_sg, am_u_ng _ 37 _ _ 40 (by omega), am_u_sg, am_u_ng _ 39 _ _ 40 (by omega)]
    by_cases e : i = S.1
    · rw [if_pos e, if_pos e, if_pos e, e, rug_eq]; exact ⟨rfl, hx, hy⟩
    · rw [if_neg e, if_neg e, if_neg e, rug_ne _ _ _ _ e]; exact a3 i (by omega)
  · rw [am_u_sg]
    by_cases e : j = S.1
    · rw [if_pos e]; exact hw
    · rw [if_neg e]; exact a4 j hj
theorem c_isState (env : am_E) (d : Nat) (w : Nat) (I : Nat → Nat → Int32) (J : Nat → Nat → Int64) (E : Nat → Nat → Nat) : am_ev env (d + 1, 61, 0, [some (.retAddr w)], [], am_hp I J E) = some (true, some (.int (bi (decide (16 ≤ w ∧ w ≤ 18)))), am_hp I J E) := by
  refine (bk_61_0 _ _ _ _ _ _).trans ?_
  simp only [bk_61_21, bk_61_26]
  by_cases h1 : w = 16
  · subst h1; rfl
  rw [decide_eq_false h1]
  by_cases h2 : w = 17
  · subst h2; rfl
  rw [decide_eq_false h2]
  by_cases h3 : w = 18
  · subst h3; rfl
  rw [decide_eq_false h3, decide_eq_false (by omega : ¬ (16 ≤ w ∧ w ≤ 18))]; rfl
theorem c_isOf (env : am_E) (d : Nat) (w : Nat) (I : Nat → Nat → Int32) (J : Nat → Nat → Int64) (E : Nat → Nat → Nat) : am_ev env (d + 1, 62, 0, [some (.retAddr w)], [], am_hp I J E) = some (true, some (.int (bi (decide (19 ≤ w ∧ w ≤ 20)))), am_hp I J E) := by
  refine (bk_62_0 _ _ _ _ _ _).trans ?_
  simp only [bk_62_14, bk_62_19]
  by_cases h1 : w = 19
  · subst h1; rfl
  rw [decide_eq_false h1]
  by_cases h2 : w = 20
  · subst h2; rfl
  rw [decide_eq_false h2, decide_eq_false (by omega : ¬ (19 ≤ w ∧ w ≤ 20))]; rfl
theorem c_isMeas (env : am_E) (d : Nat) (w : Nat) (I : Nat → Nat → Int32) (J : Nat → Nat → Int64) (E : Nat → Nat → Nat) : am_ev env (d + 1, 63, 0, [some (.retAddr w)], [], am_hp I J E) = some (true, some (.int (bi (decide (21 ≤ w ∧ w ≤ 24)))), am_hp I J E) := by
  refine (bk_63_0 _ _ _ _ _ _).trans ?_
  simp only [bk_63_28, bk_63_33]
  by_cases h1 : w = 21
  · subst h1; rfl
  rw [decide_eq_false h1]
  by_cases h2 : w = 22
  · subst h2; rfl
  rw [decide_eq_false h2]
  by_cases h3 : w = 23
  · subst h3; rfl
  rw [decide_eq_false h3]
  by_cases h4 : w = 24
  · subst h4; rfl
  rw [decide_eq_false h4, decide_eq_false (by omega : ¬ (21 ≤ w ∧ w ≤ 24))]; rfl
theorem c_can (env : am_E) (d : Nat) (w : Nat) (hw : w ≤ 24) (I : Nat → Nat → Int32) (J : Nat → Nat → Int64) (E : Nat → Nat → Nat) : am_ev env (d + 2, 60, 0, [some (.retAddr w)], [], am_hp I J E) = some (true, some (.int (bi (decide (15 ≤ w)))), am_hp I J E) := by
  refine (bk_60_0 _ _ _ _ _ _).trans ?_
  by_cases h1 : w = 15
  · subst h1
    simp only [decide_true, decide_true, decide_false, Bool.not_true, Bool.not_false, am_cont, Option.bind_some, Option.toList_some, Option.toList_none, List.singleton_append, List.nil_append, cond_true, cond_false, bk_60_28, bk_60_33]; rfl
  rw [decide_eq_false h1]
  simp only [decide_true, decide_false, Bool.not_true, Bool.not_false, am_cont, Option.bind_some, Option.toList_some, Option.toList_none, List.singleton_append, List.nil_append, cond_true, cond_false, c_isState, bk_60_11, bi_eq0, Bool.not_not]
  by_cases h2 : 16 ≤ w ∧ w ≤ 18
  · rw [decide_eq_true h2, decide_eq_true (by omega : 15 ≤ w)]
    simp only [decide_true, decide_false, Bool.not_true, Bool.not_false, am_cont, Option.bind_some, Option.toList_some, Option.toList_none, List.singleton_append, List.nil_append, cond_true, cond_false, bk_60_28, bk_60_33]; rfl
  rw [decide_eq_false h2]
  simp only [decide_true, decide_false, Bool.not_true, Bool.not_false, am_cont, Option.bind_some, Option.toList_some, Option.toList_none, List.singleton_append, List.nil_append, cond_true, cond_false, c_isOf, bk_60_18, bi_eq0, Bool.not_not]
  by_cases h3 : 19 ≤ w ∧ w ≤ 20
  · rw [decide_eq_true h3, decide_eq_true (by omega : 15 ≤ w)]
    simp only [decide_true, decide_false, Bool.not_true, Bool.not_false, am_cont, Option.bind_some, Option.toList_some, Option.toList_none, List.singleton_append, List.nil_append, cond_true, cond_false, bk_60_28, bk_60_33]; rfl
  rw [decide_eq_false h3]
  simp only [decide_true, decide_false, Bool.not_true, Bool.not_false, am_cont, Option.bind_some, Option.toList_some, Option.toList_none, List.singleton_append, List.nil_append, cond_true, cond_false, c_isMeas, bk_60_25, bi_eq0]
  by_cases h4 : 21 ≤ w ∧ w ≤ 24
  · rw [decide_eq_true h4, decide_eq_true (by omega : 15 ≤ w)]
    simp only [decide_true, decide_false, Bool.not_true, Bool.not_false, am_cont, Option.bind_some, Option.toList_some, Option.toList_none, List.singleton_append, List.nil_append, cond_true, cond_false, bk_60_28, bk_60_33]; rfl
  · rw [decide_eq_false h4, decide_eq_false (by omega : ¬ 15 ≤ w)]
    simp only [decide_true, decide_false, Bool.not_true, Bool.not_false, am_cont, Option.bind_some, Option.toList_some, Option.toList_none, List.singleton_append, List.nil_append, cond_true, cond_false, bk_60_33]; rfl
def cSo (I : Nat → Nat → Int32) (J : Nat → Nat → Int64) (E : Nat → Nat → Nat) (z : Nat) (c : Nat → Nat) (lim : Nat) (b : Bool) (res : PSr) : Prop := match res with
  | .inl x => b = false ∧ I 1 3 = Int32.ofNat x.1 ∧ I 1 4 = Int32.ofNat x.2 ∧ ∀ j, j < 40 → E 38 j ≤ 24
  | .inr y => b = true ∧ CS I J E z c lim y.2 ∧ CSt I E y.1 ∧ I 1 3 = 0
def ppl (c : Nat → Nat) (z lim n : Nat) (T : Nat → List Nat) (w : Nat) (S : Ssn) (u : Cu) : PSr :=
  if w ≤ 18 then .inr (sadd S (w, 0, 0) (0, 0), u) else
  if w ≤ 20 then (if fnB T n u ≠ 0 then .inl (fnB T n u, u.2.1) else .inr (sadd S (w, fdx T u.1.2.1 n - 1, 0) (0, 0), lx c z lim u.2.2)) else
  if ism u = false then .inl (1, u.2.1) else
  if pn (lx c z lim u.2.2) 0 999 ≠ 0 then .inl (pn (lx c z lim u.2.2) 0 999, (lx c z lim u.2.2).2.1) else
  .inr (sadd S (w, (lx c z lim u.2.2).1.2.2, u.1.2.2) (0, 0), lx c z lim (lx c z lim u.2.2).2.2)
theorem c_plain (env : am_E) (d : Nat) (z lim : Nat) (hz : z ≤ 940) (hlim : lim ≤ 1000) (c : Nat → Nat) (u : Cu) (n k : Nat) (T U : Nat → List Nat) (S : Ssn) (hs : S.1 < 40) (w : Nat) (hw1 : 16 ≤ w) (hw : w ≤ 24) (I : Nat → Nat → Int32) (J : Nat → Nat → Int64) (E : Nat → Nat → Nat) (h : CS I J E z c lim u) (hm : NMc I J n k T U) (hc : CSt I E S) (hf : I 1 3 = 0) : ∃ b I' J' E', am_ev env (d + 4, 64, 0, [some (.ref 37), some (.ref 1), some (.ref 5), some (.retAddr w), none, none], [], am_hp I J E) = some (true, some (.int (bi b)), am_hp I' J' E') ∧ FX X3 I J E I' J' E' ∧ cSo I' J' E' z c lim b (ppl c z lim n T w S u) := by
  have hat := c_at h
  have hn8 := hm.1.2
  unfold ppl
  have start := bk_64_0 env (d + 3) 37 5 w I J E
  simp only [decide_true, decide_false, Bool.not_true, Bool.not_false, am_cont, Option.bind_some, Option.toList_some, Option.toList_none, List.singleton_append, List.nil_append, cond_true, cond_false, c_isState, bk_64_4, bi_eq0, k37.1, k37.2.1, Bool.and_self] at start
  by_cases h18 : w ≤ 18
  · rw [if_pos h18]
    rw [decide_eq_true (by omega : 16 ≤ w ∧ w ≤ 18)] at start
    obtain ⟨I', E', e1, e2, e3⟩ := c_addStep env (d + 2) S hs w 0 0 hw (0, 0) 0 0 rfl rfl I J E hc
    refine ⟨true, I', J, E', start.trans ?_, FXs3 e3, rfl, CS_fx h e3 (by omega) (by omega) (by omega), e2, by rw [e3.1 1 (by omega)]; exact hf⟩
    simp only [decide_true, decide_false, Bool.not_true, Bool.not_false, am_cont, Option.bind_some, Option.toList_some, Option.toList_none, List.singleton_append, List.nil_append, cond_true, cond_false, e1, bk_64_14]; rfl
  rw [if_neg h18]
  rw [decide_eq_false (by omega : ¬ (16 ≤ w ∧ w ≤ 18))] at start
  simp only [decide_true, decide_false, Bool.not_true, Bool.not_false, am_cont, Option.bind_some, Option.toList_some, Option.toList_none, List.singleton_append, List.nil_append, cond_true, cond_false, c_isOf, bk_64_20, bi_eq0, lb_d, lb_b, Bool.and_self] at start
  by_cases h20 : w ≤ 20
  · rw [if_pos h20]
    rw [decide_eq_true (by omega : 19 ≤ w ∧ w ≤ 20)] at start
    have e25 := c_bookN env (d + 1) z lim c u n k T U I J E h hm
    by_cases hb : fnB T n u = 0
    rotate_left
    · rw [if_pos hb]
      rw [if_neg hb] at e25
      refine ⟨false, stp I (Int32.ofNat (fnB T n u)), J, E, start.trans ?_, FX13 (stp_fx I J E _), rfl, stp_3 _ _, by rw [stp_4]; exact hat, hc.2.2.2⟩
      simp only [decide_true, decide_false, Bool.not_true, Bool.not_false, am_cont, Option.bind_some, Option.toList_some, Option.toList_none, List.singleton_append, List.nil_append, cond_true, cond_false, e25, bk_64_28]; rfl
    rw [if_neg (fun q => q hb)]
    rw [if_pos hb] at e25
    have fb := fdx_le T u.1.2.1 n
    have hB : fdx T u.1.2.1 n - 1 < 1000 := by omega
    generalize fdx T u.1.2.1 n - 1 = B at e25 hB ⊢
    obtain ⟨I1, J1, E1, k1, s1, f1, t3, t4⟩ := c_nx env d z lim hz hlim c u I J E h
    have c1 := CSt_fx hc f1 (fun q a b => by omega)
    obtain ⟨I', E', e1, e2, e3⟩ := c_addStep env (d + 2) S hs w B 0 hw (0, 0) 0 (Int32.ofNat B) rfl rfl I1 J1 E1 c1
    refine ⟨true, I', J1, E', start.trans ?_, FX_tr (FX13 f1) (FXs3 e3), rfl, CS_fx s1 e3 (by omega) (by omega) (by omega), e2, by rw [e3.1 1 (by omega), t3]; exact hf⟩
    simp (disch := omega) only [decide_true, decide_false, Bool.not_true, Bool.not_false, am_cont, Option.bind_some, Option.toList_some, Option.toList_none, List.singleton_append, List.nil_append, cond_true, cond_false, e25, bk_64_28, zm1, k1, bk_64_42, k37.1, k37.2.1, Bool.and_self, e1, bk_64_50]; rfl
  rw [if_neg h20]
  rw [decide_eq_false (by omega : ¬ (19 ≤ w ∧ w ≤ 20)), show decide (I 1 0 = (60 : Int32)) = isg u 60 from c_kindS h 60 (by omega) (by omega), show decide (I 1 0 = (61 : Int32)) = isg u 61 from c_kindS h 61 (by omega) (by omega), show decide (I 1 0 = (62 : Int32)) = isg u 62 from c_kindS h 62 (by omega) (by omega)] at start
  have s85 : am_ev env (d + 4, 64, 0, [some (.ref 37), some (.ref 1), some (.ref 5), some (.retAddr w), none, none], [], am_hp I J E) = (bif ism u then am_ev env (d + 4, 64, 85, [some (.ref 37), some (.ref 1), some (.ref 5), some (.retAddr w), some (.int (I 1 0)), none], [], am_hp I J E) else some (true, some (.int (bi false)), am_hp (stp I 1) J E)) := by
    refine start.trans ?_
    unfold ism
    cases isg u 60
    · cases isg u 61
      · cases isg u 62
        · simp only [decide_true, decide_false, Bool.not_true, Bool.not_false, am_cont, Option.bind_some, Option.toList_some, Option.toList_none, List.singleton_append, List.nil_append, cond_true, cond_false, c_stop, bk_64_84, Bool.or_self]; rfl
        · rfl
      · rfl
    · rfl
  by_cases hi : ism u = false
  · rw [if_pos hi]
    refine ⟨false, stp I 1, J, E, s85.trans ?_, FX13 (stp_fx I J E 1), rfl, stp_3 I 1, by rw [stp_4]; exact hat, hc.2.2.2⟩
    rw [hi]; rfl
  rw [if_neg hi]
  rw [Bool.not_eq_false] at hi
  have hsg : I 1 0 = Int32.ofNat u.1.2.2 := by
    have hk : u.1.1 = 4 := by
      unfold ism at hi
      rcases or_f hi with q | q
      · exact (isg_f q).1
      · rcases or_f q with q | q
        · exact (isg_f q).1
        · exact (isg_f q).1
    rw [h.1.1]
    unfold ckd
    rw [if_neg (by omega), if_neg (by omega), if_pos hk]
  obtain ⟨I1, J1, E1, k1, s1, f1, t3, t4⟩ := c_nx env d z lim hz hlim c u I J E h
  have c1 := CSt_fx hc f1 (fun q a b => by omega)
  have hat1 := c_at s1
  have e107 := c_num env (d + 1) z lim c _ 0 999 (by omega) (by omega) 0 999 rfl rfl I1 J1 E1 s1
  have g89 : am_ev env (d + 4, 64, 0, [some (.ref 37), some (.ref 1), some (.ref 5), some (.retAddr w), none, none], [], am_hp I J E) = am_cont env (d + 3, 107, 0, [some (.ref 1), some (.int 0), some (.int 999)], [], am_hp I1 J1 E1) (d + 4) 64 97 [some (.ref 37), some (.ref 1), some (.ref 5), some (.retAddr w), some (.int (Int32.ofNat u.1.2.2)), none] [] := by
    refine s85.trans ?_
    rw [hi, hsg]
    simp only [decide_true, decide_false, Bool.not_true, Bool.not_false, am_cont, Option.bind_some, Option.toList_some, Option.toList_none, List.singleton_append, List.nil_append, cond_true, cond_false, bk_64_85, k1, bk_64_89]
  generalize hq1 : lx c z lim u.2.2 = u1 at s1 hat1 e107 ⊢
  by_cases hp : pn u1 0 999 = 0
  rotate_left
  · rw [if_pos hp]
    rw [if_neg hp] at e107
    refine ⟨false, stp I1 (Int32.ofNat (pn u1 0 999)), J1, E1, g89.trans ?_, FX_tr (FX13 f1) (FX13 (stp_fx I1 J1 E1 _)), rfl, stp_3 _ _, by rw [stp_4]; exact hat1, c1.2.2.2⟩
    rw [am_cont_some e107]
    simp only [decide_true, decide_false, Bool.not_true, Bool.not_false, am_cont, Option.bind_some, Option.toList_some, Option.toList_none, List.singleton_append, List.nil_append, cond_true, cond_false, bk_64_97]; rfl
  rw [if_neg (fun q => q hp)]
  rw [if_pos hp] at e107
  obtain ⟨v1, v2, v3⟩ := pn0 hp
  obtain ⟨I2, J2, E2, k2, s2, f2, t5, t6⟩ := c_nx env d z lim hz hlim c u1 I1 J1 E1 s1
  have c2 := CSt_fx c1 f2 (fun q a b => by omega)
  obtain ⟨I', E', e1, e2, e3⟩ := c_addStep env (d + 2) S hs w u1.1.2.2 u.1.2.2 hw (0, 0) (Int32.ofNat u.1.2.2) (Int32.ofNat u1.1.2.2) rfl rfl I2 J2 E2 c2
  refine ⟨true, I', J2, E', g89.trans ?_, FX_tr (FX13 f1) (FX_tr (FX13 f2) (FXs3 e3)), rfl, CS_fx s2 e3 (by omega) (by omega) (by omega), e2, by rw [e3.1 1 (by omega), t5, t3]; exact hf⟩
  rw [am_cont_some e107]
  simp (disch := omega) only [decide_true, decide_false, Bool.not_true, Bool.not_false, am_cont, Option.bind_some, Option.toList_some, Option.toList_none, List.singleton_append, List.nil_append, cond_true, cond_false, bk_64_97, zm1, k2, bk_64_111, k37.1, k37.2.1, Bool.and_self, e1, bk_64_120]; rfl
