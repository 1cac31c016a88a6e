/-! a RECORD's lines: as numbers; the class reads them -/
/-- what is done (0 lends .. 6 buy, 7 days), of whom or what, with which BOOK, to whom -/
abbrev Rl : Type := Nat × Nat × Nat × Nat
abbrev RLr : Type := (Nat × Nat) ⊕ (Rl × Cu)
/-- 0: a name of these; else the kind of the fault -/
def fnB (T : Nat → List Nat) (n : Nat) (u : Cu) : Nat := if isn u = true then (if fdx T u.1.2.1 n = 0 then 3 else 0) else 1
def rDeed (c : Nat → Nat) (z lim n k : Nat) (T U : Nat → List Nat) (r : Nat) (u : Cu) : RLr :=
  if kw u = 6 then .inr ((1, r, 0, 0), u) else
  if ¬ (kw u = 7 ∨ kw u = 5) then .inl (1, u.2.1) else
  if fnB T n (lx c z lim u.2.2) ≠ 0 then .inl (fnB T n (lx c z lim u.2.2), (lx c z lim u.2.2).2.1) else
  if kw u = 5 then .inr ((0, r, fdx T (lx c z lim u.2.2).1.2.1 n - 1, 0), lx c z lim u.2.2) else
  if fnB U k (lx c z lim (lx c z lim u.2.2).2.2) ≠ 0 then .inl (fnB U k (lx c z lim (lx c z lim u.2.2).2.2), (lx c z lim (lx c z lim u.2.2).2.2).2.1) else
  .inr ((2, r, fdx T (lx c z lim u.2.2).1.2.1 n - 1, fdx U (lx c z lim (lx c z lim u.2.2).2.2).1.2.1 k - 1), lx c z lim (lx c z lim u.2.2).2.2)
def rLine (c : Nat → Nat) (z lim n k : Nat) (T U : Nat → List Nat) (l : Nat) (u : Cu) : RLr :=
  if kw u = 0 then
    (if fnB U k u ≠ 0 then .inl (fnB U k u, u.2.1) else if l = 40 then .inl (4, u.2.1) else rDeed c z lim n k T U (fdx U u.1.2.1 k - 1) (lx c z lim u.2.2)) else
  if kw u = 12 then
    (if l = 40 then .inl (4, u.2.1) else if pn (lx c z lim u.2.2) 1 60 ≠ 0 then .inl (pn (lx c z lim u.2.2) 1 60, (lx c z lim u.2.2).2.1) else .inr ((7, (lx c z lim u.2.2).1.2.2, 0, 0), lx c z lim u.2.2)) else
  if 8 ≤ kw u ∧ kw u ≤ 11 then
    (if l = 40 then .inl (4, u.2.1) else if fnB T n (lx c z lim u.2.2) ≠ 0 then .inl (fnB T n (lx c z lim u.2.2), (lx c z lim u.2.2).2.1) else .inr ((kw u - 5, fdx T (lx c z lim u.2.2).1.2.1 n - 1, 0, 0), lx c z lim u.2.2)) else
  .inl (1, u.2.1)
theorem fnB0 {T : Nat → List Nat} {n : Nat} {u : Cu} (h : fnB T n u = 0) : isn u = true ∧ fdx T u.1.2.1 n ≠ 0 := by
  unfold fnB at h
  by_cases hn : isn u = true
  · rw [if_pos hn] at h
    by_cases q : fdx T u.1.2.1 n = 0
    · rw [if_pos q] at h; omega
    · exact ⟨hn, q⟩
  · rw [if_neg hn] at h; omega
theorem fnB_in {T : Nat → List Nat} {n : Nat} {u : Cu} (h : fnB T n u ≠ 0) : 1 ≤ fnB T n u ∧ fnB T n u ≤ 4 := by
  unfold fnB at h ⊢
  by_cases hn : isn u = true
  · rw [if_pos hn] at h ⊢
    by_cases q : fdx T u.1.2.1 n = 0
    · rw [if_pos q]; omega
    · rw [if_neg q] at h; exact absurd rfl h
  · rw [if_neg hn]; omega
/-- the class's names -/
def NMc (I : Nat → Nat → Int32) (J : Nat → Nat → Int64) (n k : Nat) (T U : Nat → List Nat) : Prop := (I 5 0 = Int32.ofNat n ∧ n ≤ 8) ∧ (I 5 2 = Int32.ofNat k ∧ k ≤ 6) ∧ (∀ b, b < n → gw (T b) ∧ J 6 b = Int64.ofNat (pk 32 (T b))) ∧ ∀ r, r < k → gw (U r) ∧ J 10 r = Int64.ofNat (pk 32 (U r))
theorem NMc_fx {X : Nat → Prop} {I I1 : Nat → Nat → Int32} {J J1 : Nat → Nat → Int64} {E E1 : Nat → Nat → Nat} {n k : Nat} {T U : Nat → List Nat} (h : NMc I J n k T U) (hf : FX X I J E I1 J1 E1) (h5 : ¬ X 5) (h6 : ¬ X 6) (h10 : ¬ X 10) : NMc I1 J1 n k T U := by
  obtain ⟨a1, a2, a3, a4⟩ := h
  exact ⟨by rw [hf.1 5 h5]; exact a1, by rw [hf.1 5 h5]; exact a2, fun b hb => by rw [hf.2.1 6 h6]; exact a3 b hb, fun b hb => by rw [hf.2.1 10 h10]; exact a4 b hb⟩
theorem c_bookN (env : am_E) (d : Nat) (z lim : Nat) (c : Nat → Nat) (u : Cu) (n k : Nat) (T U : Nat → List Nat) (I : Nat → Nat → Int32) (J : Nat → Nat → Int64) (E : Nat → Nat → Nat) (h : CS I J E z c lim u) (hm : NMc I J n k T U) : am_ev env (d + 2, 25, 0, [some (.ref 5), some (.ref 1), none], [], am_hp I J E) = (if fnB T n u = 0 then some (true, some (.int (Int32.ofNat (fdx T u.1.2.1 n - 1))), am_hp I J E) else some (true, some (.int (-1)), am_hp (stp I (Int32.ofNat (fnB T n u))) J E)) := by
  have e := c_bookHere env d 5 (by decide) z lim c u n hm.1.2 T (fun b hb => (hm.2.2.1 b hb).1) I J E h hm.1.1 (fun b hb => (hm.2.2.1 b hb).2)
  rw [e]
  unfold fnB
  by_cases hn : isn u = true
  · rw [if_pos hn, if_pos hn]
    by_cases q : fdx T u.1.2.1 n = 0
    · rw [if_pos q, if_pos q, if_neg (by omega)]; rfl
    · rw [if_neg q, if_neg q, if_pos rfl]
  · rw [if_neg hn, if_neg hn, if_neg (by omega)]; rfl
theorem c_readerN (env : am_E) (d : Nat) (z lim : Nat) (c : Nat → Nat) (u : Cu) (n k : Nat) (T U : Nat → List Nat) (I : Nat → Nat → Int32) (J : Nat → Nat → Int64) (E : Nat → Nat → Nat) (h : CS I J E z c lim u) (hm : NMc I J n k T U) : am_ev env (d + 2, 26, 0, [some (.ref 5), some (.ref 1), none], [], am_hp I J E) = (if fnB U k u = 0 then some (true, some (.int (Int32.ofNat (fdx U u.1.2.1 k - 1))), am_hp I J E) else some (true, some (.int (-1)), am_hp (stp I (Int32.ofNat (fnB U k u))) J E)) := by
  have e := c_readerHere env d 5 (by decide) z lim c u k hm.2.1.2 U (fun b hb => (hm.2.2.2 b hb).1) I J E h hm.2.1.1 (fun b hb => (hm.2.2.2 b hb).2)
  rw [e]
  unfold fnB
  by_cases hn : isn u = true
  · rw [if_pos hn, if_pos hn]
    by_cases q : fdx U u.1.2.1 k = 0
    · rw [if_pos q, if_pos q, if_neg (by omega)]; rfl
    · rw [if_neg q, if_neg q, if_pos rfl]
  · rw [if_neg hn, if_neg hn, if_neg (by omega)]; rfl
/-- the class's line l -/
def CLn (I : Nat → Nat → Int32) (l : Nat) (e : Rl) : Prop := I 100 l = Int32.ofNat (10 * e.1) ∧ (e.1 ≤ 2 → I 101 l = Int32.ofNat e.2.1) ∧ (e.1 = 0 ∨ e.1 = 2 → I 102 l = Int32.ofNat e.2.2.1) ∧ (3 ≤ e.1 → I 102 l = Int32.ofNat e.2.1) ∧ (e.1 = 2 → I 103 l = Int32.ofNat e.2.2.2)
abbrev X9 : Nat → Prop := fun q => q = 1 ∨ (100 ≤ q ∧ q ≤ 103)
abbrev XRw : Nat → Prop := fun q => 100 ≤ q ∧ q ≤ 103
/-- lines but l stay -/
def Ksl (I I' : Nat → Nat → Int32) (l : Nat) : Prop := ∀ q, 100 ≤ q → q ≤ 103 → ∀ i, i ≠ l → I' q i = I q i
theorem Ksl_r (I : Nat → Nat → Int32) (l : Nat) : Ksl I I l := fun _ _ _ _ _ => rfl
theorem Ksl_t {I I1 I2 : Nat → Nat → Int32} {l : Nat} (h1 : Ksl I I1 l) (h2 : Ksl I1 I2 l) : Ksl I I2 l := fun q a b i hi => (h2 q a b i hi).trans (h1 q a b i hi)
theorem Ksl_fx {I I1 : Nat → Nat → Int32} {J J1 : Nat → Nat → Int64} {E E1 : Nat → Nat → Nat} (h : FX (fun q => q = 1) I J E I1 J1 E1) (l : Nat) : Ksl I I1 l := fun q a b i _ => by rw [h.1 q (by omega)]
theorem Ksl_u (I : Nat → Nat → Int32) (p l : Nat) (v : Int32) : Ksl I (am_u I p l v) l := fun q _ _ i hi => by
  rw [am_u_dg]
  by_cases h : q = p
  · rw [if_pos h, if_neg hi]
  · rw [if_neg h]
theorem FX19 {I I1 : Nat → Nat → Int32} {J J1 : Nat → Nat → Int64} {E E1 : Nat → Nat → Nat} (h : FX (fun q => q = 1) I J E I1 J1 E1) : FX X9 I J E I1 J1 E1 := FX_mono h (fun q hq => Or.inl hq)
theorem FXr9 {I I1 : Nat → Nat → Int32} {J J1 : Nat → Nat → Int64} {E E1 : Nat → Nat → Nat} (h : FX XRw I J E I1 J1 E1) : FX X9 I J E I1 J1 E1 := FX_mono h (fun q hq => Or.inr hq)
theorem FXu (I : Nat → Nat → Int32) (J : Nat → Nat → Int64) (E : Nat → Nat → Nat) (p l : Nat) (v : Int32) (hp : 100 ≤ p ∧ p ≤ 103) : FX XRw I J E (am_u I p l v) J E := FX_u (FX_refl _ _ _ _) _ _ _ hp
def cRo (I0 : Nat → Nat → Int32) (I : Nat → Nat → Int32) (J : Nat → Nat → Int64) (E : Nat → Nat → Nat) (z : Nat) (c : Nat → Nat) (lim l : Nat) (b : Bool) (res : RLr) : Prop := match res with
  | .inl x => b = false ∧ I 1 3 = Int32.ofNat x.1 ∧ I 1 4 = Int32.ofNat x.2
  | .inr y => b = true ∧ CS I J E z c lim y.2 ∧ CLn I l y.1 ∧ Ksl I0 I l ∧ I 1 3 = 0
theorem c_readDeed (env : am_E) (d : Nat) (z lim : Nat) (hz : z ≤ 940) (hlim : lim ≤ 1000) (c : Nat → Nat) (u : Cu) (n k : Nat) (T U : Nat → List Nat) (l r : Nat) (hl : l < 40) (I : Nat → Nat → Int32) (J : Nat → Nat → Int64) (E : Nat → Nat → Nat) (h : CS I J E z c lim u) (hm : NMc I J n k T U) (h99 : I 99 1 = Int32.ofNat l) (hf : I 1 3 = 0) : ∃ b I' J' E', am_ev env (d + 4, 50, 0, [some (.ref 99), some (.ref 1), some (.ref 5), some (.int (Int32.ofNat r)), none], [], am_hp I J E) = some (true, some (.int (bi b)), am_hp I' J' E') ∧ FX X9 I J E I' J' E' ∧ cRo I I' J' E' z c lim l b (rDeed c z lim n k T U r u) := by
  have fa := FXu I J E 101 l (Int32.ofNat r) (by omega)
  have sa : CS (am_u I 101 l (Int32.ofNat r)) J E z c lim u := CS_fx h fa (by omega) (by omega) (by omega)
  have a99 : am_u I 101 l (Int32.ofNat r) 99 1 = Int32.ofNat l := by rw [am_u_ng _ _ _ _ _ (by omega)]; exact h99
  have hw := c_word h
  have start := bk_50_0 env (d + 3) 5 (Int32.ofNat r) I J E
  rw [h99, zI_in l 40 hl (by omega), zI_nat l (by omega), a99, zI_in l 40 hl (by omega), zI_nat l (by omega), hw] at start
  unfold rDeed
  by_cases h6 : kw u = 6
  · rw [if_pos h6]
    have fb := FXu (am_u I 101 l (Int32.ofNat r)) J E 100 l 10 (by omega)
    refine ⟨true, am_u (am_u I 101 l (Int32.ofNat r)) 100 l 10, J, E, start.trans ?_, FX_tr (FXr9 fa) (FXr9 fb), rfl, CS_fx sa fb (by omega) (by omega) (by omega), ⟨?_, fun _ => ?_, fun q => ?_, fun q => ?_, fun q => ?_⟩, Ksl_t (Ksl_u _ _ _ _) (Ksl_u _ _ _ _), ?_⟩
    · rw [decide_eq_true h6]; rfl
    · rw [am_u_at]; rfl
    · rw [am_u_ng _ _ _ _ _ (by omega), am_u_at]
    · have q : 1 = 0 ∨ 1 = 2 := q; omega
    · have q : 3 ≤ 1 := q; omega
    · have q : 1 = 2 := q; omega
    · rw [am_u_ng _ _ _ _ _ (by omega), am_u_ng _ _ _ _ _ (by omega)]; exact hf
  rw [if_neg h6]
  rw [decide_eq_false h6] at start
  have s48 : am_ev env (d + 4, 50, 0, [some (.ref 99), some (.ref 1), some (.ref 5), some (.int (Int32.ofNat r)), none], [], am_hp I J E) = am_ev env (d + 4, 50, 48, [some (.ref 99), some (.ref 1), some (.ref 5), some (.int (Int32.ofNat r)), none], [.int (bi (decide (kw u = 7)))], am_hp (am_u I 101 l (Int32.ofNat r)) J E) := by
    refine start.trans ?_
    cases decide (kw u = 7) <;> rfl
  have hat := c_at sa
  by_cases hne : ¬ (kw u = 7 ∨ kw u = 5)
  · rw [if_pos hne]
    refine ⟨false, stp (am_u I 101 l (Int32.ofNat r)) 1, J, E, s48.trans ?_, FX_tr (FXr9 fa) (FX19 (stp_fx _ J E 1)), rfl, stp_3 _ 1, by rw [stp_4]; exact hat⟩
    rw [decide_eq_false (fun e => hne (Or.inl e))]
    refine (bk_50_48 _ _ _ _ _ _ _ _).trans ?_
    rw [hw, decide_eq_false (fun e => hne (Or.inr e))]
    simp only [bi_f, zq_0_0, decide_true, decide_false, Bool.not_true, Bool.not_false, am_cont, Option.bind_some, Option.toList_some, Option.toList_none, List.singleton_append, List.nil_append, cond_true, cond_false, c_stop, bk_50_70]; rfl
  rw [if_neg hne]
  have h75 := Classical.not_not.mp hne
  generalize htl : decide (kw u = 7) = tl at s48
  have fb := FXu (am_u I 101 l (Int32.ofNat r)) J E 100 l (bif tl then 20 else 0) (by omega)
  have sb : CS (am_u (am_u I 101 l (Int32.ofNat r)) 100 l (bif tl then 20 else 0)) J E z c lim u := CS_fx sa fb (by omega) (by omega) (by omega)
  obtain ⟨I1, J1, E1, k1, s1, f1, t3, t4⟩ := c_nx env d z lim hz hlim c u _ J E sb
  have F1 : FX X9 I J E I1 J1 E1 := FX_tr (FXr9 fa) (FX_tr (FXr9 fb) (FX19 f1))
  have m1 := NMc_fx hm F1 (by omega) (by omega) (by omega)
  have h991 : I1 99 1 = Int32.ofNat l := by rw [F1.1 99 (by omega)]; exact h99
  have f13 : I1 1 3 = 0 := by rw [t3, am_u_ng _ _ _ _ _ (by omega), am_u_ng _ _ _ _ _ (by omega)]; exact hf
  have e25 := c_bookN env (d + 1) z lim c _ n k T U I1 J1 E1 s1 m1
  have hat1 := c_at s1
  have r100 : I1 100 l = (bif tl then 20 else 0) := by rw [f1.1 100 (by omega), am_u_at]
  have r101 : I1 101 l = Int32.ofNat r := by rw [f1.1 101 (by omega), am_u_ng _ _ _ _ _ (by omega), am_u_at]
  have K1 : Ksl I I1 l := Ksl_t (Ksl_t (Ksl_u _ _ _ _) (Ksl_u _ _ _ _)) (Ksl_fx f1 l)
  have a992 : am_u I 101 l (Int32.ofNat r) 99 1 = Int32.ofNat l := a99
  have g95 : am_ev env (d + 4, 50, 0, [some (.ref 99), some (.ref 1), some (.ref 5), some (.int (Int32.ofNat r)), none], [], am_hp I J E) = am_cont env (d + 3, 25, 0, [some (.ref 5), some (.ref 1), none], [], am_hp I1 J1 E1) (d + 4) 50 108 [some (.ref 99), some (.ref 1), some (.ref 5), some (.int (Int32.ofNat r)), some (.int (bi tl))] [.int (Int32.ofNat l), .ref 102] := by
    have s71 : am_ev env (d + 4, 50, 0, [some (.ref 99), some (.ref 1), some (.ref 5), some (.int (Int32.ofNat r)), none], [], am_hp I J E) = am_ev env (d + 4, 50, 71, [some (.ref 99), some (.ref 1), some (.ref 5), some (.int (Int32.ofNat r)), some (.int (bi tl))], [], am_hp (am_u I 101 l (Int32.ofNat r)) J E) := by
      refine s48.trans ((bk_50_48 _ _ _ _ _ _ _ _).trans ?_)
      rw [hw, bi_eq0]
      cases tl with
      | true => rfl
      | false =>
        have h5 : kw u = 5 := by
          rcases h75 with q | q
          · rw [decide_eq_true q] at htl; cases htl
          · exact q
        rw [decide_eq_true h5]; rfl
    refine s71.trans ((bk_50_71 _ _ _ _ _ _ _ _).trans ?_)
    rw [bi_eq0, a99]
    cases tl
    · simp (disch := omega) only [decide_true, decide_false, Bool.not_true, Bool.not_false, am_cont, Option.bind_some, Option.toList_some, Option.toList_none, List.singleton_append, List.nil_append, cond_true, cond_false, bk_50_90, zI_in, zI_nat]
      simp only [decide_true, decide_false, Bool.not_true, Bool.not_false, am_cont, Option.bind_some, Option.toList_some, Option.toList_none, List.singleton_append, List.nil_append, cond_true, cond_false] at k1
      simp only [k1, Option.bind_some, Option.toList_none, List.nil_append, bk_50_95, lb_d, lb_b, Bool.and_self, cond_true, h991, am_cont]
    · simp (disch := omega) only [decide_true, decide_false, Bool.not_true, Bool.not_false, am_cont, Option.bind_some, Option.toList_some, Option.toList_none, List.singleton_append, List.nil_append, cond_true, cond_false, bk_50_90, zI_in, zI_nat]
      simp only [decide_true, decide_false, Bool.not_true, Bool.not_false, am_cont, Option.bind_some, Option.toList_some, Option.toList_none, List.singleton_append, List.nil_append, cond_true, cond_false] at k1
      simp only [k1, Option.bind_some, Option.toList_none, List.nil_append, bk_50_95, lb_d, lb_b, Bool.and_self, cond_true, h991, am_cont]
  generalize hq1 : lx c z lim u.2.2 = u1 at s1 e25 hat1 ⊢
  by_cases hb0 : fnB T n u1 = 0
  rotate_left
  · rw [if_pos hb0]
    rw [if_neg hb0] at e25
    have n99 : ∀ v, am_u (stp I1 (Int32.ofNat (fnB T n u1))) 102 l v 99 1 = Int32.ofNat l := fun v => by rw [am_u_ng _ _ _ _ _ (by omega), (stp_fx I1 J1 E1 _).1 99 (by omega)]; exact h991
    refine ⟨false, am_u (stp I1 (Int32.ofNat (fnB T n u1))) 102 l (-1), J1, E1, g95.trans ?_, FX_u (FX_tr F1 (FX19 (stp_fx I1 J1 E1 _))) _ _ _ (Or.inr ⟨by omega, by omega⟩), rfl, ?_, ?_⟩
    · rw [am_cont_some e25]
      simp (disch := omega) only [decide_true, decide_false, Bool.not_true, Bool.not_false, am_cont, Option.bind_some, Option.toList_some, Option.toList_none, List.singleton_append, List.nil_append, cond_true, cond_false, bk_50_108, zI_in, zI_nat, n99, am_u_at, bk_50_127, bk_50_145]
      rfl
    · rw [am_u_ng _ _ _ _ _ (by omega)]; exact stp_3 _ _
    · rw [am_u_ng _ _ _ _ _ (by omega), stp_4]; exact hat1
  rw [if_neg (fun q => q hb0)]
  rw [if_pos hb0] at e25
  have fb1 := fdx_le T u1.1.2.1 n
  have hn8 := hm.1.2
  generalize hB : fdx T u1.1.2.1 n - 1 = B at e25 ⊢
  have hB8 : B < 1000 := by omega
  have fc := FXu I1 J1 E1 102 l (Int32.ofNat B) (by omega)
  have sc : CS (am_u I1 102 l (Int32.ofNat B)) J1 E1 z c lim u1 := CS_fx s1 fc (by omega) (by omega) (by omega)
  have n99 : am_u I1 102 l (Int32.ofNat B) 99 1 = Int32.ofNat l := by rw [am_u_ng _ _ _ _ _ (by omega)]; exact h991
  by_cases h5 : kw u = 5
  · rw [if_pos h5]
    have htf : tl = false := by rw [← htl]; exact decide_eq_false (by omega)
    subst htf
    refine ⟨true, am_u I1 102 l (Int32.ofNat B), J1, E1, g95.trans ?_, FX_tr F1 (FXr9 fc), rfl, sc, ⟨?_, fun _ => ?_, fun _ => ?_, fun q => ?_, fun q => ?_⟩, Ksl_t K1 (Ksl_u _ _ _ _), ?_⟩
    · rw [am_cont_some e25]
      simp (disch := omega) only [decide_true, decide_false, Bool.not_true, Bool.not_false, am_cont, Option.bind_some, Option.toList_some, Option.toList_none, List.singleton_append, List.nil_append, cond_true, cond_false, bk_50_108, zI_in, zI_nat, n99, am_u_at, zm1, bi_f, zq_0_0, bk_50_127, bk_50_145]
      rfl
    · rw [am_u_ng _ _ _ _ _ (by omega), r100]; rfl
    · rw [am_u_ng _ _ _ _ _ (by omega), r101]
    · rw [am_u_at]
    · have q : 3 ≤ 0 := q; omega
    · have q : 0 = 2 := q; omega
    · rw [am_u_ng _ _ _ _ _ (by omega)]; exact f13
  rw [if_neg h5]
  have htt : tl = true := by rw [← htl]; exact decide_eq_true (by omega)
  subst htt
  obtain ⟨I2, J2, E2, k2, s2, f2, t5, t6⟩ := c_nx env d z lim hz hlim c u1 _ J1 E1 sc
  have F2 : FX X9 I J E I2 J2 E2 := FX_tr F1 (FX_tr (FXr9 fc) (FX19 f2))
  have m2 := NMc_fx hm F2 (by omega) (by omega) (by omega)
  have h992 : I2 99 1 = Int32.ofNat l := by rw [F2.1 99 (by omega)]; exact h99
  have e26 := c_readerN env (d + 1) z lim c _ n k T U I2 J2 E2 s2 m2
  have hat2 := c_at s2
  have g150 : am_ev env (d + 4, 50, 0, [some (.ref 99), some (.ref 1), some (.ref 5), some (.int (Int32.ofNat r)), none], [], am_hp I J E) = am_cont env (d + 3, 26, 0, [some (.ref 5), some (.ref 1), none], [], am_hp I2 J2 E2) (d + 4) 50 163 [some (.ref 99), some (.ref 1), some (.ref 5), some (.int (Int32.ofNat r)), some (.int (bi true))] [.int (Int32.ofNat l), .ref 103] := by
    refine g95.trans ?_
    rw [am_cont_some e25]
    simp (disch := omega) only [decide_true, decide_false, Bool.not_true, Bool.not_false, am_cont, Option.bind_some, Option.toList_some, Option.toList_none, List.singleton_append, List.nil_append, cond_true, cond_false, bk_50_108, zI_in, zI_nat, n99, am_u_at, zm1, bi_t, zq_1_0, k2, bk_50_150, lb_d, lb_b, Bool.and_self, h992]
  generalize hq2 : lx c z lim u1.2.2 = u2 at s2 e26 hat2 ⊢
  by_cases hr0 : fnB U k u2 = 0
  rotate_left
  · rw [if_pos hr0]
    rw [if_neg hr0] at e26
    have n99 : ∀ v, am_u (stp I2 (Int32.ofNat (fnB U k u2))) 103 l v 99 1 = Int32.ofNat l := fun v => by rw [am_u_ng _ _ _ _ _ (by omega), (stp_fx I2 J2 E2 _).1 99 (by omega)]; exact h992
    refine ⟨false, am_u (stp I2 (Int32.ofNat (fnB U k u2))) 103 l (-1), J2, E2, g150.trans ?_, FX_u (FX_tr F2 (FX19 (stp_fx I2 J2 E2 _))) _ _ _ (Or.inr ⟨by omega, by omega⟩), rfl, ?_, ?_⟩
    · rw [am_cont_some e26]
      simp (disch := omega) only [decide_true, decide_false, Bool.not_true, Bool.not_false, am_cont, Option.bind_some, Option.toList_some, Option.toList_none, List.singleton_append, List.nil_append, cond_true, cond_false, bk_50_163, zI_in, zI_nat, n99, am_u_at, bk_50_182]
      rfl
    · rw [am_u_ng _ _ _ _ _ (by omega)]; exact stp_3 _ _
    · rw [am_u_ng _ _ _ _ _ (by omega), stp_4]; exact hat2
  rw [if_neg (fun q => q hr0)]
  rw [if_pos hr0] at e26
  have fb2 := fdx_le U u2.1.2.1 k
  have hk6 := hm.2.1.2
  generalize hQ : fdx U u2.1.2.1 k - 1 = Q at e26 ⊢
  have hQ8 : Q < 1000 := by omega
  have fe := FXu I2 J2 E2 103 l (Int32.ofNat Q) (by omega)
  have n993 : am_u I2 103 l (Int32.ofNat Q) 99 1 = Int32.ofNat l := by rw [am_u_ng _ _ _ _ _ (by omega)]; exact h992
  refine ⟨true, am_u I2 103 l (Int32.ofNat Q), J2, E2, g150.trans ?_, FX_tr F2 (FXr9 fe), rfl, CS_fx s2 fe (by omega) (by omega) (by omega), ⟨?_, fun _ => ?_, fun _ => ?_, fun q => ?_, fun q => ?_⟩, Ksl_t (Ksl_t (Ksl_t K1 (Ksl_u _ _ _ _)) (Ksl_fx f2 l)) (Ksl_u _ _ _ _), ?_⟩
  · rw [am_cont_some e26]
    simp (disch := omega) only [decide_true, decide_false, Bool.not_true, Bool.not_false, am_cont, Option.bind_some, Option.toList_some, Option.toList_none, List.singleton_append, List.nil_append, cond_true, cond_false, bk_50_163, zI_in, zI_nat, n993, am_u_at, zm1, bk_50_182]
    rfl
  · rw [am_u_ng _ _ _ _ _ (by omega), f2.1 100 (by omega), am_u_ng _ _ _ _ _ (by omega), r100]; rfl
  · rw [am_u_ng _ _ _ _ _ (by omega), f2.1 101 (by omega), am_u_ng _ _ _ _ _ (by omega), r101]
  · rw [am_u_ng _ _ _ _ _ (by omega), f2.1 102 (by omega), am_u_at]
  · have q : 3 ≤ 2 := q; omega
  · rw [am_u_at]
  · rw [am_u_ng _ _ _ _ _ (by omega), t5, am_u_ng _ _ _ _ _ (by omega)]; exact f13
