/-! a RECORD read by the reference -/
def MLn (I : Nat → Nat → Int32) (l : Nat) (e : Rl) : Prop := I 175 (4 * l) = Int32.ofNat e.1 ∧ I 175 (4 * l + 1) = Int32.ofNat e.2.1 ∧ I 175 (4 * l + 2) = Int32.ofNat e.2.2.1 ∧ I 175 (4 * l + 3) = Int32.ofNat e.2.2.2
def whr (u : Cu) : Nat := if kw u = 12 then 7 else if 8 ≤ kw u ∧ kw u ≤ 11 then kw u - 5 else 0
def mRl (I0 I : Nat → Nat → Int32) (J : Nat → Nat → Int64) (z : Nat) (c : Nat → Nat) (lim l : Nat) (b : Bool) (res : RLr) : Prop := match res with
  | .inl x => b = false ∧ I 156 10 = Int32.ofNat x.1 ∧ I 156 11 = Int32.ofNat x.2
  | .inr y => if isg (lx c z lim y.2.2.2) 59 = true then (b = true ∧ MS I J z c lim (lx c z lim (lx c z lim y.2.2.2).2.2) ∧ MLn I l y.1 ∧ (∀ j, j < 4 * l ∨ 4 * l + 4 ≤ j → I 175 j = I0 175 j) ∧ I 156 10 = 0) else (b = false ∧ I 156 10 = 1 ∧ I 156 11 = Int32.ofNat (lx c z lim y.2.2.2).2.1)
theorem rDeed_r (c : Nat → Nat) (z lim n k : Nat) (T U : Nat → List Nat) (r : Nat) (u : Cu) (y : Rl × Cu) (h : rDeed c z lim n k T U r u = .inr y) : y.1.2.1 = r := by
  unfold rDeed at h
  generalize lx c z lim u.2.2 = u1 at h
  generalize lx c z lim u1.2.2 = u2 at h
  by_cases h6 : kw u = 6
  · rw [if_pos h6] at h; cases h; rfl
  rw [if_neg h6] at h
  by_cases h7 : ¬ (kw u = 7 ∨ kw u = 5)
  · rw [if_pos h7] at h; cases h
  rw [if_neg h7] at h
  by_cases hb : fnB T n u1 ≠ 0
  · rw [if_pos hb] at h; cases h
  rw [if_neg hb] at h
  by_cases h5 : kw u = 5
  · rw [if_pos h5] at h; cases h; rfl
  rw [if_neg h5] at h
  by_cases hq : fnB U k u2 ≠ 0
  · rw [if_pos hq] at h; cases h
  rw [if_neg hq] at h
  cases h; rfl
theorem m_rec91 (env : am_E) (d : Nat) (z lim : Nat) (c : Nat → Nat) (u : Cu) (n k : Nat) (T U : Nat → List Nat) (I : Nat → Nat → Int32) (J : Nat → Nat → Int64) (E : Nat → Nat → Nat) (h : MS I J z c lim u) (hm : NMm I J n k T U) : am_ev env (d + 7, 283, 0, [some (.ref 156), none, none], [], am_hp I J E) = (if whr u = 0 then (if fnB U k u = 0 then am_ev env (d + 7, 283, 91, [some (.ref 156), some (.int 0), some (.int 7)], [], am_hp I J E) else some (true, some (.int 0), am_hp (mbd I (Int32.ofNat (fnB U k u))) J E)) else am_ev env (d + 7, 283, 91, [some (.ref 156), some (.int (Int32.ofNat (whr u))), some (.int 7)], [], am_hp I J E)) := by
  have w11 := m_isWord env (d + 3) z lim c u 11 (by omega) 11 rfl I J E h
  have s18 : ∀ (x1 : Int32) (x2 : Nat), 3 ≤ x2 → x2 ≤ 6 → am_ev env (d + 7, 283, 18, [some (.ref 156), some (.int x1), some (.int (Int32.ofNat x2))], [], am_hp I J E) = am_ev env (d + 7, 283, 18, [some (.ref 156), some (.int (if kw u = x2 + 5 then Int32.ofNat x2 else x1)), some (.int (Int32.ofNat (x2 + 1)))], [], am_hp I J E) := by
    intro x1 x2 a b
    have ww := m_isWord env (d + 3) z lim c u (4 + x2) (by omega) (Int32.ofNat (4 + x2)) rfl I J E h
    refine (bk_283_18 _ _ _ _ _ _ _).trans ?_
    rw [show decide ((6 : Int32) < Int32.ofNat x2) = false from zlt_f 6 x2 (by omega) (by omega), show (7 : Int32) + Int32.ofNat x2 = Int32.ofNat (7 + x2) from zI_add 7 x2, show Int32.ofNat (7 + x2) - 3 = Int32.ofNat (7 + x2 - 3) from zI_sub _ 3 (by omega), show 7 + x2 - 3 = 4 + x2 by omega]
    simp only [decide_true, decide_false, Bool.not_true, Bool.not_false, am_cont, Option.bind_some, Option.toList_some, Option.toList_none, List.singleton_append, List.nil_append, cond_true, cond_false, ww, bk_283_34, bi_eq0, bk_283_39, zd_1]
    by_cases q : kw u = x2 + 5
    · rw [if_pos q, decide_eq_true (by omega : kw u = 4 + x2 + 1)]; rfl
    · rw [if_neg q, decide_eq_false (by omega : ¬ kw u = 4 + x2 + 1)]; rfl
  have to18 : am_ev env (d + 7, 283, 0, [some (.ref 156), none, none], [], am_hp I J E) = am_ev env (d + 7, 283, 18, [some (.ref 156), some (.int (Int32.ofNat (whr u))), some (.int 7)], [], am_hp I J E) := by
    refine (bk_283_0 _ _ _ _ _).trans ?_
    simp only [decide_true, decide_false, Bool.not_true, Bool.not_false, am_cont, Option.bind_some, Option.toList_some, Option.toList_none, List.singleton_append, List.nil_append, cond_true, cond_false, w11, bk_283_6, bi_eq0]
    have st : ∀ x1 : Int32, am_ev env (d + 7, 283, 15, [some (.ref 156), none, none], [.int x1], am_hp I J E) = am_ev env (d + 7, 283, 18, [some (.ref 156), some (.int (if kw u = 6 + 5 then Int32.ofNat 6 else if kw u = 5 + 5 then Int32.ofNat 5 else if kw u = 4 + 5 then Int32.ofNat 4 else if kw u = 3 + 5 then Int32.ofNat 3 else x1)), some (.int 7)], [], am_hp I J E) := by
      intro x1
      refine (bk_283_15 _ _ _ _ _ _).trans ?_
      exact (s18 x1 3 (by omega) (by omega)).trans ((s18 _ 4 (by omega) (by omega)).trans ((s18 _ 5 (by omega) (by omega)).trans (s18 _ 6 (by omega) (by omega))))
    unfold whr
    by_cases h12 : kw u = 12
    · rw [decide_eq_true (show kw u = 11 + 1 from h12), if_pos h12]
      simp only [decide_true, decide_false, Bool.not_true, Bool.not_false, am_cont, Option.bind_some, Option.toList_some, Option.toList_none, List.singleton_append, List.nil_append, cond_true, cond_false]
      refine (st 7).trans ?_
      rw [if_neg (by omega), if_neg (by omega), if_neg (by omega), if_neg (by omega)]; rfl
    · rw [decide_eq_false (show ¬ kw u = 11 + 1 from h12), if_neg h12]
      simp only [decide_true, decide_false, Bool.not_true, Bool.not_false, am_cont, Option.bind_some, Option.toList_some, Option.toList_none, List.singleton_append, List.nil_append, cond_true, cond_false]
      refine (st 0).trans ?_
      by_cases h8 : 8 ≤ kw u ∧ kw u ≤ 11
      · rw [if_pos h8]
        rcases (show kw u = 8 ∨ kw u = 9 ∨ kw u = 10 ∨ kw u = 11 by omega) with e | e | e | e
        · rw [e]; rfl
        · rw [e]; rfl
        · rw [e]; rfl
        · rw [e]; rfl
      · rw [if_neg h8, if_neg (by omega), if_neg (by omega), if_neg (by omega), if_neg (by omega)]; rfl
  have hwl : whr u ≤ 7 := by
    unfold whr
    by_cases h12 : kw u = 12
    · rw [if_pos h12]; omega
    · rw [if_neg h12]
      by_cases h8 : 8 ≤ kw u ∧ kw u ≤ 11
      · rw [if_pos h8]; omega
      · rw [if_neg h8]; omega
  refine to18.trans ((bk_283_18 _ _ _ _ _ _ _).trans ?_)
  rw [show decide ((6 : Int32) < 7) = true by decide, show decide (Int32.ofNat (whr u) = (0 : Int32)) = decide (whr u = 0) from zI_deq _ 0 (by omega) (by omega)]
  by_cases hw : whr u = 0
  · rw [if_pos hw, decide_eq_true hw, hw]
    simp only [decide_true, decide_false, Bool.not_true, Bool.not_false, am_cont, Option.bind_some, Option.toList_some, Option.toList_none, List.singleton_append, List.nil_append, cond_true, cond_false, m_isName env _ z lim c u I J E h, bk_283_53, bi_eq0, Bool.not_not]
    have b1 := fdx_le U u.1.2.1 k
    have hk6 := hm.2.1.2
    unfold fnB
    by_cases hn : isn u = true
    · obtain ⟨n1, n2⟩ := m_name h hn
      have f1 := m_findIn env (d + 5) 163 8 k 14 k163.1 k163.2.1 k163.2.2 (by omega) (by omega) 8 (I 158 2) rfl hm.2.1.1 U u.1.2.1 n2 (fun b hb => (hm.2.2.2 b hb).1) I J E (fun b hb => (hm.2.2.2 b hb).2)
      rw [hn, n1, if_pos rfl]
      simp only [decide_true, decide_false, Bool.not_true, Bool.not_false, am_cont, Option.bind_some, Option.toList_some, Option.toList_none, List.singleton_append, List.nil_append, cond_true, cond_false, f1, bk_283_81, bv_m1 _ (show fdx U u.1.2.1 k < 100000 by omega)]
      by_cases q : fdx U u.1.2.1 k = 0
      · rw [decide_eq_true q, if_pos q, if_neg (by omega)]
        have mb := m_bad env (d + 5) z lim c u 3 I J E h (Or.inl (by have := (isn_f hn).1; omega))
        simp only [decide_true, decide_false, Bool.not_true, Bool.not_false, am_cont, Option.bind_some, Option.toList_some, Option.toList_none, List.singleton_append, List.nil_append, cond_true, cond_false, mb, bk_283_90]; rfl
      · rw [decide_eq_false q, if_neg q, if_pos rfl]; rfl
    · rw [if_neg hn, if_neg (by omega)]
      rw [Bool.not_eq_true] at hn
      rw [hn]
      have mb := m_bad env (d + 5) z lim c u 1 I J E h (Or.inr rfl)
      simp only [decide_true, decide_false, Bool.not_true, Bool.not_false, am_cont, Option.bind_some, Option.toList_some, Option.toList_none, List.singleton_append, List.nil_append, cond_true, cond_false, mb, bk_283_61]; rfl
  · rw [if_neg hw, decide_eq_false hw]; rfl
theorem m_recGo (env : am_E) (d : Nat) (z lim : Nat) (hz : z ≤ 940) (hlim : lim ≤ 1000) (c : Nat → Nat) (u : Cu) (n k : Nat) (T U : Nat → List Nat) (l w : Nat) (hl : l < 40) (hw7 : w ≤ 7) (I : Nat → Nat → Int32) (J : Nat → Nat → Int64) (E : Nat → Nat → Nat) (h : MS I J z c lim u) (hm : NMm I J n k T U) (h45 : I 156 45 = Int32.ofNat l) (hf : I 156 10 = 0) (hw : w = 0 → fnB U k u = 0) : ∃ I1 J1, am_ev env (d + 7, 283, 91, [some (.ref 156), some (.int (Int32.ofNat w)), some (.int 7)], [], am_hp I J E) = am_ev env (d + 7, 283, 177, [some (.ref 156), some (.int (Int32.ofNat w)), some (.int (Int32.ofNat (4 * l)))], [], am_hp I1 J1 E) ∧ MS I1 J1 z c lim (lx c z lim u.2.2) ∧ GM X175 C13 I J I1 J1 ∧ MLn I1 l (w, (if w = 0 then fdx U u.1.2.1 k - 1 else 0), 0, 0) ∧ (∀ j, j < 4 * l ∨ 4 * l + 4 ≤ j → I1 175 j = I 175 j) ∧ I1 156 10 = 0 := by
  have d4 : (4 : Int32) * Int32.ofNat l = Int32.ofNat (4 * l) := zI_mul 4 l
  have hk6 := hm.2.1.2
  have b1 := fdx_le U u.1.2.1 k
  have F : ∀ v : Int32, GM X175 (fun _ => False) I J (am_u (am_u (am_u (am_u I 175 (4 * l) (Int32.ofNat w)) 175 (4 * l + 1) v) 175 (4 * l + 2) 0) 175 (4 * l + 3) 0) J := fun v => GM_tr (GMk0 _ _ _ _) (GM_tr (GMk0 _ _ _ _) (GM_tr (GMk0 _ _ _ _) (GMk0 _ _ _ _)))
  have key : ∀ v : Nat, v = (if w = 0 then fdx U u.1.2.1 k - 1 else 0) → am_ev env (d + 7, 283, 91, [some (.ref 156), some (.int (Int32.ofNat w)), some (.int 7)], [], am_hp I J E) = am_ev env (d + 7, 283, 154, [some (.ref 156), some (.int (Int32.ofNat w)), some (.int (Int32.ofNat (4 * l)))], [.int (Int32.ofNat v), .int (Int32.ofNat (4 * l + 1)), .ref 175], am_hp (am_u I 175 (4 * l) (Int32.ofNat w)) J E) := by
    intro v hv
    refine (bk_283_91 _ _ _ _ _ _ _).trans ?_
    rw [h45, show decide (Int32.ofNat l = (40 : Int32)) = false from (zI_deq l 40 (by omega) (by omega)).trans (decide_eq_false (by omega)), d4, zI_in (4 * l) 160 (by omega) (by omega), zI_nat (4 * l) (by omega), zd_1, show decide (Int32.ofNat w = (0 : Int32)) = decide (w = 0) from zI_deq _ 0 (by omega) (by omega)]
    by_cases w0 : w = 0
    · rw [decide_eq_true w0]
      rw [if_pos w0] at hv
      obtain ⟨hin, hfd⟩ := fnB0 (hw w0)
      have s' : MS (am_u I 175 (4 * l) (Int32.ofNat w)) J z c lim u := MS_gm h (GMk0 _ _ _ _) (fun _ _ q => q) (by omega) rfl
      obtain ⟨n1, n2⟩ := m_name h hin
      have e158 : am_u I 175 (4 * l) (Int32.ofNat w) 158 2 = Int32.ofNat k := by rw [am_u_ng _ _ _ _ _ (by omega)]; exact hm.2.1.1
      have f1 := m_findIn env (d + 5) 163 8 k 14 k163.1 k163.2.1 k163.2.2 (by omega) (by omega) 8 (am_u I 175 (4 * l) (Int32.ofNat w) 158 2) rfl e158 U u.1.2.1 n2 (fun b hb => (hm.2.2.2 b hb).1) (am_u I 175 (4 * l) (Int32.ofNat w)) J E (fun b hb => (hm.2.2.2 b hb).2)
      have hbv : bv (fdx U u.1.2.1 k) = Int32.ofNat v := by unfold bv; rw [if_neg hfd, hv]
      rw [n1]
      simp only [decide_true, decide_false, Bool.not_true, Bool.not_false, am_cont, Option.bind_some, Option.toList_some, Option.toList_none, List.singleton_append, List.nil_append, cond_true, cond_false, f1, bk_283_150, hbv]
    · rw [decide_eq_false w0]
      rw [if_neg w0] at hv
      subst hv
      rfl
  generalize hv : (if w = 0 then fdx U u.1.2.1 k - 1 else 0) = v at key
  obtain ⟨I1, J1, k1, s1, f1⟩ := m_nx env (d + 4) z lim hz hlim c u _ J E (MS_gm h (F (Int32.ofNat v)) (fun _ _ q => q) (by omega) rfl)
  have r175 := f1.1 175 (by omega) (fun q => q)
  refine ⟨I1, J1, (key v rfl).trans ?_, s1, GM_tr (GM_mono (F (Int32.ofNat v)) (fun q hq => hq) (fun _ hj => hj.elim)) (GMx5 f1), ⟨?_, ?_, ?_, ?_⟩, fun j hj => ?_, ?_⟩
  · refine (bk_283_154 _ _ _ _ _ _ _ _ _).trans ?_
    simp (disch := omega) only [zd_2, zd_3, zI_in, zI_nat, decide_true, decide_false, Bool.not_true, Bool.not_false, am_cont, Option.bind_some, Option.toList_some, Option.toList_none, List.singleton_append, List.nil_append, cond_true, cond_false, k1]
  · rw [r175, am_u_sg, if_neg (by omega), am_u_sg, if_neg (by omega), am_u_sg, if_neg (by omega), am_u_at]
  · rw [r175, am_u_sg, if_neg (by omega), am_u_sg, if_neg (by omega), am_u_at]
  · rw [r175, am_u_sg, if_neg (by omega), am_u_at]; rfl
  · rw [r175, am_u_at]; rfl
  · rw [r175, am_u_sg, if_neg (by omega), am_u_sg, if_neg (by omega), am_u_sg, if_neg (by omega), am_u_sg, if_neg (by omega)]
  · rw [f1.2.1 10 (by unfold C5; omega), (F _).2.1 10 (fun q => q)]; exact hf
theorem m_recLine (env : am_E) (d : Nat) (z lim : Nat) (hz : z ≤ 940) (hlim : lim ≤ 1000) (c : Nat → Nat) (u : Cu) (n k : Nat) (T U : Nat → List Nat) (l : Nat) (hl : l ≤ 40) (I : Nat → Nat → Int32) (J : Nat → Nat → Int64) (E : Nat → Nat → Nat) (h : MS I J z c lim u) (hm : NMm I J n k T U) (h45 : I 156 45 = Int32.ofNat l) (hf : I 156 10 = 0) : ∃ b I' J', am_ev env (d + 7, 283, 0, [some (.ref 156), none, none], [], am_hp I J E) = some (true, some (.int (bi b)), am_hp I' J' E) ∧ GM X175 C13 I J I' J' ∧ mRl I I' J' z c lim l b (rLine c z lim n k T U l u) := by
  have g91 := m_rec91 env d z lim c u n k T U I J E h hm
  have hat := m_at h
  have full : ∀ x : Int32, l = 40 → u.1.1 ≠ 1 → am_ev env (d + 7, 283, 91, [some (.ref 156), some (.int x), some (.int 7)], [], am_hp I J E) = some (true, some (.int (bi false)), am_hp (mbd I 4) J E) := by
    intro x e e1
    have mb := m_bad env (d + 5) z lim c u 4 I J E h (Or.inl e1)
    refine (bk_283_91 _ _ _ _ _ _ _).trans ?_
    rw [h45, e, show decide (Int32.ofNat 40 = (40 : Int32)) = true by decide]
    simp only [decide_true, decide_false, Bool.not_true, Bool.not_false, am_cont, Option.bind_some, Option.toList_some, Option.toList_none, List.singleton_append, List.nil_append, cond_true, cond_false, mb, bk_283_105]; rfl
  have fin : ∀ (y : Rl × Cu) (I2 : Nat → Nat → Int32) (J2 : Nat → Nat → Int64) (s0 : Int32 → Option am_R), GM X175 C13 I J I2 J2 → MS I2 J2 z c lim (lx c z lim y.2.2.2) → MLn I2 l y.1 → (∀ j, j < 4 * l ∨ 4 * l + 4 ≤ j → I2 175 j = I 175 j) → I2 156 10 = 0 → (∀ b I3 J3, am_ev env (d + 6, 191, 0, [some (.ref 156)], [], am_hp I2 J2 E) = some (true, some (.int (bi b)), am_hp I3 J3 E) → am_ev env (d + 7, 283, 0, [some (.ref 156), none, none], [], am_hp I J E) = some (true, some (.int (bi b)), am_hp I3 J3 E)) → ∃ b I' J', am_ev env (d + 7, 283, 0, [some (.ref 156), none, none], [], am_hp I J E) = some (true, some (.int (bi b)), am_hp I' J' E) ∧ GM X175 C13 I J I' J' ∧ mRl I I' J' z c lim l b (.inr y) := by
    intro y I2 J2 _ F2 s2 l2 o2 f2 run
    by_cases hsg : isg (lx c z lim y.2.2.2) 59 = true
    · obtain ⟨I3, J3, k3, s3, f3⟩ := m_end1 env (d + 3) z lim hz hlim c _ I2 J2 E s2 hsg
      refine ⟨true, I3, J3, run true I3 J3 k3, GM_tr F2 (GMx5 f3), ?_⟩
      unfold mRl
      dsimp only
      rw [if_pos hsg]
      have r := f3.1 175 (by omega) (fun q => q)
      refine ⟨rfl, s3, ?_, fun j hj => by rw [r]; exact o2 j hj, by rw [f3.2.1 10 (by unfold C5; omega)]; exact f2⟩
      unfold MLn
      rw [r]; exact l2
    · have hsg' := hsg
      rw [Bool.not_eq_true] at hsg'
      have e191 := m_end0 env (d + 3) z lim c _ I2 J2 E s2 hsg'
      refine ⟨false, mbd I2 1, J2, run false _ _ e191, GM_tr F2 (GMx13 (mbd_gm _ _ _)), ?_⟩
      unfold mRl
      dsimp only
      rw [if_neg hsg]
      exact ⟨rfl, mbd_10 _ _, by rw [mbd_11]; exact m_at s2⟩
  unfold rLine
  by_cases h0 : kw u = 0
  · have hwh : whr u = 0 := by unfold whr; rw [if_neg (by omega), if_neg (by omega)]
    rw [if_pos h0]
    rw [if_pos hwh] at g91
    by_cases hr0 : fnB U k u = 0
    rotate_left
    · rw [if_pos hr0]
      rw [if_neg hr0] at g91
      exact ⟨false, _, J, g91, GMx13 (mbd_gm _ _ _), rfl, mbd_10 _ _, by rw [mbd_11]; exact hat⟩
    rw [if_neg (fun q => q hr0)]
    rw [if_pos hr0] at g91
    have hk2 := (isn_f (fnB0 hr0).1).1
    by_cases h40 : l = 40
    · rw [if_pos h40]
      exact ⟨false, mbd I 4, J, g91.trans (full 0 h40 (by omega)), GMx13 (mbd_gm _ _ _), rfl, mbd_10 _ _, by rw [mbd_11]; exact hat⟩
    rw [if_neg h40]
    obtain ⟨I1, J1, e1, s1, F1, ⟨l1, l2, l3, l4⟩, o1, f1⟩ := m_recGo env d z lim hz hlim c u n k T U l 0 (by omega) (by omega) I J E h hm h45 hf (fun _ => hr0)
    rw [if_pos rfl] at l2
    have m1 := NMm_gm hm F1 (by omega) (by omega)
    obtain ⟨b, I2, J2, e2, F2, r2⟩ := m_readDoes env d z lim hz hlim c (lx c z lim u.2.2) n k T U (4 * l) (fdx U u.1.2.1 k - 1) (by omega) I1 J1 E s1 m1 (l3.trans rfl) (l4.trans rfl) f1
    have g177 : am_ev env (d + 7, 283, 0, [some (.ref 156), none, none], [], am_hp I J E) = am_ev env (d + 7, 283, 209, [some (.ref 156), some (.int 0), some (.int (Int32.ofNat (4 * l)))], [.int (bi b)], am_hp I2 J2 E) := by
      refine g91.trans (Eq.trans e1 ((bk_283_177 _ _ _ _ _ _ _).trans ?_))
      rw [show decide (Int32.ofNat 0 = (0 : Int32)) = true by decide]
      simp only [decide_true, decide_false, Bool.not_true, Bool.not_false, am_cont, Option.bind_some, Option.toList_some, Option.toList_none, List.singleton_append, List.nil_append, cond_true, cond_false, e2]
      rfl
    cases hrd : rDeed c z lim n k T U (fdx U u.1.2.1 k - 1) (lx c z lim u.2.2) with
    | inl x =>
      rw [hrd] at r2
      obtain ⟨q1, q2, q3⟩ := r2
      refine ⟨false, I2, J2, g177.trans ?_, GM_tr F1 F2, rfl, q2, q3⟩
      rw [q1]
      simp only [bk_283_209, bi_f, zq_0_0, decide_true, decide_false, Bool.not_true, Bool.not_false, am_cont, Option.bind_some, Option.toList_some, Option.toList_none, List.singleton_append, List.nil_append, cond_true, cond_false, bk_283_223, bk_283_224]; rfl
    | inr y =>
      rw [hrd] at r2
      obtain ⟨q1, q2, q3, q4, q5, q6, q7⟩ := r2
      have hy : y.1.2.1 = fdx U u.1.2.1 k - 1 := by
        have := rDeed_r c z lim n k T U (fdx U u.1.2.1 k - 1) (lx c z lim u.2.2) y hrd
        exact this
      refine fin y I2 J2 (fun _ => none) (GM_tr F1 F2) q2 ⟨q3, ?_, q4, q5⟩ (fun j hj => by rw [q6 j (by omega) (by omega) (by omega)]; exact o1 j hj) q7 (fun b' I3 J3 e3 => g177.trans ?_)
      · rw [q6 (4 * l + 1) (by omega) (by omega) (by omega), l2, hy]
      · rw [q1]
        simp only [bk_283_209, bi_t, zq_1_0, decide_true, decide_false, Bool.not_true, Bool.not_false, am_cont, Option.bind_some, Option.toList_some, Option.toList_none, List.singleton_append, List.nil_append, cond_true, cond_false, e3, bk_283_216, bi_eq0, bk_283_223, bk_283_224]
        cases b' <;> rfl
  rw [if_neg h0]
  have h2 := kw2 u h0
  by_cases h12 : kw u = 12
  · have hwh : whr u = 7 := by unfold whr; rw [if_pos h12]
    rw [if_pos h12]
    rw [if_neg (by omega), hwh] at g91
    by_cases h40 : l = 40
    · rw [if_pos h40]
      exact ⟨false, mbd I 4, J, g91.trans (full _ h40 (by omega)), GMx13 (mbd_gm _ _ _), rfl, mbd_10 _ _, by rw [mbd_11]; exact hat⟩
    rw [if_neg h40]
    obtain ⟨I1, J1, e1, s1, F1, ⟨l1, l2, l3, l4⟩, o1, f1⟩ := m_recGo env d z lim hz hlim c u n k T U l 7 (by omega) (by omega) I J E h hm h45 hf (fun q => by omega)
    have hat1 := m_at s1
    have g177 : am_ev env (d + 7, 283, 0, [some (.ref 156), none, none], [], am_hp I J E) = am_cont env (d + 6, 190, 0, [some (.ref 156), some (.int 1), some (.int 60)], [], am_hp I1 J1 E) (d + 7) 283 236 [some (.ref 156), some (.int (Int32.ofNat 7)), some (.int (Int32.ofNat (4 * l)))] [.int (Int32.ofNat (4 * l + 1)), .ref 156] := by
      refine g91.trans (Eq.trans e1 ((bk_283_177 _ _ _ _ _ _ _).trans ?_))
      rw [show decide (Int32.ofNat 7 = (0 : Int32)) = false by decide, show decide (Int32.ofNat 7 = (7 : Int32)) = true by decide, zd_1]
      rfl
    generalize hq1 : lx c z lim u.2.2 = u1 at s1 hat1 ⊢
    by_cases hp : pn u1 1 60 = 0
    rotate_left
    · rw [if_pos hp]
      have e := m_num0 env (d + 3) z lim c u1 1 60 (by omega) (by omega) 1 60 rfl rfl I1 J1 E s1 hp
      refine ⟨false, _, J1, g177.trans ?_, GM_tr F1 (GMx13 (mbd_gm _ _ _)), rfl, mbd_10 _ _, by rw [mbd_11]; exact hat1⟩
      rw [am_cont_some e]
      simp only [decide_true, decide_false, Bool.not_true, Bool.not_false, am_cont, Option.bind_some, Option.toList_some, Option.toList_none, List.singleton_append, List.nil_append, cond_true, cond_false, bk_283_236, m_keep0, bk_283_239, zq_0_0, bk_283_253, bk_283_254]; rfl
    rw [if_neg (fun q => q hp)]
    obtain ⟨I2, J2, k2, s2, t2, f2⟩ := m_num1 env (d + 3) z lim hz hlim c u1 1 60 (by omega) (by omega) 1 60 rfl rfl I1 J1 E s1 hp
    have mk := m_keep1 env (d + 5) (4 * l + 1) (by omega) I2 J2 E
    rw [t2] at mk
    have r2 := f2.1 175 (by omega) (fun q => q)
    refine fin ((7, u1.1.2.2, 0, 0), u1) (am_u I2 175 (4 * l + 1) (Int32.ofNat u1.1.2.2)) J2 (fun _ => none) (GM_tr F1 (GM_tr (GMx5t f2) (GMk _ _ _ _))) (MS_gm s2 (GMk0 _ _ _ _) (fun _ _ q => q) (by omega) rfl) ⟨?_, ?_, ?_, ?_⟩ (fun j hj => ?_) ?_ (fun b' I3 J3 e3 => g177.trans ?_)
    · rw [am_u_sg, if_neg (by omega), r2, l1]
    · rw [am_u_at]
    · rw [am_u_sg, if_neg (by omega), r2, l3]
    · rw [am_u_sg, if_neg (by omega), r2, l4]
    · rw [am_u_sg, if_neg (by omega), r2]; exact o1 j hj
    · rw [am_u_ng _ _ _ _ _ (by omega), f2.2.1 10 (by unfold C5t; omega)]; exact f1
    · rw [am_cont_some k2]
      simp only [decide_true, decide_false, Bool.not_true, Bool.not_false, am_cont, Option.bind_some, Option.toList_some, Option.toList_none, List.singleton_append, List.nil_append, cond_true, cond_false, bk_283_236, mk, bk_283_239, zq_1_0, e3, bk_283_246, bi_eq0, bk_283_253, bk_283_254]
      cases b' <;> rfl
  rw [if_neg h12]
  by_cases h8 : 8 ≤ kw u ∧ kw u ≤ 11
  rotate_left
  · rw [if_neg h8]
    have hwh : whr u = 0 := by unfold whr; rw [if_neg h12, if_neg h8]
    have hfn : fnB U k u = 1 := by
      unfold fnB
      rw [if_neg]
      intro e
      have := isn_f e
      unfold kw cwd at h0
      rw [if_pos this.1] at h0
      exact h0 this.2
    rw [if_pos hwh, if_neg (by omega), hfn] at g91
    exact ⟨false, _, J, g91, GMx13 (mbd_gm _ _ _), rfl, mbd_10 _ _, by rw [mbd_11]; exact hat⟩
  rw [if_pos h8]
  have hwh : whr u = kw u - 5 := by unfold whr; rw [if_neg h12, if_pos h8]
  rw [if_neg (by omega), hwh] at g91
  by_cases h40 : l = 40
  · rw [if_pos h40]
    exact ⟨false, mbd I 4, J, g91.trans (full _ h40 (by omega)), GMx13 (mbd_gm _ _ _), rfl, mbd_10 _ _, by rw [mbd_11]; exact hat⟩
  rw [if_neg h40]
  obtain ⟨I1, J1, e1, s1, F1, ⟨l1, l2, l3, l4⟩, o1, f1⟩ := m_recGo env d z lim hz hlim c u n k T U l (kw u - 5) (by omega) (by omega) I J E h hm h45 hf (fun q => by omega)
  have m1 := NMm_gm hm F1 (by omega) (by omega)
  have g177 : am_ev env (d + 7, 283, 0, [some (.ref 156), none, none], [], am_hp I J E) = am_cont env (d + 6, 281, 0, [some (.ref 156)], [], am_hp I1 J1 E) (d + 7) 283 263 [some (.ref 156), some (.int (Int32.ofNat (kw u - 5))), some (.int (Int32.ofNat (4 * l)))] [.int (Int32.ofNat (4 * l + 1)), .ref 156] := by
    refine g91.trans (Eq.trans e1 ((bk_283_177 _ _ _ _ _ _ _).trans ?_))
    rw [show decide (Int32.ofNat (kw u - 5) = (0 : Int32)) = false from (zI_deq _ 0 (by omega) (by omega)).trans (decide_eq_false (by omega)), show decide (Int32.ofNat (kw u - 5) = (7 : Int32)) = false from (zI_deq _ 7 (by omega) (by omega)).trans (decide_eq_false (by omega)), zd_1]
    rfl
  obtain ⟨n1, n0⟩ := m_bookName env (d + 1) z lim hz hlim c (lx c z lim u.2.2) n k T U I1 J1 E s1 m1
  by_cases hp : fnB T n (lx c z lim u.2.2) = 0
  rotate_left
  · rw [if_pos hp]
    obtain ⟨I2, k2, b2, b3, f2⟩ := n0 hp
    refine ⟨false, I2, J1, g177.trans ?_, GM_tr F1 (GMx13 f2), rfl, b2, b3⟩
    rw [am_cont_some k2]
    simp only [decide_true, decide_false, Bool.not_true, Bool.not_false, am_cont, Option.bind_some, Option.toList_some, Option.toList_none, List.singleton_append, List.nil_append, cond_true, cond_false, bk_283_263, m_keep0, bk_283_266, zq_0_0, bk_283_280, bk_283_281]; rfl
  rw [if_neg (fun q => q hp)]
  obtain ⟨I2, J2, k2, s2, t2, f2⟩ := n1 hp
  have mk := m_keep1 env (d + 5) (4 * l + 1) (by omega) I2 J2 E
  rw [t2] at mk
  have r2 := f2.1 175 (by omega) (fun q => q)
  refine fin ((kw u - 5, fdx T (lx c z lim u.2.2).1.2.1 n - 1, 0, 0), lx c z lim u.2.2) (am_u I2 175 (4 * l + 1) (Int32.ofNat (fdx T (lx c z lim u.2.2).1.2.1 n - 1))) J2 (fun _ => none) (GM_tr F1 (GM_tr (GMx5t f2) (GMk _ _ _ _))) (MS_gm s2 (GMk0 _ _ _ _) (fun _ _ q => q) (by omega) rfl) ⟨?_, ?_, ?_, ?_⟩ (fun j hj => ?_) ?_ (fun b' I3 J3 e3 => g177.trans ?_)
  · rw [am_u_sg, if_neg (by omega), r2, l1]
  · rw [am_u_at]
  · rw [am_u_sg, if_neg (by omega), r2, l3]
  · rw [am_u_sg, if_neg (by omega), r2, l4]
  · rw [am_u_sg, if_neg (by omega), r2]; exact o1 j hj
  · rw [am_u_ng _ _ _ _ _ (by omega), f2.2.1 10 (by unfold C5t; omega)]; exact f1
  · rw [am_cont_some k2]
    simp only [decide_true, decide_false, Bool.not_true, Bool.not_false, am_cont, Option.bind_some, Option.toList_some, Option.toList_none, List.singleton_append, List.nil_append, cond_true, cond_false, bk_283_263, mk, bk_283_266, zq_1_0, e3, bk_283_273, bi_eq0, bk_283_280, bk_283_281]
    cases b' <;> rfl
