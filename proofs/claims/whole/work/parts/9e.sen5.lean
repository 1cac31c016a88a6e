/-! a SENTENCE read by the reference: all of it -/
def wfx (u : Cu) : Nat := if 15 ≤ kw u then kw u - 1 else 24
theorem m_find (env : am_E) (d : Nat) (z lim : Nat) (c : Nat → Nat) (u : Cu) (x1 : Int32) (I : Nat → Nat → Int32) (J : Nat → Nat → Int64) (E : Nat → Nat → Nat) (h : MS I J z c lim u) : ∀ j k, k + j = 24 → 14 ≤ k → (15 ≤ kw u → k + 1 ≤ kw u) → am_ev env (d + 4, 291, 10, [some (.ref 156), some (.int x1), some (.int (Int32.ofNat k)), none], [], am_hp I J E) = am_ev env (d + 4, 291, 30, [some (.ref 156), some (.int x1), some (.int (Int32.ofNat (wfx u))), none], [], am_hp I J E) := by
  have hkl := kw_lt u
  intro j
  induction j with
  | zero =>
    intro k hk h1 h2
    refine (bk_291_10 _ _ _ _ _ _ _).trans ?_
    rw [show decide ((23 : Int32) < Int32.ofNat k) = true from (zlt_d 23 k (by omega) (by omega)).trans (decide_eq_true (by omega)), show wfx u = k by unfold wfx; rw [if_neg (by omega)]; omega]
    rfl
  | succ j ih =>
    intro k hk h1 h2
    refine (bk_291_10 _ _ _ _ _ _ _).trans ?_
    rw [show decide ((23 : Int32) < Int32.ofNat k) = false from zlt_f 23 k (by omega) (by omega)]
    have w := m_isWord env d z lim c u k (by omega) (Int32.ofNat k) rfl I J E h
    simp only [decide_true, decide_false, Bool.not_true, Bool.not_false, am_cont, Option.bind_some, Option.toList_some, Option.toList_none, List.singleton_append, List.nil_append, cond_true, cond_false, w, bk_291_21, bi_eq0, Bool.not_not]
    by_cases e : kw u = k + 1
    · rw [decide_eq_true e, show wfx u = k by unfold wfx; rw [if_pos (by omega)]; omega]; rfl
    · rw [decide_eq_false e, zd_1]; exact ih (k + 1) (by omega) (by omega) (fun q => by have := h2 q; omega)
noncomputable def mCall (env : am_E) (D md a : Nat) (I : Nat → Nat → Int32) (J : Nat → Nat → Int64) (E : Nat → Nat → Nat) : Option am_R := if md = 0 then am_ev env (D, 291, 0, [some (.ref 156), none, none, none], [], am_hp I J E) else if md = 1 then am_ev env (D, 290, 0, [some (.ref 156), none], [], am_hp I J E) else if md = 2 then am_ev env (D, 289, 0, [some (.ref 156), none], [], am_hp I J E) else if md = 3 then am_ev env (D, 290, 14, [some (.ref 156), some (.int (Int32.ofNat a))], [], am_hp I J E) else am_ev env (D, 289, 14, [some (.ref 156), some (.int (Int32.ofNat a))], [], am_hp I J E)
theorem m_psn (env : am_E) (z : Nat) (hz : z ≤ 940) (c : Nat → Nat) (n k : Nat) (T U : Nat → List Nat) (E : Nat → Nat → Nat) : ∀ (f md wd a : Nat) (S : Ssn) (u : Cu) (D : Nat) (I : Nat → Nat → Int32) (J : Nat → Nat → Int64), md ≤ 4 → wd ≤ 8 → 4 * (9 - wd) + 8 + dxm md ≤ D → MS I J z c 200 u → lxd c z 200 u → NMm I J n k T U → MSt I S wd → I 156 10 = 0 → S.2.1 ≤ 20 → (md ≤ 2 → S.1 ≤ 2 * S.2.1) → (3 ≤ md → S.1 + 1 ≤ 2 * S.2.1 ∧ a + 1 = S.1) → (∀ x, psn c z 200 n T f md (wd + 1) a S u = .inl x → 1 ≤ x.1) → ∃ b I' J', mCall env D md a I J E = some (true, some (.int (bi b)), am_hp I' J' E) ∧ GM X177 CMn I J I' J' ∧ mSo I' J' z c 200 wd b (psn c z 200 n T f md (wd + 1) a S u) := by
  intro f
  induction f with
  | zero => intro md wd a S u D I J _ _ _ _ _ _ _ _ _ _ _ hne; exact absurd (hne (0, 0) rfl) (by show ¬ 1 ≤ 0; omega)
  | succ f ih =>
    intro md wd a S u D I J hmd hwd hD h hlx hm hc hf ho h1 h2 hne
    have hat := m_at h
    have hkl := kw_lt u
    unfold psn at hne ⊢
    unfold mCall
    by_cases m0 : md = 0
    · rw [if_pos m0] at hne ⊢
      rw [if_pos m0]
      subst m0
      have h1 := h1 (by omega)
      have hD : 4 * (9 - wd) + 8 + 0 ≤ D := hD
      obtain ⟨d0, rfl⟩ : ∃ d0, D = d0 + 8 := ⟨D - 8, by omega⟩
      have sg := m_isSign env (d0 + 6) z 200 c u 40 (by omega) 40 rfl I J E h
      have fd := m_find env (d0 + 4) z 200 c u (bi (isg u 40)) I J E h 10 14 (by omega) (by omega) (fun q => by omega)
      have s30 : am_ev env (d0 + 8, 291, 0, [some (.ref 156), none, none, none], [], am_hp I J E) = am_ev env (d0 + 8, 291, 30, [some (.ref 156), some (.int (bi (isg u 40))), some (.int (Int32.ofNat (wfx u))), none], [], am_hp I J E) := by
        refine Eq.trans ?_ fd
        refine (bk_291_0 _ _ _ _ _).trans ?_
        simp only [decide_true, decide_false, Bool.not_true, Bool.not_false, am_cont, Option.bind_some, Option.toList_some, Option.toList_none, List.singleton_append, List.nil_append, cond_true, cond_false, sg, bk_291_6]; rfl
      have b30 := bk_291_30 env (d0 + 7) (bi (isg u 40)) (Int32.ofNat (wfx u)) I J E
      have hwx : wfx u ≤ 24 := by
        unfold wfx
        by_cases q : 15 ≤ kw u
        · rw [if_pos q]; omega
        · rw [if_neg q]; omega
      rw [bi_eq0, Bool.not_not, show decide (Int32.ofNat (wfx u) ≤ (23 : Int32)) = decide (wfx u ≤ 23) from zle_d _ 23 (by omega) (by omega)] at b30
      have wq : decide (wfx u ≤ 23) = decide (15 ≤ kw u) := by
        unfold wfx
        by_cases q : 15 ≤ kw u
        · rw [if_pos q, decide_eq_true q, decide_eq_true (by omega)]
        · rw [if_neg q, decide_eq_false q, decide_eq_false (by omega)]
      rw [wq] at b30
      have mb1 := m_bad env (d0 + 6) z 200 c u 1 I J E h (Or.inr rfl)
      by_cases c1 : ¬ (isg u 40 = true ∨ 15 ≤ kw u)
      · rw [if_pos c1]
        refine ⟨false, mbd I 1, J, s30.trans (b30.trans ?_), GMs13 (mbd_gm I J 1), rfl, mbd_10 I 1, by rw [mbd_11]; exact hat⟩
        rw [Bool.eq_false_iff.mpr (fun e => c1 (Or.inl e)), decide_eq_false (fun e => c1 (Or.inr e))]
        simp only [decide_true, decide_false, Bool.not_true, Bool.not_false, am_cont, Option.bind_some, Option.toList_some, Option.toList_none, List.singleton_append, List.nil_append, cond_true, cond_false, mb1, bk_291_45]; rfl
      rw [if_neg c1] at hne ⊢
      have c1' := Classical.not_not.mp c1
      have s46 : am_ev env (d0 + 8, 291, 0, [some (.ref 156), none, none, none], [], am_hp I J E) = am_ev env (d0 + 8, 291, 46, [some (.ref 156), some (.int (bi (isg u 40))), some (.int (Int32.ofNat (wfx u))), none], [], am_hp I J E) := by
        refine s30.trans (b30.trans ?_)
        rcases c1' with e | e
        · rw [e]; rfl
        · rw [decide_eq_true e]; cases isg u 40 <;> rfl
      have re : u.1.1 ≠ 1 := by
        rcases c1' with q | q
        · have := isg_re q; omega
        · have := kw_re (u := u) (by omega); omega
      have b46 := bk_291_46 env (d0 + 7) (bi (isg u 40)) (Int32.ofNat (wfx u)) I J E
      rw [hc.2.1, hc.2.2.1, show decide (Int32.ofNat S.2.1 = (20 : Int32)) = decide (S.2.1 = 20) from zI_deq _ 20 (by omega) (by omega), show decide (Int32.ofNat wd = (8 : Int32)) = decide (wd = 8) from zI_deq _ 8 (by omega) (by omega), zd_1, am_u_sg, if_neg (by omega : ¬ 50 = 49), hc.2.2.1, zd_1] at b46
      have mb4 := m_bad env (d0 + 6) z 200 c u 4 I J E h (Or.inl re)
      by_cases c2 : S.2.1 = 20 ∨ 8 < wd + 1
      · rw [if_pos c2]
        refine ⟨false, mbd I 4, J, s46.trans (b46.trans ?_), GMs13 (mbd_gm I J 4), rfl, mbd_10 I 4, by rw [mbd_11]; exact hat⟩
        have s64 : am_ev env (d0 + 8, 291, 64, [some (.ref 156), some (.int (bi (isg u 40))), some (.int (Int32.ofNat (wfx u))), none], [], am_hp I J E) = some (true, some (.int (bi false)), am_hp (mbd I 4) J E) := by
          refine (bk_291_64 _ _ _ _ _ _ _).trans ?_
          simp only [decide_true, decide_false, Bool.not_true, Bool.not_false, am_cont, Option.bind_some, Option.toList_some, Option.toList_none, List.singleton_append, List.nil_append, cond_true, cond_false, mb4, bk_291_69]; rfl
        by_cases q : S.2.1 = 20
        · rw [decide_eq_true q]; exact s64
        · rw [decide_eq_false q, decide_eq_true (by omega : wd = 8)]; exact s64
      rw [if_neg c2] at hne ⊢
      rw [decide_eq_false (by omega : ¬ S.2.1 = 20), decide_eq_false (by omega : ¬ wd = 8)] at b46
      have fo : GM X177 CMs I J (am_u (am_u I 156 49 (Int32.ofNat (S.2.1 + 1))) 156 50 (Int32.ofNat (wd + 1))) J := GM_tr (GM6 _ _ _ _ (by omega) (by omega)) (GM6 _ _ _ _ (by omega) (by omega))
      have co : MSt (am_u (am_u I 156 49 (Int32.ofNat (S.2.1 + 1))) 156 50 (Int32.ofNat (wd + 1))) (sone S) (wd + 1) := ⟨by rw [am_u_sg, if_neg (by omega), am_u_sg, if_neg (by omega)]; exact hc.1, by rw [am_u_sg, if_neg (by omega), am_u_at]; rfl, by rw [am_u_at], by rw [am_u_ng _ _ _ _ _ (by omega), am_u_ng _ _ _ _ _ (by omega)]; exact hc.2.2.2⟩
      obtain ⟨I1, J1, k1, s1, f1⟩ := m_nx env (d0 + 5) z 200 hz (by omega) c u _ J E (MS_gm h fo (fun j hj q => by unfold CMs at q; omega) (by omega) rfl)
      have F1 : GM X177 CMn I J I1 J1 := GM_tr (GMss fo) (GMs5 f1)
      have m1 := NMm_gm hm F1 (by omega) (by omega)
      have c1s := MSt_gm co f1 (fun q => q) (fun j h1 h2 q => by unfold C5 at q; omega)
      have f13 : I1 156 10 = 0 := by rw [f1.2.1 10 (by unfold C5; omega), fo.2.1 10 (by unfold CMs; omega)]; exact hf
      have hn := lxd_n hlx
      have so : (sone S).2.1 = S.2.1 + 1 := rfl
      have ss : (sone S).1 = S.1 := rfl
      have g94 : am_ev env (d0 + 8, 291, 0, [some (.ref 156), none, none, none], [], am_hp I J E) = am_ev env (d0 + 8, 291, 94, [some (.ref 156), some (.int (bi (isg u 40))), some (.int (Int32.ofNat (wfx u))), none], [], am_hp I1 J1 E) := by
        refine s46.trans (b46.trans ?_)
        simp only [decide_true, decide_false, Bool.not_true, Bool.not_false, am_cont, Option.bind_some, Option.toList_some, Option.toList_none, List.singleton_append, List.nil_append, cond_true, cond_false, k1]
      have b94 := bk_291_94 env (d0 + 7) (bi (isg u 40)) (Int32.ofNat (wfx u)) I1 J1 E
      rw [bi_eq0] at b94
      by_cases c3 : isg u 40 = true
      · rw [if_pos c3] at hne ⊢
        rw [c3] at g94 b94
        have hsub : ∀ x, psn c z 200 n T f 2 (wd + 1 + 1) 0 (sone S) (lx c z 200 u.2.2) = .inl x → 1 ≤ x.1 := fun x hx => hne x (by rw [hx])
        have hpk := psn_k c z 200 n T f 2 (wd + 1 + 1) 0 (sone S) (lx c z 200 u.2.2) hn (by omega) (fun _ => by omega) (fun q => by omega)
        obtain ⟨b, I2, J2, e2, F2, r2⟩ := ih 2 (wd + 1) 0 (sone S) (lx c z 200 u.2.2) (d0 + 6) I1 J1 (by omega) (by omega) (by show 4 * (9 - (wd + 1)) + 8 + 2 ≤ d0 + 6; omega) s1 hn m1 c1s f13 (by omega) (fun _ => by omega) (fun q => by omega) hsub
        have e2 : am_ev env (d0 + 6, 289, 0, [some (.ref 156), none], [], am_hp I1 J1 E) = some (true, some (.int (bi b)), am_hp I2 J2 E) := e2
        have g4 : am_ev env (d0 + 7, 293, 0, [some (.ref 156)], [], am_hp I1 J1 E) = am_ev env (d0 + 7, 293, 4, [some (.ref 156)], [.int (bi b)], am_hp I2 J2 E) := by
          refine (bk_293_0 _ _ _ _ _).trans ?_
          simp only [decide_true, decide_false, Bool.not_true, Bool.not_false, am_cont, Option.bind_some, Option.toList_some, Option.toList_none, List.singleton_append, List.nil_append, cond_true, cond_false, e2]
        have b4 := bk_293_4 env (d0 + 6) (bi b) I2 J2 E
        rw [bi_eq0, Bool.not_not] at b4
        cases hr : psn c z 200 n T f 2 (wd + 1 + 1) 0 (sone S) (lx c z 200 u.2.2) with
        | inl x =>
          rw [hr] at r2
          obtain ⟨q1, q2, q3⟩ := r2
          have g : am_ev env (d0 + 7, 293, 0, [some (.ref 156)], [], am_hp I1 J1 E) = some (true, some (.int (bi false)), am_hp I2 J2 E) := by
            refine g4.trans (b4.trans ?_)
            rw [q1]; rfl
          refine ⟨false, am_u I2 156 50 (I2 156 50 - 1), J2, g94.trans (b94.trans ?_), GM_tr F1 (GM_tr F2 (GMss (GM6 _ _ _ _ (by omega) (by omega)))), mSo_fin (res := .inl x) ⟨rfl, q2, q3⟩⟩
          simp only [decide_true, decide_false, Bool.not_true, Bool.not_false, am_cont, Option.bind_some, Option.toList_some, Option.toList_none, List.singleton_append, List.nil_append, cond_true, cond_false, g, bk_291_104, m_fin]
        | inr y =>
          rw [hr] at r2 hpk
          obtain ⟨q1, q2, q3, q4, q5⟩ := r2
          dsimp only
          have sg2 := m_isSign env (d0 + 5) z 200 c y.2 41 (by omega) 41 rfl I2 J2 E q2
          by_cases c4 : isg y.2 41 = true
          · rw [if_pos c4]
            rw [c4] at sg2
            obtain ⟨I3, J3, k3, s3, f3⟩ := m_nx env (d0 + 4) z 200 hz (by omega) c y.2 I2 J2 E q2
            have g : am_ev env (d0 + 7, 293, 0, [some (.ref 156)], [], am_hp I1 J1 E) = some (true, some (.int (bi true)), am_hp I3 J3 E) := by
              refine g4.trans (b4.trans ?_)
              rw [q1]
              simp only [decide_true, decide_false, Bool.not_true, Bool.not_false, am_cont, Option.bind_some, Option.toList_some, Option.toList_none, List.singleton_append, List.nil_append, cond_true, cond_false, sg2, bk_293_15, bi_eq0, k3, bk_293_28]; rfl
            refine ⟨true, am_u I3 156 50 (I3 156 50 - 1), J3, g94.trans (b94.trans ?_), GM_tr F1 (GM_tr F2 (GM_tr (GMs5 f3) (GMss (GM6 _ _ _ _ (by omega) (by omega))))), mSo_fin (res := .inr (y.1, lx c z 200 y.2.2.2)) ⟨rfl, s3, MSt_gm q3 f3 (fun q => q) (fun j h1 h2 q => by unfold C5 at q; omega), by rw [f3.2.1 51 (by unfold C5; omega)]; exact q4, by rw [f3.2.1 10 (by unfold C5; omega)]; exact q5⟩⟩
            simp only [decide_true, decide_false, Bool.not_true, Bool.not_false, am_cont, Option.bind_some, Option.toList_some, Option.toList_none, List.singleton_append, List.nil_append, cond_true, cond_false, g, bk_291_104, m_fin]
          · rw [if_neg c4]
            rw [Bool.not_eq_true] at c4
            rw [c4] at sg2
            have mb := m_bad env (d0 + 5) z 200 c y.2 1 I2 J2 E q2 (Or.inr rfl)
            have g : am_ev env (d0 + 7, 293, 0, [some (.ref 156)], [], am_hp I1 J1 E) = some (true, some (.int (bi false)), am_hp (mbd I2 1) J2 E) := by
              refine g4.trans (b4.trans ?_)
              rw [q1]
              simp only [decide_true, decide_false, Bool.not_true, Bool.not_false, am_cont, Option.bind_some, Option.toList_some, Option.toList_none, List.singleton_append, List.nil_append, cond_true, cond_false, sg2, bk_293_15, bi_eq0, mb, bk_293_23]; rfl
            refine ⟨false, am_u (mbd I2 1) 156 50 (mbd I2 1 156 50 - 1), J2, g94.trans (b94.trans ?_), GM_tr F1 (GM_tr F2 (GM_tr (GMs13 (mbd_gm I2 J2 1)) (GMss (GM6 _ _ _ _ (by omega) (by omega))))), mSo_fin (res := .inl (1, y.2.2.1)) ⟨rfl, mbd_10 I2 1, by rw [mbd_11]; exact m_at q2⟩⟩
            simp only [decide_true, decide_false, Bool.not_true, Bool.not_false, am_cont, Option.bind_some, Option.toList_some, Option.toList_none, List.singleton_append, List.nil_append, cond_true, cond_false, g, bk_291_104, m_fin]
      rw [if_neg c3] at hne ⊢
      rw [Bool.not_eq_true] at c3
      rw [c3] at g94 b94
      have c15 : 15 ≤ kw u := by
        rcases c1' with e | e
        · rw [c3] at e; cases e
        · exact e
      have hwf : wfx u = kw u - 1 := by unfold wfx; rw [if_pos c15]
      by_cases c5 : kw u = 15
      · rw [if_pos c5] at hne ⊢
        rw [show wfx u = 14 by omega] at g94 b94
        have hsub : ∀ x, psn c z 200 n T f 0 (wd + 1 + 1) 0 (sone S) (lx c z 200 u.2.2) = .inl x → 1 ≤ x.1 := fun x hx => hne x (by rw [hx])
        have hpk := psn_k c z 200 n T f 0 (wd + 1 + 1) 0 (sone S) (lx c z 200 u.2.2) hn (by omega) (fun _ => by omega) (fun q => by omega)
        obtain ⟨b, I2, J2, e2, F2, r2⟩ := ih 0 (wd + 1) 0 (sone S) (lx c z 200 u.2.2) (d0 + 6) I1 J1 (by omega) (by omega) (by show 4 * (9 - (wd + 1)) + 8 + 0 ≤ d0 + 6; omega) s1 hn m1 c1s f13 (by omega) (fun _ => by omega) (fun q => by omega) hsub
        have e2 : am_ev env (d0 + 6, 291, 0, [some (.ref 156), none, none, none], [], am_hp I1 J1 E) = some (true, some (.int (bi b)), am_hp I2 J2 E) := e2
        have g4 : am_ev env (d0 + 7, 292, 0, [some (.ref 156)], [], am_hp I1 J1 E) = am_ev env (d0 + 7, 292, 4, [some (.ref 156)], [.int (bi b)], am_hp I2 J2 E) := by
          refine (bk_292_0 _ _ _ _ _).trans ?_
          simp only [decide_true, decide_false, Bool.not_true, Bool.not_false, am_cont, Option.bind_some, Option.toList_some, Option.toList_none, List.singleton_append, List.nil_append, cond_true, cond_false, e2]
        have b4 := bk_292_4 env (d0 + 6) (bi b) I2 J2 E
        rw [bi_eq0, Bool.not_not] at b4
        have z14 : decide ((Int32.ofNat 14) = (14 : Int32)) = true := by decide
        rw [z14] at b94
        cases hr : psn c z 200 n T f 0 (wd + 1 + 1) 0 (sone S) (lx c z 200 u.2.2) with
        | inl x =>
          rw [hr] at r2
          obtain ⟨q1, q2, q3⟩ := r2
          have g : am_ev env (d0 + 7, 292, 0, [some (.ref 156)], [], am_hp I1 J1 E) = some (true, some (.int (bi false)), am_hp I2 J2 E) := by
            refine g4.trans (b4.trans ?_)
            rw [q1]; rfl
          refine ⟨false, am_u I2 156 50 (I2 156 50 - 1), J2, g94.trans (b94.trans ?_), GM_tr F1 (GM_tr F2 (GMss (GM6 _ _ _ _ (by omega) (by omega)))), mSo_fin (res := .inl x) ⟨rfl, q2, q3⟩⟩
          simp only [decide_true, decide_false, Bool.not_true, Bool.not_false, am_cont, Option.bind_some, Option.toList_some, Option.toList_none, List.singleton_append, List.nil_append, cond_true, cond_false, g, bk_291_118, m_fin]
        | inr y =>
          rw [hr] at r2 hpk
          obtain ⟨q1, q2, q3, q4, q5⟩ := r2
          obtain ⟨p1, p2, p3, p4, -⟩ := hpk
          obtain ⟨p41, p42, p43, p44⟩ := p4 (by omega)
          obtain ⟨I3, e3, q6, f3, -⟩ := m_says env (d0 + 5) y.1 (by omega) (15, 0, 0) (y.1.1 - 1, 0) (wd + 1) 1 (I2 156 51) 0 0 rfl q4 rfl rfl I2 J2 E q3
          have g : am_ev env (d0 + 7, 292, 0, [some (.ref 156)], [], am_hp I1 J1 E) = some (true, some (.int (bi true)), am_hp (am_u I3 156 51 (Int32.ofNat y.1.1)) J2 E) := by
            refine g4.trans (b4.trans ?_)
            rw [q1]
            simp only [decide_true, decide_false, Bool.not_true, Bool.not_false, am_cont, Option.bind_some, Option.toList_some, Option.toList_none, List.singleton_append, List.nil_append, cond_true, cond_false, e3, bk_292_21]; rfl
          have F3 := GM_tr f3 (GM6 I3 J2 51 (Int32.ofNat y.1.1) (by omega) (by omega))
          refine ⟨true, am_u (am_u I3 156 51 (Int32.ofNat y.1.1)) 156 50 (am_u I3 156 51 (Int32.ofNat y.1.1) 156 50 - 1), J2, g94.trans (b94.trans ?_), GM_tr F1 (GM_tr F2 (GM_tr (GMss F3) (GMss (GM6 _ _ _ _ (by omega) (by omega))))), mSo_fin (res := .inr (sadd y.1 (15, 0, 0) (y.1.1 - 1, 0), y.2)) ⟨rfl, MS_gm q2 F3 (fun j hj q => by unfold CMs at q; omega) (by omega) rfl, MSt_51 q6 _, by rw [am_u_at]; exact congrArg Int32.ofNat (show y.1.1 = y.1.1 + 1 - 1 by omega), by rw [F3.2.1 10 (by unfold CMs; omega)]; exact q5⟩⟩
          simp only [decide_true, decide_false, Bool.not_true, Bool.not_false, am_cont, Option.bind_some, Option.toList_some, Option.toList_none, List.singleton_append, List.nil_append, cond_true, cond_false, g, bk_291_118, m_fin]
      rw [if_neg c5]
      obtain ⟨b, I2, J2, e2, F2, r2⟩ := m_leaf env d0 z 200 hz (by omega) c (lx c z 200 u.2.2) n k T U (sone S) (by omega) (kw u - 1) (wd + 1) (by omega) (by omega) I1 J1 E s1 m1 c1s f13
      rw [show kw u - 1 + 1 = kw u by omega] at r2
      refine ⟨b, am_u I2 156 50 (I2 156 50 - 1), J2, g94.trans ?_, GM_tr F1 (GM_tr F2 (GMss (GM6 _ _ _ _ (by omega) (by omega)))), mSo_fin r2⟩
      rw [hwf]
      exact e2.trans (m_fin _ _ _ _ _ _ _ _)
    rw [if_neg m0] at hne ⊢
    rw [if_neg m0]
    by_cases m1 : md = 1
    · rw [if_pos m1] at hne ⊢
      rw [if_pos m1]
      subst m1
      have h1 := h1 (by omega)
      have hD : 4 * (9 - wd) + 8 + 1 ≤ D := hD
      obtain ⟨d0, rfl⟩ : ∃ d0, D = d0 + 1 := ⟨D - 1, by omega⟩
      have hsub : ∀ x, psn c z 200 n T f 0 (wd + 1) 0 S u = .inl x → 1 ≤ x.1 := fun x hx => hne x (by rw [hx])
      have hpk := psn_k c z 200 n T f 0 (wd + 1) 0 S u hlx ho (fun _ => h1) (fun q => by omega)
      obtain ⟨b, I2, J2, e2, F2, r2⟩ := ih 0 wd 0 S u d0 I J (by omega) hwd (by show 4 * (9 - wd) + 8 + 0 ≤ d0; omega) h hlx hm hc hf ho (fun _ => h1) (fun q => by omega) hsub
      have e2 : am_ev env (d0, 291, 0, [some (.ref 156), none, none, none], [], am_hp I J E) = some (true, some (.int (bi b)), am_hp I2 J2 E) := e2
      have g4 : am_ev env (d0 + 1, 290, 0, [some (.ref 156), none], [], am_hp I J E) = am_ev env (d0 + 1, 290, 4, [some (.ref 156), none], [.int (bi b)], am_hp I2 J2 E) := by
        refine (bk_290_0 _ _ _ _ _).trans ?_
        simp only [decide_true, decide_false, Bool.not_true, Bool.not_false, am_cont, Option.bind_some, Option.toList_some, Option.toList_none, List.singleton_append, List.nil_append, cond_true, cond_false, e2]
      have b4 := bk_290_4 env d0 (bi b) I2 J2 E
      rw [bi_eq0, Bool.not_not] at b4
      cases hr : psn c z 200 n T f 0 (wd + 1) 0 S u with
      | inl x =>
        rw [hr] at r2
        obtain ⟨q1, q2, q3⟩ := r2
        refine ⟨false, I2, J2, g4.trans (b4.trans ?_), F2, rfl, q2, q3⟩
        rw [q1]; rfl
      | inr y =>
        rw [hr] at r2 hpk hne
        obtain ⟨q1, q2, q3, q4, q5⟩ := r2
        obtain ⟨p1, p2, p3, p4, p5, p6, p7, p8, p9⟩ := hpk
        obtain ⟨p41, p42, p43, p44⟩ := p4 (by omega)
        obtain ⟨b', I3, J3, e3, F3, r3⟩ := ih 3 wd (y.1.1 - 1) y.1 y.2 (d0 + 1) I2 J2 (by omega) hwd (by show 4 * (9 - wd) + 8 + 1 ≤ d0 + 1; omega) q2 p8 (NMm_gm hm F2 (by omega) (by omega)) q3 q5 p2 (fun q => by omega) (fun _ => ⟨p1, by omega⟩) hne
        refine ⟨b', I3, J3, g4.trans (b4.trans ?_), GM_tr F2 F3, r3⟩
        rw [q1, q4]
        exact e3
    rw [if_neg m1] at hne ⊢
    rw [if_neg m1]
    by_cases m2 : md = 2
    · rw [if_pos m2] at hne ⊢
      rw [if_pos m2]
      subst m2
      have h1 := h1 (by omega)
      have hD : 4 * (9 - wd) + 8 + 2 ≤ D := hD
      obtain ⟨d0, rfl⟩ : ∃ d0, D = d0 + 1 := ⟨D - 1, by omega⟩
      have hsub : ∀ x, psn c z 200 n T f 1 (wd + 1) 0 S u = .inl x → 1 ≤ x.1 := fun x hx => hne x (by rw [hx])
      have hpk := psn_k c z 200 n T f 1 (wd + 1) 0 S u hlx ho (fun _ => h1) (fun q => by omega)
      obtain ⟨b, I2, J2, e2, F2, r2⟩ := ih 1 wd 0 S u d0 I J (by omega) hwd (by show 4 * (9 - wd) + 8 + 1 ≤ d0; omega) h hlx hm hc hf ho (fun _ => h1) (fun q => by omega) hsub
      have e2 : am_ev env (d0, 290, 0, [some (.ref 156), none], [], am_hp I J E) = some (true, some (.int (bi b)), am_hp I2 J2 E) := e2
      have g4 : am_ev env (d0 + 1, 289, 0, [some (.ref 156), none], [], am_hp I J E) = am_ev env (d0 + 1, 289, 4, [some (.ref 156), none], [.int (bi b)], am_hp I2 J2 E) := by
        refine (bk_289_0 _ _ _ _ _).trans ?_
        simp only [decide_true, decide_false, Bool.not_true, Bool.not_false, am_cont, Option.bind_some, Option.toList_some, Option.toList_none, List.singleton_append, List.nil_append, cond_true, cond_false, e2]
      have b4 := bk_289_4 env d0 (bi b) I2 J2 E
      rw [bi_eq0, Bool.not_not] at b4
      cases hr : psn c z 200 n T f 1 (wd + 1) 0 S u with
      | inl x =>
        rw [hr] at r2
        obtain ⟨q1, q2, q3⟩ := r2
        refine ⟨false, I2, J2, g4.trans (b4.trans ?_), F2, rfl, q2, q3⟩
        rw [q1]; rfl
      | inr y =>
        rw [hr] at r2 hpk hne
        obtain ⟨q1, q2, q3, q4, q5⟩ := r2
        obtain ⟨p1, p2, p3, p4, p5, p6, p7, p8, p9⟩ := hpk
        obtain ⟨p41, p42, p43, p44⟩ := p4 (by omega)
        obtain ⟨b', I3, J3, e3, F3, r3⟩ := ih 4 wd (y.1.1 - 1) y.1 y.2 (d0 + 1) I2 J2 (by omega) hwd (by show 4 * (9 - wd) + 8 + 2 ≤ d0 + 1; omega) q2 p8 (NMm_gm hm F2 (by omega) (by omega)) q3 q5 p2 (fun q => by omega) (fun _ => ⟨p1, by omega⟩) hne
        refine ⟨b', I3, J3, g4.trans (b4.trans ?_), GM_tr F2 F3, r3⟩
        rw [q1, q4]
        exact e3
    rw [if_neg m2] at hne ⊢
    rw [if_neg m2]
    by_cases m3 : md = 3
    · rw [if_pos m3] at hne ⊢
      rw [if_pos m3]
      subst m3
      have hD : 4 * (9 - wd) + 8 + 1 ≤ D := hD
      obtain ⟨hs1, ha⟩ := h2 (by omega)
      obtain ⟨d0, rfl⟩ : ∃ d0, D = d0 + 5 := ⟨D - 5, by omega⟩
      have w14 := m_isWord env (d0 + 1) z 200 c u 13 (by omega) 13 rfl I J E h
      have b14 := bk_290_14 env (d0 + 4) (Int32.ofNat a) I J E
      have g20 : am_ev env (d0 + 5, 290, 14, [some (.ref 156), some (.int (Int32.ofNat a))], [], am_hp I J E) = am_ev env (d0 + 5, 290, 20, [some (.ref 156), some (.int (Int32.ofNat a))], [.int (bi (decide (kw u = 13 + 1)))], am_hp I J E) := by
        refine b14.trans ?_
        simp only [decide_true, decide_false, Bool.not_true, Bool.not_false, am_cont, Option.bind_some, Option.toList_some, Option.toList_none, List.singleton_append, List.nil_append, cond_true, cond_false, w14]
      have b20 := bk_290_20 env (d0 + 4) (Int32.ofNat a) (bi (decide (kw u = 13 + 1))) I J E
      rw [bi_eq0] at b20
      by_cases hk : kw u = 14
      rotate_left
      · rw [if_neg hk]
        refine ⟨true, am_u I 156 51 (Int32.ofNat a), J, g20.trans (b20.trans ?_), GMss (GM6 _ _ _ _ (by omega) (by omega)), rfl, MS_gm h (GM6 I J 51 _ (by omega) (by omega)) (fun j hj q => by unfold CMs at q; omega) (by omega) rfl, MSt_51 hc _, by rw [am_u_at]; exact congrArg Int32.ofNat (show a = S.1 - 1 by omega), by rw [am_u_sg, if_neg (by omega)]; exact hf⟩
        rw [decide_eq_false (by omega : ¬ kw u = 13 + 1)]; rfl
      rw [if_pos hk] at hne ⊢
      rw [decide_eq_true (by omega : kw u = 13 + 1)] at b20 g20
      obtain ⟨I1, J1, k1, s1, f1⟩ := m_nx env (d0 + 2) z 200 hz (by omega) c u I J E h
      have c1 := MSt_gm hc f1 (fun q => q) (fun j h1 h2 q => by unfold C5 at q; omega)
      have hn := lxd_n hlx
      have nm1 := NMm_gm hm f1 (fun q => q) (fun q => q)
      have hsub : ∀ x, psn c z 200 n T f 0 (wd + 1) 0 S (lx c z 200 u.2.2) = .inl x → 1 ≤ x.1 := fun x hx => hne x (by rw [hx])
      have hpk := psn_k c z 200 n T f 0 (wd + 1) 0 S (lx c z 200 u.2.2) hn ho (fun _ => by omega) (fun q => by omega)
      obtain ⟨b, I2, J2, e2, F2, r2⟩ := ih 0 wd 0 S (lx c z 200 u.2.2) (d0 + 4) I1 J1 (by omega) hwd (by show 4 * (9 - wd) + 8 + 0 ≤ d0 + 4; omega) s1 hn nm1 c1 (by rw [f1.2.1 10 (by unfold C5; omega)]; exact hf) ho (fun _ => by omega) (fun q => by omega) hsub
      have e2 : am_ev env (d0 + 4, 291, 0, [some (.ref 156), none, none, none], [], am_hp I1 J1 E) = some (true, some (.int (bi b)), am_hp I2 J2 E) := e2
      have g31 : am_ev env (d0 + 5, 290, 14, [some (.ref 156), some (.int (Int32.ofNat a))], [], am_hp I J E) = am_ev env (d0 + 5, 290, 31, [some (.ref 156), some (.int (Int32.ofNat a))], [.int (bi b)], am_hp I2 J2 E) := by
        refine g20.trans (b20.trans ?_)
        simp only [decide_true, decide_false, Bool.not_true, Bool.not_false, am_cont, Option.bind_some, Option.toList_some, Option.toList_none, List.singleton_append, List.nil_append, cond_true, cond_false, k1, bk_290_27, e2]
      have b31 := bk_290_31 env (d0 + 4) (Int32.ofNat a) (bi b) I2 J2 E
      rw [bi_eq0, Bool.not_not] at b31
      cases hr : psn c z 200 n T f 0 (wd + 1) 0 S (lx c z 200 u.2.2) with
      | inl x =>
        rw [hr] at r2
        obtain ⟨q1, q2, q3⟩ := r2
        refine ⟨false, I2, J2, g31.trans (b31.trans ?_), GM_tr (GMs5 f1) F2, rfl, q2, q3⟩
        rw [q1]; rfl
      | inr y =>
        rw [hr] at r2 hpk hne
        obtain ⟨q1, q2, q3, q4, q5⟩ := r2
        obtain ⟨p1, p2, p3, p4, p5, p6, p7, p8, p9⟩ := hpk
        obtain ⟨p41, p42, p43, p44⟩ := p4 (by omega)
        obtain ⟨I3, e3, q6, f3, -⟩ := m_says env (d0 + 3) y.1 (by omega) (14, 0, 0) (a, y.1.1 - 1) wd 2 (Int32.ofNat a) (I2 156 51) 0 rfl rfl q4 rfl I2 J2 E q3
        have F3 : GM X177 CMn I J I3 J2 := GM_tr (GMs5 f1) (GM_tr F2 (GMss f3))
        obtain ⟨b', I4, J4, e4, F4, r4⟩ := ih 3 wd y.1.1 (sadd y.1 (14, 0, 0) (a, y.1.1 - 1)) y.2 (d0 + 5) I3 J2 (by omega) hwd (by show 4 * (9 - wd) + 8 + 1 ≤ d0 + 5; omega) (MS_gm q2 f3 (fun j hj q => by unfold CMs at q; omega) (by omega) rfl) p8 (NMm_gm hm F3 (by omega) (by omega)) q6 (by rw [f3.2.1 10 (by unfold CMs; omega)]; exact q5) p2 (fun q => by omega) (fun _ => ⟨by show y.1.1 + 1 + 1 ≤ 2 * y.1.2.1; omega, rfl⟩) hne
        refine ⟨b', I4, J4, g31.trans (b31.trans ?_), GM_tr F3 F4, r4⟩
        rw [q1]
        simp only [decide_true, decide_false, Bool.not_true, Bool.not_false, am_cont, Option.bind_some, Option.toList_some, Option.toList_none, List.singleton_append, List.nil_append, cond_true, cond_false, e3, bk_290_47]
        exact e4
    rw [if_neg m3] at hne ⊢
    rw [if_neg m3]
    have m4 : md = 4 := by omega
    subst m4
    have hD : 4 * (9 - wd) + 8 + 2 ≤ D := hD
    obtain ⟨hs1, ha⟩ := h2 (by omega)
    obtain ⟨d0, rfl⟩ : ∃ d0, D = d0 + 5 := ⟨D - 5, by omega⟩
    have w14 := m_isWord env (d0 + 1) z 200 c u 12 (by omega) 12 rfl I J E h
    have b14 := bk_289_14 env (d0 + 4) (Int32.ofNat a) I J E
    have g20 : am_ev env (d0 + 5, 289, 14, [some (.ref 156), some (.int (Int32.ofNat a))], [], am_hp I J E) = am_ev env (d0 + 5, 289, 20, [some (.ref 156), some (.int (Int32.ofNat a))], [.int (bi (decide (kw u = 12 + 1)))], am_hp I J E) := by
      refine b14.trans ?_
      simp only [decide_true, decide_false, Bool.not_true, Bool.not_false, am_cont, Option.bind_some, Option.toList_some, Option.toList_none, List.singleton_append, List.nil_append, cond_true, cond_false, w14]
    have b20 := bk_289_20 env (d0 + 4) (Int32.ofNat a) (bi (decide (kw u = 12 + 1))) I J E
    rw [bi_eq0] at b20
    by_cases hk : kw u = 13
    rotate_left
    · rw [if_neg hk]
      refine ⟨true, am_u I 156 51 (Int32.ofNat a), J, g20.trans (b20.trans ?_), GMss (GM6 _ _ _ _ (by omega) (by omega)), rfl, MS_gm h (GM6 I J 51 _ (by omega) (by omega)) (fun j hj q => by unfold CMs at q; omega) (by omega) rfl, MSt_51 hc _, by rw [am_u_at]; exact congrArg Int32.ofNat (show a = S.1 - 1 by omega), by rw [am_u_sg, if_neg (by omega)]; exact hf⟩
      rw [decide_eq_false (by omega : ¬ kw u = 12 + 1)]; rfl
    rw [if_pos hk] at hne ⊢
    rw [decide_eq_true (by omega : kw u = 12 + 1)] at b20 g20
    obtain ⟨I1, J1, k1, s1, f1⟩ := m_nx env (d0 + 2) z 200 hz (by omega) c u I J E h
    have c1 := MSt_gm hc f1 (fun q => q) (fun j h1 h2 q => by unfold C5 at q; omega)
    have hn := lxd_n hlx
    have nm1 := NMm_gm hm f1 (fun q => q) (fun q => q)
    have hsub : ∀ x, psn c z 200 n T f 1 (wd + 1) 0 S (lx c z 200 u.2.2) = .inl x → 1 ≤ x.1 := fun x hx => hne x (by rw [hx])
    have hpk := psn_k c z 200 n T f 1 (wd + 1) 0 S (lx c z 200 u.2.2) hn ho (fun _ => by omega) (fun q => by omega)
    obtain ⟨b, I2, J2, e2, F2, r2⟩ := ih 1 wd 0 S (lx c z 200 u.2.2) (d0 + 4) I1 J1 (by omega) hwd (by show 4 * (9 - wd) + 8 + 1 ≤ d0 + 4; omega) s1 hn nm1 c1 (by rw [f1.2.1 10 (by unfold C5; omega)]; exact hf) ho (fun _ => by omega) (fun q => by omega) hsub
    have e2 : am_ev env (d0 + 4, 290, 0, [some (.ref 156), none], [], am_hp I1 J1 E) = some (true, some (.int (bi b)), am_hp I2 J2 E) := e2
    have g31 : am_ev env (d0 + 5, 289, 14, [some (.ref 156), some (.int (Int32.ofNat a))], [], am_hp I J E) = am_ev env (d0 + 5, 289, 31, [some (.ref 156), some (.int (Int32.ofNat a))], [.int (bi b)], am_hp I2 J2 E) := by
      refine g20.trans (b20.trans ?_)
      simp only [decide_true, decide_false, Bool.not_true, Bool.not_false, am_cont, Option.bind_some, Option.toList_some, Option.toList_none, List.singleton_append, List.nil_append, cond_true, cond_false, k1, bk_289_27, e2]
    have b31 := bk_289_31 env (d0 + 4) (Int32.ofNat a) (bi b) I2 J2 E
    rw [bi_eq0, Bool.not_not] at b31
    cases hr : psn c z 200 n T f 1 (wd + 1) 0 S (lx c z 200 u.2.2) with
    | inl x =>
      rw [hr] at r2
      obtain ⟨q1, q2, q3⟩ := r2
      refine ⟨false, I2, J2, g31.trans (b31.trans ?_), GM_tr (GMs5 f1) F2, rfl, q2, q3⟩
      rw [q1]; rfl
    | inr y =>
      rw [hr] at r2 hpk hne
      obtain ⟨q1, q2, q3, q4, q5⟩ := r2
      obtain ⟨p1, p2, p3, p4, p5, p6, p7, p8, p9⟩ := hpk
      obtain ⟨p41, p42, p43, p44⟩ := p4 (by omega)
      obtain ⟨I3, e3, q6, f3, -⟩ := m_says env (d0 + 3) y.1 (by omega) (13, 0, 0) (a, y.1.1 - 1) wd 3 (Int32.ofNat a) (I2 156 51) 0 rfl rfl q4 rfl I2 J2 E q3
      have F3 : GM X177 CMn I J I3 J2 := GM_tr (GMs5 f1) (GM_tr F2 (GMss f3))
      obtain ⟨b', I4, J4, e4, F4, r4⟩ := ih 4 wd y.1.1 (sadd y.1 (13, 0, 0) (a, y.1.1 - 1)) y.2 (d0 + 5) I3 J2 (by omega) hwd (by show 4 * (9 - wd) + 8 + 2 ≤ d0 + 5; omega) (MS_gm q2 f3 (fun j hj q => by unfold CMs at q; omega) (by omega) rfl) p8 (NMm_gm hm F3 (by omega) (by omega)) q6 (by rw [f3.2.1 10 (by unfold CMs; omega)]; exact q5) p2 (fun q => by omega) (fun _ => ⟨by show y.1.1 + 1 + 1 ≤ 2 * y.1.2.1; omega, rfl⟩) hne
      refine ⟨b', I4, J4, g31.trans (b31.trans ?_), GM_tr F3 F4, r4⟩
      rw [q1]
      simp only [decide_true, decide_false, Bool.not_true, Bool.not_false, am_cont, Option.bind_some, Option.toList_some, Option.toList_none, List.singleton_append, List.nil_append, cond_true, cond_false, e3, bk_289_47]
      exact e4
