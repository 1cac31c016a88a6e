/-! a SENTENCE read by the class: all of it -/
noncomputable def cCall (env : am_E) (D md dp i : Nat) (I : Nat → Nat → Int32) (J : Nat → Nat → Int64) (E : Nat → Nat → Nat) : Option am_R := if md = 0 then am_ev env (D, 59, 0, [some (.ref 37), some (.ref 1), some (.ref 5), some (.int (Int32.ofNat dp)), none, none], [], am_hp I J E) else if md = 1 then am_ev env (D, 58, 0, [some (.ref 37), some (.ref 1), some (.ref 5), some (.int (Int32.ofNat dp)), none], [], am_hp I J E) else if md = 2 then am_ev env (D, 57, 0, [some (.ref 37), some (.ref 1), some (.ref 5), some (.int (Int32.ofNat dp)), none], [], am_hp I J E) else if md = 3 then am_ev env (D, 58, 15, [some (.ref 37), some (.ref 1), some (.ref 5), some (.int (Int32.ofNat dp)), some (.int (Int32.ofNat i))], [], am_hp I J E) else am_ev env (D, 57, 15, [some (.ref 37), some (.ref 1), some (.ref 5), some (.int (Int32.ofNat dp)), some (.int (Int32.ofNat i))], [], am_hp I J E)
def dxm (md : Nat) : Nat := if md = 0 then 0 else if md = 1 then 1 else if md = 2 then 2 else if md = 3 then 1 else 2
theorem c_psn (env : am_E) (z : Nat) (hz : z ≤ 940) (c : Nat → Nat) (n k : Nat) (T U : Nat → List Nat) : ∀ (f md dp a i : Nat) (S : Ssn) (u : Cu) (D : Nat) (I : Nat → Nat → Int32) (J : Nat → Nat → Int64) (E : Nat → Nat → Nat), md ≤ 4 → dp ≤ 9 → 3 * (10 - dp) + 6 + dxm md ≤ D → CS I J E z c 200 u → lxd c z 200 u → NMc I J n k T U → CSt I E S → I 1 3 = 0 → S.2.1 ≤ 20 → (md ≤ 2 → S.1 ≤ 2 * S.2.1) → (3 ≤ md → S.1 + 1 ≤ 2 * S.2.1 ∧ i + 1 ≤ S.2.1) → (∀ x, psn c z 200 n T f md dp a S u = .inl x → 1 ≤ x.1) → ∃ b I' J' E', cCall env D md dp i I J E = some (true, some (.int (bi b)), am_hp I' J' E') ∧ FX X3 I J E I' J' E' ∧ cSo I' J' E' z c 200 b (psn c z 200 n T f md dp a S u) := by
  intro f
  induction f with
  | zero => intro md dp a i S u D I J E _ _ _ _ _ _ _ _ _ _ _ hne; exact absurd (hne (0, 0) rfl) (by show ¬ 1 ≤ 0; omega)
  | succ f ih =>
    intro md dp a i S u D I J E hmd hdp hD h hlx hm hc hf ho h1 h2 hne
    have hat := c_at h
    have hw := c_word h
    have hkl := kw_lt u
    have hk1 : decide (37 < 179) = true := k37.1
    have hk2 : Nat.beq (am_K 37).1 5 = true := k37.2.1
    unfold psn at hne ⊢
    unfold cCall
    by_cases m0 : md = 0
    · rw [if_pos m0] at hne ⊢
      rw [if_pos m0]
      subst m0
      have h1 := h1 (by omega)
      have hD : 3 * (10 - dp) + 6 + 0 ≤ D := hD
      obtain ⟨d0, rfl⟩ : ∃ d0, D = d0 + 9 := ⟨D - 9, by omega⟩
      have start := bk_59_0 env (d0 + 8) 37 5 (Int32.ofNat dp) I J E
      rw [hw, show decide (I 1 0 = (40 : Int32)) = isg u 40 from c_kindS h 40 (by omega) (by omega)] at start
      have s20 : am_ev env (d0 + 9, 59, 0, [some (.ref 37), some (.ref 1), some (.ref 5), some (.int (Int32.ofNat dp)), none, none], [], am_hp I J E) = am_ev env (d0 + 9, 59, 20, [some (.ref 37), some (.ref 1), some (.ref 5), some (.int (Int32.ofNat dp)), some (.retAddr (kw u)), none], [.int (bi (isg u 40))], am_hp I J E) := by
        refine start.trans ?_
        cases isg u 40 <;> rfl
      have s41 : am_ev env (d0 + 9, 59, 0, [some (.ref 37), some (.ref 1), some (.ref 5), some (.int (Int32.ofNat dp)), none, none], [], am_hp I J E) = (bif (isg u 40 || decide (15 ≤ kw u)) then am_ev env (d0 + 9, 59, 41, [some (.ref 37), some (.ref 1), some (.ref 5), some (.int (Int32.ofNat dp)), some (.retAddr (kw u)), some (.int (bi (isg u 40)))], [], am_hp I J E) else some (true, some (.int (bi false)), am_hp (stp I 1) J E)) := by
        refine s20.trans ((bk_59_20 _ _ _ _ _ _ _ _ _ _).trans ?_)
        rw [bi_eq0, Bool.not_not]
        cases isg u 40
        · simp only [decide_true, decide_false, Bool.not_true, Bool.not_false, am_cont, Option.bind_some, Option.toList_some, Option.toList_none, List.singleton_append, List.nil_append, cond_true, cond_false, c_can env _ (kw u) (by omega), bk_59_32, bi_eq0, Bool.not_not, Bool.false_or]
          cases decide (15 ≤ kw u)
          · simp only [decide_true, decide_false, Bool.not_true, Bool.not_false, am_cont, Option.bind_some, Option.toList_some, Option.toList_none, List.singleton_append, List.nil_append, cond_true, cond_false, c_stop, bk_59_40]; rfl
          · rfl
        · rfl
      by_cases c1 : ¬ (isg u 40 = true ∨ 15 ≤ kw u)
      · rw [if_pos c1]
        refine ⟨false, stp I 1, J, E, s41.trans ?_, FX13 (stp_fx I J E 1), rfl, stp_3 I 1, by rw [stp_4]; exact hat, hc.2.2.2⟩
        rw [Bool.eq_false_iff.mpr (fun e => c1 (Or.inl e)), decide_eq_false (fun e => c1 (Or.inr e))]; rfl
      rw [if_neg c1] at hne ⊢
      have c1' := Classical.not_not.mp c1
      have s41' : am_ev env (d0 + 9, 59, 0, [some (.ref 37), some (.ref 1), some (.ref 5), some (.int (Int32.ofNat dp)), none, none], [], am_hp I J E) = am_ev env (d0 + 9, 59, 41, [some (.ref 37), some (.ref 1), some (.ref 5), some (.int (Int32.ofNat dp)), some (.retAddr (kw u)), some (.int (bi (isg u 40)))], [], am_hp I J E) := by
        refine s41.trans ?_
        rcases c1' with e | e
        · rw [e]; rfl
        · rw [decide_eq_true e, Bool.or_true]; rfl
      have b41 := bk_59_41 env (d0 + 8) 37 5 (Int32.ofNat dp) (kw u) (bi (isg u 40)) I J E
      rw [hk1, hk2, hc.1, show decide ((20 : Int32) ≤ Int32.ofNat S.2.1) = decide (20 ≤ S.2.1) from zle_d 20 _ (by omega) (by omega), show decide (Int32.ofNat dp ≤ (8 : Int32)) = decide (dp ≤ 8) from zle_d dp 8 (by omega) (by omega)] at b41
      by_cases c2 : S.2.1 = 20 ∨ 8 < dp
      · rw [if_pos c2]
        refine ⟨false, stp I 4, J, E, s41'.trans (b41.trans ?_), FX13 (stp_fx I J E 4), rfl, stp_3 I 4, by rw [stp_4]; exact hat, hc.2.2.2⟩
        have s56 : am_ev env (d0 + 9, 59, 56, [some (.ref 37), some (.ref 1), some (.ref 5), some (.int (Int32.ofNat dp)), some (.retAddr (kw u)), some (.int (bi (isg u 40)))], [], am_hp I J E) = some (true, some (.int (bi false)), am_hp (stp I 4) J E) := by
          simp only [bk_59_56, decide_true, decide_false, Bool.not_true, Bool.not_false, am_cont, Option.bind_some, Option.toList_some, Option.toList_none, List.singleton_append, List.nil_append, cond_true, cond_false, c_stop, bk_59_61]; rfl
        by_cases q : 20 ≤ S.2.1
        · rw [decide_eq_true q]; exact s56
        · rw [decide_eq_false q, decide_eq_false (by omega : ¬ dp ≤ 8)]; exact s56
      rw [if_neg c2] at hne ⊢
      have fo : FX X3s I J E (am_u I 37 0 (Int32.ofNat (S.2.1 + 1))) J E := FX_u (FX_refl _ _ _ _) _ _ _ ⟨by omega, by omega⟩
      have co : CSt (am_u I 37 0 (Int32.ofNat (S.2.1 + 1))) E (sone S) := ⟨by rw [am_u_at]; rfl, by rw [am_u_sg, if_neg (by omega)]; exact hc.2.1, fun j hj => by rw [am_u_ng _ _ _ _ _ (by omega), am_u_ng _ _ _ _ _ (by omega)]; exact hc.2.2.1 j hj, hc.2.2.2⟩
      obtain ⟨I1, J1, E1, k1, s1, f1, t3, t4⟩ := c_nx env (d0 + 5) z 200 hz (by omega) c u _ J E (CS_fx h fo (by omega) (by omega) (by omega))
      have F1 : FX X3 I J E I1 J1 E1 := FX_tr (FXs3 fo) (FX13 f1)
      have m1 := NMc_fx hm F1 (by omega) (by omega) (by omega)
      have c1s := CSt_fx co f1 (fun q a b => by omega)
      have f13 : I1 1 3 = 0 := by rw [t3, am_u_ng _ _ _ _ _ (by omega)]; exact hf
      have hn := lxd_n hlx
      have so : (sone S).2.1 = S.2.1 + 1 := rfl
      have ss : (sone S).1 = S.1 := rfl
      have g76 : am_ev env (d0 + 9, 59, 0, [some (.ref 37), some (.ref 1), some (.ref 5), some (.int (Int32.ofNat dp)), none, none], [], am_hp I J E) = am_ev env (d0 + 9, 59, 76, [some (.ref 37), some (.ref 1), some (.ref 5), some (.int (Int32.ofNat dp)), some (.retAddr (kw u)), some (.int (bi (isg u 40)))], [], am_hp I1 J1 E1) := by
        refine s41'.trans (b41.trans ?_)
        rw [decide_eq_false (by omega : ¬ 20 ≤ S.2.1), decide_eq_true (by omega : dp ≤ 8), zd_1]
        simp only [decide_true, decide_false, Bool.not_true, Bool.not_false, am_cont, Option.bind_some, Option.toList_some, Option.toList_none, List.singleton_append, List.nil_append, cond_true, cond_false, Bool.and_self, k1]
      have b76 := bk_59_76 env (d0 + 8) 37 5 (Int32.ofNat dp) (kw u) (bi (isg u 40)) I1 J1 E1
      rw [hk1, hk2, bi_eq0, zd_1] at b76
      by_cases c3 : isg u 40 = true
      · rw [if_pos c3] at hne ⊢
        rw [c3] at g76 b76
        have hsub : ∀ x, psn c z 200 n T f 2 (dp + 1) 0 (sone S) (lx c z 200 u.2.2) = .inl x → 1 ≤ x.1 := fun x hx => hne x (by rw [hx])
        have hpk := psn_k c z 200 n T f 2 (dp + 1) 0 (sone S) (lx c z 200 u.2.2) hn (by omega) (fun _ => by omega) (fun q => by omega)
        obtain ⟨b, I2, J2, E2, e2, F2, r2⟩ := ih 2 (dp + 1) 0 0 (sone S) (lx c z 200 u.2.2) (d0 + 8) I1 J1 E1 (by omega) (by omega) (by show 3 * (10 - (dp + 1)) + 6 + 2 ≤ d0 + 8; omega) s1 hn m1 c1s f13 (by omega) (fun _ => by omega) (fun q => by omega) hsub
        have e2 : am_ev env (d0 + 8, 57, 0, [some (.ref 37), some (.ref 1), some (.ref 5), some (.int (Int32.ofNat (dp + 1))), none], [], am_hp I1 J1 E1) = some (true, some (.int (bi b)), am_hp I2 J2 E2) := e2
        have g90 : am_ev env (d0 + 9, 59, 0, [some (.ref 37), some (.ref 1), some (.ref 5), some (.int (Int32.ofNat dp)), none, none], [], am_hp I J E) = am_ev env (d0 + 9, 59, 90, [some (.ref 37), some (.ref 1), some (.ref 5), some (.int (Int32.ofNat dp)), some (.retAddr (kw u)), some (.int (bi true))], [.int (bi b)], am_hp I2 J2 E2) := by
          refine g76.trans (b76.trans ?_)
          simp only [decide_true, decide_false, Bool.not_true, Bool.not_false, am_cont, Option.bind_some, Option.toList_some, Option.toList_none, List.singleton_append, List.nil_append, cond_true, cond_false, Bool.and_self, e2]
        have b90 := bk_59_90 env (d0 + 8) 37 5 (Int32.ofNat dp) (kw u) (bi true) (bi b) I2 J2 E2
        rw [bi_eq0] at b90
        cases hr : psn c z 200 n T f 2 (dp + 1) 0 (sone S) (lx c z 200 u.2.2) with
        | inl x =>
          rw [hr] at r2
          obtain ⟨q1, q2, q3⟩ := r2
          refine ⟨false, I2, J2, E2, g90.trans (b90.trans ?_), FX_tr F1 F2, rfl, q2, q3⟩
          rw [q1]
          simp only [decide_true, decide_false, Bool.not_true, Bool.not_false, am_cont, Option.bind_some, Option.toList_some, Option.toList_none, List.singleton_append, List.nil_append, cond_true, cond_false, bk_59_106, bk_59_107]; rfl
        | inr y =>
          rw [hr] at r2 hpk
          obtain ⟨q1, q2, q3, q4⟩ := r2
          have hly := hpk.2.2.2.2.2.2.2.1
          dsimp only
          by_cases c4 : isg y.2 41 = true
          · rw [if_pos c4]
            obtain ⟨I3, J3, E3, k3, s3, f3, t5, t6⟩ := c_sign1 env (d0 + 4) z 200 hz (by omega) c y.2 41 (by omega) (by omega) 41 rfl I2 J2 E2 q2 c4
            refine ⟨true, I3, J3, E3, g90.trans (b90.trans ?_), FX_tr F1 (FX_tr F2 (FX13 f3)), rfl, s3, CSt_fx q3 f3 (fun q a b => by omega), t5.trans q4⟩
            rw [q1]
            simp only [decide_true, decide_false, Bool.not_true, Bool.not_false, am_cont, Option.bind_some, Option.toList_some, Option.toList_none, List.singleton_append, List.nil_append, cond_true, cond_false, k3, bk_59_99, zq_1_0, bk_59_107]; rfl
          · rw [if_neg c4]
            rw [Bool.not_eq_true] at c4
            have e106 := c_sign0 env (d0 + 6) z 200 c y.2 41 (by omega) (by omega) 41 rfl I2 J2 E2 q2 c4
            refine ⟨false, stp I2 1, J2, E2, g90.trans (b90.trans ?_), FX_tr F1 (FX_tr F2 (FX13 (stp_fx I2 J2 E2 1))), rfl, stp_3 I2 1, by rw [stp_4]; exact c_at q2, q3.2.2.2⟩
            rw [q1]
            simp only [decide_true, decide_false, Bool.not_true, Bool.not_false, am_cont, Option.bind_some, Option.toList_some, Option.toList_none, List.singleton_append, List.nil_append, cond_true, cond_false, e106, bk_59_99, zq_0_0, bk_59_106, bk_59_107]; rfl
      rw [if_neg c3] at hne ⊢
      rw [Bool.not_eq_true] at c3
      rw [c3] at g76 b76
      have c15 : 15 ≤ kw u := by
        rcases c1' with e | e
        · rw [c3] at e; cases e
        · exact e
      by_cases c5 : kw u = 15
      · rw [if_pos c5] at hne ⊢
        rw [decide_eq_true c5] at b76
        have hsub : ∀ x, psn c z 200 n T f 0 (dp + 1) 0 (sone S) (lx c z 200 u.2.2) = .inl x → 1 ≤ x.1 := fun x hx => hne x (by rw [hx])
        have hpk := psn_k c z 200 n T f 0 (dp + 1) 0 (sone S) (lx c z 200 u.2.2) hn (by omega) (fun _ => by omega) (fun q => by omega)
        obtain ⟨b, I2, J2, E2, e2, F2, r2⟩ := ih 0 (dp + 1) 0 0 (sone S) (lx c z 200 u.2.2) (d0 + 8) I1 J1 E1 (by omega) (by omega) (by show 3 * (10 - (dp + 1)) + 6 + 0 ≤ d0 + 8; omega) s1 hn m1 c1s f13 (by omega) (fun _ => by omega) (fun q => by omega) hsub
        have e2 : am_ev env (d0 + 8, 59, 0, [some (.ref 37), some (.ref 1), some (.ref 5), some (.int (Int32.ofNat (dp + 1))), none, none], [], am_hp I1 J1 E1) = some (true, some (.int (bi b)), am_hp I2 J2 E2) := e2
        have g125 : am_ev env (d0 + 9, 59, 0, [some (.ref 37), some (.ref 1), some (.ref 5), some (.int (Int32.ofNat dp)), none, none], [], am_hp I J E) = am_ev env (d0 + 9, 59, 125, [some (.ref 37), some (.ref 1), some (.ref 5), some (.int (Int32.ofNat dp)), some (.retAddr (kw u)), some (.int (bi false))], [.int (bi b)], am_hp I2 J2 E2) := by
          refine g76.trans (b76.trans ?_)
          simp only [decide_true, decide_false, Bool.not_true, Bool.not_false, am_cont, Option.bind_some, Option.toList_some, Option.toList_none, List.singleton_append, List.nil_append, cond_true, cond_false, Bool.and_self, e2]
        have b125 := bk_59_125 env (d0 + 8) 37 5 (Int32.ofNat dp) (kw u) (bi false) (bi b) I2 J2 E2
        rw [hk1, hk2, bi_eq0, Bool.not_not] at b125
        cases hr : psn c z 200 n T f 0 (dp + 1) 0 (sone S) (lx c z 200 u.2.2) with
        | inl x =>
          rw [hr] at r2
          obtain ⟨q1, q2, q3⟩ := r2
          refine ⟨false, I2, J2, E2, g125.trans (b125.trans ?_), FX_tr F1 F2, rfl, q2, q3⟩
          rw [q1]; rfl
        | inr y =>
          rw [hr] at r2 hpk
          obtain ⟨q1, q2, q3, q4⟩ := r2
          obtain ⟨p1, p2, p3, p4, -⟩ := hpk
          obtain ⟨p41, p42, p43, p44⟩ := p4 (by omega)
          obtain ⟨I3, E3, e3, q5, f3⟩ := c_addStep env (d0 + 7) y.1 (by omega) 15 0 0 (by omega) (y.1.1 - 1, 0) 0 0 rfl rfl I2 J2 E2 q3
          refine ⟨true, I3, J2, E3, g125.trans (b125.trans ?_), FX_tr F1 (FX_tr F2 (FXs3 f3)), rfl, CS_fx q2 f3 (by omega) (by omega) (by omega), q5, by rw [f3.1 1 (by omega)]; exact q4⟩
          rw [q1]
          simp only [decide_true, decide_false, Bool.not_true, Bool.not_false, am_cont, Option.bind_some, Option.toList_some, Option.toList_none, List.singleton_append, List.nil_append, cond_true, cond_false, Bool.and_self, e3, bk_59_139]; rfl
      rw [if_neg c5]
      rw [decide_eq_false c5] at b76
      obtain ⟨b, I2, J2, E2, e2, F2, r2⟩ := c_plain env (d0 + 4) z 200 hz (by omega) c (lx c z 200 u.2.2) n k T U (sone S) (by omega) (kw u) (by omega) (by omega) I1 J1 E1 s1 m1 c1s f13
      refine ⟨b, I2, J2, E2, g76.trans (b76.trans ?_), FX_tr F1 F2, r2⟩
      simp only [decide_true, decide_false, Bool.not_true, Bool.not_false, am_cont, Option.bind_some, Option.toList_some, Option.toList_none, List.singleton_append, List.nil_append, cond_true, cond_false, Bool.and_self, e2, bk_59_149, bi_and]
    rw [if_neg m0] at hne ⊢
    rw [if_neg m0]
    by_cases m1 : md = 1
    · rw [if_pos m1] at hne ⊢
      rw [if_pos m1]
      subst m1
      have h1 := h1 (by omega)
      have hD : 3 * (10 - dp) + 6 + 1 ≤ D := hD
      obtain ⟨d0, rfl⟩ : ∃ d0, D = d0 + 1 := ⟨D - 1, by omega⟩
      have hsub : ∀ x, psn c z 200 n T f 0 dp 0 S u = .inl x → 1 ≤ x.1 := fun x hx => hne x (by rw [hx])
      have hpk := psn_k c z 200 n T f 0 dp 0 S u hlx ho (fun _ => h1) (fun q => by omega)
      obtain ⟨b, I2, J2, E2, e2, F2, r2⟩ := ih 0 dp 0 0 S u d0 I J E (by omega) hdp (by show 3 * (10 - dp) + 6 + 0 ≤ d0; omega) h hlx hm hc hf ho (fun _ => h1) (fun q => by omega) hsub
      have e2 : am_ev env (d0, 59, 0, [some (.ref 37), some (.ref 1), some (.ref 5), some (.int (Int32.ofNat dp)), none, none], [], am_hp I J E) = some (true, some (.int (bi b)), am_hp I2 J2 E2) := e2
      have g7 : am_ev env (d0 + 1, 58, 0, [some (.ref 37), some (.ref 1), some (.ref 5), some (.int (Int32.ofNat dp)), none], [], am_hp I J E) = am_ev env (d0 + 1, 58, 7, [some (.ref 37), some (.ref 1), some (.ref 5), some (.int (Int32.ofNat dp)), none], [.int (bi b)], am_hp I2 J2 E2) := by
        refine (bk_58_0 _ _ _ _ _ _ _ _).trans ?_
        rw [hk1, hk2]
        simp only [decide_true, decide_false, Bool.not_true, Bool.not_false, am_cont, Option.bind_some, Option.toList_some, Option.toList_none, List.singleton_append, List.nil_append, cond_true, cond_false, Bool.and_self, e2]
      have b7 := bk_58_7 env d0 37 5 (Int32.ofNat dp) (bi b) I2 J2 E2
      rw [bi_eq0, Bool.not_not] at b7
      cases hr : psn c z 200 n T f 0 dp 0 S u with
      | inl x =>
        rw [hr] at r2
        obtain ⟨q1, q2, q3⟩ := r2
        refine ⟨false, I2, J2, E2, g7.trans (b7.trans ?_), F2, rfl, q2, q3⟩
        rw [q1]; rfl
      | inr y =>
        rw [hr] at r2 hpk hne
        obtain ⟨q1, q2, q3, q4⟩ := r2
        obtain ⟨p1, p2, p3, p4, p5, p6, p7, p8, p9⟩ := hpk
        obtain ⟨p41, p42, p43, p44⟩ := p4 (by omega)
        obtain ⟨b', I3, J3, E3, e3, F3, r3⟩ := ih 3 dp (y.1.1 - 1) 0 y.1 y.2 (d0 + 1) I2 J2 E2 (by omega) hdp (by show 3 * (10 - dp) + 6 + 1 ≤ d0 + 1; omega) q2 p8 (NMc_fx hm F2 (by omega) (by omega) (by omega)) q3 q4 p2 (fun q => by omega) (fun _ => ⟨p1, by omega⟩) hne
        refine ⟨b', I3, J3, E3, g7.trans (b7.trans ?_), FX_tr F2 F3, r3⟩
        rw [q1]
        exact e3
    rw [if_neg m1] at hne ⊢
    rw [if_neg m1]
    by_cases m2 : md = 2
    · rw [if_pos m2] at hne ⊢
      rw [if_pos m2]
      subst m2
      have h1 := h1 (by omega)
      have hD : 3 * (10 - dp) + 6 + 2 ≤ D := hD
      obtain ⟨d0, rfl⟩ : ∃ d0, D = d0 + 1 := ⟨D - 1, by omega⟩
      have hsub : ∀ x, psn c z 200 n T f 1 dp 0 S u = .inl x → 1 ≤ x.1 := fun x hx => hne x (by rw [hx])
      have hpk := psn_k c z 200 n T f 1 dp 0 S u hlx ho (fun _ => h1) (fun q => by omega)
      obtain ⟨b, I2, J2, E2, e2, F2, r2⟩ := ih 1 dp 0 0 S u d0 I J E (by omega) hdp (by show 3 * (10 - dp) + 6 + 1 ≤ d0; omega) h hlx hm hc hf ho (fun _ => h1) (fun q => by omega) hsub
      have e2 : am_ev env (d0, 58, 0, [some (.ref 37), some (.ref 1), some (.ref 5), some (.int (Int32.ofNat dp)), none], [], am_hp I J E) = some (true, some (.int (bi b)), am_hp I2 J2 E2) := e2
      have g7 : am_ev env (d0 + 1, 57, 0, [some (.ref 37), some (.ref 1), some (.ref 5), some (.int (Int32.ofNat dp)), none], [], am_hp I J E) = am_ev env (d0 + 1, 57, 7, [some (.ref 37), some (.ref 1), some (.ref 5), some (.int (Int32.ofNat dp)), none], [.int (bi b)], am_hp I2 J2 E2) := by
        refine (bk_57_0 _ _ _ _ _ _ _ _).trans ?_
        rw [hk1, hk2]
        simp only [decide_true, decide_false, Bool.not_true, Bool.not_false, am_cont, Option.bind_some, Option.toList_some, Option.toList_none, List.singleton_append, List.nil_append, cond_true, cond_false, Bool.and_self, e2]
      have b7 := bk_57_7 env d0 37 5 (Int32.ofNat dp) (bi b) I2 J2 E2
      rw [bi_eq0, Bool.not_not] at b7
      cases hr : psn c z 200 n T f 1 dp 0 S u with
      | inl x =>
        rw [hr] at r2
        obtain ⟨q1, q2, q3⟩ := r2
        refine ⟨false, I2, J2, E2, g7.trans (b7.trans ?_), F2, rfl, q2, q3⟩
        rw [q1]; rfl
      | inr y =>
        rw [hr] at r2 hpk hne
        obtain ⟨q1, q2, q3, q4⟩ := r2
        obtain ⟨p1, p2, p3, p4, p5, p6, p7, p8, p9⟩ := hpk
        obtain ⟨p41, p42, p43, p44⟩ := p4 (by omega)
        obtain ⟨b', I3, J3, E3, e3, F3, r3⟩ := ih 4 dp (y.1.1 - 1) 0 y.1 y.2 (d0 + 1) I2 J2 E2 (by omega) hdp (by show 3 * (10 - dp) + 6 + 2 ≤ d0 + 1; omega) q2 p8 (NMc_fx hm F2 (by omega) (by omega) (by omega)) q3 q4 p2 (fun q => by omega) (fun _ => ⟨p1, by omega⟩) hne
        refine ⟨b', I3, J3, E3, g7.trans (b7.trans ?_), FX_tr F2 F3, r3⟩
        rw [q1]
        exact e3
    rw [if_neg m2] at hne ⊢
    rw [if_neg m2]
    obtain ⟨h2a, h2b⟩ := h2 (by omega)
    by_cases m3 : md = 3
    · rw [if_pos m3] at hne ⊢
      rw [if_pos m3]
      subst m3
      have hD : 3 * (10 - dp) + 6 + 1 ≤ D := hD
      obtain ⟨d0, rfl⟩ : ∃ d0, D = d0 + 5 := ⟨D - 5, by omega⟩
      have b15 := bk_58_15 env (d0 + 4) 37 5 (Int32.ofNat dp) (Int32.ofNat i) I J E
      rw [show decide ((200 : Int32) ≤ Int32.ofNat i) = false from zle_f 200 i (by omega) (by omega), hw] at b15
      by_cases hk : kw u = 14
      rotate_left
      · rw [if_neg hk]
        refine ⟨true, I, J, E, b15.trans ?_, FX_refl _ _ _ _, rfl, h, hc, hf⟩
        rw [decide_eq_false hk]
        simp only [decide_true, decide_false, Bool.not_true, Bool.not_false, am_cont, Option.bind_some, Option.toList_some, Option.toList_none, List.singleton_append, List.nil_append, cond_true, cond_false, bk_58_64]; rfl
      rw [if_pos hk] at hne ⊢
      rw [decide_eq_true hk] at b15
      obtain ⟨I1, J1, E1, k1, s1, f1, t3, t4⟩ := c_nx env (d0 + 1) z 200 hz (by omega) c u I J E h
      have c1 := CSt_fx hc f1 (fun q a b => by omega)
      have hn := lxd_n hlx
      have nm1 := NMc_fx hm f1 (by omega) (by omega) (by omega)
      have hsub : ∀ x, psn c z 200 n T f 0 dp 0 S (lx c z 200 u.2.2) = .inl x → 1 ≤ x.1 := fun x hx => hne x (by rw [hx])
      have hpk := psn_k c z 200 n T f 0 dp 0 S (lx c z 200 u.2.2) hn ho (fun _ => by omega) (fun q => by omega)
      obtain ⟨b, I2, J2, E2, e2, F2, r2⟩ := ih 0 dp 0 0 S (lx c z 200 u.2.2) (d0 + 4) I1 J1 E1 (by omega) hdp (by show 3 * (10 - dp) + 6 + 0 ≤ d0 + 4; omega) s1 hn nm1 c1 (t3.trans hf) ho (fun _ => by omega) (fun q => by omega) hsub
      have e2 : am_ev env (d0 + 4, 59, 0, [some (.ref 37), some (.ref 1), some (.ref 5), some (.int (Int32.ofNat dp)), none, none], [], am_hp I1 J1 E1) = some (true, some (.int (bi b)), am_hp I2 J2 E2) := e2
      have g44 : am_ev env (d0 + 5, 58, 15, [some (.ref 37), some (.ref 1), some (.ref 5), some (.int (Int32.ofNat dp)), some (.int (Int32.ofNat i))], [], am_hp I J E) = am_ev env (d0 + 5, 58, 44, [some (.ref 37), some (.ref 1), some (.ref 5), some (.int (Int32.ofNat dp)), some (.int (Int32.ofNat i))], [.int (bi b)], am_hp I2 J2 E2) := by
        refine b15.trans ?_
        simp only [decide_true, decide_false, Bool.not_true, Bool.not_false, am_cont, Option.bind_some, Option.toList_some, Option.toList_none, List.singleton_append, List.nil_append, cond_true, cond_false, k1, bk_58_37, hk1, hk2, Bool.and_self, e2]
      have b44 := bk_58_44 env (d0 + 4) 37 5 (Int32.ofNat dp) (Int32.ofNat i) (bi b) I2 J2 E2
      rw [hk1, hk2, bi_eq0, Bool.not_not] at b44
      cases hr : psn c z 200 n T f 0 dp 0 S (lx c z 200 u.2.2) with
      | inl x =>
        rw [hr] at r2
        obtain ⟨q1, q2, q3⟩ := r2
        refine ⟨false, I2, J2, E2, g44.trans (b44.trans ?_), FX_tr (FX13 f1) F2, rfl, q2, q3⟩
        rw [q1]; rfl
      | inr y =>
        rw [hr] at r2 hpk hne
        obtain ⟨q1, q2, q3, q4⟩ := r2
        obtain ⟨p1, p2, p3, p4, p5, p6, p7, p8, p9⟩ := hpk
        obtain ⟨p41, p42, p43, p44⟩ := p4 (by omega)
        obtain ⟨I3, E3, e3, q5, f3⟩ := c_addStep env (d0 + 3) y.1 (by omega) 14 0 0 (by omega) (a, y.1.1 - 1) 0 0 rfl rfl I2 J2 E2 q3
        have F3 : FX X3 I J E I3 J2 E3 := FX_tr (FX13 f1) (FX_tr F2 (FXs3 f3))
        obtain ⟨b', I4, J4, E4, e4, F4, r4⟩ := ih 3 dp y.1.1 (i + 1) (sadd y.1 (14, 0, 0) (a, y.1.1 - 1)) y.2 (d0 + 5) I3 J2 E3 (by omega) hdp (by show 3 * (10 - dp) + 6 + 1 ≤ d0 + 5; omega) (CS_fx q2 f3 (by omega) (by omega) (by omega)) p8 (NMc_fx hm F3 (by omega) (by omega) (by omega)) q5 (by rw [f3.1 1 (by omega)]; exact q4) p2 (fun q => by omega) (fun _ => ⟨by show y.1.1 + 1 + 1 ≤ 2 * y.1.2.1; omega, by show i + 1 + 1 ≤ y.1.2.1; omega⟩) hne
        refine ⟨b', I4, J4, E4, g44.trans (b44.trans ?_), FX_tr F3 F4, r4⟩
        rw [q1]
        simp only [decide_true, decide_false, Bool.not_true, Bool.not_false, am_cont, Option.bind_some, Option.toList_some, Option.toList_none, List.singleton_append, List.nil_append, cond_true, cond_false, Bool.and_self, e3, bk_58_58, zd_1]
        exact e4
    rw [if_neg m3] at hne ⊢
    rw [if_neg m3]
    have m4 : md = 4 := by omega
    subst m4
    have hD : 3 * (10 - dp) + 6 + 2 ≤ D := hD
    obtain ⟨d0, rfl⟩ : ∃ d0, D = d0 + 5 := ⟨D - 5, by omega⟩
    have b15 := bk_57_15 env (d0 + 4) 37 5 (Int32.ofNat dp) (Int32.ofNat i) I J E
    rw [show decide ((200 : Int32) ≤ Int32.ofNat i) = false from zle_f 200 i (by omega) (by omega), hw] at b15
    by_cases hk : kw u = 13
    rotate_left
    · rw [if_neg hk]
      refine ⟨true, I, J, E, b15.trans ?_, FX_refl _ _ _ _, rfl, h, hc, hf⟩
      rw [decide_eq_false hk]
      simp only [decide_true, decide_false, Bool.not_true, Bool.not_false, am_cont, Option.bind_some, Option.toList_some, Option.toList_none, List.singleton_append, List.nil_append, cond_true, cond_false, bk_57_64]; rfl
    rw [if_pos hk] at hne ⊢
    rw [decide_eq_true hk] at b15
    obtain ⟨I1, J1, E1, k1, s1, f1, t3, t4⟩ := c_nx env (d0 + 1) z 200 hz (by omega) c u I J E h
    have c1 := CSt_fx hc f1 (fun q a b => by omega)
    have hn := lxd_n hlx
    have nm1 := NMc_fx hm f1 (by omega) (by omega) (by omega)
    have hsub : ∀ x, psn c z 200 n T f 1 dp 0 S (lx c z 200 u.2.2) = .inl x → 1 ≤ x.1 := fun x hx => hne x (by rw [hx])
    have hpk := psn_k c z 200 n T f 1 dp 0 S (lx c z 200 u.2.2) hn ho (fun _ => by omega) (fun q => by omega)
    obtain ⟨b, I2, J2, E2, e2, F2, r2⟩ := ih 1 dp 0 0 S (lx c z 200 u.2.2) (d0 + 4) I1 J1 E1 (by omega) hdp (by show 3 * (10 - dp) + 6 + 1 ≤ d0 + 4; omega) s1 hn nm1 c1 (t3.trans hf) ho (fun _ => by omega) (fun q => by omega) hsub
    have e2 : am_ev env (d0 + 4, 58, 0, [some (.ref 37), some (.ref 1), some (.ref 5), some (.int (Int32.ofNat dp)), none], [], am_hp I1 J1 E1) = some (true, some (.int (bi b)), am_hp I2 J2 E2) := e2
    have g44 : am_ev env (d0 + 5, 57, 15, [some (.ref 37), some (.ref 1), some (.ref 5), some (.int (Int32.ofNat dp)), some (.int (Int32.ofNat i))], [], am_hp I J E) = am_ev env (d0 + 5, 57, 44, [some (.ref 37), some (.ref 1), some (.ref 5), some (.int (Int32.ofNat dp)), some (.int (Int32.ofNat i))], [.int (bi b)], am_hp I2 J2 E2) := by
      refine b15.trans ?_
      simp only [decide_true, decide_false, Bool.not_true, Bool.not_false, am_cont, Option.bind_some, Option.toList_some, Option.toList_none, List.singleton_append, List.nil_append, cond_true, cond_false, k1, bk_57_37, hk1, hk2, Bool.and_self, e2]
    have b44 := bk_57_44 env (d0 + 4) 37 5 (Int32.ofNat dp) (Int32.ofNat i) (bi b) I2 J2 E2
    rw [hk1, hk2, bi_eq0, Bool.not_not] at b44
    cases hr : psn c z 200 n T f 1 dp 0 S (lx c z 200 u.2.2) with
    | inl x =>
      rw [hr] at r2
      obtain ⟨q1, q2, q3⟩ := r2
      refine ⟨false, I2, J2, E2, g44.trans (b44.trans ?_), FX_tr (FX13 f1) F2, rfl, q2, q3⟩
      rw [q1]; rfl
    | inr y =>
      rw [hr] at r2 hpk hne
      obtain ⟨q1, q2, q3, q4⟩ := r2
      obtain ⟨p1, p2, p3, p4, p5, p6, p7, p8, p9⟩ := hpk
      obtain ⟨p41, p42, p43, p44⟩ := p4 (by omega)
      obtain ⟨I3, E3, e3, q5, f3⟩ := c_addStep env (d0 + 3) y.1 (by omega) 13 0 0 (by omega) (a, y.1.1 - 1) 0 0 rfl rfl I2 J2 E2 q3
      have F3 : FX X3 I J E I3 J2 E3 := FX_tr (FX13 f1) (FX_tr F2 (FXs3 f3))
      obtain ⟨b', I4, J4, E4, e4, F4, r4⟩ := ih 4 dp y.1.1 (i + 1) (sadd y.1 (13, 0, 0) (a, y.1.1 - 1)) y.2 (d0 + 5) I3 J2 E3 (by omega) hdp (by show 3 * (10 - dp) + 6 + 2 ≤ d0 + 5; omega) (CS_fx q2 f3 (by omega) (by omega) (by omega)) p8 (NMc_fx hm F3 (by omega) (by omega) (by omega)) q5 (by rw [f3.1 1 (by omega)]; exact q4) p2 (fun q => by omega) (fun _ => ⟨by show y.1.1 + 1 + 1 ≤ 2 * y.1.2.1; omega, by show i + 1 + 1 ≤ y.1.2.1; omega⟩) hne
      refine ⟨b', I4, J4, E4, g44.trans (b44.trans ?_), FX_tr F3 F4, r4⟩
      rw [q1]
      simp only [decide_true, decide_false, Bool.not_true, Bool.not_false, am_cont, Option.bind_some, Option.toList_some, Option.toList_none, List.singleton_append, List.nil_append, cond_true, cond_false, Bool.and_self, e3, bk_57_58, zd_1]
      exact e4
