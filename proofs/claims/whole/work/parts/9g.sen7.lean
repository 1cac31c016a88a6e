/-! a SENTENCE: the reference's reading of it; steps that fit together -/
def mSr (I I' : Nat → Nat → Int32) (v : Int32) (res : (Nat × Nat) ⊕ Ssn) : Prop := match res with
  | .inl x => v = -1 - Int32.ofNat x.2 ∧ I' 156 10 = Int32.ofNat x.1 ∧ I' 158 = I 158
  | .inr S => v = Int32.ofNat S.2.1 ∧ I' 156 10 = 0 ∧ (∀ j, (j < 70 ∨ 312 ≤ j) → I' 158 j = I 158 j) ∧ I' 158 70 = 1 ∧ I' 158 71 = Int32.ofNat (S.1 - 1) ∧ Nds (fun j => I' 158 (72 + j)) S
abbrev C13s : Nat → Prop := fun j => j ≤ 13 ∨ (48 ≤ j ∧ j ≤ 51)
theorem m_sen (env : am_E) (d : Nat) (z : Nat) (hz : z ≤ 940) (c : Nat → Nat) (n k : Nat) (T U : Nat → List Nat) (I : Nat → Nat → Int32) (J : Nat → Nat → Int64) (E : Nat → Nat → Nat) (h2 : I 156 2 = Int32.ofNat z) (ht : Tm I z c) (hm : NMm I J n k T U) : ∃ v I' J', am_ev env (d + 50, 296, 0, [some (.ref 156), none], [], am_hp I J E) = some (true, some (.int v), am_hp I' J' E) ∧ I' 156 2 = 0 ∧ (∀ q, q ≠ 156 → q ≠ 158 → q ≠ 177 → I' q = I q) ∧ (∀ q, q ≠ 156 → q ≠ 177 → J' q = J q) ∧ (∀ j, 14 ≤ j → (j < 48 ∨ 51 < j) → I' 156 j = I 156 j) ∧ mSr I I' v (pSe c z n T) := by
  obtain ⟨I1, J1, k1, s1, t10, t0, t2, f1⟩ := m_begin env (d + 46) z 200 hz (by omega) 200 rfl c I J E h2 ht
  generalize hI2 : am_u (am_u (am_u I1 156 48 0) 156 49 0) 156 50 0 = I2
  have f2 : GM X177 CMs I1 J1 I2 J1 := by
    rw [← hI2]
    exact GM_tr (GM_tr (GM6 _ _ _ _ (by omega) (by omega)) (GM6 _ _ _ _ (by omega) (by omega))) (GM6 _ _ _ _ (by omega) (by omega))
  have c2 : MSt I2 S000 0 := by
    rw [← hI2]
    exact ⟨by rw [am_u_sg, if_neg (by omega), am_u_sg, if_neg (by omega), am_u_at]; rfl, by rw [am_u_sg, if_neg (by omega), am_u_at]; rfl, by rw [am_u_at]; rfl, fun i hi => absurd hi (Nat.not_lt_zero _)⟩
  have F2 : GM X177 C13s I J I2 J1 := GM_tr (GM_mono f1 (fun q hq => hq.elim) (fun j hj => Or.inl (by omega))) (GM_mono f2 (fun q hq => hq) (fun j hj => Or.inr hj))
  obtain ⟨b, I3, J3, e3, F3, r3⟩ := m_psn env z hz c n k T U E (6 * mu z (lx c z 200 0) + 7) 2 0 0 S000 (lx c z 200 0) (d + 49) I2 J1 (by omega) (by omega) (by show 4 * (9 - 0) + 8 + 2 ≤ d + 49; omega) (MS_gm s1 f2 (fun j hj q => by unfold CMs at q; omega) (by omega) rfl) (lxd_0 c z 200) (NMm_gm hm F2 (by omega) (by omega)) c2 (by rw [f2.2.1 10 (by unfold CMs; omega)]; exact t10) (by show 0 ≤ 20; omega) (fun _ => by show 0 ≤ 2 * 0; omega) (fun q => by omega) (fun x hx => psn_0 c z n T x hx)
  have e3 : am_ev env (d + 49, 289, 0, [some (.ref 156), none], [], am_hp I2 J1 E) = some (true, some (.int (bi b)), am_hp I3 J3 E) := e3
  have r3 : mSo I3 J3 z c 200 0 b (psn c z 200 n T (6 * mu z (lx c z 200 0) + 7) 2 1 0 S000 (lx c z 200 0)) := r3
  have FA : GM X177 C13s I J I3 J3 := GM_tr F2 (GM_mono F3 (fun q hq => hq) (fun j hj => by unfold CMn at hj; unfold C13s; omega))
  have e2 : I3 156 2 = 0 := by rw [F3.2.1 2 (by unfold CMn; omega), f2.2.1 2 (by unfold CMs; omega)]; exact t2
  have g26 : am_ev env (d + 50, 296, 0, [some (.ref 156), none], [], am_hp I J E) = am_ev env (d + 50, 296, 26, [some (.ref 156), none], [.int (bi b)], am_hp I3 J3 E) := by
    refine (bk_296_0 _ _ _ _ _).trans ?_
    simp only [decide_true, decide_false, Bool.not_true, Bool.not_false, am_cont, Option.bind_some, Option.toList_some, Option.toList_none, List.singleton_append, List.nil_append, cond_true, cond_false, k1, bk_296_7, hI2, e3]
  have b26 := bk_296_26 env (d + 49) (bi b) I3 J3 E
  rw [bi_eq0, Bool.not_not] at b26
  have hpk := psn_k c z 200 n T (6 * mu z (lx c z 200 0) + 7) 2 1 0 S000 (lx c z 200 0) (lxd_0 c z 200) (by show 0 ≤ 20; omega) (fun _ => by show 0 ≤ 2 * 0; omega) (fun q => by omega)
  have r158 : I3 158 = I 158 := FA.1 158 (by omega) (by omega)
  unfold pSe
  cases hr : psn c z 200 n T (6 * mu z (lx c z 200 0) + 7) 2 1 0 S000 (lx c z 200 0) with
  | inl x =>
    rw [hr] at r3
    obtain ⟨q1, q2, q3⟩ := r3
    refine ⟨_, I3, J3, g26.trans ?_, e2, fun q a1 a2 a3 => FA.1 q a1 a3, fun q a1 a2 => FA.2.2 q a1 a2, fun j a1 a2 => FA.2.1 j (by unfold C13s; omega), rfl, q2, r158⟩
    rw [q1] at b26 ⊢
    refine b26.trans ?_
    rw [q3]; rfl
  | inr y =>
    rw [hr] at r3 hpk
    obtain ⟨q1, q2, q3, q4, q5⟩ := r3
    obtain ⟨p1, p2, p3, p4, p5, p6, p7, p8, p9⟩ := hpk
    obtain ⟨p41, p42, p43, p44⟩ := p4 (by omega)
    rw [show decide (I3 156 7 = (0 : Int32)) = decide (y.2.1.1 = 0) from m_kind q2 0 (by omega), q1] at b26
    rw [q1] at g26
    dsimp only
    by_cases h0 : y.2.1.1 = 0
    rotate_left
    · rw [if_neg h0]
      rw [decide_eq_false h0] at b26
      have mb := m_bad env (d + 48) z 200 c y.2 1 I3 J3 E q2 (Or.inr rfl)
      have FB := GM_tr FA (GM_mono (mbd_gm I3 J3 1) (fun q hq => hq.elim) (fun j hj => by unfold C13 at hj; unfold C13s; omega))
      refine ⟨_, mbd I3 1, J3, g26.trans (b26.trans ?_), by rw [(mbd_gm I3 J3 1).2.1 2 (by unfold C13; omega)]; exact e2, fun q a1 a2 a3 => FB.1 q a1 a3, fun q a1 a2 => FB.2.2 q a1 a2, fun j a1 a2 => FB.2.1 j (by unfold C13s; omega), rfl, mbd_10 I3 1, FB.1 158 (by omega) (by omega)⟩
      simp only [decide_true, decide_false, Bool.not_true, Bool.not_false, am_cont, Option.bind_some, Option.toList_some, Option.toList_none, List.singleton_append, List.nil_append, cond_true, cond_false, mb, bk_296_48, mbd_11, m_at q2]
    · rw [if_pos h0]
      rw [decide_eq_true h0] at b26
      generalize hI4 : am_u (am_u I3 158 70 1) 158 71 ((am_u I3 158 70 1) 156 51) = I4 at b26
      have i4 : ∀ q, q ≠ 158 → I4 q = I3 q := fun q hq => by rw [← hI4, am_u_ng _ _ _ _ _ hq, am_u_ng _ _ _ _ _ hq]
      have i4b : ∀ j, j ≠ 70 → j ≠ 71 → I4 158 j = I3 158 j := fun j a b => by rw [← hI4, am_u_sg, if_neg b, am_u_sg, if_neg a]
      have i70 : I4 158 70 = 1 := by rw [← hI4, am_u_sg, if_neg (by omega), am_u_at]
      have i71 : I4 158 71 = Int32.ofNat (y.1.1 - 1) := by rw [← hI4, am_u_at, am_u_ng _ _ _ _ _ (by omega)]; exact q4
      have lp := zcopy (fun b I => am_ev env (d + 50, 296, 77, [some (.ref 156), some (.int (Int32.ofNat b))], [], am_hp I J3 E)) I4 158 72 (I4 177) 240 (fun b hb => by
        refine (bk_296_77 _ _ _ _ _ _).trans ?_
        rw [show decide ((240 : Int32) ≤ Int32.ofNat b) = false from zle_f 240 b hb (by omega), show (72 : Int32) + Int32.ofNat b = Int32.ofNat (72 + b) from zc_add 72 b, ur_ne _ _ _ 177 (by omega)]
        simp (disch := omega) only [decide_true, decide_false, Bool.not_true, Bool.not_false, am_cont, Option.bind_some, Option.toList_some, Option.toList_none, List.singleton_append, List.nil_append, cond_true, cond_false, zI_in, zI_nat, am_u_r, ur_ur, ur_at, zd_1])
      have e77 := bk_296_77 env (d + 49) (Int32.ofNat 240) (am_ur I4 158 (cpr (I4 158) 72 240 (I4 177))) J3 E
      rw [show decide ((240 : Int32) ≤ Int32.ofNat 240) = true by decide, cond_true, ur_ne _ _ _ 156 (by omega), i4 156 (by omega), q3.2.1] at e77
      refine ⟨_, _, _, g26.trans (b26.trans (Eq.trans lp e77)), ?_, fun q a1 a2 a3 => ?_, fun q a1 a2 => FA.2.2 q a1 a2, fun j a1 a2 => ?_, rfl, ?_, fun j hj => ?_, ?_, ?_, fun i hi j hj => ?_⟩
      · rw [ur_ne _ _ _ 156 (by omega), i4 156 (by omega)]; exact e2
      · rw [ur_ne _ _ _ _ a2, i4 q a2]; exact FA.1 q a1 a3
      · rw [ur_ne _ _ _ 156 (by omega), i4 156 (by omega)]; exact FA.2.1 j (by unfold C13s; omega)
      · rw [ur_ne _ _ _ 156 (by omega), i4 156 (by omega)]; exact q5
      · rw [ur_at, cpr_out _ _ _ _ _ (by omega), i4b j (by omega) (by omega), r158]
      · rw [ur_at, cpr_out _ _ _ _ _ (by omega)]; exact i70
      · rw [ur_at, cpr_out _ _ _ _ _ (by omega)]; exact i71
      · have hi : i < y.1.1 := hi
        show am_ur I4 158 (cpr (I4 158) 72 240 (I4 177)) 158 (72 + (4 * i + j)) = _
        rw [ur_at, cpr_in _ _ _ _ _ (by omega), i4 177 (by omega)]
        exact q3.2.2.2 i hi j hj
def lfk (n : Nat) (w : Nat × Nat × Nat) : Prop := 16 ≤ w.1 ∧ w.1 ≤ 24 ∧ (19 ≤ w.1 → w.1 ≤ 20 → w.2.1 < n) ∧ (21 ≤ w.1 → w.2.1 ≤ 999 ∧ (w.2.2 = 60 ∨ w.2.2 = 61 ∨ w.2.2 = 62))
/-- steps lo to i are one tree whose top is step i -/
def Wf (n : Nat) (S : Ssn) : Nat → Nat → Nat → Prop
  | 0, _, _ => False
  | f + 1, lo, i => (lo = i ∧ lfk n (S.2.2.1 i)) ∨ (∃ a, i = a + 1 ∧ (S.2.2.1 i).1 = 15 ∧ S.2.2.2 i = (a, 0) ∧ Wf n S f lo a) ∨ ∃ a b, i = b + 1 ∧ ((S.2.2.1 i).1 = 13 ∨ (S.2.2.1 i).1 = 14) ∧ S.2.2.2 i = (a, b) ∧ Wf n S f lo a ∧ Wf n S f (a + 1) b
theorem Wf_le (n : Nat) (S : Ssn) : ∀ (f lo i : Nat), Wf n S f lo i → lo ≤ i := by
  intro f
  induction f with
  | zero => intro lo i h; exact h.elim
  | succ f ih =>
    intro lo i h
    rcases h with ⟨h, -⟩ | ⟨a, h1, -, -, h2⟩ | ⟨a, b, h1, -, -, h2, h3⟩
    · omega
    · have := ih _ _ h2; omega
    · have := ih _ _ h2; have := ih _ _ h3; omega
theorem Wf_mono (n : Nat) (S : Ssn) : ∀ (f g lo i : Nat), f ≤ g → Wf n S f lo i → Wf n S g lo i := by
  intro f
  induction f with
  | zero => intro g lo i _ h; exact h.elim
  | succ f ih =>
    intro g lo i hg h
    obtain ⟨g, rfl⟩ : ∃ g', g = g' + 1 := ⟨g - 1, by omega⟩
    rcases h with h | ⟨a, h1, h2, h3, h4⟩ | ⟨a, b, h1, h2, h3, h4, h5⟩
    · exact Or.inl h
    · exact Or.inr (Or.inl ⟨a, h1, h2, h3, ih g _ _ (by omega) h4⟩)
    · exact Or.inr (Or.inr ⟨a, b, h1, h2, h3, ih g _ _ (by omega) h4, ih g _ _ (by omega) h5⟩)
theorem Wf_ext (n : Nat) (S S' : Ssn) (m : Nat) (he : ∀ i, i < m → S'.2.2.1 i = S.2.2.1 i ∧ S'.2.2.2 i = S.2.2.2 i) : ∀ (f lo i : Nat), i < m → Wf n S f lo i → Wf n S' f lo i := by
  intro f
  induction f with
  | zero => intro lo i _ h; exact h.elim
  | succ f ih =>
    intro lo i hi h
    obtain ⟨e1, e2⟩ := he i hi
    rcases h with ⟨h1, h2⟩ | ⟨a, h1, h2, h3, h4⟩ | ⟨a, b, h1, h2, h3, h4, h5⟩
    · exact Or.inl ⟨h1, by rw [e1]; exact h2⟩
    · exact Or.inr (Or.inl ⟨a, h1, by rw [e1]; exact h2, by rw [e2]; exact h3, ih _ _ (by omega) h4⟩)
    · have := Wf_le n S f _ _ h5
      exact Or.inr (Or.inr ⟨a, b, h1, by rw [e1]; exact h2, by rw [e2]; exact h3, ih _ _ (by omega) h4, ih _ _ (by omega) h5⟩)
/-- as high as it has steps -/
theorem Wf_h (n : Nat) (S : Ssn) : ∀ (f lo i : Nat), Wf n S f lo i → Wf n S (i + 1 - lo) lo i := by
  intro f
  induction f with
  | zero => intro lo i h; exact h.elim
  | succ f ih =>
    intro lo i h
    have hl := Wf_le n S (f + 1) lo i h
    obtain ⟨g, hg⟩ : ∃ g, i + 1 - lo = g + 1 := ⟨i - lo, by omega⟩
    rw [hg]
    rcases h with h | ⟨a, h1, h2, h3, h4⟩ | ⟨a, b, h1, h2, h3, h4, h5⟩
    · exact Or.inl h
    · have := Wf_le n S f _ _ h4
      exact Or.inr (Or.inl ⟨a, h1, h2, h3, Wf_mono n S (a + 1 - lo) g _ _ (by omega) (ih _ _ h4)⟩)
    · have := Wf_le n S f _ _ h4
      have := Wf_le n S f _ _ h5
      exact Or.inr (Or.inr ⟨a, b, h1, h2, h3, Wf_mono n S (a + 1 - lo) g _ _ (by omega) (ih _ _ h4), Wf_mono n S (b + 1 - (a + 1)) g _ _ (by omega) (ih _ _ h5)⟩)
def agS (S S' : Ssn) : Prop := ∀ i, i < S.1 → S'.2.2.1 i = S.2.2.1 i ∧ S'.2.2.2 i = S.2.2.2 i
def pwf (n md lo : Nat) (S : Ssn) (r : PSr) : Prop := match r with
  | .inl _ => True
  | .inr y => agS S y.1 ∧ S.1 ≤ y.1.1 ∧ (md ≤ 2 → S.1 + 1 ≤ y.1.1 ∧ ∃ f, Wf n y.1 f S.1 (y.1.1 - 1)) ∧ (3 ≤ md → ∃ f, Wf n y.1 f lo (y.1.1 - 1))
theorem sadd_n (n : Nat) (S : Ssn) (w : Nat × Nat × Nat) (c : Nat × Nat) : (sadd S w c).2.2.1 S.1 = w ∧ (sadd S w c).2.2.2 S.1 = c := ⟨rug_eq _ _ _, rug_eq _ _ _⟩
theorem psn_wf (c : Nat → Nat) (z lim n : Nat) (T : Nat → List Nat) : ∀ (f md dp a lo : Nat) (S : Ssn) (u : Cu), md ≤ 4 → (3 ≤ md → a + 1 = S.1 ∧ ∃ g, Wf n S g lo a) → pwf n md lo S (psn c z lim n T f md dp a S u) := by
  intro f
  induction f with
  | zero => intro md dp a lo S u _ _; exact trivial
  | succ f ih =>
    intro md dp a lo S u hmd h2
    unfold psn
    by_cases m0 : md = 0
    · rw [if_pos m0]
      by_cases c1 : ¬ (isg u 40 = true ∨ 15 ≤ kw u)
      · rw [if_pos c1]; exact trivial
      rw [if_neg c1]
      by_cases c2 : S.2.1 = 20 ∨ 8 < dp
      · rw [if_pos c2]; exact trivial
      rw [if_neg c2]
      by_cases c3 : isg u 40 = true
      · rw [if_pos c3]
        have r := ih 2 (dp + 1) 0 0 (sone S) (lx c z lim u.2.2) (by omega) (fun q => by omega)
        cases hr : psn c z lim n T f 2 (dp + 1) 0 (sone S) (lx c z lim u.2.2) with
        | inl x => exact trivial
        | inr y =>
          rw [hr] at r
          obtain ⟨r1, r2, r3, r4⟩ := r
          dsimp only
          by_cases c4 : isg y.2 41 = true
          · rw [if_pos c4]; exact ⟨r1, r2, fun _ => r3 (by omega), fun q => by omega⟩
          · rw [if_neg c4]; exact trivial
      rw [if_neg c3]
      have c15 : 15 ≤ kw u := by
        rcases Classical.not_not.mp c1 with q | q
        · exact absurd q c3
        · exact q
      have hkl := kw_lt u
      by_cases c5 : kw u = 15
      · rw [if_pos c5]
        have r := ih 0 (dp + 1) 0 0 (sone S) (lx c z lim u.2.2) (by omega) (fun q => by omega)
        cases hr : psn c z lim n T f 0 (dp + 1) 0 (sone S) (lx c z lim u.2.2) with
        | inl x => exact trivial
        | inr y =>
          rw [hr] at r
          obtain ⟨r1, r2, r3, r4⟩ := r
          obtain ⟨r31, g, r32⟩ := r3 (by omega)
          have r2 : S.1 ≤ y.1.1 := r2
          have r31 : S.1 + 1 ≤ y.1.1 := r31
          obtain ⟨n1, n2⟩ := sadd_n n y.1 (15, 0, 0) (y.1.1 - 1, 0)
          have nn : (sadd y.1 (15, 0, 0) (y.1.1 - 1, 0)).1 - 1 = y.1.1 := by show y.1.1 + 1 - 1 = y.1.1; omega
          refine ⟨fun i hi => ?_, by show S.1 ≤ y.1.1 + 1; omega, fun _ => ⟨by show S.1 + 1 ≤ y.1.1 + 1; omega, g + 1, ?_⟩, fun q => by omega⟩
          · obtain ⟨s1, s2⟩ := sadd_k y.1 (15, 0, 0) (y.1.1 - 1, 0) i (by omega)
            obtain ⟨s3, s4⟩ := r1 i hi
            exact ⟨s1.trans s3, s2.trans s4⟩
          · rw [nn]
            exact Or.inr (Or.inl ⟨y.1.1 - 1, by omega, by rw [n1], n2, Wf_ext n y.1 _ y.1.1 (fun i hi => sadd_k y.1 _ _ i hi) g _ _ (by omega) r32⟩)
      rw [if_neg c5]
      have leaf : ∀ (w : Nat × Nat × Nat) (v : Cu), lfk n w → pwf n md lo S (.inr (sadd (sone S) w (0, 0), v)) := by
        intro w v hw
        obtain ⟨n1, n2⟩ := sadd_n n (sone S) w (0, 0)
        have n1 : (sadd (sone S) w (0, 0)).2.2.1 S.1 = w := n1
        refine ⟨fun i hi => sadd_k (sone S) w (0, 0) i hi, by show S.1 ≤ S.1 + 1; omega, fun _ => ⟨by show S.1 + 1 ≤ S.1 + 1; omega, 1, Or.inl ⟨by show S.1 = S.1 + 1 - 1; omega, ?_⟩⟩, fun q => by omega⟩
        show lfk n ((sadd (sone S) w (0, 0)).2.2.1 (S.1 + 1 - 1))
        rw [show S.1 + 1 - 1 = S.1 by omega, n1]; exact hw
      by_cases c6 : kw u ≤ 18
      · rw [if_pos c6]; exact leaf _ _ ⟨by show 16 ≤ kw u; omega, by show kw u ≤ 24; omega, fun q _ => absurd (show 19 ≤ kw u from q) (by omega), fun q => absurd (show 21 ≤ kw u from q) (by omega)⟩
      rw [if_neg c6]
      by_cases c7 : kw u ≤ 20
      · rw [if_pos c7]
        by_cases c8 : fnB T n (lx c z lim u.2.2) ≠ 0
        · rw [if_pos c8]; exact trivial
        · rw [if_neg c8]
          have hb := fnB0 (Classical.not_not.mp c8)
          have fb := fdx_le T (lx c z lim u.2.2).1.2.1 n
          exact leaf _ _ ⟨by show 16 ≤ kw u; omega, by show kw u ≤ 24; omega, fun _ _ => by show fdx T (lx c z lim u.2.2).1.2.1 n - 1 < n; have := hb.2; omega, fun q => absurd (show 21 ≤ kw u from q) (by omega)⟩
      rw [if_neg c7]
      by_cases c9 : ism (lx c z lim u.2.2) = false
      · rw [if_pos c9]; exact trivial
      rw [if_neg c9]
      by_cases c10 : pn (lx c z lim (lx c z lim u.2.2).2.2) 0 999 ≠ 0
      · rw [if_pos c10]; exact trivial
      rw [if_neg c10]
      obtain ⟨v1, v2, v3⟩ := pn0 (Classical.not_not.mp c10)
      have hi : (lx c z lim u.2.2).1.2.2 = 60 ∨ (lx c z lim u.2.2).1.2.2 = 61 ∨ (lx c z lim u.2.2).1.2.2 = 62 := by
        rw [Bool.not_eq_false] at c9
        unfold ism at c9
        rcases or_f c9 with q | q
        · exact Or.inl (isg_f q).2
        · rcases or_f q with q | q
          · exact Or.inr (Or.inl (isg_f q).2)
          · exact Or.inr (Or.inr (isg_f q).2)
      exact leaf _ _ ⟨by show 16 ≤ kw u; omega, by show kw u ≤ 24; omega, fun _ q => absurd (show kw u ≤ 20 from q) (by omega), fun _ => ⟨by show (lx c z lim (lx c z lim u.2.2).2.2).1.2.2 ≤ 999; omega, hi⟩⟩
    rw [if_neg m0]
    have first : ∀ sub, sub ≤ 1 → pwf n md lo S (match psn c z lim n T f sub dp 0 S u with
       | .inl x => .inl x
       | .inr y => psn c z lim n T f (sub + 3) dp (y.1.1 - 1) y.1 y.2) ∨ ¬ md ≤ 2 := by
      intro sub hsub
      by_cases hm2 : md ≤ 2
      rotate_left
      · exact Or.inr hm2
      refine Or.inl ?_
      have r := ih sub dp 0 0 S u (by omega) (fun q => by omega)
      cases hr : psn c z lim n T f sub dp 0 S u with
      | inl x => exact trivial
      | inr y =>
        rw [hr] at r
        obtain ⟨r1, r2, r3, r4⟩ := r
        obtain ⟨r31, g, r32⟩ := r3 (by omega)
        dsimp only
        have s := ih (sub + 3) dp (y.1.1 - 1) S.1 y.1 y.2 (by omega) (fun _ => ⟨by omega, g, r32⟩)
        cases hs : psn c z lim n T f (sub + 3) dp (y.1.1 - 1) y.1 y.2 with
        | inl x => exact trivial
        | inr y2 =>
          rw [hs] at s
          obtain ⟨s1, s2, s3, s4⟩ := s
          refine ⟨fun i hi => ?_, by omega, fun _ => ⟨by omega, s4 (by omega)⟩, fun q => by omega⟩
          obtain ⟨a1, a2⟩ := r1 i hi
          obtain ⟨b1, b2⟩ := s1 i (by omega)
          exact ⟨b1.trans a1, b2.trans a2⟩
    by_cases m1 : md = 1
    · rw [if_pos m1]
      rcases first 0 (by omega) with q | q
      · exact q
      · omega
    rw [if_neg m1]
    by_cases m2 : md = 2
    · rw [if_pos m2]
      rcases first 1 (by omega) with q | q
      · exact q
      · omega
    rw [if_neg m2]
    obtain ⟨ha, g0, hw0⟩ := h2 (by omega)
    have stay : pwf n md lo S (.inr (S, u)) := ⟨fun i _ => ⟨rfl, rfl⟩, by show S.1 ≤ S.1; omega, fun q => by omega, fun _ => ⟨g0, by show Wf n S g0 lo (S.1 - 1); rw [show S.1 - 1 = a by omega]; exact hw0⟩⟩
    have next : ∀ sub kk, sub ≤ 1 → (kk = 13 ∨ kk = 14) → pwf n md lo S (match psn c z lim n T f sub dp 0 S (lx c z lim u.2.2) with
         | .inl x => .inl x
         | .inr y => psn c z lim n T f (sub + 3) dp y.1.1 (sadd y.1 (kk, 0, 0) (a, y.1.1 - 1)) y.2) := by
      intro sub kk hsub hkk
      have r := ih sub dp 0 0 S (lx c z lim u.2.2) (by omega) (fun q => by omega)
      cases hr : psn c z lim n T f sub dp 0 S (lx c z lim u.2.2) with
      | inl x => exact trivial
      | inr y =>
        rw [hr] at r
        obtain ⟨r1, r2, r3, r4⟩ := r
        obtain ⟨r31, g, r32⟩ := r3 (by omega)
        dsimp only
        obtain ⟨n1, n2⟩ := sadd_n n y.1 (kk, 0, 0) (a, y.1.1 - 1)
        have agy : ∀ i, i < y.1.1 → _ := fun i hi => sadd_k y.1 (kk, 0, 0) (a, y.1.1 - 1) i hi
        have wl : Wf n (sadd y.1 (kk, 0, 0) (a, y.1.1 - 1)) (max g0 g) lo a := Wf_mono n _ g0 _ _ _ (by omega) (Wf_ext n y.1 _ y.1.1 agy g0 _ _ (by omega) (Wf_ext n S y.1 S.1 r1 g0 _ _ (by omega) hw0))
        have wr : Wf n (sadd y.1 (kk, 0, 0) (a, y.1.1 - 1)) (max g0 g) (a + 1) (y.1.1 - 1) := by
          rw [ha]
          exact Wf_mono n _ g _ _ _ (by omega) (Wf_ext n y.1 _ y.1.1 agy g _ _ (by omega) r32)
        have s := ih (sub + 3) dp y.1.1 lo (sadd y.1 (kk, 0, 0) (a, y.1.1 - 1)) y.2 (by omega) (fun _ => ⟨rfl, max g0 g + 1, Or.inr (Or.inr ⟨a, y.1.1 - 1, by omega, by rw [n1]; exact hkk, n2, wl, wr⟩)⟩)
        cases hs : psn c z lim n T f (sub + 3) dp y.1.1 (sadd y.1 (kk, 0, 0) (a, y.1.1 - 1)) y.2 with
        | inl x => exact trivial
        | inr y2 =>
          rw [hs] at s
          obtain ⟨s1, s2, s3, s4⟩ := s
          have s2 : y.1.1 + 1 ≤ y2.1.1 := s2
          refine ⟨fun i hi => ?_, by omega, fun q => by omega, fun _ => s4 (by omega)⟩
          obtain ⟨a1, a2⟩ := r1 i hi
          obtain ⟨b1, b2⟩ := s1 i (by show i < y.1.1 + 1; omega)
          obtain ⟨c1, c2⟩ := agy i (by omega)
          exact ⟨b1.trans (c1.trans a1), b2.trans (c2.trans a2)⟩
    by_cases m3 : md = 3
    · rw [if_pos m3]
      by_cases hk : kw u = 14
      · rw [if_pos hk]; exact next 0 14 (by omega) (Or.inr rfl)
      · rw [if_neg hk]; exact stay
    · rw [if_neg m3]
      by_cases hk : kw u = 13
      · rw [if_pos hk]; exact next 1 13 (by omega) (Or.inl rfl)
      · rw [if_neg hk]; exact stay
theorem pSe_wf {c : Nat → Nat} {z n : Nat} {T : Nat → List Nat} {S : Ssn} (h : pSe c z n T = .inr S) : Wf n S S.1 0 (S.1 - 1) := by
  have w := psn_wf c z 200 n T (6 * mu z (lx c z 200 0) + 7) 2 1 0 0 S000 (lx c z 200 0) (by omega) (fun q => by omega)
  unfold pSe at h
  cases hr : psn c z 200 n T (6 * mu z (lx c z 200 0) + 7) 2 1 0 S000 (lx c z 200 0) with
  | inl x => rw [hr] at h; cases h
  | inr y =>
    rw [hr] at h w
    dsimp only at h
    by_cases h0 : y.2.1.1 = 0
    · rw [if_pos h0] at h
      cases h
      obtain ⟨w1, w2, w3, w4⟩ := w
      obtain ⟨w31, g, w32⟩ := w3 (by omega)
      have w31 : 0 + 1 ≤ y.1.1 := w31
      have := Wf_h n y.1 g 0 (y.1.1 - 1) w32
      rw [show y.1.1 - 1 + 1 - 0 = y.1.1 by omega] at this
      exact this
    · rw [if_neg h0] at h; cases h
