/-! library and record once more: the spare sentence's row of words is left as it was -/
theorem op_library2 (env : am_E) (d : Nat) (I : Nat → Nat → Int32) (J : Nat → Nat → Int64) (E : Nat → Nat → Nat) (n k t h : Nat) (hR : R1 I n k t h) (hv : RT I) : opR3 (fun H => am_ev env (d + 20, 117, 0, [some (.ref 0), none], [], H)) (fun H => am_ev env (d + 20, 205, 0, [some (.ref 156), none, none], [], H)) I J E (fun I2 J2 E2 => PLb I J E n k I2 J2 E2 ∧ E2 38 = E 38) := by
  obtain ⟨z, hz, z1, z2, z3⟩ := id hv
  have hcT : Tp I z (fun j => (I 3 j).toNatClampNeg) := by
    refine ⟨z1, fun j hj => ?_⟩
    obtain ⟨c, hc, e⟩ := (z3 j hj).2
    dsimp only
    rw [e, zI_nat c (by omega)]
    exact ⟨rfl, hc⟩
  have hmT : ∀ j, j < z → I 157 j = Int32.ofNat (I 3 j).toNatClampNeg ∧ (I 3 j).toNatClampNeg < 256 := by
    intro j hj
    obtain ⟨c, hc, e⟩ := (z3 j hj).2
    rw [← (z3 j hj).1, e, zI_nat c (by omega)]
    exact ⟨rfl, hc⟩
  generalize hcc : (fun j => (I 3 j).toNatClampNeg) = c at hcT
  replace hmT : Tm I z c := by
    intro j hj
    have := hmT j hj
    rw [← hcc]; exact this
  have h24 : lbq 24 = true := by decide
  obtain ⟨v, I1, J1, E1, e1, F1, r1⟩ := c_readFrom env (d + 13) 24 h24 z hz c I J E hcT
  have g14 : am_ev env (d + 20, 117, 0, [some (.ref 0), none], [], am_hp I J E) = am_ev env (d + 20, 117, 14, [some (.ref 0), none], [.int v], am_hp I1 J1 E1) := by
    refine (bk_117_0 _ _ _ _ _).trans ?_
    rw [am_cont_some e1]
    rfl
  have ia : am_u (am_u I1 2 0 0) 0 13 ((am_u I1 2 0 0) 1 3) = am_u (am_u I1 2 0 0) 0 13 (I1 1 3) := by rw [am_u_ng I1 2 0 0 1 (by omega)]
  have ia13 : am_u (am_u I1 2 0 0) 0 13 (I1 1 3) 1 3 = I1 1 3 := by rw [am_u_ng _ _ _ _ _ (by omega), am_u_ng _ _ _ _ _ (by omega)]
  have ia14 : am_u (am_u I1 2 0 0) 0 13 (I1 1 3) 1 4 = I1 1 4 := by rw [am_u_ng _ _ _ _ _ (by omega), am_u_ng _ _ _ _ _ (by omega)]
  have Fa : ∀ q, q ≠ 0 → q ≠ 2 → am_u (am_u I1 2 0 0) 0 13 (I1 1 3) q = I1 q := fun q a b => by rw [am_u_ng _ _ _ _ _ a, am_u_ng _ _ _ _ _ b]
  have Fa2 : am_u (am_u I1 2 0 0) 0 13 (I1 1 3) 2 0 = 0 := by rw [am_u_ng _ _ _ _ _ (by omega), am_u_at]
  have Fa0 : am_u (am_u I1 2 0 0) 0 13 (I1 1 3) 0 13 = I1 1 3 := am_u_at _ _ _ _
  have Fb0 : ∀ j, j ≠ 13 → am_u (am_u I1 2 0 0) 0 13 (I1 1 3) 0 j = I 0 j := fun j hj => by rw [am_u_sg, if_neg hj, am_u_ng _ _ _ _ _ (by omega), F1.1 0 (by omega)]
  have g14b := bk_117_14 env (d + 19) v I1 J1 E1
  rw [ia, ia13, ia14] at g14b
  have pw := plib_w c z 900 (z + 1) S00 (lx c z 900 0) 0 S00_w (lx_le c z 900 0 (Nat.zero_le _)) (lx_at c z 900 0 (Nat.zero_le _))
  have ml := fun I0 J0 E0 (h2 : I0 156 2 = Int32.ofNat z) (h7 : I0 157 = I 157) => m_library env (d + 12) z hz c I0 J0 E0 h2 (fun j hj => by rw [h7]; exact hmT j hj)
  cases hr : pLib c z 900 (z + 1) S00 (lx c z 900 0) 0 with
  | inl x =>
    rw [hr] at r1 pw ml
    obtain ⟨q1, q2, q3, q4, q5⟩ := r1
    have hne : decide (I1 1 3 = (0 : Int32)) = false := by rw [q1]; exact (zI_deq _ 0 (by omega) (by omega)).trans (decide_eq_false (by omega))
    obtain ⟨w, I2, J2, e2, b2, b3, b4, b5, b6, b7⟩ := ml (am_u (am_u I1 2 0 0) 0 13 (I1 1 3)) J1 E1 (by rw [Fa 156 (by omega) (by omega), F1.1 156 (by omega)]; exact z2) (by rw [Fa 157 (by omega) (by omega), F1.1 157 (by omega)])
    have row : ∀ q j, q ≠ 0 → q ≠ 1 → q ≠ 2 → (q < 24 ∨ 30 < q) → q ≠ 156 → ¬ XM q → I2 q j = I q j := fun q j a1 a2 a3 a4 a5 a6 => by
      rw [b5 q a5 a6, Fa q a1 a3, F1.1 q (by omega)]
    have r156 : ∀ j, 14 ≤ j → j ≠ 23 → I2 156 j = I 156 j := fun j a b => by rw [b6 j a b, Fa 156 (by omega) (by omega), F1.1 156 (by omega)]
    have r0 : ∀ j, j ≠ 13 → I2 0 j = I 0 j := fun j a => by rw [b5 0 (by omega) (by unfold XM; omega), Fb0 j a]
    refine ⟨-1 - Int32.ofNat x.2, _, J1, E1, I2, J2, E1, g14.trans (g14b.trans ?_), e2.trans (by rw [b3]), ⟨⟨0, by omega, ?_, b2, fun j hj => absurd hj (Nat.not_lt_zero _)⟩, ?_, fun q hq => F1.2.2 q (by unfold CJ at hq; omega), Or.inl ⟨⟨t, h, R1_ext I I2 n k t h (fun q j hq => ?_) hR⟩, fun q j hq hx => ?_, fun q hq => ?_⟩⟩, F1.2.2 38 (by unfold XP; omega)⟩
    · rw [hne, q2]; rfl
    · rw [b5 2 (by omega) (by unfold XM; omega)]; exact Fa2
    · show I2 0 13 = I2 156 10
      rw [b5 0 (by omega) (by unfold XM; omega), Fa0, b4, q1]
    · unfold KR at hq
      by_cases e : q = 156
      · subst e; exact r156 j (by omega) (by omega)
      · exact row q j (by omega) (by omega) (by omega) (by omega) e (by unfold XM; omega)
    · unfold C1 at hq
      unfold XLf XT at hx
      by_cases e : q = 156
      · subst e; exact r156 j (by omega) (by omega)
      · by_cases e0 : q = 0
        · subst e0; exact r0 j (by omega)
        · exact row q j e0 (by omega) (by omega) (by omega) e (by unfold XM; omega)
    · rw [b7 q (by unfold CJ at hq; omega) (by unfold CJ at hq; unfold XM; omega)]; exact F1.2.1 q (by unfold CJ at hq; omega)
  | inr y =>
    rw [hr] at r1 pw ml
    obtain ⟨q1, q2, q3, q4⟩ := r1
    have q2a : CLy 24 (am_u (am_u I1 2 0 0) 0 13 (I1 1 3)) J1 y.1 := CLy_fx (E := E1) (E1 := E1) (X := fun q => q = 0 ∨ q = 2) q2 ⟨fun q hq => Fa q (fun e => hq (Or.inl e)) (fun e => hq (Or.inr e)), fun _ _ => rfl, fun _ _ => rfl⟩ (fun q a b => by omega)
    obtain ⟨I3, J3, e3, c1, c2, c3, c4, c5⟩ := c_libCopy env (d + 18) 5 24 (by decide) h24 (by omega) y.1.2.2.2.1 (am_u (am_u I1 2 0 0) 0 13 (I1 1 3)) J1 E1 q2a.2.2.2.2.1
    have l3 : CLy 5 I3 J3 y.1 := CLy_copy q2a q4 c3 c4 c5
    obtain ⟨I4, e4, d1, d2, d3, d4⟩ := c_begin73 env (d + 17) I3 J3 E1
    have hn := pw.1.1.2
    have hk := pw.1.2.1.2
    obtain ⟨w1, w2, w3, w4, w5, w6⟩ := id pw
    obtain ⟨l31, l32, l33, l34, l35, l36, l37⟩ := l3
    generalize hI5 : am_u (am_u (am_u I4 18 0 0) 18 1 0) 43 2 0 = I5 at *
    have f5 : ∀ q, q ≠ 18 → q ≠ 43 → I5 q = I4 q := fun q a b => by rw [← hI5, am_u_ng _ _ _ _ _ b, am_u_ng _ _ _ _ _ a, am_u_ng _ _ _ _ _ a]
    have f5a : I5 18 0 = 0 := by rw [← hI5, am_u_ng _ _ _ _ _ (by omega), am_u_sg, if_neg (by omega), am_u_at]
    have f5b : I5 18 1 = 0 := by rw [← hI5, am_u_ng _ _ _ _ _ (by omega), am_u_at]
    have f5c : ∀ j, I5 43 j = if j = 2 then 0 else I4 43 j := fun j => by rw [← hI5, am_u_sg, am_u_ng _ _ _ _ _ (by omega), am_u_ng _ _ _ _ _ (by omega)]
    have fi : ∀ q, q ≠ 0 → q ≠ 1 → q ≠ 2 → (q < 5 ∨ 18 < q) → (q < 24 ∨ 30 < q) → q ≠ 43 → I5 q = I q := fun q a1 a2 a3 a4 a5 a6 => by
      rw [f5 q (by omega) a6, d1 q (by omega), c1 q (by omega), Fa q a1 a3, F1.1 q (by omega)]
    obtain ⟨w, I2, J2, e2, b2, b3, b4, b5, ⟨rr, b6, b6'⟩, b7, b8, b9, b10, b11⟩ := ml I5 J3 E1 (by rw [fi 156 (by omega) (by omega) (by omega) (by omega) (by omega) (by omega)]; exact z2) (by rw [fi 157 (by omega) (by omega) (by omega) (by omega) (by omega) (by omega)])
    have fq : ∀ q, q ≠ 156 → q ≠ 158 → ¬ XM q → I2 q = I5 q := b9
    have hIL : IvL rr y.1.1 y.1.2.2.1 := IvL_low b6' w1
    refine ⟨Int32.ofNat y.2, I5, J3, E1, I2, J2, E1, g14.trans (g14b.trans ?_), e2.trans (by rw [b3]), ⟨⟨0, by omega, ?_, b2, fun j hj => absurd hj (Nat.not_lt_zero _)⟩, ?_, fun q hq => F1.2.2 q (by unfold CJ at hq; omega), Or.inr ⟨y.1.1, y.1.2.2.1, ⟨t, 0, ?_, ?_, ?_, ?_, ?_⟩, ?_, ?_, ?_, ?_, ?_, ?_, ?_⟩⟩, F1.2.2 38 (by unfold XP; omega)⟩
    · rw [show decide (I1 1 3 = (0 : Int32)) = true from decide_eq_true q3]
      simp only [decide_true, decide_false, Bool.not_true, Bool.not_false, am_cont, Option.bind_some, Option.toList_some, Option.toList_none, List.singleton_append, List.nil_append, cond_true, cond_false, e3, bk_117_71, e4, bk_117_88, bk_54_0, k18.1, k18.2, Bool.and_self, bk_117_98, bk_11_0, bk_117_105, hI5]
      rw [q1]
    · rw [fq 2 (by omega) (by omega) (by unfold XM; omega), f5 2 (by omega) (by omega), d1 2 (by omega), c1 2 (by omega)]; exact Fa2
    · show I2 0 13 = I2 156 10
      rw [fq 0 (by omega) (by omega) (by unfold XM; omega), f5 0 (by omega) (by omega), d1 0 (by omega), c1 0 (by omega), Fa0, b4, q3]
    · rw [b6]; exact IvL_low (fun j hj => soR_lo rr j hj) hIL
    · rw [b6]; exact IvS_start hIL
    · have lib : ∀ q, 5 ≤ q → q ≤ 11 → I2 q = I3 q := fun q a b => by rw [fq q (by omega) (by omega) (by unfold XM; omega), f5 q (by omega) (by omega), d1 q (by omega)]
      have sta : ∀ q, 12 ≤ q → q ≤ 17 → I2 q = I4 q := fun q a b => by rw [fq q (by omega) (by omega) (by unfold XM; omega), f5 q (by omega) (by omega)]
      intro j hj
      unfold rel at hj
      rw [b6]
      unfold rS
      by_cases j1 : j < 4
      · rw [if_pos j1, lib 5 (by omega) (by omega), soR_lo rr j (by omega), b6' j (by omega)]
        rcases (show j = 0 ∨ j = 1 ∨ j = 2 ∨ j = 3 by omega) with rfl | rfl | rfl | rfl
        · rw [l31, w1.1.1]
        · rw [l32, w2]
        · rw [l33, w1.2.1.1]
        · exact l34
      rw [if_neg j1]
      by_cases j2 : j < 12
      · rw [if_pos j2, lib 7 (by omega) (by omega), soR_lo rr j (by omega), b6' j (by omega)]
        have := (l36 (j - 4) (by omega)).1
        rw [show 4 + (j - 4) = j by omega] at this; exact this
      rw [if_neg j2]
      by_cases j3 : j < 20
      · rw [if_pos j3, lib 8 (by omega) (by omega), soR_lo rr j (by omega), b6' j (by omega)]
        have := (l36 (j - 12) (by omega)).2.1
        rw [show 12 + (j - 12) = j by omega] at this; exact this
      rw [if_neg j3]
      by_cases j4 : j < 28
      · rw [if_pos j4, lib 9 (by omega) (by omega), soR_lo rr j (by omega), b6' j (by omega)]
        have := (l36 (j - 20) (by omega)).2.2.1
        rw [show 20 + (j - 20) = j by omega] at this; exact this
      rw [if_neg j4]
      by_cases j5 : j < 34
      · rw [if_pos j5, lib 11 (by omega) (by omega), soR_lo rr j (by omega), b6' j (by omega)]
        have := (l37 (j - 28) (by omega)).1
        rw [show 28 + (j - 28) = j by omega] at this; exact this
      rw [if_neg j5]
      by_cases j6 : j < 38
      · rw [if_pos j6, sta 12 (by omega) (by omega), d2 _ (by omega), soR_0 rr j (by omega)]
      rw [if_neg j6]
      by_cases j7 : j < 46
      · rw [if_pos j7, sta 13 (by omega) (by omega), d3 _ (by omega)]
        have := soR_in rr (j - 38) (by omega)
        rw [show 38 + (j - 38) = j by omega] at this
        rw [this, b6' _ (by omega)]
        exact (l36 (j - 38) (by omega)).2.1
      rw [if_neg j7]
      by_cases j8 : j < 52
      · rw [if_pos j8, sta 14 (by omega) (by omega), (d4 _ (by omega)).1]
        have := soR_has rr (j - 46) (by omega)
        rw [show 46 + (j - 46) = j by omega] at this
        rw [this]
      rw [if_neg j8, soR_0 rr j (by omega)]
      by_cases j9 : j < 58
      · rw [if_pos j9, sta 15 (by omega) (by omega)]; exact (d4 _ (by omega)).2.1
      rw [if_neg j9]
      by_cases j10 : j < 64
      · rw [if_pos j10, sta 16 (by omega) (by omega)]; exact (d4 _ (by omega)).2.2.1
      rw [if_neg j10, if_pos (by omega), sta 17 (by omega) (by omega)]; exact (d4 _ (by omega)).2.2.2
    · obtain ⟨s1, s2, s3, s4, s5⟩ := hR.2.2.2.1
      refine ⟨s1, by omega, ?_, ?_, b5⟩
      · rw [fq 43 (by omega) (by omega) (by unfold XM; omega), f5c, if_neg (by omega), d1 43 (by omega), c1 43 (by omega), Fa 43 (by omega) (by omega), F1.1 43 (by omega)]; exact s3
      · rw [fq 43 (by omega) (by omega) (by unfold XM; omega), f5c, if_pos rfl]; rfl
    · intro i hi; exact absurd hi (Nat.not_lt_zero _)
    · refine ⟨y.1.2.2.2.2.1, y.1.2.2.2.2.2.1, fun b hb => ⟨w5 b hb, ?_, b7 b hb⟩, fun r hr => ⟨w6 r hr, ?_, b8 r hr⟩⟩
      · rw [b11 6 (by omega) (by omega) (by unfold XM; omega)]; exact (l36 b hb).2.2.2
      · rw [b11 10 (by omega) (by omega) (by unfold XM; omega)]; exact (l37 r hr).2
    · exact ⟨y.1.2.2.2.1, by rw [fq 5 (by omega) (by omega) (by unfold XM; omega), f5 5 (by omega) (by omega), d1 5 (by omega)]; exact l35⟩
    · rw [fq 18 (by omega) (by omega) (by unfold XM; omega)]; exact f5a
    · rw [fq 18 (by omega) (by omega) (by unfold XM; omega)]; exact f5b
    · rw [b6]; exact soR_0 rr 70 (by omega)
    · intro q j hq hx
      unfold C1 at hq
      unfold XLs XLf XT at hx
      by_cases e : q = 156
      · subst e
        rw [b10 j (by omega) (by omega) (by omega), fi 156 (by omega) (by omega) (by omega) (by omega) (by omega) (by omega)]
      · rw [fq q e (by omega) (by unfold XM; omega)]
        by_cases e0 : q = 0
        · subst e0
          rw [f5 0 (by omega) (by omega), d1 0 (by omega), c1 0 (by omega)]; exact Fb0 j (by omega)
        · rw [fi q e0 (by omega) (by omega) (by omega) (by omega) (by omega)]
    · intro q hq a e
      rw [b11 q (by unfold CJ at hq; omega) e (by unfold CJ at hq; unfold XM; omega), c2 q a]
      exact F1.2.1 q (by unfold CJ at hq; omega)
theorem op_record2 (env : am_E) (d : Nat) (I : Nat → Nat → Int32) (J : Nat → Nat → Int64) (E : Nat → Nat → Nat) (n k t h : Nat) (hR : R1 I n k t h) (hv : RT I) (hV : RV I) (hTo : RTo I) (hN : RN J n k) (x : Int32) : opR3 (fun H => am_ev env (d + 20, 162, 0, [some (.ref 0), some (.int x), none], [], H)) (fun H => am_ev env (d + 20, 285, 0, [some (.ref 156), some (.int x), none, none], [], H)) I J E (fun I2 J2 E2 => PRc I J E n k I2 J2 E2 ∧ E2 38 = E 38) := by
  obtain ⟨hn, hk, ht, hh, e1, e2, e3, f0, f2, g0, g2⟩ := R1_f I n k t h hR
  obtain ⟨r1, r2, r3, r4, r5⟩ := id hR
  obtain ⟨z, hz, z1, z2, z3⟩ := id hv
  have e31 : (1 : Int32) = Int32.ofNat 2 - 1 := by decide
  rcases zI_tri x 2 (by omega) with ⟨h1, -⟩ | ⟨lv, hlv, rfl⟩
  · have keep : RT (th0 I) := ⟨z, hz, by rw [th0_ne I 2 (by omega)]; exact z1, by rw [th0_at I 2 (by omega)]; exact z2, fun j hj => by rw [th0_ne I 3 (by omega), th0_ne I 157 (by omega)]; exact z3 j hj⟩
    refine ⟨-1000, I, J, E, th0 I, J, E, ?_, ?_, ⟨⟨t, h, R1_th0 I n k t h hR⟩, keep, ?_, ?_, fun q j hq _ => th0_fr I q j hq, fun _ _ _ => rfl, fun _ _ => rfl⟩, rfl⟩
    · refine (bk_162_0 _ _ _ _ _ _).trans ?_
      rw [decide_eq_false (fun e => by rw [e] at h1; exact absurd h1 (by decide)), decide_eq_false (fun e => by rw [e] at h1; exact absurd h1 (by decide))]
      rfl
    · refine (bk_285_0 _ _ _ _ _ _).trans ?_
      have hin : (!decide (x < (0 : Int32)) && !decide ((1 : Int32) < x)) = false := by rw [e31, zI_inb x 2 (by omega)]; exact h1
      rw [th0_u]
      simp only [decide_true, decide_false, Bool.not_true, Bool.not_false, am_cont, Option.bind_some, Option.toList_some, Option.toList_none, List.singleton_append, List.nil_append, cond_true, cond_false, m_isIn, hin, bk_285_11, bi_f, zq_0_0]
    · show th0 I 0 13 = th0 I 156 10
      rw [th0_ne I 0 (by omega), th0_at I 10 (by omega)]; exact hV
    · unfold RTo
      rw [th0_at I 46 (by omega), th0_ne I 115 (by omega), th0_ne I 176 (by omega)]; exact hTo
  · obtain ⟨T, U, nT, nU⟩ := hN
    have hcT : Tp I z (fun j => (I 3 j).toNatClampNeg) := by
      refine ⟨z1, fun j hj => ?_⟩
      obtain ⟨c, hc, e⟩ := (z3 j hj).2
      dsimp only
      rw [e, zI_nat c (by omega)]
      exact ⟨rfl, hc⟩
    have hmT : ∀ j, j < z → I 157 j = Int32.ofNat (I 3 j).toNatClampNeg ∧ (I 3 j).toNatClampNeg < 256 := by
      intro j hj
      obtain ⟨c, hc, e⟩ := (z3 j hj).2
      rw [← (z3 j hj).1, e, zI_nat c (by omega)]
      exact ⟨rfl, hc⟩
    generalize hcc : (fun j => (I 3 j).toNatClampNeg) = c at hcT
    replace hmT : Tm I z c := by
      intro j hj
      have := hmT j hj
      rw [← hcc]; exact this
    have ivl : IvL (rS I 12) n k := IvL_agr (agr_symm r3) r1
    have ivs : IvS (rS I 12) n k := IvS_agr (agr_symm r3) r2
    obtain ⟨v, I1, J1, E1, c1, cJ, cE, cr⟩ := c_record env d z hz c n k T U lv hlv t h ht hh I J E hcT ⟨⟨f0, hn⟩, ⟨f2, hk⟩, fun b hb => ⟨(nT b hb).1, (nT b hb).2.1⟩, fun b hb => ⟨(nU b hb).1, (nU b hb).2.1⟩⟩ ivl ivs e1 e2
    have po := rRec_o c z 400 n k T U (z + 1) 0 (fun _ => (0, 0, 0, 0)) (lx c z 400 0) (lx_le c z 400 0 (Nat.zero_le _)) (lx_at c z 400 0 (Nat.zero_le _)) (by omega) (fun a ha => absurd ha (Nat.not_lt_zero _))
    have mr := fun (i156 : I1 156 = I 156) (i157 : I1 157 = I 157) (i158 : I1 158 = I 158) => m_record env (d + 11) z hz c n k T U lv hlv h hh I1 J1 E1 (by rw [i156]; exact z2) (fun j hj => by rw [i157]; exact hmT j hj) ⟨⟨by rw [i158]; exact g0, hn⟩, ⟨by rw [i158]; exact g2, hk⟩, fun b hb => ⟨(nT b hb).1, by rw [cJ 163 (by unfold X8; omega)]; exact (nT b hb).2.2⟩, fun b hb => ⟨(nU b hb).1, by rw [cJ 163 (by unfold X8; omega)]; exact (nU b hb).2.2⟩⟩ (by rw [i158]; exact r1) (by rw [i158]; exact r2) (by rw [i156]; exact e3)
    cases hr : rRec c z 400 n k T U (z + 1) 0 (fun _ => (0, 0, 0, 0)) (lx c z 400 0) with
    | inl y =>
      rw [hr] at cr mr po
      obtain ⟨a1, a2, a3, a4, a5⟩ := cr
      have w := fun q (h : 103 < q) => a5 q (by omega) (by omega) (by omega) (by omega)
      obtain ⟨v2, I2, J2, m1, m2, m3, m4, m5, b1, b2, b3, b4, b5, b6, b7⟩ := mr (w 156 (by omega)) (w 157 (by omega)) (w 158 (by omega))
      have cell : ∀ q j, q ≠ 0 → q ≠ 1 → q ≠ 2 → (q < 99 ∨ 103 < q) → q ≠ 156 → q ≠ 162 → q ≠ 175 → I2 q j = I q j := by
        intro q j q1 q2 q3 q4 q5 q6 q7
        by_cases h8 : q = 158
        · subst h8; rw [b3, w 158 (by omega)]
        · by_cases h9 : q = 161
          · subst h9; rw [b4, w 161 (by omega)]
          · by_cases h10 : q = 176
            · subst h10; rw [b5, w 176 (by omega)]
            · rw [m3 q q5 h8 h9 q6 q7 h10, a5 q q1 q2 q3 q4]
      have c156 : ∀ j, 14 ≤ j → j ≠ 45 → I2 156 j = I 156 j := by
        intro j q1 q2
        by_cases h8 : j = 24
        · subst h8; rw [b6, w 156 (by omega)]
        · by_cases h9 : j = 46
          · subst h9; rw [b7, w 156 (by omega)]
          · rw [m5 j q1 h8 q2 h9, w 156 (by omega)]
      have c0 : ∀ j, j ≠ 13 → I2 0 j = I 0 j := fun j hj => by rw [m3 0 (by omega) (by omega) (by omega) (by omega) (by omega) (by omega)]; exact a4 j hj
      refine ⟨v, I1, J1, E1, I2, J2, E1, c1, ?_, ⟨⟨t, h, R1_ext I I2 n k t h (fun q j hq => ?_) hR⟩, ⟨0, by omega, ?_, m2, fun j hj => absurd hj (Nat.not_lt_zero _)⟩, ?_, ?_, fun q j hq hx => ?_, fun q hq q175 => ?_, fun q hq => ?_⟩, cE 38 (by unfold X8; omega)⟩
      · rw [a1, ← b1]; exact m1
      · unfold KR at hq
        by_cases e : q = 156
        · subst e; exact c156 j (by omega) (by omega)
        · exact cell q j (by omega) (by omega) (by omega) (by omega) e (by omega) (by omega)
      · rw [m3 2 (by omega) (by omega) (by omega) (by omega) (by omega) (by omega)]; exact a3
      · show I2 0 13 = I2 156 10
        rw [m3 0 (by omega) (by omega) (by omega) (by omega) (by omega) (by omega), a2, b2]
      · unfold RTo
        rw [c156 46 (by omega) (by omega), b5, m3 115 (by omega) (by omega) (by omega) (by omega) (by omega) (by omega), w 115 (by omega), w 176 (by omega)]; exact hTo
      · unfold C1 at hq
        unfold XRc XLf XT at hx
        by_cases e : q = 156
        · subst e; exact c156 j (by omega) (by omega)
        · by_cases e0 : q = 0
          · subst e0; exact c0 j (by omega)
          · exact cell q j e0 (by omega) (by omega) (by omega) e (by omega) (by omega)
      · rw [m4 q (by unfold CJ at hq; omega) q175]; exact cJ q (by unfold CJ at hq; unfold X8; omega)
      · exact cE q (by unfold CJ at hq; unfold X8; omega)
    | inr y =>
      rw [hr] at cr mr po
      obtain ⟨po1, po2⟩ := po
      obtain ⟨a1, Ib, aI, a2, a3, a4, a5, a6⟩ := cr
      obtain ⟨q1, q2, q3⟩ := rgo_agr y.2 n k y.1 0 (rS I 12) (I 158) (fun a ha => po2 a (by omega)) r3 ivl ivs
      obtain ⟨ok1, ok2, ok3, ok4⟩ := rgo_ok y.2 n k y.1 0 (rS I 12) (fun a ha => po2 a (by omega)) ivl ivs
      obtain ⟨om1, om2, om3, om4⟩ := rgo_ok y.2 n k y.1 0 (I 158) (fun a ha => po2 a (by omega)) r1 r2
      have ibw := fun q (h1 : 103 < q) (h2 : q ≠ 115) => a6 q (by omega) (by omega) (by omega) (by omega) (by omega) h2
      have i1w : ∀ q, 103 < q → q ≠ 115 → I1 q = I q := by
        intro q h1 h2
        rw [aI]
        by_cases hst : lv = 1 ∧ 0 < (rgo y.2 k y.1 0 (rS I 12)).1
        · rw [if_pos hst, cA_hi _ t h ht 0 _ q (by omega)]; exact ibw q h1 h2
        · rw [if_neg hst]; exact ibw q h1 h2
      have hRb : R1 Ib n k t h := R1_ext I Ib n k t h (fun q j hq => by
        unfold KR at hq
        rw [a6 q (by omega) (by omega) (by omega) (by omega) (by omega) (by omega)]) hR
      obtain ⟨v2, I2, J2, m1, m2, m3, m4, m5, b1, b2, b3, b4, b5⟩ := mr (i1w 156 (by omega) (by omega)) (i1w 157 (by omega) (by omega)) (i1w 158 (by omega) (by omega))
      rw [i1w 158 (by omega) (by omega)] at b1 b4 b5
      rw [i1w 161 (by omega) (by omega), i1w 156 (by omega) (by omega)] at b5
      generalize hG : rgo y.2 k y.1 0 (rS I 12) = G at *
      generalize hG2 : rgo y.2 k y.1 0 (I 158) = G2 at *
      obtain ⟨gi, gc, gm⟩ := G
      obtain ⟨gi2, gc2, gm2⟩ := G2
      dsimp only at a1 aI a4 q1 q2 q3 ok1 ok2 ok3 ok4 om1 om2 om3 om4 b1 b4 b5
      subst q1
      subst q2
      have i1lo : ∀ q, (q < 12 ∨ (17 < q ∧ q < 43)) → I1 q = Ib q := by
        intro q hq
        rw [aI]
        by_cases hst : lv = 1 ∧ 0 < gi
        · rw [if_pos hst, cA_lo _ t h ht 0 _ q hq]
        · rw [if_neg hst]
      have i1hi : ∀ q, 98 < q → I1 q = Ib q := by
        intro q hq
        rw [aI]
        by_cases hst : lv = 1 ∧ 0 < gi
        · rw [if_pos hst, cA_hi _ t h ht 0 _ q hq]
        · rw [if_neg hst]
      have row : ∀ q, q ≠ 156 → q ≠ 158 → q ≠ 161 → q ≠ 162 → q ≠ 175 → q ≠ 176 → I2 q = I1 q := m3
      have e158 : ∀ j, (j < 34 ∨ 70 ≤ j) → I2 158 j = I 158 j := by
        intro j hj
        by_cases hst : lv = 1 ∧ 0 < gi
        · rw [if_pos hst] at b5; rw [b5.1]; exact om2 j hj
        · rw [if_neg hst] at b5; rw [b5.1]
      refine ⟨v, I1, J1, E1, I2, J2, E1, c1, ?_, ⟨?_, ⟨0, by omega, ?_, m2, fun j hj => absurd hj (Nat.not_lt_zero _)⟩, ?_, ?_, fun q j hq hx => ?_, fun q hq q175 => ?_, fun q hq => ?_⟩, cE 38 (by unfold X8; omega)⟩
      · rw [a1, ← b1]; exact m1
      · by_cases hst : lv = 1 ∧ 0 < gi
        · rw [if_pos hst] at aI b5
          obtain ⟨t', h', hR'⟩ := R1_act Ib n k t h hRb 0 gm gm2 (fun j hj => by
            rw [ok2 j (Or.inl hj)]
            exact (rS_congr I Ib 12 (fun q hq => a6 q (by omega) (by omega) (by omega) (by omega) (by omega) (by omega)) ▸ rfl)) (fun j hj => by rw [om2 j (Or.inl hj), ibw 158 (by omega) (by omega)]) (fun _ => q3) (fun _ => om1)
          refine ⟨t', h', R1_ext _ I2 n k t' h' (fun q j hq => ?_) hR'⟩
          rw [← aI]
          unfold KR at hq
          show I2 q j = am_ur (mS I1 h) 158 gm2 q j
          by_cases e : q = 158
          · subst e; rw [ur_at, b5.1]
          · rw [ur_ne _ _ _ _ e]
            unfold mS
            by_cases e2 : q = 161
            · subst e2; rw [ur_at, b5.2.1, i1w 161 (by omega) (by omega), i1w 158 (by omega) (by omega)]
            · rw [ur_ne _ _ _ _ e2]
              by_cases e3 : q = 156
              · subst e3
                rw [ur_at, show j = 24 by omega, ru_eq, b5.2.2]
              · rw [ur_ne _ _ _ _ e3, th0_ne _ _ e3, row q e3 e e2 (by omega) (by omega) (by omega)]
        · rw [if_neg hst] at aI b5
          refine ⟨t, h, R1_ext I I2 n k t h (fun q j hq => ?_) hR⟩
          unfold KR at hq
          by_cases e : q = 158
          · subst e; rw [b5.1]
          · by_cases e2 : q = 161
            · subst e2; rw [b5.2.1]
            · by_cases e3 : q = 156
              · subst e3; rw [show j = 24 by omega, b5.2.2]
              · rw [row q e3 e e2 (by omega) (by omega) (by omega), aI]
                rw [a6 q (by omega) (by omega) (by omega) (by omega) (by omega) (by omega)]
      · rw [row 2 (by omega) (by omega) (by omega) (by omega) (by omega) (by omega), i1lo 2 (by omega)]; exact a3
      · show I2 0 13 = I2 156 10
        rw [row 0 (by omega) (by omega) (by omega) (by omega) (by omega) (by omega), i1lo 0 (by omega), a2, b2]
      · refine Or.inr ⟨b3, fun j hj => ?_⟩
        rw [row 115 (by omega) (by omega) (by omega) (by omega) (by omega) (by omega), i1hi 115 (by omega)]
        rcases (show j = 0 ∨ j = 1 ∨ j = 2 ∨ j = 3 by omega) with rfl | rfl | rfl | rfl
        · rw [a4.1, b4.1]
        · rw [a4.2.1, b4.2.1]
        · rw [a4.2.2.1, b4.2.2.1]; exact q3 34 (by unfold rel; omega)
        · rw [a4.2.2.2, b4.2.2.2]; exact accD_agr q3
      · unfold C1 at hq
        unfold XRc XLf XT at hx
        by_cases e : q = 156
        · subst e; rw [m5 j (by omega) (by omega) (by omega) (by omega), i1w 156 (by omega) (by omega)]
        · by_cases e8 : q = 158
          · subst e8; exact e158 j (by omega)
          · rw [row q e e8 (by omega) (by omega) (by omega) (by omega)]
            by_cases e0 : q = 0
            · subst e0; rw [i1lo 0 (by omega)]; exact a5 j (by omega)
            · by_cases hb : q < 43
              · rw [i1lo q (by omega), a6 q e0 (by omega) (by omega) (by omega) (by omega) (by omega)]
              · rw [i1hi q (by omega), a6 q e0 (by omega) (by omega) (by omega) (by omega) (by omega)]
      · rw [m4 q (by unfold CJ at hq; omega) q175]; exact cJ q (by unfold CJ at hq; unfold X8; omega)
      · exact cE q (by unfold CJ at hq; unfold X8; omega)
