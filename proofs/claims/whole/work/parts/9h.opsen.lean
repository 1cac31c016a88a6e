/-! sentence: class and reference side by side -/
def CSp (p : Nat) (I : Nat → Nat → Int32) (E : Nat → Nat → Nat) (S : Ssn) : Prop := I p 0 = Int32.ofNat S.2.1 ∧ I p 1 = Int32.ofNat S.1 ∧ ∀ i, i < S.1 → E (p + 1) i = (S.2.2.1 i).1 ∧ I (p + 2) i = Int32.ofNat (S.2.2.1 i).2.2 ∧ I (p + 3) i = Int32.ofNat (S.2.2.1 i).2.1
def MSp (n : Nat) (r : Nat → Int32) (S : Ssn) : Prop := (S.1 = 0 ∧ S.2.1 = 0 ∧ r 70 = 0) ∨ (1 ≤ S.1 ∧ S.1 < 40 ∧ 1 ≤ S.2.1 ∧ S.2.1 ≤ 20 ∧ Wf n S S.1 0 (S.1 - 1) ∧ r 70 = 1 ∧ r 71 = Int32.ofNat (S.1 - 1) ∧ Nds (fun j => r (72 + j)) S)
def RSe (I : Nat → Nat → Int32) (E : Nat → Nat → Nat) (n : Nat) : Prop := (∃ S, CSp 18 I E S ∧ MSp n (I 158) S) ∧ ∀ j, j < 40 → E 19 j ≤ 24 ∧ E 38 j ≤ 24
theorem CSt_lt {c : Nat → Nat} {z n : Nat} {T : Nat → List Nat} {I : Nat → Nat → Int32} {E : Nat → Nat → Nat} {S : Ssn} (h : CSt I E S) : ∀ j, j < 40 → E 38 j ≤ 24 := h.2.2.2
def XSn (q j : Nat) : Prop := XLf q j ∨ (18 ≤ q ∧ q ≤ 21) ∨ (q = 158 ∧ 70 ≤ j)
def PSn (I : Nat → Nat → Int32) (J : Nat → Nat → Int64) (E : Nat → Nat → Nat) (n k : Nat) (I2 : Nat → Nat → Int32) (J2 : Nat → Nat → Int64) (E2 : Nat → Nat → Nat) : Prop := (∃ t h, R1 I2 n k t h) ∧ RT I2 ∧ RV I2 ∧ RSe I2 E2 n ∧ frX XSn I I2 ∧ (∀ q, ¬ CJ q → q ≠ 177 → J2 q = J q) ∧ ∀ q, ¬ CJ q → q ≠ 19 → E2 q = E q
theorem c_sen_le {I : Nat → Nat → Int32} {J : Nat → Nat → Int64} {E : Nat → Nat → Nat} {I1 : Nat → Nat → Int32} {J1 : Nat → Nat → Int64} {E1 : Nat → Nat → Nat} (h : FX X3 I J E I1 J1 E1) : E1 19 = E 19 := h.2.2 19 (by omega)
theorem op_sentence (env : am_E) (d : Nat) (I : Nat → Nat → Int32) (J : Nat → Nat → Int64) (E : Nat → Nat → Nat) (n k t h : Nat) (hR : R1 I n k t h) (hv : RT I) (hN : RN J n k) (hS : RSe I E n) : opR3 (fun H => am_ev env (d + 60, 164, 0, [some (.ref 0)], [], H)) (fun H => am_ev env (d + 60, 296, 0, [some (.ref 156), none], [], H)) I J E (PSn I J E n k) := by
  obtain ⟨hn, hk, ht, hh, e1, e2, e3, f0, f2, g0, g2⟩ := R1_f I n k t h hR
  obtain ⟨z, hz, z1, z2, z3⟩ := id hv
  obtain ⟨T, U, nT, nU⟩ := hN
  obtain ⟨⟨S0, hC, hM⟩, hE⟩ := hS
  have hcT : Tp I z (fun j => (I 3 j).toNatClampNeg) := by
    refine ⟨z1, fun j hj => ?_⟩
    obtain ⟨c, hc, e⟩ := (z3 j hj).2
    dsimp only
    rw [e, zI_nat c (by omega)]
    exact ⟨rfl, hc⟩
  have hmT : ∀ j, j < z → I 157 j = Int32.ofNat (I 3 j).toNatClampNeg ∧ (I 3 j).toNatClampNeg < 256 := by
    intro j hj
    obtain ⟨c, hc, e⟩ := (z3 j hj).2
    rw [← (z3 j hj).1, e, zI_nat c (by omega)]
    exact ⟨rfl, hc⟩
  generalize hcc : (fun j => (I 3 j).toNatClampNeg) = c at hcT
  replace hmT : Tm I z c := by
    intro j hj
    have := hmT j hj
    rw [← hcc]; exact this
  obtain ⟨I1, J1, E1, c1, F1, cr⟩ := c_sen56 env (d + 19) z hz c n k T U I J E hcT ⟨⟨f0, hn⟩, ⟨f2, hk⟩, fun b hb => ⟨(nT b hb).1, (nT b hb).2.1⟩, fun b hb => ⟨(nU b hb).1, (nU b hb).2.1⟩⟩ (fun j hj => (hE j hj).2)
  have i1 : ∀ q, q ≠ 1 → (q < 37 ∨ 41 < q) → I1 q = I q := fun q a b => F1.1 q (by omega)
  have j1 : ∀ q, q ≠ 1 → (q < 37 ∨ 41 < q) → J1 q = J q := fun q a b => F1.2.1 q (by omega)
  have ee1 : ∀ q, q ≠ 1 → (q < 37 ∨ 41 < q) → E1 q = E q := fun q a b => F1.2.2 q (by omega)
  have g21 : am_ev env (d + 60, 164, 0, [some (.ref 0)], [], am_hp I J E) = am_ev env (d + 60, 164, 21, [some (.ref 0)], [], am_hp I1 J1 E1) := by
    refine (bk_164_0 _ _ _ _ _).trans ?_
    rw [am_cont_some c1]
    rfl
  have b21 := bk_164_21 env (d + 59) I1 J1 E1
  have ia : am_u (am_u I1 2 0 0) 0 13 ((am_u I1 2 0 0) 1 3) = am_u (am_u I1 2 0 0) 0 13 (I1 1 3) := by rw [am_u_ng I1 2 0 0 1 (by omega)]
  rw [ia] at b21
  generalize hIa : am_u (am_u I1 2 0 0) 0 13 (I1 1 3) = Ia at b21
  have a0 : Ia 0 13 = I1 1 3 := by rw [← hIa, am_u_at]
  have a0j : ∀ j, j ≠ 13 → Ia 0 j = I 0 j := fun j hj => by rw [← hIa, am_u_sg, if_neg hj, am_u_ng _ _ _ _ _ (by omega), i1 0 (by omega) (by omega)]
  have a20 : Ia 2 0 = 0 := by rw [← hIa, am_u_ng _ _ _ _ _ (by omega), am_u_at]
  have aq : ∀ q, q ≠ 0 → q ≠ 2 → Ia q = I1 q := fun q a b => by rw [← hIa, am_u_ng _ _ _ _ _ a, am_u_ng _ _ _ _ _ b]
  rw [aq 1 (by omega) (by omega)] at b21
  have md : ∀ (Ib : Nat → Nat → Int32) (Eb : Nat → Nat → Nat), (∀ q, 41 < q → Ib q = I q) → _ := fun Ib Eb hb => m_sen env (d + 10) z hz c n k T U Ib J1 Eb (by rw [hb 156 (by omega)]; exact z2) (fun j hj => by rw [hb 157 (by omega)]; exact hmT j hj) ⟨⟨by rw [hb 158 (by omega)]; exact g0, hn⟩, ⟨by rw [hb 158 (by omega)]; exact g2, hk⟩, fun b hb' => ⟨(nT b hb').1, by rw [j1 163 (by omega) (by omega)]; exact (nT b hb').2.2⟩, fun b hb' => ⟨(nU b hb').1, by rw [j1 163 (by omega) (by omega)]; exact (nU b hb').2.2⟩⟩
  cases hr : pSe c z n T with
  | inl x =>
    rw [hr] at cr md
    obtain ⟨r1, r2, r3, r4, r5, r6⟩ := cr
    have hne : decide (I1 1 3 = (0 : Int32)) = false := by rw [r1]; exact (zI_deq x.1 0 (by omega) (by omega)).trans (decide_eq_false (by omega))
    rw [hne] at b21
    have hb : ∀ q, 41 < q → Ia q = I q := fun q hq => by rw [aq q (by omega) (by omega), i1 q (by omega) (by omega)]
    obtain ⟨v, I2, J2, m1, m2, m3, m4, m5, b1, b2, b3⟩ := md Ia E1 hb
    have row : ∀ q, q ≠ 156 → q ≠ 177 → I2 q = Ia q := by
      intro q q1 q2
      by_cases e : q = 158
      · subst e; exact b3
      · exact m3 q q1 e q2
    have c156 : ∀ j, 14 ≤ j → (j < 48 ∨ 51 < j) → I2 156 j = I 156 j := fun j q1 q2 => by rw [m5 j q1 q2, hb 156 (by omega)]
    have low : ∀ q, q ≠ 0 → q ≠ 1 → q ≠ 2 → (q < 37 ∨ 41 < q) → q ≠ 156 → q ≠ 177 → I2 q = I q := fun q q1 q2 q3 q4 q5 q6 => by rw [row q q5 q6, aq q q1 q3, i1 q q2 q4]
    refine ⟨v, Ia, J1, E1, I2, J2, E1, g21.trans (b21.trans ?_), m1, ⟨t, h, R1_ext I I2 n k t h (fun q j hq => ?_) hR⟩, ⟨0, by omega, ?_, m2, fun j hj => absurd hj (Nat.not_lt_zero _)⟩, ?_, ⟨⟨S0, ?_, ?_⟩, fun j hj => ⟨?_, ?_⟩⟩, fun q j hq hx => ?_, fun q hq q177 => ?_, fun q hq _ => ?_⟩
    · rw [b1, r2]; rfl
    · unfold KR at hq
      by_cases e : q = 156
      · subst e; exact c156 j (by omega) (by omega)
      · rw [low q (by omega) (by omega) (by omega) (by omega) e (by omega)]
    · rw [row 2 (by omega) (by omega)]; exact a20
    · show I2 0 13 = I2 156 10
      rw [row 0 (by omega) (by omega), a0, r1, b2]
    · unfold CSp
      rw [low 18 (by omega) (by omega) (by omega) (by omega) (by omega) (by omega), low 20 (by omega) (by omega) (by omega) (by omega) (by omega) (by omega), low 21 (by omega) (by omega) (by omega) (by omega) (by omega) (by omega), ee1 19 (by omega) (by omega)]
      exact hC
    · rw [low 158 (by omega) (by omega) (by omega) (by omega) (by omega) (by omega)]; exact hM
    · rw [ee1 19 (by omega) (by omega)]; exact (hE j hj).1
    · exact r6 j hj
    · unfold C1 at hq
      unfold XSn XLf XT at hx
      by_cases e : q = 156
      · subst e; exact c156 j (by omega) (by omega)
      · by_cases e0 : q = 0
        · subst e0; rw [row 0 (by omega) (by omega)]; exact a0j j (by omega)
        · rw [low q e0 (by omega) (by omega) (by omega) e (by omega)]
    · unfold CJ at hq
      rw [m4 q (by omega) q177]; exact j1 q (by omega) (by omega)
    · unfold CJ at hq
      exact ee1 q (by omega) (by omega)
  | inr S =>
    rw [hr] at cr md
    obtain ⟨r1, r2, r3, r4, r5, r6⟩ := cr
    rw [show decide (I1 1 3 = (0 : Int32)) = true from decide_eq_true r1] at b21
    obtain ⟨s1, s2, s3, s4⟩ := id r2
    obtain ⟨Ib, Eb, cc, k1, k2, ⟨k3, k4⟩, k5⟩ := c_senCopy env (d + 58) 18 37 (by decide) (by decide) (by omega) Ia J1 E1 s4
    have hb : ∀ q, 41 < q → Ib q = I q := fun q hq => by rw [k1 q (by omega), aq q (by omega) (by omega), i1 q (by omega) (by omega)]
    obtain ⟨v, I2, J2, m1, m2, m3, m4, m5, b1, b2, b3, b4, b5, b6⟩ := md Ib Eb hb
    have i18 : Ib 18 0 = Int32.ofNat S.2.1 := by rw [k3, aq 37 (by omega) (by omega)]; exact s1
    have row : ∀ q, q ≠ 156 → q ≠ 158 → q ≠ 177 → I2 q = Ib q := m3
    have c156 : ∀ j, 14 ≤ j → (j < 48 ∨ 51 < j) → I2 156 j = I 156 j := fun j q1 q2 => by rw [m5 j q1 q2, hb 156 (by omega)]
    have low : ∀ q, q ≠ 0 → q ≠ 1 → q ≠ 2 → (q < 18 ∨ 21 < q) → (q < 37 ∨ 41 < q) → q ≠ 156 → q ≠ 158 → q ≠ 177 → I2 q = I q := fun q q1 q2 q3 q4 q5 q6 q7 q8 => by rw [row q q6 q7 q8, k1 q (by omega), aq q q1 q3, i1 q q2 q5]
    have c158 : ∀ j, j < 70 → I2 158 j = I 158 j := fun j hj => by rw [b3 j (Or.inl hj), hb 158 (by omega)]
    refine ⟨v, Ib, J1, Eb, I2, J2, Eb, g21.trans (b21.trans ?_), m1, ⟨t, h, R1_ext I I2 n k t h (fun q j hq => ?_) hR⟩, ⟨0, by omega, ?_, m2, fun j hj => absurd hj (Nat.not_lt_zero _)⟩, ?_, ⟨⟨S, ⟨?_, ?_, fun i hi => ⟨?_, ?_, ?_⟩⟩, Or.inr ⟨r5, r6, r3, r4, pSe_wf hr, b4, b5, b6⟩⟩, fun j hj => ⟨?_, ?_⟩⟩, fun q j hq hx => ?_, fun q hq q177 => ?_, fun q hq q19 => ?_⟩
    · rw [am_cont_some cc]
      refine (bk_164_77 _ _ _ _ _).trans ?_
      rw [i18, b1]
    · unfold KR at hq
      by_cases e : q = 156
      · subst e; exact c156 j (by omega) (by omega)
      · by_cases e8 : q = 158
        · subst e8; exact c158 j (by omega)
        · rw [low q (by omega) (by omega) (by omega) (by omega) (by omega) e e8 (by omega)]
    · rw [row 2 (by omega) (by omega) (by omega), k1 2 (by omega)]; exact a20
    · show I2 0 13 = I2 156 10
      rw [row 0 (by omega) (by omega) (by omega), k1 0 (by omega), a0, r1, b2]
    · rw [row 18 (by omega) (by omega) (by omega)]; exact i18
    · rw [row 18 (by omega) (by omega) (by omega), k4, aq 37 (by omega) (by omega)]; exact s2
    · rw [(k5 i (by omega)).2.2]; exact (s3 i hi).1
    · rw [row (18 + 2) (by omega) (by omega) (by omega), (k5 i (by omega)).1, aq (37 + 2) (by omega) (by omega)]; exact (s3 i hi).2.1
    · rw [row (18 + 3) (by omega) (by omega) (by omega), (k5 i (by omega)).2.1, aq (37 + 3) (by omega) (by omega)]; exact (s3 i hi).2.2
    · rw [(k5 j hj).2.2]; exact s4 j hj
    · rw [k2 38 (by omega)]; exact s4 j hj
    · unfold C1 at hq
      unfold XSn XLf XT at hx
      by_cases e : q = 156
      · subst e; exact c156 j (by omega) (by omega)
      · by_cases e8 : q = 158
        · subst e8; exact c158 j (by omega)
        · by_cases e0 : q = 0
          · subst e0; rw [row 0 (by omega) (by omega) (by omega), k1 0 (by omega)]; exact a0j j (by omega)
          · rw [low q e0 (by omega) (by omega) (by omega) (by omega) e e8 (by omega)]
    · unfold CJ at hq
      rw [m4 q (by omega) q177]; exact j1 q (by omega) (by omega)
    · unfold CJ at hq
      rw [k2 q q19]; exact ee1 q (by omega) (by omega)
