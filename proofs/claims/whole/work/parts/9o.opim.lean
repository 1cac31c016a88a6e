/-! image: class and reference side by side -/
theorem k42 : (∀ b : Fin 2, am_SR 42 b.1 = 118 + 19 * b.1) ∧ (∀ b : Fin 2, decide (118 + 19 * b.1 < 179) = true ∧ Nat.beq (am_K (118 + 19 * b.1)).1 6 = true) := by decide +kernel
theorem z_lt2 (a : Int32) : decide (a < 2) = !decide (1 < a) := by
  have h1 : (1 : Int32).toInt = 1 := by decide
  have h2 : (2 : Int32).toInt = 2 := by decide
  by_cases h : a < 2
  · have g : ¬ (1 : Int32) < a := fun q => by
      rw [Int32.lt_iff_toInt_lt] at h q; omega
    rw [decide_eq_true h, decide_eq_false g]; rfl
  · have g : (1 : Int32) < a := by
      rw [Int32.lt_iff_toInt_lt] at h ⊢; omega
    rw [decide_eq_false h, decide_eq_true g]; rfl
theorem z_2le (a : Int32) : decide (2 ≤ a) = decide (1 < a) := by
  have h1 : (1 : Int32).toInt = 1 := by decide
  have h2 : (2 : Int32).toInt = 2 := by decide
  by_cases h : (2 : Int32) ≤ a
  · have g : (1 : Int32) < a := by
      rw [Int32.le_iff_toInt_le] at h; rw [Int32.lt_iff_toInt_lt]; omega
    rw [decide_eq_true h, decide_eq_true g]
  · have g : ¬ (1 : Int32) < a := fun q => by
      rw [Int32.le_iff_toInt_le] at h; rw [Int32.lt_iff_toInt_lt] at q; omega
    rw [decide_eq_false h, decide_eq_false g]
theorem RSh_fr {I I' : Nat → Nat → Int32} {J J' : Nat → Nat → Int64} {E E' : Nat → Nat → Nat} {p : Nat} {m : Nat → Int32} {nm : Nat → Int64} {n k : Nat} (hI : ∀ r, p < r → r ≤ p + 17 → I' r = I r) (hJ : J' (p + 2) = J (p + 2) ∧ J' (p + 6) = J (p + 6)) (hE : E' (p + 15) = E (p + 15)) (h : RSh I J E p m nm n k) : RSh I' J' E' p m nm n k := by
  refine RSh_p (q := p) (fun o ho => by rw [hI (p + 1) (by omega) (by omega)]; exact ho) (fun j hj => ?_) (fun j _ => by rw [hJ.1]) (fun j _ => by rw [hJ.2]) ⟨by rw [hI (p + 14) (by omega) (by omega)], by rw [hI (p + 14) (by omega) (by omega)]⟩ (fun j _ => ⟨by rw [hI (p + 16) (by omega) (by omega)], by rw [hI (p + 17) (by omega) (by omega)], by rw [hE]⟩) h
  unfold rSg
  rw [hI (p + 1) (by omega) (by omega), hI (p + 1 + 2) (by omega) (by omega), hI (p + 1 + 3) (by omega) (by omega), hI (p + 1 + 4) (by omega) (by omega), hI (p + 1 + 6) (by omega) (by omega)]
  by_cases h5 : j < 34
  · by_cases h1 : j < 4
    · rw [if_pos h1, if_pos h1]
    rw [if_neg h1, if_neg h1]
    by_cases h2 : j < 12
    · rw [if_pos h2, if_pos h2]
    rw [if_neg h2, if_neg h2]
    by_cases h3 : j < 20
    · rw [if_pos h3, if_pos h3]
    rw [if_neg h3, if_neg h3]
    by_cases h4 : j < 28
    · rw [if_pos h4, if_pos h4]
    rw [if_neg h4, if_neg h4, if_pos h5, if_pos h5]
  · rw [rS_hi I I' (p + 8) 0 j (by omega) (fun a ha => hI _ (by omega) (by omega))]
def RIb (I : Nat → Nat → Int32) (J : Nat → Nat → Int64) (E : Nat → Nat → Nat) (b : Nat) : Prop := I (118 + 19 * b) 0 = I 166 b ∧ (∀ j, j < 40 → E (118 + 19 * b + 15) j ≤ 24) ∧ (I 166 b = 0 ∨ (I 166 b = 1 ∧ ∃ n k, RSh I J E (118 + 19 * b) (fun j => I 160 (312 * b + j)) (fun j => J 165 (14 * b + j)) n k))
theorem RIb_fr {I I' : Nat → Nat → Int32} {J J' : Nat → Nat → Int64} {E E' : Nat → Nat → Nat} {b : Nat} (hI : ∀ r, 118 + 19 * b ≤ r → r ≤ 118 + 19 * b + 17 → I' r = I r) (hJ : ∀ r, 118 + 19 * b ≤ r → r ≤ 118 + 19 * b + 17 → J' r = J r) (hE : E' (118 + 19 * b + 15) = E (118 + 19 * b + 15)) (h6 : I' 166 b = I 166 b) (hm : ∀ j, j < 312 → I' 160 (312 * b + j) = I 160 (312 * b + j)) (hn : ∀ j, j < 14 → J' 165 (14 * b + j) = J 165 (14 * b + j)) (h : RIb I J E b) : RIb I' J' E' b := by
  obtain ⟨g1, g2, g3⟩ := h
  refine ⟨by rw [hI _ (by omega) (by omega), h6]; exact g1, by rw [hE]; exact g2, ?_⟩
  rw [h6]
  rcases g3 with g3 | ⟨g3, n, k, g4⟩
  · exact Or.inl g3
  · exact Or.inr ⟨g3, n, k, RSh_m hm hn (RSh_fr (fun r a c => hI r (by omega) c) ⟨hJ _ (by omega) (by omega), hJ _ (by omega) (by omega)⟩ hE g4)⟩
def RIm (I : Nat → Nat → Int32) (J : Nat → Nat → Int64) (E : Nat → Nat → Nat) : Prop := ∀ b, b < 2 → RIb I J E b
theorem RSh_4 {I : Nat → Nat → Int32} {J : Nat → Nat → Int64} {E : Nat → Nat → Nat} {n k t h : Nat} (hR : R1 I n k t h) (hN : RN J n k) (hS : RSe I E n) (o : Bool) (h4 : I 5 4 = bi o) : RSh I J E 4 (I 158) (J 163) n k := by
  obtain ⟨r1, r2, r3, -⟩ := hR
  obtain ⟨T, U, h1, h2⟩ := hN
  refine ⟨r1, r2, ?_, ⟨T, U, h1, h2⟩, hS.1, o, h4⟩
  rw [rSg_5]; exact r3
def XIm (q j : Nat) : Prop := (118 ≤ q ∧ q ≤ 155) ∨ q = 160 ∨ q = 166
def PIm (I : Nat → Nat → Int32) (J : Nat → Nat → Int64) (E : Nat → Nat → Nat) (n k : Nat) (I2 : Nat → Nat → Int32) (J2 : Nat → Nat → Int64) (E2 : Nat → Nat → Nat) : Prop := (∃ t h, R1 I2 n k t h) ∧ RIm I2 J2 E2 ∧ frX XIm I I2 ∧ (∀ q, (q < 118 ∨ 155 < q) → q ≠ 165 → J2 q = J q) ∧ ∀ q, (q < 118 ∨ 155 < q) → E2 q = E q
theorem op_image (env : am_E) (d : Nat) (I : Nat → Nat → Int32) (J : Nat → Nat → Int64) (E : Nat → Nat → Nat) (n k t h : Nat) (hR : R1 I n k t h) (hN : RN J n k) (hS : RSe I E n) (h4 : ∃ o, I 5 4 = bi o) (hI : RIm I J E) (a : Int32) : opR3 (fun H => am_ev env (d + 20, 166, 0, [some (.ref 0), some (.int a)], [], H)) (fun H => am_ev env (d + 20, 299, 0, [some (.ref 156), some (.int a), none], [], H)) I J E (PIm I J E n k) := by
  obtain ⟨o, h4⟩ := h4
  have e31 : (1 : Int32) = Int32.ofNat 2 - 1 := by decide
  rcases zI_tri a 2 (by omega) with ⟨h1, -⟩ | ⟨b, hb, rfl⟩
  · have hin : (!decide (a < (0 : Int32)) && !decide ((1 : Int32) < a)) = false := by rw [e31, zI_inb a 2 (by omega)]; exact h1
    refine ⟨0, I, J, E, am_u I 156 0 0, J, E, (bk_166_0 _ _ _ _ _ _).trans ?_, (bk_299_0 _ _ _ _ _ _).trans ?_, ⟨t, h, R1_ext I _ n k t h (fun q j hq => ?_) hR⟩, fun b hb => RIb_fr (fun r a c => am_u_ng _ _ _ _ _ (by omega)) (fun _ _ _ => rfl) rfl (by rw [am_u_ng _ _ _ _ _ (by omega)]) (fun j _ => by rw [am_u_ng _ _ _ _ _ (by omega)]) (fun _ _ => rfl) (hI b hb), fun q j hq _ => ?_, fun _ _ _ => rfl, fun _ _ => rfl⟩
    · rw [z_lt2]
      revert hin
      cases decide (a < (0 : Int32))
      · cases decide ((1 : Int32) < a)
        · intro q; cases q
        · intro _; simp only [decide_true, decide_false, Bool.not_true, Bool.not_false, am_cont, Option.bind_some, Option.toList_some, Option.toList_none, List.singleton_append, List.nil_append, cond_true, cond_false, bk_166_9]
      · intro _; simp only [decide_true, decide_false, Bool.not_true, Bool.not_false, am_cont, Option.bind_some, Option.toList_some, Option.toList_none, List.singleton_append, List.nil_append, cond_true, cond_false, bk_166_9]
    · simp only [decide_true, decide_false, Bool.not_true, Bool.not_false, am_cont, Option.bind_some, Option.toList_some, Option.toList_none, List.singleton_append, List.nil_append, cond_true, cond_false, m_isIn, hin, bk_299_11, bi_f, zq_0_0]
    · unfold KR at hq
      by_cases e : q = 156
      · subst e; rw [am_u_sg, if_neg (by omega)]
      · rw [am_u_ng _ _ _ _ _ e]
    · unfold C1 at hq
      by_cases e : q = 156
      · subst e; rw [am_u_sg, if_neg (by omega)]
      · rw [am_u_ng _ _ _ _ _ e]
  · have hin : (!decide (Int32.ofNat b < (0 : Int32)) && !decide ((1 : Int32) < Int32.ofNat b)) = true := by
      rw [show decide (Int32.ofNat b < (0 : Int32)) = false from zlt_f b 0 (by omega) (by omega), show decide ((1 : Int32) < Int32.ofNat b) = false from zlt_f 1 b (by omega) (by omega)]; rfl
    have hsh : shq (118 + 19 * b) := by unfold shq; omega
    have hs4 : shq 4 := Or.inl rfl
    have kb := k42.1 ⟨b, hb⟩
    have kc := k42.2 ⟨b, hb⟩
    dsimp only at kb kc
    obtain ⟨I1, J1, E1, c1, a1, a2, a3, a4, a5, a6, a7, a8, a9⟩ := c_shelf env (d + 17) (118 + 19 * b) 4 hsh hs4 (by omega) o I J E h4 (fun j hj => (hS.2 j hj).1)
    have sh1 : RSh I1 J1 E1 (118 + 19 * b) (I 158) (J 163) n k := RSh_p (q := 4) (fun o' ho' => by rw [a4, ← h4]; exact ho') a5 a6 a7 a8 a9 (RSh_4 hR hN hS o h4)
    generalize hI2 : am_u I1 (118 + 19 * b) 0 1 = I2
    have f2 : ∀ q, q ≠ 118 + 19 * b → I2 q = I1 q := fun q hq => by rw [← hI2, am_u_ng _ _ _ _ _ hq]
    have lo2 : ∀ q, (q < 118 ∨ 155 < q) → I2 q = I q := fun q hq => by rw [f2 q (by omega), a1 q (by omega)]
    obtain ⟨I3, J3, m1, m2, m3, m4, m5, m6, m7, m8, m9⟩ := m_im18 env (d + 19) b hb (am_u I2 156 0 0) J1 E1
    have row : ∀ q, q ≠ 156 → q ≠ 160 → q ≠ 166 → I3 q = I2 q := fun q q1 q2 q3 => by rw [m2 q q2 q3, am_u_ng _ _ _ _ _ q1]
    have c156 : ∀ j, j ≠ 0 → I3 156 j = I 156 j := fun j hj => by rw [m2 156 (by omega) (by omega), am_u_sg, if_neg hj, lo2 156 (by omega)]
    refine ⟨1, I2, J1, E1, I3, J3, E1, (bk_166_0 _ _ _ _ _ _).trans ?_, (bk_299_0 _ _ _ _ _ _).trans ?_, ⟨t, h, R1_ext I _ n k t h (fun q j hq => ?_) hR⟩, fun b' hb' => ?_, fun q j hq hx => ?_, fun q hq q165 => ?_, fun q hq => a3 q (by omega)⟩
    · rw [show decide (Int32.ofNat b < (0 : Int32)) = false from zlt_f b 0 (by omega) (by omega), show decide (Int32.ofNat b < (2 : Int32)) = true from (zlt_d b 2 (by omega) (by omega)).trans (decide_eq_true hb), zI_in b 2 hb (by omega), zI_nat b (by omega), kb, kc.1, kc.2]
      simp only [Bool.and_self, decide_true, decide_false, Bool.not_true, Bool.not_false, am_cont, Option.bind_some, Option.toList_some, Option.toList_none, List.singleton_append, List.nil_append, cond_true, cond_false, c1]
      refine (bk_166_24 _ _ _ _ _ _).trans ?_
      rw [zI_in b 2 hb (by omega), zI_nat b (by omega), kb, kc.1, kc.2, hI2]
      rfl
    · simp only [decide_true, decide_false, Bool.not_true, Bool.not_false, am_cont, Option.bind_some, Option.toList_some, Option.toList_none, List.singleton_append, List.nil_append, cond_true, cond_false, m_isIn, hin, bk_299_11, bi_t, zq_1_0]
      exact m1
    · unfold KR at hq
      by_cases e : q = 156
      · subst e; exact c156 j (by omega)
      · rw [row q e (by omega) (by omega), lo2 q (by omega)]
    · by_cases e : b' = b
      · subst e
        refine ⟨?_, fun j hj => ?_, Or.inr ⟨m4, n, k, ?_⟩⟩
        · rw [row _ (by omega) (by omega) (by omega), m4, ← hI2, am_u_at]
        · rw [(a9 j hj).2.2]; exact (hS.2 j hj).1
        · refine RSh_m (m := I 158) (nm := J 163) (fun j hj => ?_) (fun j hj => ?_) (RSh_fr (fun r q1 q2 => ?_) ⟨?_, ?_⟩ rfl sh1)
          · rw [m5 j hj, am_u_ng _ _ _ _ _ (by omega), lo2 158 (by omega)]
          · rw [m8 j hj, a2 163 (by omega)]
          · rw [row r (by omega) (by omega) (by omega), f2 r (by omega)]
          · rw [m7 _ (by omega)]
          · rw [m7 _ (by omega)]
      · refine RIb_fr (fun r q1 q2 => ?_) (fun r q1 q2 => ?_) (a3 _ (by omega)) ?_ (fun j hj => ?_) (fun j hj => ?_) (hI b' hb')
        · rw [row r (by omega) (by omega) (by omega), f2 r (by omega), a1 r (by omega)]
        · rw [m7 r (by omega), a2 r (by omega)]
        · rw [m3 b' e, am_u_ng _ _ _ _ _ (by omega), lo2 166 (by omega)]
        · rw [m6 _ (by omega), am_u_ng _ _ _ _ _ (by omega), lo2 160 (by omega)]
        · rw [m9 _ (by omega), a2 165 (by omega)]
    · unfold C1 at hq
      unfold XIm at hx
      by_cases e : q = 156
      · subst e; exact c156 j (by omega)
      · rw [row q e (by omega) (by omega), lo2 q (by omega)]
    · rw [m7 q q165, a2 q (by omega)]
