/-! restore: class and reference side by side -/
def XRe (q j : Nat) : Prop := (5 ≤ q ∧ q ≤ 11) ∨ (18 ≤ q ∧ q ≤ 21) ∨ q = 158
def PRe (I : Nat → Nat → Int32) (J : Nat → Nat → Int64) (E : Nat → Nat → Nat) (I2 : Nat → Nat → Int32) (J2 : Nat → Nat → Int64) (E2 : Nat → Nat → Nat) : Prop := RIm I2 J2 E2 ∧ (∃ n k, (∃ t h, R1 I2 n k t h) ∧ RN J2 n k ∧ RSe I2 E2 n ∧ ∃ o, I2 5 4 = bi o) ∧ frX XRe I I2 ∧ (∀ q, (q < 5 ∨ 11 < q) → q ≠ 163 → J2 q = J q) ∧ ∀ q, q ≠ 19 → E2 q = E q
theorem PRe_same {I : Nat → Nat → Int32} {J : Nat → Nat → Int64} {E : Nat → Nat → Nat} {n k t h : Nat} (hR : R1 I n k t h) (hN : RN J n k) (hS : RSe I E n) (h4 : ∃ o, I 5 4 = bi o) (hI : RIm I J E) : PRe I J E (am_u I 156 0 0) J E := by
  refine ⟨fun b hb => RIb_fr (fun r a c => am_u_ng _ _ _ _ _ (by omega)) (fun _ _ _ => rfl) rfl (by rw [am_u_ng _ _ _ _ _ (by omega)]) (fun j _ => by rw [am_u_ng _ _ _ _ _ (by omega)]) (fun _ _ => rfl) (hI b hb), ⟨n, k, ⟨t, h, R1_ext I _ n k t h (fun q j hq => ?_) hR⟩, hN, ?_, by rw [am_u_ng _ _ _ _ _ (by omega)]; exact h4⟩, fun q j hq _ => ?_, fun _ _ _ => rfl, fun _ _ => rfl⟩
  · unfold KR at hq
    by_cases e : q = 156
    · subst e; rw [am_u_sg, if_neg (by omega)]
    · rw [am_u_ng _ _ _ _ _ e]
  · unfold RSe CSp
    rw [am_u_ng _ _ _ _ 18 (by omega), am_u_ng _ _ _ _ (18 + 2) (by omega), am_u_ng _ _ _ _ (18 + 3) (by omega), am_u_ng _ _ _ _ 158 (by omega)]
    exact hS
  · unfold C1 at hq
    by_cases e : q = 156
    · subst e; rw [am_u_sg, if_neg (by omega)]
    · rw [am_u_ng _ _ _ _ _ e]
theorem op_restore (env : am_E) (d : Nat) (I : Nat → Nat → Int32) (J : Nat → Nat → Int64) (E : Nat → Nat → Nat) (n k t h : Nat) (hR : R1 I n k t h) (hN : RN J n k) (hS : RSe I E n) (h4 : ∃ o, I 5 4 = bi o) (hI : RIm I J E) (a : Int32) : opR3 (fun H => am_ev env (d + 20, 167, 0, [some (.ref 0), some (.int a)], [], H)) (fun H => am_ev env (d + 20, 300, 0, [some (.ref 156), some (.int a), none], [], H)) I J E (PRe I J E) := by
  have same := PRe_same hR hN hS h4 hI
  have e31 : (1 : Int32) = Int32.ofNat 2 - 1 := by decide
  rcases zI_tri a 2 (by omega) with ⟨h1, -⟩ | ⟨b, hb, rfl⟩
  · have hin : (!decide (a < (0 : Int32)) && !decide ((1 : Int32) < a)) = false := by rw [e31, zI_inb a 2 (by omega)]; exact h1
    refine ⟨0, I, J, E, am_u I 156 0 0, J, E, (bk_167_0 _ _ _ _ _ _).trans ?_, (bk_300_0 _ _ _ _ _ _).trans ?_, same⟩
    · rw [z_2le]
      revert hin
      cases decide (a < (0 : Int32))
      · cases decide ((1 : Int32) < a)
        · intro q; cases q
        · intro _; simp only [decide_true, decide_false, Bool.not_true, Bool.not_false, am_cont, Option.bind_some, Option.toList_some, Option.toList_none, List.singleton_append, List.nil_append, cond_true, cond_false, bk_167_21]
      · intro _; simp only [decide_true, decide_false, Bool.not_true, Bool.not_false, am_cont, Option.bind_some, Option.toList_some, Option.toList_none, List.singleton_append, List.nil_append, cond_true, cond_false, bk_167_21]
    · simp only [decide_true, decide_false, Bool.not_true, Bool.not_false, am_cont, Option.bind_some, Option.toList_some, Option.toList_none, List.singleton_append, List.nil_append, cond_true, cond_false, m_isIn, hin, bk_300_11, bi_f, zq_0_0, bk_300_23]
  · have hin : (!decide (Int32.ofNat b < (0 : Int32)) && !decide ((1 : Int32) < Int32.ofNat b)) = true := by
      rw [show decide (Int32.ofNat b < (0 : Int32)) = false from zlt_f b 0 (by omega) (by omega), show decide ((1 : Int32) < Int32.ofNat b) = false from zlt_f 1 b (by omega) (by omega)]; rfl
    have hsh : shq (118 + 19 * b) := by unfold shq; omega
    have hs4 : shq 4 := Or.inl rfl
    have kb := k42.1 ⟨b, hb⟩
    have kc := k42.2 ⟨b, hb⟩
    dsimp only at kb kc
    obtain ⟨i1, i2, i3⟩ := hI b hb
    have start := bk_167_0 env (d + 19) (Int32.ofNat b) I J E
    rw [show decide (Int32.ofNat b < (0 : Int32)) = false from zlt_f b 0 (by omega) (by omega), show decide ((2 : Int32) ≤ Int32.ofNat b) = false from zle_f 2 b hb (by omega), zI_in b 2 hb (by omega), zI_nat b (by omega), kb, kc.1, kc.2, i1] at start
    have mstart : ∀ I1 J1 E1, (I1 166 b = I 166 b) → am_ev env (d + 20, 300, 0, [some (.ref 156), some (.int (Int32.ofNat b)), none], [], am_hp I1 J1 E1) = (bif decide (I 166 b = 0) then some (true, some (.int 0), am_hp (am_u I1 156 0 0) J1 E1) else am_ev env (d + 20, 300, 27, [some (.ref 156), some (.int (Int32.ofNat b)), some (.int 0)], [], am_hp (am_u I1 156 0 0) J1 E1)) := by
      intro I1 J1 E1 h6
      refine (bk_300_0 _ _ _ _ _ _).trans ?_
      simp only [decide_true, decide_false, Bool.not_true, Bool.not_false, am_cont, Option.bind_some, Option.toList_some, Option.toList_none, List.singleton_append, List.nil_append, cond_true, cond_false, m_isIn, hin, bk_300_11, bi_t, zq_1_0]
      rw [zI_in b 2 hb (by omega), zI_nat b (by omega), am_u_ng _ _ _ _ _ (by omega), h6]
      simp only [decide_true, decide_false, Bool.not_true, Bool.not_false, am_cont, Option.bind_some, Option.toList_some, Option.toList_none, List.singleton_append, List.nil_append, cond_true, cond_false, bk_300_23]
      cases decide (I 166 b = 0) <;> rfl
    rcases i3 with i3 | ⟨i3, n', k', sh⟩
    · rw [i3, zq_0_0] at start
      refine ⟨0, I, J, E, am_u I 156 0 0, J, E, start.trans ?_, (mstart I J E rfl).trans ?_, same⟩
      · simp only [Bool.and_self, decide_true, decide_false, Bool.not_true, Bool.not_false, am_cont, Option.bind_some, Option.toList_some, Option.toList_none, List.singleton_append, List.nil_append, cond_true, cond_false, bk_167_21]
      · rw [i3, zq_0_0]; rfl
    · obtain ⟨o, ho⟩ := id sh.2.2.2.2.2
      obtain ⟨I1, J1, E1, c1, a1, a2, a3, a4, a5, a6, a7, a8, a9⟩ := c_shelf env (d + 17) 4 (118 + 19 * b) hs4 hsh (by omega) o I J E ho i2
      have sh1 := RSh_p (p := 4) (fun o' ho' => by rw [a4, ← ho]; exact ho') a5 a6 a7 a8 a9 sh
      rw [i3, zq_1_0] at start
      generalize hI2 : am_u I1 43 2 0 = I2
      have f2 : ∀ q, q ≠ 43 → I2 q = I1 q := fun q hq => by rw [← hI2, am_u_ng _ _ _ _ _ hq]
      have lo2 : ∀ q, (q < 5 ∨ 21 < q) → q ≠ 43 → I2 q = I q := fun q hq h43 => by rw [f2 q h43, a1 q (by omega)]
      obtain ⟨I3, J3, m1, m2, m3, m4, m5, m6, m7⟩ := m_re27 env (d + 19) b hb (am_u I2 156 0 0) J1 E1
      have row : ∀ q, q ≠ 156 → q ≠ 158 → I3 q = I2 q := fun q q1 q2 => by rw [m2 q q2 q1, am_u_ng _ _ _ _ _ q1]
      obtain ⟨r1, r2, r3, ⟨t1, t2, t3, t4, t5⟩, r5⟩ := id hR
      have sh3 : RSh I3 J3 E1 4 (I3 158) (J3 163) n' k' := by
        refine RSh_m (m := fun j => I 160 (312 * b + j)) (nm := fun j => J 165 (14 * b + j)) (fun j hj => ?_) (fun j hj => ?_) (RSh_fr (fun r q1 q2 => ?_) ⟨?_, ?_⟩ rfl sh1)
        · rw [m5 j hj, am_u_ng _ _ _ _ _ (by omega), lo2 160 (by omega) (by omega)]
        · rw [m7 j hj, a2 165 (by omega)]
        · rw [row r (by omega) (by omega), f2 r (by omega)]
        · rw [m6 _ (by omega)]
        · rw [m6 _ (by omega)]
      obtain ⟨s1, s2, s3, s4, s5, s6⟩ := sh3
      refine ⟨1, I2, J1, E1, I3, J3, E1, start.trans ?_, (mstart I2 J1 E1 (by rw [lo2 166 (by omega) (by omega)])).trans ?_, fun b' hb' => ?_, ⟨n', k', ⟨t, 0, s1, s2, by rw [← rSg_5]; exact s3, ⟨t1, by omega, ?_, ?_, m4⟩, fun i hi => absurd hi (Nat.not_lt_zero _)⟩, s4, ⟨s5, fun j hj => ⟨?_, ?_⟩⟩, s6⟩, fun q j hq hx => ?_, fun q hq q163 => ?_, fun q hq => a3 q hq⟩
      · simp only [Bool.and_self, decide_true, decide_false, Bool.not_true, Bool.not_false, am_cont, Option.bind_some, Option.toList_some, Option.toList_none, List.singleton_append, List.nil_append, cond_true, cond_false, c1, bk_167_36, bk_11_0, hI2, bk_167_43]
      · rw [i3, zq_1_0]; exact m1
      · refine RIb_fr (fun r q1 q2 => ?_) (fun r q1 q2 => ?_) (a3 _ (by omega)) ?_ (fun j hj => ?_) (fun j hj => ?_) (hI b' hb')
        · rw [row r (by omega) (by omega), lo2 r (by omega) (by omega)]
        · rw [m6 r (by omega), a2 r (by omega)]
        · rw [row 166 (by omega) (by omega), lo2 166 (by omega) (by omega)]
        · rw [row 160 (by omega) (by omega), lo2 160 (by omega) (by omega)]
        · rw [m6 165 (by omega), a2 165 (by omega)]
      · rw [row 43 (by omega) (by omega), ← hI2, am_u_sg, if_neg (by omega), a1 43 (by omega)]; exact t3
      · rw [row 43 (by omega) (by omega), ← hI2, am_u_at]; rfl
      · rw [(a9 j hj).2.2]; exact i2 j hj
      · rw [a3 38 (by omega)]; exact (hS.2 j hj).2
      · unfold C1 at hq
        unfold XRe at hx
        by_cases e : q = 156
        · subst e; rw [m3 j (by omega), am_u_sg, if_neg (by omega), lo2 156 (by omega) (by omega)]
        · rw [row q e (by omega), lo2 q (by omega) (by omega)]
      · rw [m6 q q163, a2 q (by omega)]
