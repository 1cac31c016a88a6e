/-! a SENTENCE: its places, the copy, the class's reading of it -/
def snq (p : Nat) : Bool := Nat.beq p 18 || Nat.beq p 37 || Nat.beq p 132 || Nat.beq p 151
theorem snq_c (p : Nat) (hp : snq p = true) : p = 18 ∨ p = 37 ∨ p = 132 ∨ p = 151 := by
  unfold snq at hp
  rcases or_f hp with h | h
  · rcases or_f h with h | h
    · rcases or_f h with h | h
      · exact Or.inl (Nat.eq_of_beq_eq_true h)
      · exact Or.inr (Or.inl (Nat.eq_of_beq_eq_true h))
    · exact Or.inr (Or.inr (Or.inl (Nat.eq_of_beq_eq_true h)))
  · exact Or.inr (Or.inr (Or.inr (Nat.eq_of_beq_eq_true h)))
theorem sy_k (p : Nat) (hp : snq p = true) : decide (p < 179) = true ∧ Nat.beq (am_K p).1 5 = true ∧ am_SR p 2 = p + 1 ∧ am_SR p 3 = p + 2 ∧ am_SR p 4 = p + 3 ∧ am_SR p 5 = p + 4 := by rcases snq_c p hp with rfl | rfl | rfl | rfl <;> decide +kernel
theorem sy_l (p : Nat) (hp : snq p = true) : decide (p + 1 < 179) = true ∧ Nat.beq (am_K (p + 1)).1 105 = true ∧ (am_K (p + 1)).2 = 40 ∧ decide (p + 2 < 179) = true ∧ Nat.beq (am_K (p + 2)).1 100 = true ∧ Nat.ble 40 (am_K (p + 2)).2 = true ∧ decide (p + 3 < 179) = true ∧ Nat.beq (am_K (p + 3)).1 100 = true ∧ Nat.ble 40 (am_K (p + 3)).2 = true := by rcases snq_c p hp with rfl | rfl | rfl | rfl <;> decide +kernel
theorem c_senCopy (env : am_E) (d : Nat) (p q : Nat) (hp : snq p = true) (hq : snq q = true) (hpq : p ≠ q) (I : Nat → Nat → Int32) (J : Nat → Nat → Int64) (E : Nat → Nat → Nat) (hE : ∀ j, j < 40 → E (q + 1) j ≤ 24) : ∃ I' E', am_ev env (d + 1, 55, 0, [some (.ref p), some (.ref q), none], [], am_hp I J E) = some (true, none, am_hp I' J E') ∧ (∀ r, r < p ∨ p + 3 < r → I' r = I r) ∧ (∀ r, r ≠ p + 1 → E' r = E r) ∧ (I' p 0 = I q 0 ∧ I' p 1 = I q 1) ∧ ∀ j, j < 40 → I' (p + 2) j = I (q + 2) j ∧ I' (p + 3) j = I (q + 3) j ∧ E' (p + 1) j = E (q + 1) j := by
  have hp' := snq_c p hp
  have hq' := snq_c q hq
  have hd : p + 4 < q ∨ q + 4 < p := by omega
  obtain ⟨kp1, kp2, kp3, kp4, kp5, kp6⟩ := sy_k p hp
  obtain ⟨kq1, kq2, kq3, kq4, kq5, kq6⟩ := sy_k q hq
  obtain ⟨lp1, lp2, lp3, lp4, lp5, lp6, lp7, lp8, lp9⟩ := sy_l p hp
  obtain ⟨lq1, lq2, lq3, lq4, lq5, lq6, lq7, lq8, lq9⟩ := sy_l q hq
  have start := bk_55_0 env d p q I J E
  rw [kp1, kp2, kq1, kq2] at start
  simp only [Bool.and_self, decide_true, decide_false, Bool.not_true, Bool.not_false, am_cont, Option.bind_some, Option.toList_some, Option.toList_none, List.singleton_append, List.nil_append, cond_true, cond_false] at start
  generalize hI1 : am_u (am_u I p 0 (I q 0)) p 1 (am_u I p 0 (I q 0) q 1) = I1 at start
  have i1 : ∀ r, r ≠ p → I1 r = I r := fun r hr => by rw [← hI1, am_u_ng _ _ _ _ _ hr, am_u_ng _ _ _ _ _ hr]
  have loop := zcopyG (fun b E => am_ev env (d + 1, 55, 18, [some (.ref p), some (.ref q), some (.int (Int32.ofNat b))], [], am_hp I1 J E)) E (p + 1) (E (q + 1)) 40 (fun b hb => by
    refine (bk_55_18 _ _ _ _ _ _ _ _).trans ?_
    rw [show decide ((40 : Int32) ≤ Int32.ofNat b) = false from zle_f 40 b hb (by omega), kp1, kp2, kq1, kq2, kp3, kq3, lp1, lp2, lp3, lq1, lq2, lq3, zI_in b 40 hb (by omega), zI_nat b (by omega), ur_ne _ _ _ (q + 1) (by omega), Nat.ble_eq_true_of_le (hE b hb)]
    simp only [decide_true, decide_false, Bool.not_true, Bool.not_false, am_cont, Option.bind_some, Option.toList_some, Option.toList_none, List.singleton_append, List.nil_append, cond_true, cond_false, Bool.and_self, am_u_g, zd_1])
  have e18 := bk_55_18 env d p q (Int32.ofNat 40) I1 J (am_ur E (p + 1) (cpg (E (p + 1)) 40 (E (q + 1))))
  rw [show decide ((40 : Int32) ≤ Int32.ofNat 40) = true by decide, kp1, kp2, kq1, kq2, kp4, kp5, kq4, kq5, lp4, lp5, lp6, lp7, lp8, lp9, lq4, lq5, lq6, lq7, lq8, lq9] at e18
  simp only [decide_true, decide_false, Bool.not_true, Bool.not_false, am_cont, Option.bind_some, Option.toList_some, Option.toList_none, List.singleton_append, List.nil_append, cond_true, cond_false, Bool.and_self, bk_55_72, cpy0] at e18
  refine ⟨_, _, start.trans (Eq.trans loop e18), fun r hr => ?_, fun r hr => ?_, ⟨?_, ?_⟩, fun j hj => ⟨?_, ?_, ?_⟩⟩
  · rw [ur_ne _ _ _ _ (by omega), ur_ne _ _ _ _ (by omega), i1 r (by omega)]
  · rw [ur_ne _ _ _ _ hr]
  · rw [ur_ne _ _ _ _ (by omega), ur_ne _ _ _ _ (by omega), ← hI1, am_u_sg, if_neg (by omega), am_u_at]
  · rw [ur_ne _ _ _ _ (by omega), ur_ne _ _ _ _ (by omega), ← hI1, am_u_at, am_u_ng _ _ _ _ _ (by omega)]
  · rw [ur_ne _ _ _ _ (by omega), ur_at, if_pos hj, i1 _ (by omega)]
  · rw [ur_at, if_pos hj, ur_ne _ _ _ _ (by omega), i1 _ (by omega)]
  · rw [ur_at]; unfold cpg; rw [if_pos hj]
def S000 : Ssn := (0, 0, fun _ => (0, 0, 0), fun _ => (0, 0))
/-- a SENTENCE, whole: a fault, or its steps -/
def pSe (c : Nat → Nat) (z n : Nat) (T : Nat → List Nat) : (Nat × Nat) ⊕ Ssn :=
  match psn c z 200 n T (6 * mu z (lx c z 200 0) + 7) 2 1 0 S000 (lx c z 200 0) with
  | .inl x => .inl x
  | .inr y => if y.2.1.1 = 0 then .inr y.1 else .inl (1, y.2.2.1)
theorem lxd_0 (c : Nat → Nat) (z lim : Nat) : lxd c z lim (lx c z lim 0) := ⟨0, Nat.zero_le _, rfl⟩
def cSr (I : Nat → Nat → Int32) (E : Nat → Nat → Nat) (res : (Nat × Nat) ⊕ Ssn) : Prop := match res with
  | .inl x => I 1 3 = Int32.ofNat x.1 ∧ I 1 4 = Int32.ofNat x.2 ∧ 1 ≤ x.1 ∧ x.1 ≤ 4 ∧ x.2 ≤ 200 ∧ ∀ j, j < 40 → E 38 j ≤ 24
  | .inr S => I 1 3 = 0 ∧ CSt I E S ∧ 1 ≤ S.2.1 ∧ S.2.1 ≤ 20 ∧ 1 ≤ S.1 ∧ S.1 < 40
theorem psn_0 (c : Nat → Nat) (z n : Nat) (T : Nat → List Nat) (x : Nat × Nat) (hx : psn c z 200 n T (6 * mu z (lx c z 200 0) + 7) 2 1 0 S000 (lx c z 200 0) = .inl x) : 1 ≤ x.1 := by
  exact psn_f c z 200 n T _ 2 1 0 S000 (lx c z 200 0) (by omega) (lxd_0 c z 200) (by show 0 ≤ 20; omega) (fun _ => by show 0 ≤ 2 * 0; omega) (fun q => by omega) (by show 6 * mu z (lx c z 200 0) + 4 + 1 ≤ 6 * mu z (lx c z 200 0) + 7; omega) x hx
theorem c_sen56 (env : am_E) (d : Nat) (z : Nat) (hz : z ≤ 940) (c : Nat → Nat) (n k : Nat) (T U : Nat → List Nat) (I : Nat → Nat → Int32) (J : Nat → Nat → Int64) (E : Nat → Nat → Nat) (htp : Tp I z c) (hm : NMc I J n k T U) (hE : ∀ j, j < 40 → E 38 j ≤ 24) : ∃ I' J' E', am_ev env (d + 40, 56, 0, [some (.ref 37), some (.ref 1), some (.ref 5)], [], am_hp I J E) = some (true, none, am_hp I' J' E') ∧ FX X3 I J E I' J' E' ∧ cSr I' E' (pSe c z n T) := by
  have f0 : FX X3s I J E (am_u (am_u I 37 0 0) 37 1 0) J E := FX_u (FX_u (FX_refl _ _ _ _) _ _ _ ⟨by omega, by omega⟩) _ _ _ ⟨by omega, by omega⟩
  have hk1 : decide (37 < 179) = true := k37.1
  have hk2 : Nat.beq (am_K 37).1 5 = true := k37.2.1
  obtain ⟨I1, J1, E1, k1, s1, f1, t3⟩ := c_begin env (d + 35) z 200 hz (by omega) 200 rfl c (am_u (am_u I 37 0 0) 37 1 0) J E ⟨by rw [f0.1 2 (by omega)]; exact htp.1, fun j hj => by rw [f0.1 3 (by omega)]; exact htp.2 j hj⟩
  have c1 : CSt I1 E1 S000 := by
    refine CSt_fx (I := am_u (am_u I 37 0 0) 37 1 0) (E := E) ⟨?_, ?_, fun i hi => absurd hi (Nat.not_lt_zero _), hE⟩ f1 (fun q a b => by omega)
    · rw [am_u_sg, if_neg (by omega), am_u_at]; rfl
    · rw [am_u_at]; rfl
  have F1 : FX X3 I J E I1 J1 E1 := FX_tr (FXs3 f0) (FX13 f1)
  obtain ⟨b, I2, J2, E2, e2, F2, r2⟩ := c_psn env z hz c n k T U (6 * mu z (lx c z 200 0) + 7) 2 1 0 0 S000 (lx c z 200 0) (d + 39) I1 J1 E1 (by omega) (by omega) (by show 3 * (10 - 1) + 6 + 2 ≤ d + 39; omega) s1 (lxd_0 c z 200) (NMc_fx hm F1 (by omega) (by omega) (by omega)) c1 t3 (by show 0 ≤ 20; omega) (fun _ => by show 0 ≤ 2 * 0; omega) (fun q => by omega) (fun x hx => psn_0 c z n T x hx)
  have e2 : am_ev env (d + 39, 57, 0, [some (.ref 37), some (.ref 1), some (.ref 5), some (.int 1), none], [], am_hp I1 J1 E1) = some (true, some (.int (bi b)), am_hp I2 J2 E2) := e2
  have hpk := psn_k c z 200 n T (6 * mu z (lx c z 200 0) + 7) 2 1 0 S000 (lx c z 200 0) (lxd_0 c z 200) (by show 0 ≤ 20; omega) (fun _ => by show 0 ≤ 2 * 0; omega) (fun q => by omega)
  have g18 : am_ev env (d + 40, 56, 0, [some (.ref 37), some (.ref 1), some (.ref 5)], [], am_hp I J E) = am_ev env (d + 40, 56, 18, [some (.ref 37), some (.ref 1), some (.ref 5)], [.int (bi b)], am_hp I2 J2 E2) := by
    refine (bk_56_0 _ _ _ _ _ _ _).trans ?_
    simp only [hk1, hk2, Bool.and_self, decide_true, decide_false, Bool.not_true, Bool.not_false, am_cont, Option.bind_some, Option.toList_some, Option.toList_none, List.singleton_append, List.nil_append, cond_true, cond_false, bk_54_0, bk_56_4, k1, bk_56_11, e2]
  have b18 := bk_56_18 env (d + 39) 37 5 (bi b) I2 J2 E2
  rw [bi_eq0] at b18
  have hne := psn_0 c z n T
  unfold pSe
  cases hr : psn c z 200 n T (6 * mu z (lx c z 200 0) + 7) 2 1 0 S000 (lx c z 200 0) with
  | inl x =>
    rw [hr] at r2 hpk
    obtain ⟨q1, q2, q3⟩ := r2
    refine ⟨I2, J2, E2, g18.trans (b18.trans ?_), FX_tr F1 F2, q2, q3.1, hne x hr, hpk.1, hpk.2, q3.2⟩
    rw [q1]
    simp only [decide_true, decide_false, Bool.not_true, Bool.not_false, am_cont, Option.bind_some, Option.toList_some, Option.toList_none, List.singleton_append, List.nil_append, cond_true, cond_false, bk_56_34]
  | inr y =>
    rw [hr] at r2 hpk
    obtain ⟨q1, q2, q3, q4⟩ := r2
    obtain ⟨p1, p2, p3, p4, p5, p6, p7, p8, p9⟩ := hpk
    obtain ⟨p41, p42, p43, p44⟩ := p4 (by omega)
    rw [show decide (I2 1 0 = (0 : Int32)) = decide (y.2.1.1 = 0) from c_kind0 q2, q1] at b18
    dsimp only
    have z0 : S000.1 = 0 := rfl
    have z1 : S000.2.1 = 0 := rfl
    by_cases h0 : y.2.1.1 = 0
    · rw [if_pos h0]
      rw [decide_eq_true h0] at b18
      refine ⟨I2, J2, E2, g18.trans ?_, FX_tr F1 F2, q4, q3, by omega, p2, by omega, by omega⟩
      rw [q1]
      refine b18.trans ?_
      simp only [decide_true, decide_false, Bool.not_true, Bool.not_false, am_cont, Option.bind_some, Option.toList_some, Option.toList_none, List.singleton_append, List.nil_append, cond_true, cond_false, bk_56_34]
    · rw [if_neg h0]
      rw [decide_eq_false h0] at b18
      refine ⟨stp I2 1, J2, E2, g18.trans ?_, FX_tr (FX_tr F1 F2) (FX13 (stp_fx I2 J2 E2 1)), stp_3 I2 1, by rw [stp_4]; exact c_at q2, by show 1 ≤ 1; omega, by show 1 ≤ 4; omega, (lxd_f p8).2.1, q3.2.2.2⟩
      rw [q1]
      refine b18.trans ?_
      simp only [decide_true, decide_false, Bool.not_true, Bool.not_false, am_cont, Option.bind_some, Option.toList_some, Option.toList_none, List.singleton_append, List.nil_append, cond_true, cond_false, c_stop, bk_56_33, bk_56_34]
