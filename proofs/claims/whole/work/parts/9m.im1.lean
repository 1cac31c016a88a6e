/-! image, restore: a shelf copied -/
def shq (p : Nat) : Prop := p = 4 ∨ p = 118 ∨ p = 137
theorem sh_k (p : Nat) (hp : shq p) : decide (p < 179) = true ∧ Nat.beq (am_K p).1 6 = true ∧ am_SR p 1 = p + 1 ∧ am_SR p 2 = p + 8 ∧ am_SR p 3 = p + 14 ∧ lbq (p + 1) = true ∧ stq (p + 8) = true ∧ snq (p + 14) = true := by
  rcases hp with rfl | rfl | rfl <;> decide +kernel
/-- the picture of a shelf: its LIBRARY at l, its state at p -/
def rSg (I : Nat → Nat → Int32) (l p j : Nat) : Int32 :=
  if j < 4 then I l j else if j < 12 then I (l + 2) (j - 4) else if j < 20 then I (l + 3) (j - 12) else if j < 28 then I (l + 4) (j - 20) else if j < 34 then I (l + 6) (j - 28) else rS I p j
theorem rSg_5 (I : Nat → Nat → Int32) (p : Nat) : rSg I 5 p = rS I p := by
  funext j
  unfold rSg
  by_cases h1 : j < 4
  · rw [if_pos h1]; unfold rS; rw [if_pos h1]
  rw [if_neg h1]
  by_cases h2 : j < 12
  · rw [if_pos h2]; unfold rS; rw [if_neg h1, if_pos h2]
  rw [if_neg h2]
  by_cases h3 : j < 20
  · rw [if_pos h3]; unfold rS; rw [if_neg h1, if_neg h2, if_pos h3]
  rw [if_neg h3]
  by_cases h4 : j < 28
  · rw [if_pos h4]; unfold rS; rw [if_neg h1, if_neg h2, if_neg h3, if_pos h4]
  rw [if_neg h4]
  by_cases h5 : j < 34
  · rw [if_pos h5]; unfold rS; rw [if_neg h1, if_neg h2, if_neg h3, if_neg h4, if_pos h5]
  rw [if_neg h5]
theorem rS_hi (I I' : Nat → Nat → Int32) (p q j : Nat) (hj : 34 ≤ j) (h : ∀ a, a < 6 → I' (p + a) = I (p + a)) : rS I' p j = rS I p j := by
  have e0 := h 0 (by omega)
  have e1 := h 1 (by omega)
  have e2 := h 2 (by omega)
  have e3 := h 3 (by omega)
  have e4 := h 4 (by omega)
  have e5 := h 5 (by omega)
  rw [Nat.add_zero] at e0
  have n1 : ¬ j < 4 := by omega
  have n2 : ¬ j < 12 := by omega
  have n3 : ¬ j < 20 := by omega
  have n4 : ¬ j < 28 := by omega
  have n5 : ¬ j < 34 := by omega
  unfold rS
  rw [if_neg n1, if_neg n1, if_neg n2, if_neg n2, if_neg n3, if_neg n3, if_neg n4, if_neg n4, if_neg n5, if_neg n5, e0, e1, e2, e3, e4, e5]
theorem c_shelf (env : am_E) (d : Nat) (p q : Nat) (hp : shq p) (hq : shq q) (hpq : p ≠ q) (o : Bool) (I : Nat → Nat → Int32) (J : Nat → Nat → Int64) (E : Nat → Nat → Nat) (h4 : I (q + 1) 4 = bi o) (hE : ∀ j, j < 40 → E (q + 15) j ≤ 24) : ∃ I' J' E', am_ev env (d + 2, 71, 0, [some (.ref p), some (.ref q)], [], am_hp I J E) = some (true, none, am_hp I' J' E') ∧ (∀ r, r < p + 1 ∨ p + 17 < r → I' r = I r) ∧ (∀ r, r < p + 1 ∨ p + 7 < r → J' r = J r) ∧ (∀ r, r ≠ p + 15 → E' r = E r) ∧ I' (p + 1) 4 = bi o ∧ (∀ j, j < 70 → rSg I' (p + 1) (p + 8) j = rSg I (q + 1) (q + 8) j) ∧ (∀ j, j < 8 → J' (p + 2) j = J (q + 2) j) ∧ (∀ j, j < 6 → J' (p + 6) j = J (q + 6) j) ∧ (I' (p + 14) 0 = I (q + 14) 0 ∧ I' (p + 14) 1 = I (q + 14) 1) ∧ ∀ j, j < 40 → I' (p + 16) j = I (q + 16) j ∧ I' (p + 17) j = I (q + 17) j ∧ E' (p + 15) j = E (q + 15) j := by
  obtain ⟨kp1, kp2, kp3, kp4, kp5, kp6, kp7, kp8⟩ := sh_k p hp
  obtain ⟨kq1, kq2, kq3, kq4, kq5, kq6, kq7, kq8⟩ := sh_k q hq
  have hp4 : 4 ≤ p := by unfold shq at hp; omega
  have hd : p + 18 < q ∨ q + 18 < p := by unfold shq at hp hq; omega
  obtain ⟨I1, J1, c1, a1, a2, a3, a4, a5⟩ := c_libCopy env d (p + 1) (q + 1) kp6 kq6 (by omega) o I J E h4
  have c2 := c_copy env d (p + 8) (q + 8) kp7 kq7 (by omega) I1 J1 E
  obtain ⟨I3, E3, c3, b1, b2, b3, b4⟩ := c_senCopy env d (p + 14) (q + 14) kp8 kq8 (by omega) (pS I1 (p + 8) (rS I1 (q + 8))) J1 E hE
  have n2 : ∀ r, r < p + 8 ∨ p + 13 < r → pS I1 (p + 8) (rS I1 (q + 8)) r = I1 r := fun r hr => ps_ne _ _ _ _ (by omega)
  refine ⟨I3, J1, E3, ?_, fun r hr => ?_, fun r hr => a2 r (by omega), fun r hr => b2 r (by omega), ?_, fun j hj => ?_, fun j hj => (a4 j hj).2.2.2, fun j hj => (a5 j hj).2, ⟨?_, ?_⟩, fun j hj => ⟨?_, ?_, ?_⟩⟩
  · refine (bk_71_0 _ _ _ _ _ _ _).trans ?_
    rw [kp1, kp2, kq1, kq2, kp3, kq3, ly_d (p + 1) kp6, ly_b (p + 1) kp6]
    simp only [Bool.and_self, decide_true, decide_false, Bool.not_true, Bool.not_false, am_cont, Option.bind_some, Option.toList_some, Option.toList_none, List.singleton_append, List.nil_append, cond_true, cond_false, c1]
    refine (bk_71_11 _ _ _ _ _ _ _).trans ?_
    rw [kp1, kp2, kq1, kq2, kp4, kq4, st_d0 (p + 8) kp7, st_b0 (p + 8) kp7]
    simp only [Bool.and_self, decide_true, decide_false, Bool.not_true, Bool.not_false, am_cont, Option.bind_some, Option.toList_some, Option.toList_none, List.singleton_append, List.nil_append, cond_true, cond_false, c2]
    refine (bk_71_22 _ _ _ _ _ _ _).trans ?_
    rw [kp1, kp2, kq1, kq2, kp5, kq5, (sy_k (p + 14) kp8).1, (sy_k (p + 14) kp8).2.1]
    simp only [Bool.and_self, decide_true, decide_false, Bool.not_true, Bool.not_false, am_cont, Option.bind_some, Option.toList_some, Option.toList_none, List.singleton_append, List.nil_append, cond_true, cond_false, c3, bk_71_33]
  · rw [b1 r (by omega), n2 r (by omega), a1 r (by omega)]
  · rw [b1 (p + 1) (by omega), n2 (p + 1) (by omega), a3 4 (by omega)]; exact h4
  · have low : ∀ r, r < p + 8 → I3 r = I1 r := fun r hr => by rw [b1 r (by omega), n2 r (by omega)]
    unfold rSg
    by_cases h1 : j < 4
    · rw [if_pos h1, if_pos h1, low (p + 1) (by omega)]; exact a3 j (by omega)
    rw [if_neg h1, if_neg h1]
    by_cases h2 : j < 12
    · rw [if_pos h2, if_pos h2, low (p + 1 + 2) (by omega)]; exact (a4 (j - 4) (by omega)).1
    rw [if_neg h2, if_neg h2]
    by_cases h3 : j < 20
    · rw [if_pos h3, if_pos h3, low (p + 1 + 3) (by omega)]; exact (a4 (j - 12) (by omega)).2.1
    rw [if_neg h3, if_neg h3]
    by_cases h4 : j < 28
    · rw [if_pos h4, if_pos h4, low (p + 1 + 4) (by omega)]; exact (a4 (j - 20) (by omega)).2.2.1
    rw [if_neg h4, if_neg h4]
    by_cases h5 : j < 34
    · rw [if_pos h5, if_pos h5, low (p + 1 + 6) (by omega)]; exact (a5 (j - 28) (by omega)).1
    rw [if_neg h5, if_neg h5]
    rw [rS_hi (pS I1 (p + 8) (rS I1 (q + 8))) I3 (p + 8) (p + 8) j (by omega) (fun a ha => b1 _ (by omega)), rS_pS I1 (p + 8) (rS I1 (q + 8)) (by omega) (fun c hc => rS_low I1 _ _ c hc) j hj]
    exact rS_hi I I1 (q + 8) (q + 8) j (by omega) (fun a ha => a1 _ (by omega))
  · rw [b3.1, n2 (q + 14) (by omega), a1 (q + 14) (by omega)]
  · rw [b3.2, n2 (q + 14) (by omega), a1 (q + 14) (by omega)]
  · have := (b4 j hj).1
    rw [n2 (q + 14 + 2) (by omega), a1 (q + 14 + 2) (by omega)] at this
    exact this
  · have := (b4 j hj).2.1
    rw [n2 (q + 14 + 3) (by omega), a1 (q + 14 + 3) (by omega)] at this
    exact this
  · exact (b4 j hj).2.2
