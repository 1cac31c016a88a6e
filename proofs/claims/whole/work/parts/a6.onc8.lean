/-! AT ONCE: find of the class -/
def FF (I I' : Nat → Nat → Int32) : Prop := ∀ q, (q < 109 ∨ 114 < q) → I' q = I q
theorem FF_tr {I I1 I2 : Nat → Nat → Int32} (h1 : FF I I1) (h2 : FF I1 I2) : FF I I2 := fun q a => (h2 q a).trans (h1 q a)
theorem FF_FL {I I' : Nat → Nat → Int32} (h : FL I I') : FF I I' := fun q a => h.1 q (by omega) (by omega) (by omega) (by omega)
theorem FF_u (I : Nat → Nat → Int32) (p j : Nat) (v : Int32) (h : 109 ≤ p ∧ p ≤ 114) : FF I (am_u I p j v) := fun q a => am_u_nr _ _ _ _ _ (by omega)
theorem FF_ur (I : Nat → Nat → Int32) (p : Nat) (r : Nat → Int32) (h : 109 ≤ p ∧ p ≤ 114) : FF I (am_ur I p r) := fun q a => ur_ne _ _ _ _ (by omega)
theorem VB_cg {I I' : Nat → Nat → Int32} {W : Nat → Nat → Bool} {c : Nat → Nat} {k : Nat} (h : VB I W c k) (h1 : I' 109 1 = I 109 1) (h2 : I' 111 = I 111) (h3 : I' 112 = I 112) : VB I' W c k := by
  obtain ⟨g1, g2, g3⟩ := h
  exact ⟨h1.trans g1, by rw [h2]; exact g2, by rw [h3]; exact g3⟩
theorem c_find (env : am_E) (d : Nat) (W : Nat → Nat → Bool) (c : Nat → Nat) (k n : Nat) (hk : k ≤ 6) (hn : n ≤ 8) (hW : ∀ q b, W q b = true → b < n) (I : Nat → Nat → Int32) (J : Nat → Nat → Int64) (E : Nat → Nat → Nat) (w : Nat → Int32) (h2 : I 5 2 = Int32.ofNat k) (hl : ∀ r, r < k → ∀ I1, FF I I1 → am_ev env (d + 21, 91, 0, [some (.ref 12), some (.ref 5), some (.int (Int32.ofNat r)), none, none], [], am_hp I1 J E) = some (true, some (.int (w r)), am_hp I1 J E)) (hw : ∀ r, r < k → ∀ b, b < 8 → bt (w r) b = W r b) (hc : ∀ b, b < 8 → ((∃ q, W q b = true) → I 13 b = Int32.ofNat (c b)) ∧ c b ≤ 1000) : ∃ I', am_ev env (d + 22, 1, 0, [some (.ref 109), some (.ref 5), some (.ref 12), none, none, none], [], am_hp I J E) = some (true, some (.int (Int32.ofNat (ao_R W n k 0 c).1)), am_hp I' J E) ∧ FF I I' ∧ I' 109 1 = Int32.ofNat k ∧ (∀ q, q < k → I' 110 q = (ao_R W n k 0 c).2 q) ∧ ∀ q, k ≤ q → q < 6 → I' 110 q = -1 := by
  have start : am_ev env (d + 22, 1, 0, [some (.ref 109), some (.ref 5), some (.ref 12), none, none, none], [], am_hp I J E) = am_ev env (d + 22, 1, 15, [some (.ref 109), some (.ref 5), some (.ref 12), some (.int (Int32.ofNat 0)), none, none], [], am_hp (am_u I 109 1 (Int32.ofNat k)) J E) := by
    refine (bk_1_0 _ _ _ _ _ _ _).trans ?_
    rw [h2, if_neg (fun h => by
      have e := zlt_d 6 k (by omega) (by omega)
      rw [decide_eq_true (show Int32.ofNat 6 < Int32.ofNat k from h)] at e
      have := of_decide_eq_true e.symm
      omega)]
    rfl
  have F0 : FF I (am_u I 109 1 (Int32.ofNat k)) := FF_u I 109 1 _ (by omega)
  have v0 : am_u I 109 1 (Int32.ofNat k) 109 1 = Int32.ofNat k := am_u_at _ _ _ _
  generalize am_u I 109 1 (Int32.ofNat k) = I0 at start F0 v0
  have loop1 : ∀ i r I1, r + i = k → FF I I1 → I1 109 1 = Int32.ofNat k → (∀ q, q < r → I1 111 q = w q) → ∃ I', am_ev env (d + 22, 1, 15, [some (.ref 109), some (.ref 5), some (.ref 12), some (.int (Int32.ofNat r)), none, none], [], am_hp I1 J E) = am_ev env (d + 22, 1, 15, [some (.ref 109), some (.ref 5), some (.ref 12), some (.int (Int32.ofNat k)), none, none], [], am_hp I' J E) ∧ FF I I' ∧ I' 109 1 = Int32.ofNat k ∧ ∀ q, q < k → I' 111 q = w q := by
    intro i
    induction i with
    | zero =>
      intro r I1 hr hF h1 h3
      have hr : r = k := hr
      subst hr
      exact ⟨I1, rfl, hF, h1, h3⟩
    | succ i ih =>
      intro r I1 hr hF h1 h3
      have head := bk_1_15 env (d + 21) 5 12 (Int32.ofNat r) I1 J E
      rw [h1, zle_f k r (by omega) (by omega), st_d0 12 st12, st_b0 12 st12] at head
      have e91 := hl r (by omega) I1 hF
      simp only [decide_true, decide_false, Bool.not_true, Bool.not_false, am_cont, Option.bind_some, Option.toList_some, Option.toList_none, List.singleton_append, List.nil_append, cond_true, cond_false, Bool.and_true, e91] at head
      have s34 := bk_1_34 env (d + 21) 5 12 (Int32.ofNat r) (w r) (Int32.ofNat r) I1 J E
      rw [zI_in r 6 (by omega) (by omega), zI_nat r (by omega), zd_1] at s34
      simp only [decide_true, decide_false, Bool.not_true, Bool.not_false, am_cont, Option.bind_some, Option.toList_some, Option.toList_none, List.singleton_append, List.nil_append, cond_true, cond_false] at s34
      rw [head, s34]
      refine ih (r + 1) (am_u I1 111 r (w r)) (by omega) (FF_tr hF (FF_u _ _ _ _ (by omega))) (by rw [am_u_nr _ _ _ _ _ (by omega)]; exact h1) (fun q hq => ?_)
      rw [am_u_sg]
      by_cases e : q = r
      · rw [if_pos e, e]
      · rw [if_neg e]; exact h3 q (by omega)
  obtain ⟨Ia, a1, a2, a3, a4⟩ := loop1 k 0 I0 (by omega) F0 v0 (fun q hq => absurd hq (Nat.not_lt_zero _))
  have head := bk_1_15 env (d + 21) 5 12 (Int32.ofNat k) Ia J E
  have g13 : am_SR 12 4 = 13 := by decide
  have g13a : decide ((13 : Nat) < 179) = true ∧ Nat.beq (am_K 13).1 100 = true ∧ Nat.ble 8 (am_K 13).2 = true := by decide
  rw [a3, zle_t k k (Nat.le_refl _) (by omega), st_d0 12 st12, st_b0 12 st12, g13, g13a.1, g13a.2.1, g13a.2.2] at head
  have Fb : FF I (am_ur Ia 112 (va_cpy (Ia 13) (Ia 112) 0 0 8)) := FF_tr a2 (FF_ur _ _ _ (by omega))
  have Vb : VB (am_ur Ia 112 (va_cpy (Ia 13) (Ia 112) 0 0 8)) W c k := by
    refine ⟨?_, fun q hq b hb => ?_, fun b hb => ⟨fun hx => ?_, (hc b hb).2⟩⟩
    · rw [ur_ne _ _ _ _ (by omega)]; exact a3
    · rw [ur_ne _ _ _ _ (by omega), a4 q hq]; exact hw q hq b hb
    · rw [ur_at]
      unfold va_cpy
      rw [if_pos ⟨Nat.zero_le _, by omega⟩, a2 13 (by omega), Nat.zero_add, Nat.sub_zero]
      exact (hc b hb).1 hx
  generalize am_ur Ia 112 (va_cpy (Ia 13) (Ia 112) 0 0 8) = Ib at head Fb Vb
  have e1 := c_fill env (d + 20) 110 6 (-1) (by omega) k110.1 k110.2.1 k110.2.2 Ib J E
  have Fc : FF I (am_ur Ib 110 (cpr (Ib 110) 0 6 (fun _ => -1))) := FF_tr Fb (FF_ur _ _ _ (by omega))
  have Vc : VB (am_ur Ib 110 (cpr (Ib 110) 0 6 (fun _ => -1))) W c k := VB_cg Vb (by rw [ur_ne _ _ _ _ (by omega)]) (ur_ne _ _ _ _ (by omega)) (ur_ne _ _ _ _ (by omega))
  have gc : ∀ q, q < 6 → am_ur Ib 110 (cpr (Ib 110) 0 6 (fun _ => -1)) 110 q = -1 := fun q hq => by
    rw [ur_at]
    have := cpr_in (Ib 110) 0 6 (fun _ => -1) q hq
    rw [Nat.zero_add] at this; exact this
  generalize am_ur Ib 110 (cpr (Ib 110) 0 6 (fun _ => -1)) = Ic at e1 Fc Vc gc
  obtain ⟨Id, m1, m2⟩ := c_most env (d + 1) W c k 0 n hk hn (Nat.zero_le _) hW Ic J E Vc
  rw [Nat.sub_zero] at m1
  have m1 : am_ev env (d + 21, 4, 0, [some (.ref 109), some (.int 0), none, none], [], am_hp Ic J E) = _ := m1
  have Fd : FF I Id := FF_tr Fc (FF_FL (FL_FS m2))
  have Vd := VB_FS Vc m2
  have gd : ∀ q, q < 6 → Id 110 q = -1 := fun q hq => by rw [m2.1 110 (by omega) (by omega) (by omega)]; exact gc q hq
  have hX := ao_R_le W n k 0 c
  generalize hXe : ao_R W n k 0 c = X at m1 hX
  simp only [decide_true, decide_false, Bool.not_true, Bool.not_false, am_cont, Option.bind_some, Option.toList_some, Option.toList_none, List.singleton_append, List.nil_append, cond_true, cond_false, Bool.and_true, e1, bk_1_64, m1, bk_1_69] at head
  have loop2 : ∀ j r I1 c1 dn, r + j = k → FF I I1 → VB I1 W c1 k → (ao_R W n j r c1).1 + dn = X.1 → (∀ q, r ≤ q → q < k → X.2 q = (ao_R W n j r c1).2 q) → (∀ q, q < r → I1 110 q = X.2 q) → (∀ q, r ≤ q → q < 6 → I1 110 q = -1) → ∃ I', am_ev env (d + 22, 1, 76, [some (.ref 109), some (.ref 5), some (.ref 12), some (.int (Int32.ofNat (X.1))), some (.int (Int32.ofNat dn)), some (.int (Int32.ofNat r))], [], am_hp I1 J E) = some (true, some (.int (Int32.ofNat X.1)), am_hp I' J E) ∧ FF I I' ∧ I' 109 1 = Int32.ofNat k ∧ (∀ q, q < k → I' 110 q = X.2 q) ∧ ∀ q, k ≤ q → q < 6 → I' 110 q = -1 := by
    intro j
    induction j with
    | zero =>
      intro r I1 c1 dn hr hF hV _ _ h1 g2
      have hr : r = k := hr
      subst hr
      refine ⟨I1, (bk_1_76 _ _ _ _ _ _ _ _ _ _).trans ?_, hF, hV.1, h1, g2⟩
      rw [hV.1, zle_t r r (Nat.le_refl _) (by omega)]
      rfl
    | succ j ih =>
      intro r I1 c1 dn hr hF hV hs hq h1 h2
      have s76 := bk_1_76 env (d + 21) 5 12 (Int32.ofNat X.1) (Int32.ofNat dn) (Int32.ofNat r) I1 J E
      rw [hV.1, zle_f k r (by omega) (by omega), zI_sub X.1 dn (by omega), show X.1 - dn = (ao_R W n (j + 1) r c1).1 by omega] at s76
      obtain ⟨v, I2, l1, l2, l3⟩ := c_least env d W c1 k r j n hk hn hr hW I1 J E hV
      simp only [decide_true, decide_false, Bool.not_true, Bool.not_false, am_cont, Option.bind_some, Option.toList_some, Option.toList_none, List.singleton_append, List.nil_append, cond_true, cond_false, l1] at s76
      have s103 := bk_1_103 env (d + 21) 5 12 (Int32.ofNat X.1) (Int32.ofNat dn) (Int32.ofNat r) v (Int32.ofNat r) I2 J E
      rw [zI_in r 6 (by omega) (by omega), zI_nat r (by omega), am_u_at] at s103
      have F2 : FF I (am_u I2 110 r v) := FF_tr hF (FF_tr (FF_FL l2) (FF_u _ _ _ _ (by omega)))
      have i110 : I2 110 = I1 110 := l2.1 110 (by omega) (by omega) (by omega) (by omega)
      have VV : ∀ c2, VB I2 W c2 k → VB (am_u I2 110 r v) W c2 k := fun c2 h => VB_cg h (by rw [am_u_nr _ _ _ _ _ (by omega)]) (am_u_nr _ _ _ _ _ (by omega)) (am_u_nr _ _ _ _ _ (by omega))
      have k1 : ∀ Y : Nat × (Nat → Int32), (ao_R W n (j + 1) r c1).2 = ao_set Y.2 r v → (∀ q, r + 1 ≤ q → q < k → X.2 q = Y.2 q) ∧ (∀ q, q < r + 1 → am_u I2 110 r v 110 q = X.2 q) ∧ ∀ q, r + 1 ≤ q → q < 6 → am_u I2 110 r v 110 q = -1 := fun Y hY => by
        refine ⟨fun q a b => ?_, fun q a => ?_, fun q a b => ?_⟩
        · rw [hq q (by omega) b, hY, ao_set_ne _ _ _ _ (by omega)]
        · rw [am_u_sg]
          by_cases e : q = r
          · rw [if_pos e, e, hq r (Nat.le_refl _) (by omega), hY, ao_set_at]
          · rw [if_neg e, i110]; exact h1 q (by omega)
        · rw [am_u_sg, if_neg (by omega), i110]; exact h2 q (by omega) b
      rcases l3 with ⟨b, hb, hv, hB, hR⟩ | ⟨hv, hB, hR⟩
      · rw [show decide (v = -1) = false from decide_eq_false (fun h => nat_ne b hb ((hv.symm.trans h)))] at s103
        simp only [decide_true, decide_false, Bool.not_true, Bool.not_false, am_cont, Option.bind_some, Option.toList_some, Option.toList_none, List.singleton_append, List.nil_append, cond_true, cond_false, bk_1_118, zd_1] at s103
        rw [s76, s103]
        obtain ⟨p1, p2, p3⟩ := k1 (ao_R W n j (r + 1) (dec1 c1 b)) (by rw [hR, hv])
        have hs2 : (ao_R W n j (r + 1) (dec1 c1 b)).1 + (dn + 1) = X.1 := by
          rw [hR] at hs
          have hs : (ao_R W n j (r + 1) (dec1 c1 b)).1 + 1 + dn = X.1 := hs
          omega
        exact ih (r + 1) _ (dec1 c1 b) (dn + 1) (by omega) F2 (VV _ hB) hs2 p1 p2 p3
      · rw [show decide (v = -1) = true from decide_eq_true hv] at s103
        simp only [decide_true, decide_false, Bool.not_true, Bool.not_false, am_cont, Option.bind_some, Option.toList_some, Option.toList_none, List.singleton_append, List.nil_append, cond_true, cond_false, bk_1_118, zd_1] at s103
        rw [s76, s103]
        obtain ⟨p1, p2, p3⟩ := k1 (ao_R W n j (r + 1) c1) (by rw [hR, hv])
        have hs2 : (ao_R W n j (r + 1) c1).1 + dn = X.1 := by rw [hR] at hs; exact hs
        exact ih (r + 1) _ c1 dn (by omega) F2 (VV _ hB) hs2 p1 p2 p3
  obtain ⟨I', z1, z2⟩ := loop2 k 0 Id c 0 (by omega) Fd Vd (by rw [hXe]; rfl) (fun q _ _ => by rw [hXe]) (fun q hq => absurd hq (Nat.not_lt_zero _)) (fun q _ hq => gd q hq)
  exact ⟨I', start.trans (a1.trans (head.trans z1)), z2⟩
