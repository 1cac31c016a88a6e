/-! what holds when all objects are made -/
def ini_tst (I : Nat → Nat → Int32) (E : Nat → Nat → Nat) : Bool :=
  decide (I 158 0 = 0) && decide (I 158 2 = 0) && ((List.range 31).any fun f => decide (I 158 3 = Int32.ofNat f)) && decide (I 158 34 = 0) && decide (I 158 35 = 0) &&
  ((List.range 6).all fun r => decide (I 158 (46 + r) = -1) && decide (I 158 (52 + r) = 0) && decide (I 158 (58 + r) = 0) && decide (I 158 (64 + r) = 0)) &&
  ((List.range 70).all fun j => !(Nat.blt j 4 || (Nat.ble 34 j && Nat.blt j 38) || (Nat.ble 46 j && Nat.blt j 70)) || decide (rS I 12 j = I 158 j)) &&
  decide (I 43 1 = 0) && decide (I 43 2 = 0) && decide (I 156 24 = 0) && decide (I 2 0 = 0) && decide (I 156 2 = 0) && decide (I 0 13 = I 156 10) && decide (I 156 46 = 0) && ((List.range 4).all fun j => decide (I 115 j = -1)) &&
  decide (I 0 12 = 0) && decide (I 156 41 = 0) && decide (I 104 4 = 0) && decide (I 156 26 = 0) && decide (I 104 6 = 0) && decide (I 156 29 = 0) && decide (I 0 14 = I 156 30) && decide (I 0 15 = I 156 31) && decide (I 0 16 = I 156 32) && decide (I 109 1 = 0) && decide (I 156 39 = 0) &&
  decide (I 18 0 = 0) && decide (I 18 1 = 0) && decide (I 158 70 = 0) && ((List.range 40).all fun j => Nat.ble (E 19 j) 24 && Nat.ble (E 38 j) 24) &&
  ((List.range 2).all fun b => decide (I (118 + 19 * b) 0 = I 166 b) && decide (I 166 b = 0) && ((List.range 40).all fun j => Nat.ble (E (118 + 19 * b + 15) j) 24)) && (decide (I 5 4 = 0) || decide (I 5 4 = 1))
theorem ini_rel {I : Nat → Nat → Int32} {J : Nat → Nat → Int64} {E : Nat → Nat → Nat} (h : ini_tst I E = true) : Rel I J E := by
  unfold ini_tst at h
  obtain ⟨h, t54⟩ := am_and3 h
  obtain ⟨h, tIm⟩ := am_and3 h
  obtain ⟨h, tE⟩ := am_and3 h
  obtain ⟨h, t70⟩ := am_and3 h
  obtain ⟨h, t181⟩ := am_and3 h
  obtain ⟨h, t180⟩ := am_and3 h
  obtain ⟨h, t39⟩ := am_and3 h
  obtain ⟨h, t109⟩ := am_and3 h
  obtain ⟨h, tF2⟩ := am_and3 h
  obtain ⟨h, tF1⟩ := am_and3 h
  obtain ⟨h, tC⟩ := am_and3 h
  obtain ⟨h, tR2⟩ := am_and3 h
  obtain ⟨h, tR1⟩ := am_and3 h
  obtain ⟨h, tW2⟩ := am_and3 h
  obtain ⟨h, tW1⟩ := am_and3 h
  obtain ⟨h, tS2⟩ := am_and3 h
  obtain ⟨h, tS1⟩ := am_and3 h
  obtain ⟨h, tT2⟩ := am_and3 h
  obtain ⟨h, tT1⟩ := am_and3 h
  obtain ⟨h, tV⟩ := am_and3 h
  obtain ⟨h, t2⟩ := am_and3 h
  obtain ⟨h, t1⟩ := am_and3 h
  obtain ⟨h, t24⟩ := am_and3 h
  obtain ⟨h, t43b⟩ := am_and3 h
  obtain ⟨h, t43a⟩ := am_and3 h
  obtain ⟨h, tA⟩ := am_and3 h
  obtain ⟨h, tR⟩ := am_and3 h
  obtain ⟨h, t35⟩ := am_and3 h
  obtain ⟨h, t34⟩ := am_and3 h
  obtain ⟨h, t3⟩ := am_and3 h
  obtain ⟨t0, tk⟩ := am_and3 h
  have zz : (0 : Int32) = Int32.ofNat 0 := rfl
  have low0 : lowb 0 (0 : Int32) := fun c hc => by rw [bt_zero] at hc; cases hc
  obtain ⟨f, hf1, hf2⟩ := List.any_eq_true.mp t3
  refine ⟨0, 0, ⟨0, 0, ⟨⟨of_decide_eq_true t0, by omega⟩, ⟨of_decide_eq_true tk, by omega⟩, ⟨f, by have := List.mem_range.mp hf1; omega, of_decide_eq_true hf2⟩, fun b hb => absurd hb (Nat.not_lt_zero _), fun b hb => absurd hb (Nat.not_lt_zero _), fun b hb => absurd hb (Nat.not_lt_zero _), fun b hb => absurd hb (Nat.not_lt_zero _)⟩,
    ⟨⟨0, by omega, of_decide_eq_true t34⟩, by rw [of_decide_eq_true t35]; exact low0, fun b hb => absurd hb (Nat.not_lt_zero _), fun r hr => ?_⟩, fun j hj => ?_, ⟨by omega, by omega, of_decide_eq_true t43a, of_decide_eq_true t43b, of_decide_eq_true t24⟩, fun i hi => absurd hi (Nat.not_lt_zero _)⟩,
    ⟨0, by omega, of_decide_eq_true t1, of_decide_eq_true t2, fun j hj => absurd hj (Nat.not_lt_zero _)⟩, (show I 0 13 = I 156 10 from of_decide_eq_true tV), Or.inl ⟨of_decide_eq_true tT1, fun j hj => of_decide_eq_true (st_range tT2 hj)⟩,
    ⟨0, by omega, of_decide_eq_true tS1, of_decide_eq_true tS2, fun j hj => absurd hj (Nat.not_lt_zero _)⟩, ⟨0, by omega, of_decide_eq_true tW1, of_decide_eq_true tW2, fun j hj => absurd hj (Nat.not_lt_zero _)⟩, ⟨0, by omega, of_decide_eq_true tR1, of_decide_eq_true tR2, fun j hj => absurd hj (Nat.not_lt_zero _)⟩,
    (show I 0 14 = I 156 30 from of_decide_eq_true tC), ⟨of_decide_eq_true tF1, of_decide_eq_true tF2⟩, ⟨0, by omega, of_decide_eq_true t109, Or.inl ⟨of_decide_eq_true t39, rfl⟩⟩, ⟨fun _ => [], fun _ => [], fun b hb => absurd hb (Nat.not_lt_zero _), fun b hb => absurd hb (Nat.not_lt_zero _)⟩,
    ⟨⟨(0, 0, fun _ => (0, 0, 0), fun _ => (0, 0)), ⟨of_decide_eq_true t180, of_decide_eq_true t181, fun i hi => absurd hi (Nat.not_lt_zero _)⟩, Or.inl ⟨rfl, rfl, of_decide_eq_true t70⟩⟩, fun j hj => ⟨Nat.le_of_ble_eq_true (am_and3 (st_range tE hj)).1, Nat.le_of_ble_eq_true (am_and3 (st_range tE hj)).2⟩⟩,
    fun b hb => ?_, ?_⟩
  · have hq := st_range tR hr
    obtain ⟨hq, q4⟩ := am_and3 hq
    obtain ⟨hq, q3⟩ := am_and3 hq
    obtain ⟨q1, q2⟩ := am_and3 hq
    refine ⟨Or.inl ⟨of_decide_eq_true q1, of_decide_eq_true q2⟩, ⟨0, by omega, of_decide_eq_true q3⟩, by rw [of_decide_eq_true q4]; exact low0, fun _ => ⟨of_decide_eq_true q3, of_decide_eq_true q4⟩⟩
  · unfold rel at hj
    have hj70 : j < 70 := by omega
    rcases am_or (st_range tA hj70) with q | q
    · exfalso
      have hb : (Nat.blt j 4 || (Nat.ble 34 j && Nat.blt j 38) || (Nat.ble 46 j && Nat.blt j 70)) = true := by
        rw [Bool.or_eq_true, Bool.or_eq_true, Bool.and_eq_true, Bool.and_eq_true]
        rcases (show j < 4 ∨ (34 ≤ j ∧ j < 38) ∨ (46 ≤ j ∧ j < 70) by omega) with z | ⟨z1, z2⟩ | ⟨z1, z2⟩
        · exact Or.inl (Or.inl (Nat.ble_eq_true_of_le z))
        · exact Or.inl (Or.inr ⟨Nat.ble_eq_true_of_le z1, Nat.ble_eq_true_of_le z2⟩)
        · exact Or.inr ⟨Nat.ble_eq_true_of_le z1, Nat.ble_eq_true_of_le z2⟩
      rw [hb] at q
      cases q
    · exact of_decide_eq_true q
  · have hq := st_range tIm hb
    obtain ⟨hq, q3⟩ := am_and3 hq
    obtain ⟨q1, q2⟩ := am_and3 hq
    exact ⟨of_decide_eq_true q1, fun j hj => Nat.le_of_ble_eq_true (st_range q3 hj), Or.inl (of_decide_eq_true q2)⟩
  · rcases am_or t54 with q | q
    · exact ⟨false, of_decide_eq_true q⟩
    · exact ⟨true, of_decide_eq_true q⟩
/-- every static reference is set -/
def ini_zt (Z : Nat → Nat → Bool) : Bool := (List.range 179).all fun p => bif Nat.blt (am_K p).1 12 then (List.range (am_nf (am_K p).1)).all (fun k => !(Nat.beq (am_ft (am_K p).1 k) 2) || Z p k) else ((Nat.beq (am_K p).1 103 || Nat.beq (am_K p).1 104) && (List.range (am_K p).2).all (fun k => Z p k)) || Nat.beq (am_K p).1 100 || Nat.beq (am_K p).1 101 || Nat.beq (am_K p).1 102 || Nat.beq (am_K p).1 105
theorem ini_arr {cA : ClassId} {n : Nat} {f g : Nat → Value} (h : ∀ j, j < n → f j = g j) : arrV cA n f = arrV cA n g := by
  unfold arrV
  have e : (fun j : Fin n => f j.val) = (fun j : Fin n => g j.val) := funext fun j => h j.val j.isLt
  rw [e]
theorem ini_ws {Z : Nat → Nat → Bool} {I : Nat → Nat → Int32} {J : Nat → Nat → Int64} {E : Nat → Nat → Nat} (hz : ini_zt Z = true) (S0 : Nat) (ad : Nat → Nat) (cy : Nat → ClassId) (D : va_G) (H : Heap) (hP : va_P D am_cl (am_ws S0 ad cy (179, Z, I, J, E)) H) : va_P D am_cl (am_ws S0 ad cy (am_hp I J E)) H := by
  intro k q hq
  have hk : k < 179 := by
    have := (List.getElem?_eq_some_iff.mp hq).1
    unfold am_ws at this
    rw [List.length_map, List.length_range] at this
    exact this
  have e1 : (am_ws S0 ad cy (am_hp I J E))[k]? = some (S0 + k, am_ce ad cy (am_hp I J E) k) := am_ws_at hk
  rw [e1] at hq
  cases hq
  have h0 := hP k _ (am_ws_at (h := (179, Z, I, J, E)) hk)
  have hz := st_range hz hk
  unfold am_ce at h0 ⊢
  generalize hkd : (am_K k).1 = kd at h0 hz ⊢
  generalize hn : (am_K k).2 = n at h0 hz ⊢
  cases h12 : Nat.blt kd 12 with
  | true =>
    rw [h12] at hz
    have hlt := am_blt h12
    have hz : ((List.range (am_nf kd)).all (fun j => !(Nat.beq (am_ft kd j) 2) || Z k j)) = true := hz
    have ea : ∀ hh : am_H, am_ao ad cy hh k kd n = .inr (kd, (List.range (am_nf kd)).map (am_fv ad hh k kd)) := by
      intro hh
      rcases (show kd = 0 ∨ kd = 1 ∨ kd = 2 ∨ kd = 3 ∨ kd = 4 ∨ kd = 5 ∨ kd = 6 ∨ kd = 7 ∨ kd = 8 ∨ kd = 9 ∨ kd = 10 ∨ kd = 11 by omega) with e | e | e | e | e | e | e | e | e | e | e | e <;> (subst e; rfl)
    rw [ea] at h0 ⊢
    have ef : (List.range (am_nf kd)).map (am_fv ad (am_hp I J E) k kd) = (List.range (am_nf kd)).map (am_fv ad (179, Z, I, J, E) k kd) := by
      apply List.map_congr_left
      intro j hj
      have hj2 := List.all_eq_true.mp hz j hj
      unfold am_fv
      split
      · rfl
      · rfl
      · rfl
      · rename_i e2
        rw [e2] at hj2
        have hj2 : (!(Nat.beq 2 2) || Z k j) = true := hj2
        have hzj : Z k j = true := by
          rcases am_or hj2 with z | z
          · cases z
          · exact z
        show (bif true then _ else _) = (bif Z k j then _ else _)
        rw [hzj]
      · rfl
      · rfl
    rw [ef]
    exact h0
  | false =>
    rw [h12] at hz
    have hz : (((Nat.beq kd 103 || Nat.beq kd 104) && (List.range n).all (fun j => Z k j)) || Nat.beq kd 100 || Nat.beq kd 101 || Nat.beq kd 102 || Nat.beq kd 105) = true := hz
    rcases am_or hz with hz | z
    · rcases am_or hz with hz | z
      · rcases am_or hz with hz | z
        · rcases am_or hz with hz | z
          · obtain ⟨z1, z2⟩ := am_and3 hz
            have zz : ∀ j, j < n → Z k j = true := fun j hj => st_range z2 hj
            rcases am_or z1 with z | z
            · have e := Nat.eq_of_beq_eq_true z
              subst e
              refine Eq.trans h0 ?_
              show some (arrV (cy 3) n (fun j => va_rf (bif Z k j then some (ad (am_SR k j)) else none))) = some (arrV (cy 3) n (fun j => va_rf (bif true then some (ad (am_SR k j)) else none)))
              exact congrArg some (ini_arr (fun j hj => by rw [zz j hj]))
            · have e := Nat.eq_of_beq_eq_true z
              subst e
              refine Eq.trans h0 ?_
              show some (arrV (cy 4) n (fun j => va_rf (bif Z k j then some (ad (am_SR k j)) else none))) = some (arrV (cy 4) n (fun j => va_rf (bif true then some (ad (am_SR k j)) else none)))
              exact congrArg some (ini_arr (fun j hj => by rw [zz j hj]))
          · have e := Nat.eq_of_beq_eq_true z
            subst e
            exact h0
        · have e := Nat.eq_of_beq_eq_true z
          subst e
          exact h0
      · have e := Nat.eq_of_beq_eq_true z
        subst e
        exact h0
    · have e := Nat.eq_of_beq_eq_true z
      subst e
      exact h0
def ini_ck (h : am_H) : Bool := ini_tst (am_new h).2.2.1 (am_new h).2.2.2.2 && ini_zt (am_new h).2.1
set_option maxRecDepth 1000000 in
theorem ini_ok : ini_ck (ini_h ini_2) = true := by decide +kernel
/-! the law's own steps ahead of its loop -/
theorem lo_s {env : am_E} {n : Nat} {s t : am_S} {x : Option am_S} (hp : Nat.blt s.2.2.1 23 = true) (h : am_ls env s = some t) (k : am_lo env n t = x) : am_lo env (n + 1) s = x := by
  show (bif Nat.blt s.2.2.1 23 then (am_ls env s).bind (am_lo env n) else none) = x
  rw [hp, h]
  exact k
theorem lo_g {env : am_E} {n : Nat} {s t : am_S} {b : Bool} {x : Option am_S} (hb : b = true) (hp : Nat.blt s.2.2.1 23 = true) (h : am_ls env s = bif b then some t else none) (k : am_lo env n t = x) : am_lo env (n + 1) s = x := lo_s hp (h.trans (by rw [hb]; rfl)) k
theorem lo_c {env : am_E} {n : Nat} {s s1 t : am_S} {r : am_R} {kf : am_R → Option am_S} {x : Option am_S} (hp : Nat.blt s.2.2.1 23 = true) (h : am_ls env s = (am_ev env s1).bind kf) (he : am_ev env s1 = some r) (hk : kf r = some t) (k : am_lo env n t = x) : am_lo env (n + 1) s = x := lo_s hp (h.trans (by rw [he]; exact hk)) k
set_option maxRecDepth 20000 in
theorem ini_lo (N : Nat) (xs : Nat → Int32) (Z1 Z2 : Nat → Nat → Bool) (I1 I2 : Nat → Nat → Int32) (J1 J2 : Nat → Nat → Int64) (E1 E2 : Nat → Nat → Nat) (e1 : am_ev (true, N, xs) (99, 114, 0, am_loc0 [.ref 0] (am_mi 114).2.2.2.1, [], am_new am_h0) = some (true, none, (156, Z1, I1, J1, E1)))
    (e2 : am_ev (true, N, xs) (99, 193, 0, am_loc0 [.ref 156] (am_mi 193).2.2.2.1, [], am_new (156, Z1, I1, J1, E1)) = some (true, none, (178, Z2, I2, J2, E2))) :
    am_lo (true, N, xs) 13 (100, 304, 0, am_loc0 [.ref 60000] 7, [], am_h0) = some (100, 304, 23, [some (.ref 60000), some (.ref 0), some (.ref 156), some (.ref 178), some (.int 0), none, none], [], am_new (178, Z2, I2, J2, E2)) := by
  refine lo_s (t := (100, 304, 3, [some (.ref 60000), none, none, none, none, none, none], [.ref 0], am_new am_h0)) rfl rfl ?_
  refine lo_s (t := (100, 304, 4, [some (.ref 60000), none, none, none, none, none, none], [.ref 0, .ref 0], am_new am_h0)) rfl rfl ?_
  refine lo_c (s1 := (99, 114, 0, am_loc0 [.ref 0] (am_mi 114).2.2.2.1, [], am_new am_h0)) (t := (100, 304, 7, [some (.ref 60000), none, none, none, none, none, none], [.ref 0], (156, Z1, I1, J1, E1))) rfl rfl e1 rfl ?_
  refine lo_s (t := (100, 304, 8, [some (.ref 60000), some (.ref 0), none, none, none, none, none], [], (156, Z1, I1, J1, E1))) rfl rfl ?_
  refine lo_g (t := (100, 304, 11, [some (.ref 60000), some (.ref 0), none, none, none, none, none], [.ref 156], am_new (156, Z1, I1, J1, E1))) (show (true && Nat.blt 156 1000 && Nat.beq (am_K 156).1 11 && Nat.beq (am_K 156).2 0) = true by decide) rfl rfl ?_
  refine lo_s (t := (100, 304, 12, [some (.ref 60000), some (.ref 0), none, none, none, none, none], [.ref 156, .ref 156], am_new (156, Z1, I1, J1, E1))) rfl rfl ?_
  refine lo_c (s1 := (99, 193, 0, am_loc0 [.ref 156] (am_mi 193).2.2.2.1, [], am_new (156, Z1, I1, J1, E1))) (t := (100, 304, 15, [some (.ref 60000), some (.ref 0), none, none, none, none, none], [.ref 156], (178, Z2, I2, J2, E2))) rfl rfl e2 rfl ?_
  refine lo_s (t := (100, 304, 16, [some (.ref 60000), some (.ref 0), some (.ref 156), none, none, none, none], [], (178, Z2, I2, J2, E2))) rfl rfl ?_
  refine lo_s (t := (100, 304, 17, [some (.ref 60000), some (.ref 0), some (.ref 156), none, none, none, none], [.int 1], (178, Z2, I2, J2, E2))) rfl rfl ?_
  refine lo_g (t := (100, 304, 19, [some (.ref 60000), some (.ref 0), some (.ref 156), none, none, none, none], [.ref 178], am_new (178, Z2, I2, J2, E2))) (show (true && Nat.blt 178 1000 && Nat.beq (am_K 178).1 101 && Nat.beq (am_K 178).2 (1 : Int32).toNatClampNeg) = true by decide) rfl rfl ?_
  refine lo_s (t := (100, 304, 20, [some (.ref 60000), some (.ref 0), some (.ref 156), some (.ref 178), none, none, none], [], am_new (178, Z2, I2, J2, E2))) rfl rfl ?_
  refine lo_s (t := (100, 304, 21, [some (.ref 60000), some (.ref 0), some (.ref 156), some (.ref 178), none, none, none], [.int 0], am_new (178, Z2, I2, J2, E2))) rfl rfl ?_
  exact lo_s (t := (100, 304, 23, [some (.ref 60000), some (.ref 0), some (.ref 156), some (.ref 178), some (.int 0), none, none], [], am_new (178, Z2, I2, J2, E2))) rfl rfl rfl
/-- from the start to the loop: all is made, and both are related -/
theorem ini_all (HC : ∀ a, a < 304 → am_chk a = true) (N : Nat) (xs : Nat → Int32) : ∃ (h1 : am_H) (I : Nat → Nat → Int32) (J : Nat → Nat → Int64) (E : Nat → Nat → Nat), am_lo (true, N, xs) 13 (100, 304, 0, am_loc0 [.ref 60000] 7, [], am_h0) = some (100, 304, 23, [some (.ref 60000), some (.ref 0), some (.ref 156), some (.ref 178), some (.int 0), none, none], [], h1) ∧ (h1.1 = (am_hp I J E).1 ∧ ∀ (S0 : Nat) (ad : Nat → Nat) (cy : Nat → ClassId) (D : va_G) (H : Heap), va_P D am_cl (am_ws S0 ad cy h1) H → va_P D am_cl (am_ws S0 ad cy (am_hp I J E)) H) ∧ Rel I J E := by
  obtain ⟨a1, a2⟩ := ini_use ini_e1
  obtain ⟨b1, b2⟩ := ini_use ini_e2
  have hok := ini_ok
  have c1 := ini_v1 HC N xs 6000 (show ini_r1 6000 = some (true, none, ini_h ini_1) from a1)
  have c2 := ini_v2 HC N xs 6000 (show ini_r2 (ini_h ini_1) 6000 = some (true, none, ini_h ini_2) from b1)
  generalize ini_h ini_1 = H1 at c1 c2 a2
  generalize ini_h ini_2 = H2 at c2 b2 hok
  obtain ⟨n1, Z1, I1, J1, E1⟩ := H1
  obtain ⟨n2, Z2, I2, J2, E2⟩ := H2
  have a2 : n1 = 156 := a2
  have b2 : n2 = 178 := b2
  subst a2
  subst b2
  obtain ⟨k1, k2⟩ := am_and3 hok
  exact ⟨am_new (178, Z2, I2, J2, E2), (am_new (178, Z2, I2, J2, E2)).2.2.1, (am_new (178, Z2, I2, J2, E2)).2.2.2.1, (am_new (178, Z2, I2, J2, E2)).2.2.2.2, ini_lo N xs Z1 Z2 I1 I2 J1 J2 E1 E2 c1 c2, ⟨rfl, fun S0 ad cy D H hP => ini_ws (Z := (am_new (178, Z2, I2, J2, E2)).2.1) k2 S0 ad cy D H hP⟩, ini_rel k1⟩
