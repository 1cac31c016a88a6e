/-! a new LIBRARY: copies, the start -/
theorem cpy0 {α : Type} (f g : Nat → α) (N : Nat) : va_cpy f g 0 0 N = fun j => if j < N then f j else g j := by
  funext j
  unfold va_cpy
  by_cases h : j < N
  · rw [if_pos (by omega), if_pos h, Nat.zero_add, Nat.sub_zero]
  · rw [if_neg (by omega), if_neg h]
theorem bi_an (b : Bool) : decide (bi b &&& 1 = bi b) = true := bi_and b
theorem c_libCopy (env : am_E) (d : Nat) (p q : Nat) (hp : lbq p = true) (hq : lbq q = true) (hpq : p ≠ q) (o : Bool) (I : Nat → Nat → Int32) (J : Nat → Nat → Int64) (E : Nat → Nat → Nat) (h4 : I q 4 = bi o) : ∃ I' J', am_ev env (d + 1, 13, 0, [some (.ref p), some (.ref q)], [], am_hp I J E) = some (true, none, am_hp I' J' E) ∧ (∀ r, r < p ∨ p + 6 < r → I' r = I r) ∧ (∀ r, r < p ∨ p + 6 < r → J' r = J r) ∧ (∀ j, j < 5 → I' p j = I q j) ∧ (∀ j, j < 8 → I' (p + 2) j = I (q + 2) j ∧ I' (p + 3) j = I (q + 3) j ∧ I' (p + 4) j = I (q + 4) j ∧ J' (p + 1) j = J (q + 1) j) ∧ (∀ j, j < 6 → I' (p + 6) j = I (q + 6) j ∧ J' (p + 5) j = J (q + 5) j) := by
  have hp' := lbq_c p hp
  have hq' := lbq_c q hq
  have hd : p + 6 < q ∨ q + 6 < p := by omega
  have e4 : ∀ a b c e : Int32, decide ((am_u (am_u (am_u (am_u I p 0 a) p 1 b) p 2 c) p 3 e) q 4 &&& 1 = (am_u (am_u (am_u (am_u I p 0 a) p 1 b) p 2 c) p 3 e) q 4) = true := by
    intro a b c e
    rw [am_u_ng _ _ _ _ _ (by omega), am_u_ng _ _ _ _ _ (by omega), am_u_ng _ _ _ _ _ (by omega), am_u_ng _ _ _ _ _ (by omega), h4]; exact bi_and o
  have hev := bk_13_0 env d p q I J E
  simp only [ly_d p hp, ly_b p hp, ly_d q hq, ly_b q hq, Bool.and_self, decide_true, decide_false, Bool.not_true, Bool.not_false, am_cont, Option.bind_some, Option.toList_some, Option.toList_none, List.singleton_append, List.nil_append, cond_true, cond_false, bk_13_32, e4, ly_5 p hp, ly_6 p hp, ly_7 p hp, ly_8 p hp, ly_9 p hp, ly_10 p hp, ly_5 q hq, ly_6 q hq, ly_7 q hq, ly_8 q hq, ly_9 q hq, ly_10 q hq, ly_d1 p hp, ly_b1 p hp, ly_t1 p hp, ly_d2 p hp, ly_b2 p hp, ly_t2 p hp, ly_d3 p hp, ly_b3 p hp, ly_t3 p hp, ly_d4 p hp, ly_b4 p hp, ly_t4 p hp, ly_d5 p hp, ly_b5 p hp, ly_t5 p hp, ly_d6 p hp, ly_b6 p hp, ly_t6 p hp, ly_d1 q hq, ly_b1 q hq, ly_t1 q hq, ly_d2 q hq, ly_b2 q hq, ly_t2 q hq, ly_d3 q hq, ly_b3 q hq, ly_t3 q hq, ly_d4 q hq, ly_b4 q hq, ly_t4 q hq, ly_d5 q hq, ly_b5 q hq, ly_t5 q hq, ly_d6 q hq, ly_b6 q hq, ly_t6 q hq, bk_13_85, bk_13_130, cpy0] at hev
  refine ⟨_, _, hev, ?_, ?_, ?_, ?_, ?_⟩
  · intro r hr
    rw [ur_ne _ _ _ _ (by omega), ur_ne _ _ _ _ (by omega), ur_ne _ _ _ _ (by omega), ur_ne _ _ _ _ (by omega), am_u_ng _ _ _ _ _ (by omega), am_u_ng _ _ _ _ _ (by omega), am_u_ng _ _ _ _ _ (by omega), am_u_ng _ _ _ _ _ (by omega), am_u_ng _ _ _ _ _ (by omega)]
  · intro r hr
    rw [ur_ne _ _ _ _ (by omega), ur_ne _ _ _ _ (by omega)]
  · intro j hj
    rw [ur_ne _ _ _ _ (by omega), ur_ne _ _ _ _ (by omega), ur_ne _ _ _ _ (by omega), ur_ne _ _ _ _ (by omega)]
    rcases (show j = 0 ∨ j = 1 ∨ j = 2 ∨ j = 3 ∨ j = 4 by omega) with rfl | rfl | rfl | rfl | rfl
    · rw [am_u_sg, if_neg (by omega), am_u_sg, if_neg (by omega), am_u_sg, if_neg (by omega), am_u_sg, if_neg (by omega), am_u_at]
    · rw [am_u_sg, if_neg (by omega), am_u_sg, if_neg (by omega), am_u_sg, if_neg (by omega), am_u_at, am_u_ng _ _ _ _ _ (by omega)]
    · rw [am_u_sg, if_neg (by omega), am_u_sg, if_neg (by omega), am_u_at, am_u_ng _ _ _ _ _ (by omega), am_u_ng _ _ _ _ _ (by omega)]
    · rw [am_u_sg, if_neg (by omega), am_u_at, am_u_ng _ _ _ _ _ (by omega), am_u_ng _ _ _ _ _ (by omega), am_u_ng _ _ _ _ _ (by omega)]
    · rw [am_u_at, am_u_ng _ _ _ _ _ (by omega), am_u_ng _ _ _ _ _ (by omega), am_u_ng _ _ _ _ _ (by omega), am_u_ng _ _ _ _ _ (by omega)]
  · intro j hj
    have n4 : ∀ r, r ≠ p → ∀ v1 v2 v3 v4 v5 : Int32, am_u (am_u (am_u (am_u (am_u I p 0 v1) p 1 v2) p 2 v3) p 3 v4) p 4 v5 r = I r := by
      intro r hr v1 v2 v3 v4 v5
      rw [am_u_ng _ _ _ _ _ hr, am_u_ng _ _ _ _ _ hr, am_u_ng _ _ _ _ _ hr, am_u_ng _ _ _ _ _ hr, am_u_ng _ _ _ _ _ hr]
    refine ⟨?_, ?_, ?_, ?_⟩
    · rw [ur_ne _ _ _ _ (by omega), ur_ne _ _ _ _ (by omega), ur_ne _ _ _ _ (by omega), ur_at, if_pos hj, n4 _ (by omega)]
    · rw [ur_ne _ _ _ _ (by omega), ur_ne _ _ _ _ (by omega), ur_at, if_pos hj, ur_ne _ _ _ _ (by omega), n4 _ (by omega)]
    · rw [ur_ne _ _ _ _ (by omega), ur_at, if_pos hj, ur_ne _ _ _ _ (by omega), ur_ne _ _ _ _ (by omega), n4 _ (by omega)]
    · rw [ur_ne _ _ _ _ (by omega), ur_at, if_pos hj]
  · intro j hj
    have n4 : ∀ r, r ≠ p → ∀ v1 v2 v3 v4 v5 : Int32, am_u (am_u (am_u (am_u (am_u I p 0 v1) p 1 v2) p 2 v3) p 3 v4) p 4 v5 r = I r := by
      intro r hr v1 v2 v3 v4 v5
      rw [am_u_ng _ _ _ _ _ hr, am_u_ng _ _ _ _ _ hr, am_u_ng _ _ _ _ _ hr, am_u_ng _ _ _ _ _ hr, am_u_ng _ _ _ _ _ hr]
    refine ⟨?_, ?_⟩
    · rw [ur_at, if_pos hj, ur_ne _ _ _ _ (by omega), ur_ne _ _ _ _ (by omega), ur_ne _ _ _ _ (by omega), n4 _ (by omega)]
    · rw [ur_at, if_pos hj, ur_ne _ _ _ _ (by omega)]
theorem CLy_copy {p q : Nat} {I I' : Nat → Nat → Int32} {J J' : Nat → Nat → Int64} {S : Lby} (hl : CLy q I J S) (hw : LWy S) (a1 : ∀ j, j < 5 → I' p j = I q j) (a2 : ∀ j, j < 8 → I' (p + 2) j = I (q + 2) j ∧ I' (p + 3) j = I (q + 3) j ∧ I' (p + 4) j = I (q + 4) j ∧ J' (p + 1) j = J (q + 1) j) (a3 : ∀ j, j < 6 → I' (p + 6) j = I (q + 6) j ∧ J' (p + 5) j = J (q + 5) j) : CLy p I' J' S := by
  have hn := hw.1.1.2
  have hk := hw.1.2.1.2
  obtain ⟨b1, b2, b3, b4, b5, b6, b7⟩ := hl
  refine ⟨by rw [a1 0 (by omega)]; exact b1, by rw [a1 1 (by omega)]; exact b2, by rw [a1 2 (by omega)]; exact b3, by rw [a1 3 (by omega)]; exact b4, by rw [a1 4 (by omega)]; exact b5, fun b hb => ?_, fun r hr => ?_⟩
  · obtain ⟨c1, c2, c3, c4⟩ := a2 b (by omega)
    rw [c1, c2, c3, c4]; exact b6 b hb
  · obtain ⟨c1, c2⟩ := a3 r (by omega)
    rw [c1, c2]; exact b7 r hr
theorem c_fill (env : am_E) (d : Nat) (q N : Nat) (v : Int32) (hN : N ≤ 1000) (h1 : decide (q < 179) = true) (h2 : Nat.beq (am_K q).1 100 = true) (h3 : (am_K q).2 = N) (I : Nat → Nat → Int32) (J : Nat → Nat → Int64) (E : Nat → Nat → Nat) : am_ev env (d + 1, 303, 0, [some (.ref q), some (.int v), none, none], [], am_hp I J E) = some (true, none, am_hp (am_ur I q (cpr (I q) 0 N (fun _ => v))) J E) := by
  have k1 : (am_K q).1 = 100 := Nat.eq_of_beq_eq_true h2
  refine (bk_303_0 _ _ _ _ _ _ _).trans ?_
  rw [h1, h3, k1]
  simp only [show Nat.ble 100 100 = true from rfl, show Nat.blt 100 106 = true from rfl, Bool.and_self, decide_true, decide_false, Bool.not_true, Bool.not_false, am_cont, Option.bind_some, Option.toList_some, Option.toList_none, List.singleton_append, List.nil_append, cond_true, cond_false]
  have hz := zcopy (fun b I => am_ev env (d + 1, 303, 5, [some (.ref q), some (.int v), some (.int (Int32.ofNat b)), some (.int (Int32.ofNat N))], [], am_hp I J E)) I q 0 (fun _ => v) N (fun b hb => by
    refine (bk_303_5 _ _ _ _ _ _ _ _ _).trans ?_
    rw [zle_f N b hb (by omega), h1, h2, h3]
    simp (disch := omega) only [decide_true, decide_false, Bool.not_true, Bool.not_false, am_cont, Option.bind_some, Option.toList_some, Option.toList_none, List.singleton_append, List.nil_append, cond_true, cond_false, Bool.and_self, Bool.true_and, zI_in, zI_nat, am_u_r, ur_ur, ur_at, zd_1, Nat.zero_add])
  refine Eq.trans hz ?_
  refine (bk_303_5 _ _ _ _ _ _ _ _ _).trans ?_
  rw [zle_t N N (Nat.le_refl _) (by omega)]
  rfl
theorem c_begin73 (env : am_E) (d : Nat) (I : Nat → Nat → Int32) (J : Nat → Nat → Int64) (E : Nat → Nat → Nat) : ∃ I', am_ev env (d + 2, 73, 0, [some (.ref 12), some (.ref 5)], [], am_hp I J E) = some (true, none, am_hp I' J E) ∧ (∀ r, r < 12 ∨ 17 < r → I' r = I r) ∧ (∀ j, j < 4 → I' 12 j = 0) ∧ (∀ j, j < 8 → I' 13 j = I 8 j) ∧ (∀ j, j < 6 → I' 14 j = -1 ∧ I' 15 j = 0 ∧ I' 16 j = 0 ∧ I' 17 j = 0) := by
  have hp : stq 12 = true := by decide
  have e7 : am_SR 5 7 = 8 := lb_7
  have k14 : decide (14 < 179) = true ∧ Nat.beq (am_K 14).1 100 = true ∧ (am_K 14).2 = 6 := by decide +kernel
  have k15 : decide (15 < 179) = true ∧ Nat.beq (am_K 15).1 100 = true ∧ (am_K 15).2 = 6 := by decide +kernel
  have k16 : decide (16 < 179) = true ∧ Nat.beq (am_K 16).1 100 = true ∧ (am_K 16).2 = 6 := by decide +kernel
  have k17 : decide (17 < 179) = true ∧ Nat.beq (am_K 17).1 100 = true ∧ (am_K 17).2 = 6 := by decide +kernel
  have f14 := fun v d I => c_fill env d 14 6 v (by omega) k14.1 k14.2.1 k14.2.2 I J E
  have f15 := fun v d I => c_fill env d 15 6 v (by omega) k15.1 k15.2.1 k15.2.2 I J E
  have f16 := fun v d I => c_fill env d 16 6 v (by omega) k16.1 k16.2.1 k16.2.2 I J E
  have f17 := fun v d I => c_fill env d 17 6 v (by omega) k17.1 k17.2.1 k17.2.2 I J E
  have s4 : am_SR 12 4 = 13 := st_4 12 hp
  have s5 : am_SR 12 5 = 14 := st_5 12 hp
  have s6 : am_SR 12 6 = 15 := st_6 12 hp
  have s7 : am_SR 12 7 = 16 := st_7 12 hp
  have s8 : am_SR 12 8 = 17 := st_8 12 hp
  have t0 : decide (12 < 179) = true ∧ Nat.beq (am_K 12).1 7 = true ∧ decide (13 < 179) = true ∧ Nat.beq (am_K 13).1 100 = true ∧ Nat.ble 8 (am_K 13).2 = true := by decide +kernel
  have hev := bk_73_0 env (d + 1) 12 5 I J E
  simp only [t0.1, t0.2.1, t0.2.2.1, t0.2.2.2.1, t0.2.2.2.2, lb_d, lb_b, e7, lb_d8, lb_b8, lb_t8, s4, s5, s6, s7, s8, Bool.and_self, decide_true, decide_false, Bool.not_true, Bool.not_false, am_cont, Option.bind_some, Option.toList_some, Option.toList_none, List.singleton_append, List.nil_append, cond_true, cond_false, f14, bk_73_43, f15, bk_73_51, f16, bk_73_59, f17, bk_73_67, cpy0] at hev
  refine ⟨_, hev, ?_, ?_, ?_, ?_⟩
  · intro r hr
    rw [ur_ne _ _ _ _ (by omega), ur_ne _ _ _ _ (by omega), ur_ne _ _ _ _ (by omega), ur_ne _ _ _ _ (by omega), ur_ne _ _ _ _ (by omega), am_u_ng _ _ _ _ _ (by omega), am_u_ng _ _ _ _ _ (by omega), am_u_ng _ _ _ _ _ (by omega), am_u_ng _ _ _ _ _ (by omega)]
  · intro j hj
    rw [ur_ne _ _ _ _ (by omega), ur_ne _ _ _ _ (by omega), ur_ne _ _ _ _ (by omega), ur_ne _ _ _ _ (by omega), ur_ne _ _ _ _ (by omega), am_u_sg, am_u_sg, am_u_sg, am_u_sg]
    rcases (show j = 0 ∨ j = 1 ∨ j = 2 ∨ j = 3 by omega) with rfl | rfl | rfl | rfl <;> simp
  · intro j hj
    rw [ur_ne _ _ _ _ (by omega), ur_ne _ _ _ _ (by omega), ur_ne _ _ _ _ (by omega), ur_ne _ _ _ _ (by omega), ur_at, if_pos hj, am_u_ng _ _ _ _ _ (by omega), am_u_ng _ _ _ _ _ (by omega), am_u_ng _ _ _ _ _ (by omega), am_u_ng _ _ _ _ _ (by omega)]
  · intro j hj
    have ci := fun m v => cpr_in m 0 6 (fun _ => (v : Int32)) j hj
    simp only [Nat.zero_add] at ci
    refine ⟨?_, ?_, ?_, ?_⟩
    · rw [ur_ne _ _ _ _ (by omega), ur_ne _ _ _ _ (by omega), ur_ne _ _ _ _ (by omega), ur_at, ci]
    · rw [ur_ne _ _ _ _ (by omega), ur_ne _ _ _ _ (by omega), ur_at, ci]
    · rw [ur_ne _ _ _ _ (by omega), ur_at, ci]
    · rw [ur_at, ci]
def soR (r : Nat → Int32) : Nat → Int32 := cpr (cpr (cpr r 34 278 (fun _ => 0)) 38 8 (fun b => r (12 + b))) 46 6 (fun _ => -1)
theorem m_startSo (env : am_E) (d : Nat) (I : Nat → Nat → Int32) (J : Nat → Nat → Int64) (E : Nat → Nat → Nat) : am_ev env (d + 1, 194, 0, [some (.ref 156), none], [], am_hp I J E) = some (true, none, am_hp (am_ur I 158 (soR (I 158))) J E) := by
  refine (bk_194_0 _ _ _ _ _).trans ?_
  have h1 := zcopy (fun b I => am_ev env (d + 1, 194, 3, [some (.ref 156), some (.int (Int32.ofNat (34 + b)))], [], am_hp I J E)) I 158 34 (fun _ => 0) 278 (fun b hb => by
    refine (bk_194_3 _ _ _ _ _ _).trans ?_
    rw [show decide ((312 : Int32) ≤ Int32.ofNat (34 + b)) = false from zle_f 312 _ (by omega) (by omega)]
    simp (disch := omega) only [decide_true, decide_false, Bool.not_true, Bool.not_false, am_cont, Option.bind_some, Option.toList_some, Option.toList_none, List.singleton_append, List.nil_append, cond_true, cond_false, zI_in, zI_nat, am_u_r, ur_ur, ur_at, zd_1]
    rfl)
  refine Eq.trans h1 ?_
  refine (bk_194_3 _ _ _ _ _ _).trans ?_
  rw [show decide ((312 : Int32) ≤ Int32.ofNat (34 + 278)) = true from zle_t 312 _ (by omega) (by omega), cond_true]
  have h2 := zcopy (fun b I => am_ev env (d + 1, 194, 25, [some (.ref 156), some (.int (Int32.ofNat b))], [], am_hp I J E)) (am_ur I 158 (cpr (I 158) 34 278 (fun _ => 0))) 158 38 (fun b => I 158 (12 + b)) 8 (fun b hb => by
    refine (bk_194_25 _ _ _ _ _ _).trans ?_
    rw [show decide ((8 : Int32) ≤ Int32.ofNat b) = false from zle_f 8 b hb (by omega)]
    have hrd : cpr (cpr (I 158) 34 278 (fun _ => 0)) 38 b (fun b => I 158 (12 + b)) (12 + b) = I 158 (12 + b) := by
      rw [cpr_out _ _ _ _ _ (by omega), cpr_out _ _ _ _ _ (by omega)]
    simp (disch := omega) only [decide_true, decide_false, Bool.not_true, Bool.not_false, am_cont, Option.bind_some, Option.toList_some, Option.toList_none, List.singleton_append, List.nil_append, cond_true, cond_false, zc_12, zc_38, zI_in, zI_nat, am_u_r, ur_ur, ur_at, zd_1, hrd])
  refine Eq.trans h2 ?_
  refine (bk_194_25 _ _ _ _ _ _).trans ?_
  rw [show decide ((8 : Int32) ≤ Int32.ofNat 8) = true by decide, cond_true, ur_ur, ur_at]
  have h3 := zcopy (fun b I => am_ev env (d + 1, 194, 57, [some (.ref 156), some (.int (Int32.ofNat b))], [], am_hp I J E)) (am_ur I 158 (cpr (cpr (I 158) 34 278 (fun _ => 0)) 38 8 (fun b => I 158 (12 + b)))) 158 46 (fun _ => -1) 6 (fun b hb => by
    refine (bk_194_57 _ _ _ _ _ _).trans ?_
    rw [show decide ((6 : Int32) ≤ Int32.ofNat b) = false from zle_f 6 b hb (by omega)]
    simp (disch := omega) only [decide_true, decide_false, Bool.not_true, Bool.not_false, am_cont, Option.bind_some, Option.toList_some, Option.toList_none, List.singleton_append, List.nil_append, cond_true, cond_false, zc_46, zI_in, zI_nat, am_u_r, ur_ur, ur_at, zd_1])
  refine Eq.trans h3 ?_
  refine (bk_194_57 _ _ _ _ _ _).trans ?_
  rw [show decide ((6 : Int32) ≤ Int32.ofNat 6) = true by decide, cond_true, ur_ur, ur_at]
  rfl
theorem soR_lo (r : Nat → Int32) (j : Nat) (h : j < 34) : soR r j = r j := by unfold soR; rw [cpr_out _ _ _ _ _ (by omega), cpr_out _ _ _ _ _ (by omega), cpr_out _ _ _ _ _ (by omega)]
theorem soR_in (r : Nat → Int32) (b : Nat) (h : b < 8) : soR r (38 + b) = r (12 + b) := by unfold soR; rw [cpr_out _ _ _ _ _ (by omega), cpr_in _ _ _ _ _ h]
theorem soR_has (r : Nat → Int32) (b : Nat) (h : b < 6) : soR r (46 + b) = -1 := by unfold soR; rw [cpr_in _ _ _ _ _ h]
theorem soR_0 (r : Nat → Int32) (j : Nat) (h : (34 ≤ j ∧ j < 38) ∨ (52 ≤ j ∧ j < 312)) : soR r j = 0 := by
  unfold soR
  rw [cpr_out _ _ _ _ _ (by omega), cpr_out _ _ _ _ _ (by omega)]
  have := cpr_in r 34 278 (fun _ => 0) (j - 34) (by omega)
  rw [show 34 + (j - 34) = j by omega] at this; exact this
theorem IvS_start {r : Nat → Int32} {n k : Nat} (h : IvL r n k) : IvS (soR r) n k := by
  obtain ⟨⟨a1, a2⟩, ⟨b1, b2⟩, ⟨f, c1, c2⟩, d1, e1, g1, i1⟩ := h
  refine ⟨⟨0, by omega, soR_0 r 34 (by omega)⟩, ?_, fun b hb => ?_, fun s hs => ?_⟩
  · rw [soR_0 r 35 (by omega)]; intro j hj; rw [bt_zero] at hj; cases hj
  · obtain ⟨x, hx, e⟩ := e1 b hb
    refine ⟨x, by rw [soR_in r b (by omega)]; exact e, ?_⟩
    have := ocn_le (soR r) b 6
    unfold oc; omega
  · rw [soR_has r s hs, soR_0 r (52 + s) (by omega), soR_0 r (58 + s) (by omega), soR_0 r (64 + s) (by omega)]
    exact ⟨Or.inl ⟨rfl, rfl⟩, ⟨0, by omega, rfl⟩, fun j hj => (by rw [bt_zero] at hj; cases hj), fun _ => ⟨rfl, rfl⟩⟩
theorem m_begin (env : am_E) (d : Nat) (z lim : Nat) (hz : z ≤ 940) (hlim : lim ≤ 1000) (x : Int32) (hx : x = Int32.ofNat lim) (c : Nat → Nat) (I : Nat → Nat → Int32) (J : Nat → Nat → Int64) (E : Nat → Nat → Nat) (h2 : I 156 2 = Int32.ofNat z) (ht : Tm I z c) : ∃ I' J', am_ev env (d + 3, 192, 0, [some (.ref 156), some (.int x)], [], am_hp I J E) = some (true, none, am_hp I' J' E) ∧ MS I' J' z c lim (lx c z lim 0) ∧ I' 156 10 = 0 ∧ I' 156 0 = 0 ∧ I' 156 2 = 0 ∧ GM X0 (fun j => j ≤ 10) I J I' J' := by
  have e0 : am_u (am_u (am_u (am_u (am_u (am_u I 156 0 0) 156 2 0) 156 3 (Int32.ofNat z)) 156 4 x) 156 10 0) 156 5 0 = am_ur I 156 (ru (ru (ru (ru (ru (ru (I 156) 0 0) 2 0) 3 (Int32.ofNat z)) 4 x) 10 0) 5 0) := by
    rw [am_u_r I 156 0 0, am_u_g32, am_u_g32, am_u_g32, am_u_g32, am_u_g32]
  obtain ⟨I', J', k1, k2, k3⟩ := m_nx0 env d z lim 0 hz hlim (Nat.zero_le _) c (am_ur I 156 (ru (ru (ru (ru (ru (ru (I 156) 0 0) 2 0) 3 (Int32.ofNat z)) 4 x) 10 0) 5 0)) J E (by rw [ur_at, ru_ne _ _ _ _ (by omega), ru_ne _ _ _ _ (by omega), ru_ne _ _ _ _ (by omega), ru_eq]) (by rw [ur_at, ru_ne _ _ _ _ (by omega), ru_ne _ _ _ _ (by omega), ru_eq]; exact hx) (by rw [ur_at, ru_eq]; rfl) (Tm_ur ht 156 (by omega) _)
  refine ⟨I', J', ?_, k2, ?_, ?_, ?_, ?_⟩
  · refine (bk_192_0 _ _ _ _ _ _).trans ?_
    have e2 : am_u I 156 0 0 156 2 = Int32.ofNat z := by rw [am_u_sg, if_neg (by omega)]; exact h2
    simp only [decide_true, decide_false, Bool.not_true, Bool.not_false, am_cont, Option.bind_some, Option.toList_some, Option.toList_none, List.singleton_append, List.nil_append, cond_true, cond_false, bk_174_0, e2, bk_192_10]
    rw [e0]
    simp only [decide_true, decide_false, Bool.not_true, Bool.not_false, am_cont, Option.bind_some, Option.toList_some, Option.toList_none, List.singleton_append, List.nil_append, cond_true, cond_false, k1, bk_192_32]
  · rw [k3.2.1 10 (by unfold C5; omega), ur_at, ru_ne _ _ _ _ (by omega), ru_eq]
  · rw [k3.2.1 0 (by unfold C5; omega), ur_at, ru_ne _ _ _ _ (by omega), ru_ne _ _ _ _ (by omega), ru_ne _ _ _ _ (by omega), ru_ne _ _ _ _ (by omega), ru_ne _ _ _ _ (by omega), ru_eq]
  · rw [k3.2.1 2 (by unfold C5; omega), ur_at, ru_ne _ _ _ _ (by omega), ru_ne _ _ _ _ (by omega), ru_ne _ _ _ _ (by omega), ru_ne _ _ _ _ (by omega), ru_eq]
  · refine ⟨fun q a b => by rw [k3.1 q a (fun z => z), ur_ne _ _ _ _ a], fun j hj => ?_, fun q a b => k3.2.2 q a (fun z => z)⟩
    rw [k3.2.1 j (by unfold C5; omega), ur_at, ru_ne _ _ _ _ (by omega), ru_ne _ _ _ _ (by omega), ru_ne _ _ _ _ (by omega), ru_ne _ _ _ _ (by omega), ru_ne _ _ _ _ (by omega), ru_ne _ _ _ _ (by omega)]
def cpg {α : Type} (m : Nat → α) (k : Nat) (src : Nat → α) : Nat → α := fun j => if j < k then src j else m j
theorem zcopyG {α β : Type} (F : Nat → (Nat → Nat → α) → β) (J : Nat → Nat → α) (p : Nat) (src : Nat → α) (N : Nat) (step : ∀ k, k < N → F k (am_ur J p (cpg (J p) k src)) = F (k + 1) (am_ur J p (rug (cpg (J p) k src) k (src k)))) : F 0 J = F N (am_ur J p (cpg (J p) N src)) := by
  have key : ∀ n, n ≤ N → F 0 J = F n (am_ur J p (cpg (J p) n src)) := by
    intro n
    induction n with
    | zero =>
      intro _
      have : cpg (J p) 0 src = J p := by funext j; exact if_neg (Nat.not_lt_zero _)
      rw [this, ur_self]
    | succ n ih =>
      intro hn
      rw [ih (by omega), step n (by omega)]
      have : rug (cpg (J p) n src) n (src n) = cpg (J p) (n + 1) src := by
        funext j
        unfold rug cpg
        by_cases h : j = n
        · rw [if_pos h, if_pos (by omega), h]
        · rw [if_neg h]
          by_cases h2 : j < n
          · rw [if_pos h2, if_pos (by omega)]
          · rw [if_neg h2, if_neg (by omega)]
      rw [this]
  exact key N (Nat.le_refl _)
theorem m_lib78 (env : am_E) (d : Nat) (l : Int32) (I : Nat → Nat → Int32) (J : Nat → Nat → Int64) (E : Nat → Nat → Nat) : am_ev env (d + 2, 205, 78, [some (.ref 156), some (.int l), some (.int 0)], [], am_hp I J E) = some (true, some (.int l), am_hp (am_u (am_ur I 158 (soR (cpr (I 158) 0 34 (I 159)))) 156 24 0) (am_ur J 163 (cpg (J 163) 14 (J 164))) E) := by
  have h1 := zcopy (fun b I => am_ev env (d + 2, 205, 78, [some (.ref 156), some (.int l), some (.int (Int32.ofNat b))], [], am_hp I J E)) I 158 0 (I 159) 34 (fun b hb => by
    refine (bk_205_78 _ _ _ _ _ _ _).trans ?_
    rw [show decide ((34 : Int32) ≤ Int32.ofNat b) = false from zle_f 34 b hb (by omega), ur_ne _ _ _ 159 (by omega)]
    simp (disch := omega) only [decide_true, decide_false, Bool.not_true, Bool.not_false, am_cont, Option.bind_some, Option.toList_some, Option.toList_none, List.singleton_append, List.nil_append, cond_true, cond_false, zI_in, zI_nat, am_u_r, ur_ur, ur_at, zd_1, Nat.zero_add])
  refine Eq.trans h1 ?_
  refine (bk_205_78 _ _ _ _ _ _ _).trans ?_
  rw [show decide ((34 : Int32) ≤ Int32.ofNat 34) = true by decide, cond_true]
  have h2 := zcopyG (fun b J => am_ev env (d + 2, 205, 104, [some (.ref 156), some (.int l), some (.int (Int32.ofNat b))], [], am_hp (am_ur I 158 (cpr (I 158) 0 34 (I 159))) J E)) J 163 (J 164) 14 (fun b hb => by
    refine (bk_205_104 _ _ _ _ _ _ _).trans ?_
    rw [show decide ((14 : Int32) ≤ Int32.ofNat b) = false from zle_f 14 b hb (by omega), ur_ne _ _ _ 164 (by omega)]
    simp (disch := omega) only [decide_true, decide_false, Bool.not_true, Bool.not_false, am_cont, Option.bind_some, Option.toList_some, Option.toList_none, List.singleton_append, List.nil_append, cond_true, cond_false, zI_in, zI_nat, am_u_g, zd_1])
  refine Eq.trans h2 ?_
  refine (bk_205_104 _ _ _ _ _ _ _).trans ?_
  rw [show decide ((14 : Int32) ≤ Int32.ofNat 14) = true by decide, cond_true]
  simp only [decide_true, decide_false, Bool.not_true, Bool.not_false, am_cont, Option.bind_some, Option.toList_some, Option.toList_none, List.singleton_append, List.nil_append, cond_true, cond_false, m_startSo, bk_205_132, ur_ur, ur_at]
