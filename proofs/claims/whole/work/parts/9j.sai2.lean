/-! said: the class's sets of readers -/
theorem k12s : (decide (12 < 179) = true ∧ Nat.beq (am_K 12).1 7 = true ∧ am_SR 12 5 = 14 ∧ am_SR 12 6 = 15 ∧ am_SR 12 7 = 16 ∧ am_SR 12 8 = 17) ∧ (decide (14 < 179) = true ∧ Nat.beq (am_K 14).1 100 = true ∧ (am_K 14).2 = 6) ∧ (decide (15 < 179) = true ∧ Nat.beq (am_K 15).1 100 = true ∧ (am_K 15).2 = 6) ∧ (decide (16 < 179) = true ∧ Nat.beq (am_K 16).1 100 = true ∧ (am_K 16).2 = 6) ∧ (decide (17 < 179) = true ∧ Nat.beq (am_K 17).1 100 = true ∧ (am_K 17).2 = 6) := by decide +kernel
theorem k5s : (decide (5 < 179) = true ∧ Nat.beq (am_K 5).1 2 = true ∧ am_SR 5 10 = 11) ∧ (decide (11 < 179) = true ∧ Nat.beq (am_K 11).1 100 = true ∧ (am_K 11).2 = 6) := by decide +kernel
theorem k18s : (decide (18 < 179) = true ∧ Nat.beq (am_K 18).1 5 = true ∧ am_SR 18 2 = 19 ∧ am_SR 18 3 = 20 ∧ am_SR 18 4 = 21 ∧ am_SR 18 5 = 22) ∧ (decide (19 < 179) = true ∧ Nat.beq (am_K 19).1 105 = true ∧ (am_K 19).2 = 40) ∧ (decide (20 < 179) = true ∧ Nat.beq (am_K 20).1 100 = true ∧ (am_K 20).2 = 40) ∧ (decide (21 < 179) = true ∧ Nat.beq (am_K 21).1 100 = true ∧ (am_K 21).2 = 40) ∧ (decide (22 < 179) = true ∧ Nat.beq (am_K 22).1 100 = true ∧ (am_K 22).2 = 40) := by decide +kernel
theorem rS_v (I : Nat → Nat → Int32) (r : Nat) (hr : r < 6) : rS I 12 (28 + r) = I 11 r ∧ rS I 12 (46 + r) = I 14 r ∧ rS I 12 (52 + r) = I 15 r ∧ rS I 12 (58 + r) = I 16 r ∧ rS I 12 (64 + r) = I 17 r ∧ rS I 12 0 = I 5 0 := by
  refine ⟨?_, ?_, ?_, ?_, ?_, ?_⟩
  · unfold rS; rw [if_neg (by omega), if_neg (by omega), if_neg (by omega), if_neg (by omega), if_pos (by omega), Nat.add_sub_cancel_left]
  · unfold rS; rw [if_neg (by omega), if_neg (by omega), if_neg (by omega), if_neg (by omega), if_neg (by omega), if_neg (by omega), if_neg (by omega), if_pos (by omega), Nat.add_sub_cancel_left]
  · unfold rS; rw [if_neg (by omega), if_neg (by omega), if_neg (by omega), if_neg (by omega), if_neg (by omega), if_neg (by omega), if_neg (by omega), if_neg (by omega), if_pos (by omega), Nat.add_sub_cancel_left]
  · unfold rS; rw [if_neg (by omega), if_neg (by omega), if_neg (by omega), if_neg (by omega), if_neg (by omega), if_neg (by omega), if_neg (by omega), if_neg (by omega), if_neg (by omega), if_pos (by omega), Nat.add_sub_cancel_left]
  · unfold rS; rw [if_neg (by omega), if_neg (by omega), if_neg (by omega), if_neg (by omega), if_neg (by omega), if_neg (by omega), if_neg (by omega), if_neg (by omega), if_neg (by omega), if_neg (by omega), if_pos (by omega), Nat.add_sub_cancel_left]
  · unfold rS; rw [if_pos (by omega)]
theorem c_meas (env : am_E) (d : Nat) (r w : Nat) (hr : r < 6) (h1 : 21 ≤ w) (h2 : w ≤ 24) (I : Nat → Nat → Int32) (J : Nat → Nat → Int64) (E : Nat → Nat → Nat) : am_ev env (d + 1, 69, 0, [some (.retAddr w), some (.ref 5), some (.ref 12), some (.int (Int32.ofNat r))], [], am_hp I J E) = some (true, some (.int (msv (rS I 12) w r)), am_hp I J E) := by
  obtain ⟨v1, v2, v3, v4, v5, v6⟩ := rS_v I r hr
  refine (bk_69_0 _ _ _ _ _ _ _ _ _).trans ?_
  rw [k12s.1.1, k12s.1.2.1, k12s.1.2.2.2.1, k12s.1.2.2.2.2.1, k12s.2.2.1.1, k12s.2.2.1.2.1, k12s.2.2.1.2.2, k12s.2.2.2.1.1, k12s.2.2.2.1.2.1, k12s.2.2.2.1.2.2, k5s.1.1, k5s.1.2.1, k5s.1.2.2, k5s.2.1, k5s.2.2.1, k5s.2.2.2, zI_in r 6 hr (by omega), zI_nat r (by omega)]
  unfold msv
  by_cases h21 : w = 21
  · rw [if_pos h21, decide_eq_true h21, v1]
    rfl
  rw [if_neg h21, decide_eq_false h21]
  by_cases h22 : w = 22
  · rw [if_pos h22, decide_eq_true h22, v3]
    rfl
  rw [if_neg h22, decide_eq_false h22]
  by_cases h23 : w = 23
  · rw [if_pos h23, decide_eq_true h23, v4]
    simp only [decide_true, decide_false, Bool.not_true, Bool.not_false, am_cont, Option.bind_some, Option.toList_some, Option.toList_none, List.singleton_append, List.nil_append, cond_true, cond_false, Bool.and_self, bk_69_45]
  rw [if_neg h23, decide_eq_false h23]
  simp only [decide_true, decide_false, Bool.not_true, Bool.not_false, am_cont, Option.bind_some, Option.toList_some, Option.toList_none, List.singleton_append, List.nil_append, cond_true, cond_false, bk_69_45]
theorem c_149 (env : am_E) (d : Nat) (i s x : Nat) (hi : i < 40) (hs : s ≤ 1000) (r v : Int32) (w : Nat) (I : Nat → Nat → Int32) (J : Nat → Nat → Int64) (E : Nat → Nat → Nat) (h20 : I 20 i = Int32.ofNat s) (h21 : I 21 i = Int32.ofNat x) : am_ev env (d + 1, 68, 149, [some (.ref 18), some (.int (Int32.ofNat i)), some (.ref 5), some (.ref 12), some (.int r), some (.retAddr w), none], [.int v], am_hp I J E) = some (true, some (.int (bi (mcv s v (Int32.ofNat x)))), am_hp I J E) := by
  refine (bk_68_149 _ _ _ _ _ _ _ _ _ _ _ _).trans ?_
  rw [k18s.1.1, k18s.1.2.1, k18s.1.2.2.2.1, k18s.1.2.2.2.2.1, k18s.2.2.1.1, k18s.2.2.1.2.1, k18s.2.2.1.2.2, k18s.2.2.2.1.1, k18s.2.2.2.1.2.1, k18s.2.2.2.1.2.2, zI_in i 40 hi (by omega), zI_nat i (by omega), h20, h21, show decide (Int32.ofNat s = (60 : Int32)) = decide (s = 60) from zI_deq s 60 (by omega) (by omega), show decide (Int32.ofNat s = (61 : Int32)) = decide (s = 61) from zI_deq s 61 (by omega) (by omega)]
  unfold mcv
  by_cases h1 : s = 60
  · rw [if_pos h1, decide_eq_true h1]
    simp only [decide_true, decide_false, Bool.not_true, Bool.not_false, am_cont, Option.bind_some, Option.toList_some, Option.toList_none, List.singleton_append, List.nil_append, cond_true, cond_false, Bool.and_self, bk_68_178]
    cases decide (Int32.ofNat x ≤ v) <;> rfl
  rw [if_neg h1, decide_eq_false h1]
  by_cases h2 : s = 61
  · rw [if_pos h2, decide_eq_true h2]
    simp only [decide_true, decide_false, Bool.not_true, Bool.not_false, am_cont, Option.bind_some, Option.toList_some, Option.toList_none, List.singleton_append, List.nil_append, cond_true, cond_false, Bool.and_self, bk_68_225]
    cases decide (v = Int32.ofNat x) <;> rfl
  rw [if_neg h2, decide_eq_false h2]
  simp only [decide_true, decide_false, Bool.not_true, Bool.not_false, am_cont, Option.bind_some, Option.toList_some, Option.toList_none, List.singleton_append, List.nil_append, cond_true, cond_false, Bool.and_self, bk_68_225]
  cases decide (v ≤ Int32.ofNat x) <;> rfl
theorem c_leafv (env : am_E) (d : Nat) (n i r : Nat) (hn : n ≤ 8) (hi : i < 40) (hr : r < 6) (w : Nat × Nat × Nat) (hw : lfk n w) (I : Nat → Nat → Int32) (J : Nat → Nat → Int64) (E : Nat → Nat → Nat) (h19 : E 19 i = w.1) (h20 : I 20 i = Int32.ofNat w.2.2) (h21 : I 21 i = Int32.ofNat w.2.1) : am_ev env (d + 2, 68, 0, [some (.ref 18), some (.int (Int32.ofNat i)), some (.ref 5), some (.ref 12), some (.int (Int32.ofNat r)), none, none], [], am_hp I J E) = some (true, some (.int (bi (lfv (rS I 12) w r))), am_hp I J E) := by
  obtain ⟨w1, w2, w3, w4⟩ := hw
  obtain ⟨v1, v2, v3, v4, v5, v6⟩ := rS_v I r hr
  have start := bk_68_0 env (d + 1) 18 (Int32.ofNat i) 5 12 (Int32.ofNat r) I J E
  rw [k18s.1.1, k18s.1.2.1, k18s.1.2.2.1, k18s.1.2.2.2.2.1, k18s.2.1.1, k18s.2.1.2.1, k18s.2.1.2.2, k18s.2.2.2.1.1, k18s.2.2.2.1.2.1, k18s.2.2.2.1.2.2, k12s.1.1, k12s.1.2.1, k12s.1.2.2.1, k12s.1.2.2.2.2.1, k12s.1.2.2.2.2.2, k12s.2.1.1, k12s.2.1.2.1, k12s.2.1.2.2, k12s.2.2.2.1.1, k12s.2.2.2.1.2.1, k12s.2.2.2.1.2.2, k12s.2.2.2.2.1, k12s.2.2.2.2.2.1, k12s.2.2.2.2.2.2, k5s.1.1, k5s.1.2.1, zI_in i 40 hi (by omega), zI_nat i (by omega), zI_in r 6 hr (by omega), zI_nat r (by omega), h19, h21] at start
  unfold lfv
  rw [v2, v4, v5, v6]
  by_cases h16 : w.1 = 16
  · rw [if_pos h16]
    rw [decide_eq_true h16] at start
    refine start.trans ?_
    simp only [decide_true, decide_false, Bool.not_true, Bool.not_false, am_cont, Option.bind_some, Option.toList_some, Option.toList_none, List.singleton_append, List.nil_append, cond_true, cond_false, Bool.and_self, bk_68_32]
    cases decide (I 14 r = -1) <;> rfl
  rw [if_neg h16]
  rw [decide_eq_false h16] at start
  by_cases h17 : w.1 = 17
  · rw [if_pos h17]
    rw [decide_eq_true h17] at start
    refine start.trans ?_
    simp only [decide_true, decide_false, Bool.not_true, Bool.not_false, am_cont, Option.bind_some, Option.toList_some, Option.toList_none, List.singleton_append, List.nil_append, cond_true, cond_false, Bool.and_self, bk_68_56]
    cases decide (I 16 r ≤ 0) <;> rfl
  rw [if_neg h17]
  rw [decide_eq_false h17] at start
  by_cases h18 : w.1 = 18
  · rw [if_pos h18]
    rw [decide_eq_true h18] at start
    refine start.trans ?_
    simp only [decide_true, decide_false, Bool.not_true, Bool.not_false, am_cont, Option.bind_some, Option.toList_some, Option.toList_none, List.singleton_append, List.nil_append, cond_true, cond_false, Bool.and_self, bk_17_0, k5s.1.1, k5s.1.2.1, bk_68_76, bk_68_84]
    cases decide (I 17 r = ((1 : Int32) <<< (I 5 0 &&& 31)) - 1) <;> rfl
  rw [if_neg h18]
  rw [decide_eq_false h18] at start
  by_cases h19 : w.1 = 19
  · rw [if_pos h19]
    rw [decide_eq_true h19] at start
    refine start.trans ?_
    simp only [decide_true, decide_false, Bool.not_true, Bool.not_false, am_cont, Option.bind_some, Option.toList_some, Option.toList_none, List.singleton_append, List.nil_append, cond_true, cond_false, Bool.and_self, bk_68_114]
    cases decide (I 14 r = Int32.ofNat w.2.1) <;> rfl
  rw [if_neg h19]
  rw [decide_eq_false h19] at start
  by_cases h20' : w.1 = 20
  · rw [if_pos h20']
    rw [decide_eq_true h20'] at start
    refine start.trans ?_
    have := w3 (by omega) (by omega)
    simp only [decide_true, decide_false, Bool.not_true, Bool.not_false, am_cont, Option.bind_some, Option.toList_some, Option.toList_none, List.singleton_append, List.nil_append, cond_true, cond_false, Bool.and_self, c_isIn env _ (I 17 r) w.2.1 (by omega), bk_68_139, bi_and]
  rw [if_neg h20']
  rw [decide_eq_false h20'] at start
  have hs := (w4 (by omega)).2
  refine start.trans ?_
  simp only [decide_true, decide_false, Bool.not_true, Bool.not_false, am_cont, Option.bind_some, Option.toList_some, Option.toList_none, List.singleton_append, List.nil_append, cond_true, cond_false, Bool.and_self, c_meas env _ r w.1 hr (by omega) w2]
  exact c_149 _ _ i w.2.2 w.2.1 hi (by omega) _ _ _ _ _ _ h20 h21
/-- a set of readers as a number -/
def BS (k : Nat) (g : Nat → Bool) (x : Nat) : Prop := x < 2 ^ k ∧ ∀ r, r < k → x.testBit r = g r
theorem z_or64 : ∀ x y : Fin 64, Int32.ofNat x.1 ||| Int32.ofNat y.1 = Int32.ofNat (x.1 ||| y.1) ∧ Int32.ofNat x.1 &&& Int32.ofNat y.1 = Int32.ofNat (x.1 &&& y.1) ∧ Int32.ofNat x.1 ^^^ Int32.ofNat y.1 = Int32.ofNat (x.1 ^^^ y.1) := by decide +kernel
theorem z_sh6 : ∀ r : Fin 6, (1 : Int32) <<< (Int32.ofNat r.1 &&& 31) = Int32.ofNat (2 ^ r.1) := by decide +kernel
theorem p2_64 (k : Nat) (hk : k ≤ 6) : 2 ^ k ≤ 64 := Nat.pow_le_pow_right (by omega) hk
/-- the set as it grows -/
def bsN (g : Nat → Bool) : Nat → Nat
  | 0 => 0
  | k + 1 => if g k = true then bsN g k ||| 2 ^ k else bsN g k
theorem bsN_P (g : Nat → Bool) : ∀ k, BS k g (bsN g k) := by
  intro k
  induction k with
  | zero => exact ⟨by show 0 < 1; omega, fun r hr => absurd hr (Nat.not_lt_zero _)⟩
  | succ k ih =>
    obtain ⟨a1, a2⟩ := ih
    have a3 : bsN g k < 2 ^ (k + 1) := Nat.lt_of_lt_of_le a1 (Nat.pow_le_pow_right (by omega) (by omega))
    have hk : (bsN g k).testBit k = false := Nat.testBit_lt_two_pow a1
    unfold bsN
    by_cases hg : g k = true
    · rw [if_pos hg]
      refine ⟨Nat.or_lt_two_pow a3 (Nat.pow_lt_pow_right (by omega) (by omega)), fun r hr => ?_⟩
      rw [Nat.testBit_or, Nat.testBit_two_pow]
      by_cases e : r = k
      · rw [e, hg, decide_eq_true rfl, Bool.or_true]
      · rw [decide_eq_false (fun q => e q.symm), Bool.or_false]; exact a2 r (by omega)
    · rw [if_neg hg]
      refine ⟨a3, fun r hr => ?_⟩
      by_cases e : r = k
      · rw [e, hk, Bool.eq_false_iff.mpr hg]
      · exact a2 r (by omega)
theorem c_mask (env : am_E) (d : Nat) (n i k : Nat) (hn : n ≤ 8) (hi : i < 40) (hk : k ≤ 6) (w : Nat × Nat × Nat) (hw : lfk n w) (I : Nat → Nat → Int32) (J : Nat → Nat → Int64) (E : Nat → Nat → Nat) (h2 : I 5 2 = Int32.ofNat k) (h19 : E 19 i = w.1) (h20 : I 20 i = Int32.ofNat w.2.2) (h21 : I 21 i = Int32.ofNat w.2.1) : am_ev env (d + 3, 67, 0, [some (.ref 18), some (.int (Int32.ofNat i)), some (.ref 5), some (.ref 12), none, none], [], am_hp I J E) = some (true, some (.int (Int32.ofNat (bsN (lfv (rS I 12) w) k))), am_hp I J E) := by
  have loop : ∀ r, r ≤ k → am_ev env (d + 3, 67, 6, [some (.ref 18), some (.int (Int32.ofNat i)), some (.ref 5), some (.ref 12), some (.int 0), some (.int 0)], [], am_hp I J E) = am_ev env (d + 3, 67, 6, [some (.ref 18), some (.int (Int32.ofNat i)), some (.ref 5), some (.ref 12), some (.int (Int32.ofNat (bsN (lfv (rS I 12) w) r))), some (.int (Int32.ofNat r))], [], am_hp I J E) := by
    intro r
    induction r with
    | zero => intro _; rfl
    | succ r ih =>
      intro hr
      refine (ih (by omega)).trans ((bk_67_6 _ _ _ _ _ _ _ _ _ _ _).trans ?_)
      have e68 := c_leafv env d n i r hn hi (by omega) w hw I J E h19 h20 h21
      rw [k5s.1.1, k5s.1.2.1, k18s.1.1, k18s.1.2.1, h2, show decide (Int32.ofNat k ≤ Int32.ofNat r) = false from zle_f k r (by omega) (by omega)]
      simp only [decide_true, decide_false, Bool.not_true, Bool.not_false, am_cont, Option.bind_some, Option.toList_some, Option.toList_none, List.singleton_append, List.nil_append, cond_true, cond_false, Bool.and_self, e68, bk_67_24, bi_eq0]
      have hb := (bsN_P (lfv (rS I 12) w) r).1
      have hb2 := p2_64 r (by omega)
      have hlt : 2 ^ r < 64 := Nat.lt_of_lt_of_le (Nat.pow_lt_pow_right (by omega) (by omega : r < r + 1)) (p2_64 (r + 1) (by omega))
      show _ = am_ev env (d + 3, 67, 6, [some (.ref 18), some (.int (Int32.ofNat i)), some (.ref 5), some (.ref 12), some (.int (Int32.ofNat (if lfv (rS I 12) w r = true then bsN (lfv (rS I 12) w) r ||| 2 ^ r else bsN (lfv (rS I 12) w) r))), some (.int (Int32.ofNat (r + 1)))], [], am_hp I J E)
      cases lfv (rS I 12) w r
      · simp only [decide_true, decide_false, Bool.not_true, Bool.not_false, am_cont, Option.bind_some, Option.toList_some, Option.toList_none, List.singleton_append, List.nil_append, cond_true, cond_false, bk_67_36, zd_1]; rfl
      · rw [z_sh6 ⟨r, by omega⟩, (z_or64 ⟨bsN (lfv (rS I 12) w) r, by omega⟩ ⟨2 ^ r, hlt⟩).1]
        simp only [decide_true, decide_false, Bool.not_true, Bool.not_false, am_cont, Option.bind_some, Option.toList_some, Option.toList_none, List.singleton_append, List.nil_append, cond_true, cond_false, bk_67_36, zd_1]; rfl
  refine (bk_67_0 _ _ _ _ _ _ _ _ _).trans ?_
  refine (loop k (Nat.le_refl _)).trans ((bk_67_6 _ _ _ _ _ _ _ _ _ _ _).trans ?_)
  rw [k5s.1.1, k5s.1.2.1, h2, zle_t k k (Nat.le_refl _) (by omega)]
  rfl
