/-! the class's tokens -/
theorem nq {a b : Nat} (h : Nat.beq a b = false) : a ≠ b := Nat.ne_of_beq_eq_false h
def rug {α : Type} (m : Nat → α) (k : Nat) (x : α) : Nat → α := fun j => if j = k then x else m j
theorem rug_eq {α : Type} (m : Nat → α) (k : Nat) (x : α) : rug m k x k = x := if_pos rfl
theorem rug_ne {α : Type} (m : Nat → α) (k : Nat) (x : α) (j : Nat) (h : j ≠ k) : rug m k x j = m j := if_neg h
theorem am_u_g {α : Type} (f : Nat → Nat → α) (p : Nat) (r : Nat → α) (k : Nat) (x : α) : am_u (am_ur f p r) p k x = am_ur f p (rug r k x) := by
  funext q j
  unfold am_u am_ur rug
  by_cases h : q = p
  · rw [if_pos h, if_pos h, if_pos h]
  · rw [if_neg h, if_neg h, if_neg h]
theorem am_u_g32 (f : Nat → Nat → Int32) (p : Nat) (r : Nat → Int32) (k : Nat) (x : Int32) : am_u (am_ur f p r) p k x = am_ur f p (ru r k x) := am_u_g f p r k x
theorem c_isBlank (env : am_E) (d : Nat) (x : Nat) (hx : x < 256) (I : Nat → Nat → Int32) (J : Nat → Nat → Int64) (E : Nat → Nat → Nat) : am_ev env (d + 1, 108, 0, [some (.int (Int32.ofNat x))], [], am_hp I J E) = some (true, some (.int (bi (isb x))), am_hp I J E) := by
  refine (bk_108_0 _ _ _ _ _ _).trans ?_
  rw [show decide (Int32.ofNat x = (32 : Int32)) = decide (x = 32) from zI_deq x 32 (by omega) (by omega), show decide (Int32.ofNat x = (10 : Int32)) = decide (x = 10) from zI_deq x 10 (by omega) (by omega)]
  unfold isb
  cases decide (x = 32) <;> cases decide (x = 10) <;> (simp only [decide_true, decide_false, Bool.not_true, Bool.not_false, am_cont, Option.bind_some, Option.toList_some, Option.toList_none, List.singleton_append, List.nil_append, cond_true, cond_false, bk_108_12, bk_108_17]; try rfl)
theorem c_isLetter (env : am_E) (d : Nat) (x : Nat) (hx : x < 256) (I : Nat → Nat → Int32) (J : Nat → Nat → Int64) (E : Nat → Nat → Nat) : am_ev env (d + 1, 109, 0, [some (.int (Int32.ofNat x))], [], am_hp I J E) = some (true, some (.int (bi (isl x))), am_hp I J E) := by
  refine (bk_109_0 _ _ _ _ _ _).trans ?_
  rw [show decide (Int32.ofNat x < (97 : Int32)) = decide (x < 97) from zlt_d x 97 (by omega) (by omega), show decide ((122 : Int32) < Int32.ofNat x) = decide (122 < x) from zlt_d 122 x (by omega) (by omega)]
  unfold isl
  by_cases h1 : x < 97
  · rw [decide_eq_true h1, decide_eq_false (by omega : ¬ 97 ≤ x)]; simp only [decide_true, decide_false, Bool.not_true, Bool.not_false, am_cont, Option.bind_some, Option.toList_some, Option.toList_none, List.singleton_append, List.nil_append, cond_true, cond_false, bk_109_16, bk_109_17]; try rfl
  · rw [decide_eq_false h1, decide_eq_true (by omega : 97 ≤ x)]
    by_cases h2 : 122 < x
    · rw [decide_eq_true h2, decide_eq_false (by omega : ¬ x ≤ 122)]; simp only [decide_true, decide_false, Bool.not_true, Bool.not_false, am_cont, Option.bind_some, Option.toList_some, Option.toList_none, List.singleton_append, List.nil_append, cond_true, cond_false, bk_109_16, bk_109_17]; try rfl
    · rw [decide_eq_false h2, decide_eq_true (by omega : x ≤ 122)]; simp only [decide_true, decide_false, Bool.not_true, Bool.not_false, am_cont, Option.bind_some, Option.toList_some, Option.toList_none, List.singleton_append, List.nil_append, cond_true, cond_false, bk_109_16, bk_109_17]; try rfl
theorem c_isDigit (env : am_E) (d : Nat) (x : Nat) (hx : x < 256) (I : Nat → Nat → Int32) (J : Nat → Nat → Int64) (E : Nat → Nat → Nat) : am_ev env (d + 1, 110, 0, [some (.int (Int32.ofNat x))], [], am_hp I J E) = some (true, some (.int (bi (isd x))), am_hp I J E) := by
  refine (bk_110_0 _ _ _ _ _ _).trans ?_
  rw [show decide (Int32.ofNat x < (48 : Int32)) = decide (x < 48) from zlt_d x 48 (by omega) (by omega), show decide ((57 : Int32) < Int32.ofNat x) = decide (57 < x) from zlt_d 57 x (by omega) (by omega)]
  unfold isd
  by_cases h1 : x < 48
  · rw [decide_eq_true h1, decide_eq_false (by omega : ¬ 48 ≤ x)]; simp only [decide_true, decide_false, Bool.not_true, Bool.not_false, am_cont, Option.bind_some, Option.toList_some, Option.toList_none, List.singleton_append, List.nil_append, cond_true, cond_false, bk_110_16, bk_110_17]; try rfl
  · rw [decide_eq_false h1, decide_eq_true (by omega : 48 ≤ x)]
    by_cases h2 : 57 < x
    · rw [decide_eq_true h2, decide_eq_false (by omega : ¬ x ≤ 57)]; simp only [decide_true, decide_false, Bool.not_true, Bool.not_false, am_cont, Option.bind_some, Option.toList_some, Option.toList_none, List.singleton_append, List.nil_append, cond_true, cond_false, bk_110_16, bk_110_17]; try rfl
    · rw [decide_eq_false h2, decide_eq_true (by omega : x ≤ 57)]; simp only [decide_true, decide_false, Bool.not_true, Bool.not_false, am_cont, Option.bind_some, Option.toList_some, Option.toList_none, List.singleton_append, List.nil_append, cond_true, cond_false, bk_110_16, bk_110_17]; try rfl
theorem c_isSign (env : am_E) (d : Nat) (x : Nat) (hx : x < 256) (I : Nat → Nat → Int32) (J : Nat → Nat → Int64) (E : Nat → Nat → Nat) : am_ev env (d + 1, 111, 0, [some (.int (Int32.ofNat x))], [], am_hp I J E) = some (true, some (.int (bi (iss x))), am_hp I J E) := by
  refine (bk_111_0 _ _ _ _ _ _).trans ?_
  rw [show decide (Int32.ofNat x = (59 : Int32)) = decide (x = 59) from zI_deq x 59 (by omega) (by omega), show decide (Int32.ofNat x = (60 : Int32)) = decide (x = 60) from zI_deq x 60 (by omega) (by omega), show decide (Int32.ofNat x = (61 : Int32)) = decide (x = 61) from zI_deq x 61 (by omega) (by omega), show decide (Int32.ofNat x = (62 : Int32)) = decide (x = 62) from zI_deq x 62 (by omega) (by omega), show decide (Int32.ofNat x = (40 : Int32)) = decide (x = 40) from zI_deq x 40 (by omega) (by omega), show decide (Int32.ofNat x = (41 : Int32)) = decide (x = 41) from zI_deq x 41 (by omega) (by omega)]
  unfold iss
  simp only [bk_111_36, bk_111_41]
  cases decide (x = 59) <;> cases decide (x = 60) <;> cases decide (x = 61) <;> cases decide (x = 62) <;> cases decide (x = 40) <;> cases decide (x = 41) <;> rfl
theorem Tp_ur {I : Nat → Nat → Int32} {z : Nat} {c : Nat → Nat} (ht : Tp I z c) (p : Nat) (hp : p ≠ 2) (hp3 : p ≠ 3) (r : Nat → Int32) : Tp (am_ur I p r) z c := ⟨by rw [ur_ne _ _ _ _ (Ne.symm hp)]; exact ht.1, fun j hj => by rw [ur_ne _ _ _ _ (Ne.symm hp3)]; exact ht.2 j hj⟩
theorem c_skip (env : am_E) (d : Nat) (z : Nat) (hz : z ≤ 940) (c : Nat → Nat) (I : Nat → Nat → Int32) (J : Nat → Nat → Int64) (E : Nat → Nat → Nat) (ht : Tp I z c) : ∀ f p r, p + f = z → r 9 = Int32.ofNat p → am_ev env (d + 2, 103, 0, [some (.ref 1), none], [], am_hp (am_ur I 1 r) J E) = am_ev env (d + 2, 103, 44, [some (.ref 1), none], [], am_hp (am_ur I 1 (ru r 9 (Int32.ofNat (skp c f p)))) J E) := by
  intro f
  induction f with
  | zero =>
    intro p r hp h9
    refine (bk_103_0 _ _ _ _ _).trans ?_
    rw [ur_at, ur_ne _ _ _ _ (by omega), ht.1, h9, zle_t z p (by omega) (by omega)]
    show am_ev env (d + 2, 103, 44, [some (.ref 1), none], [], am_hp (am_ur I 1 r) J E) = am_ev env (d + 2, 103, 44, [some (.ref 1), none], [], am_hp (am_ur I 1 (ru r 9 (Int32.ofNat p))) J E)
    rw [← h9, ru_self]
  | succ f ih =>
    intro p r hp h9
    have hcp := (ht.2 p (by omega)).2
    have hat := fun d => c_tat env d z p c hz (by omega) (am_ur I 1 r) J E (Tp_ur ht 1 (by omega) (by omega) r)
    refine (bk_103_0 _ _ _ _ _).trans ?_
    rw [ur_at, ur_ne _ _ _ _ (by omega), ht.1, h9, zle_f z p (by omega) (by omega)]
    simp only [decide_true, decide_false, Bool.not_true, Bool.not_false, am_cont, Option.bind_some, Option.toList_some, Option.toList_none, List.singleton_append, List.nil_append, cond_true, cond_false, hat, bk_103_25, c_isBlank env _ (c p) hcp, bk_103_28, bi_eq0]
    show _ = am_ev env (d + 2, 103, 44, [some (.ref 1), none], [], am_hp (am_ur I 1 (ru r 9 (Int32.ofNat (bif isb (c p) then skp c f (p + 1) else p)))) J E)
    cases isb (c p)
    · simp only [decide_true, decide_false, Bool.not_true, Bool.not_false, am_cont, Option.bind_some, Option.toList_some, Option.toList_none, List.singleton_append, List.nil_append, cond_true, cond_false]
      rw [← h9, ru_self]
    · simp only [decide_true, decide_false, Bool.not_true, Bool.not_false, am_cont, Option.bind_some, Option.toList_some, Option.toList_none, List.singleton_append, List.nil_append, cond_true, cond_false]
      rw [am_u_g32, ur_at, h9, zd_1, ih (p + 1) (ru r 9 (Int32.ofNat (p + 1))) (by omega) (ru_eq _ _ _), ru_ru]
theorem shl5 (v y : Nat) (hv : v < 1125899906842624) (hy : y < 32) : (Int64.ofNat v <<< ((5 : Int32).toInt64 &&& 63)) ||| Int64.ofNat y = Int64.ofNat (v * 32 + y) := by
  have h5 : (((5 : Int32).toInt64 &&& 63).toBitVec.smod 64).toNat = 5 := by decide +kernel
  apply Int64.toBitVec_inj.mp
  rw [Int64.toBitVec_or, Int64.toBitVec_shiftLeft]
  apply BitVec.eq_of_toNat_eq
  rw [BitVec.toNat_or, BitVec.shiftLeft_eq', h5, BitVec.toNat_shiftLeft]
  show ((v % 2 ^ 64) <<< 5) % 2 ^ 64 ||| (y % 2 ^ 64) = (v * 32 + y) % 2 ^ 64
  rw [Nat.mod_eq_of_lt (by omega : v < 2 ^ 64), Nat.mod_eq_of_lt (by omega : y < 2 ^ 64), Nat.mod_eq_of_lt (by omega : v * 32 + y < 2 ^ 64), Nat.shiftLeft_eq, Nat.mod_eq_of_lt (by omega : v * 2 ^ 5 < 2 ^ 64)]
  have := Nat.shiftLeft_add_eq_or_of_lt (i := 5) (b := y) (by omega) v
  rw [Nat.shiftLeft_eq] at this
  rw [← this]
theorem c_withLetter (env : am_E) (d : Nat) (v x : Nat) (hv : v < 1125899906842624) (hx : isl x = true) (I : Nat → Nat → Int32) (J : Nat → Nat → Int64) (E : Nat → Nat → Nat) : am_ev env (d + 1, 112, 0, [some (.long (Int64.ofNat v)), none, some (.int (Int32.ofNat x))], [], am_hp I J E) = some (true, some (.long (Int64.ofNat (v * 32 + (x - 96)))), am_hp I J E) := by
  have hx := (isl_iff x).mp hx
  refine (bk_112_0 _ _ _ _ _ _ _).trans ?_
  have e : Int32.toInt64 ((Int32.ofNat x - 97) + 1) = Int64.ofNat (x - 96) := by
    rw [show Int32.ofNat x - 97 = Int32.ofNat (x - 97) from zI_sub x 97 (by omega), zd_1, show x - 97 + 1 = x - 96 by omega]
    exact Int32.toInt64_ofNat' (by rw [Int32.toInt_maxValue]; omega)
  rw [e, shl5 v (x - 96) hv (by omega)]
/-- how the class stands in a run of letters and digits -/
def RI (c : Nat → Nat) (a i : Nat) (r : Nat → Int32) (s : Nat → Int64) (r0 : Nat → Int32) : Prop := r 9 = Int32.ofNat (a + i) ∧ (ndg c a i = 0 → nlt c a i ≤ 7 → s 2 = Int64.ofNat (pk 32 (ltr c a i))) ∧ (nlt c a i = 0 → ndg c a i ≤ 3 → r 5 = Int32.ofNat (nmv c a i)) ∧ ∀ j, j ≠ 5 → j ≠ 9 → r j = r0 j
theorem nmv_le (c : Nat → Nat) (a i : Nat) (hi : i ≤ 3) (hc : ∀ j, j < i → c (a + j) < 256) : nmv c a i ≤ 100000 := by
  rcases (show i = 0 ∨ i = 1 ∨ i = 2 ∨ i = 3 by omega) with rfl | rfl | rfl | rfl
  · show 0 ≤ 100000; omega
  · have h0 := hc 0 (by omega); show 0 * 10 + (c (a + 0) - 48) ≤ 100000; omega
  · have h0 := hc 0 (by omega); have h1 := hc 1 (by omega); show (0 * 10 + (c (a + 0) - 48)) * 10 + (c (a + 1) - 48) ≤ 100000; omega
  · have h0 := hc 0 (by omega); have h1 := hc 1 (by omega); have h2 := hc 2 (by omega); show ((0 * 10 + (c (a + 0) - 48)) * 10 + (c (a + 1) - 48)) * 10 + (c (a + 2) - 48) ≤ 100000; omega
theorem pk_small (c : Nat → Nat) (a i : Nat) (h0 : ndg c a i = 0) (hi : i ≤ 7) : pk 32 (ltr c a i) < 1125899906842624 := by
  have h1 := wpk_lt 32 (by omega) _ (ltr_g c a i (nd0 c a i h0))
  rw [ltr_len] at h1
  have h3 : 32 ^ i ≤ 32 ^ 7 := Nat.pow_le_pow_right (by omega) hi
  have h4 : (32 : Nat) ^ 7 = 34359738368 := by decide
  omega
theorem c_run (env : am_E) (d : Nat) (z a : Nat) (hz : z ≤ 940) (c : Nat → Nat) (I : Nat → Nat → Int32) (J : Nat → Nat → Int64) (E : Nat → Nat → Nat) (ht : Tp I z c) (r0 : Nat → Int32) : ∀ f i r s, a + i + f = z → RI c a i r s r0 → ∃ r' s', am_ev env (d + 2, 104, 14, [some (.ref 1), some (.int (Int32.ofNat (nlt c a i))), some (.int (Int32.ofNat (ndg c a i)))], [], am_hp (am_ur I 1 r) (am_ur J 1 s) E) = am_ev env (d + 2, 104, 149, [some (.ref 1), some (.int (Int32.ofNat (nlt c a (i + rnl c f (a + i))))), some (.int (Int32.ofNat (ndg c a (i + rnl c f (a + i)))))], [], am_hp (am_ur I 1 r') (am_ur J 1 s') E) ∧ RI c a (i + rnl c f (a + i)) r' s' r0 := by
  intro f
  induction f with
  | zero =>
    intro i r s hi hI
    refine ⟨r, s, ?_, hI⟩
    refine (bk_104_14 _ _ _ _ _ _ _).trans ?_
    rw [ur_at, ur_ne _ _ _ _ (by omega), ht.1, hI.1, zle_t z (a + i) (by omega) (by omega)]
    rfl
  | succ f ih =>
    intro i r s hi hI
    have hcp := (ht.2 (a + i) (by omega)).2
    have hat := fun d r s E => c_tat env d z (a + i) c hz (by omega) (am_ur I 1 r) (am_ur J 1 s) E (Tp_ur ht 1 (by omega) (by omega) r)
    have hnn := nlt_ndg c a i
    have hrn : rnl c (f + 1) (a + i) = (bif isa (c (a + i)) then rnl c f (a + i + 1) + 1 else 0) := rfl
    have hn1 : nlt c a (i + 1) = nlt c a i + (if isl (c (a + i)) then 1 else 0) := rfl
    have hd1 : ndg c a (i + 1) = ndg c a i + (if isl (c (a + i)) then 0 else 1) := rfl
    obtain ⟨i1, i2, i3, i4⟩ := hI
    have head : ∀ x1 x2, am_ev env (d + 2, 104, 14, [some (.ref 1), some (.int x1), some (.int x2)], [], am_hp (am_ur I 1 r) (am_ur J 1 s) E) = (bif isa (c (a + i)) then (bif isl (c (a + i)) then am_cont env (d + 1, 112, 0, [some (.long (s 2)), none, some (.int (Int32.ofNat (c (a + i))))], [], am_hp (am_ur I 1 r) (am_ur J 1 s) E) (d + 2) 104 98 [some (.ref 1), some (.int x1), some (.int x2)] [.ref 1] else am_ev env (d + 2, 104, 136, [some (.ref 1), some (.int x1), some (.int (x2 + 1))], [], am_hp (am_ur I 1 (ru r 5 ((r 5 * 10 + Int32.ofNat (c (a + i))) - 48))) (am_ur J 1 s) E)) else am_ev env (d + 2, 104, 149, [some (.ref 1), some (.int x1), some (.int x2)], [], am_hp (am_ur I 1 r) (am_ur J 1 s) E)) := by
      intro x1 x2
      refine (bk_104_14 _ _ _ _ _ _ _).trans ?_
      rw [ur_at, ur_ne _ _ _ _ (by omega), ht.1, i1, zle_f z (a + i) (by omega) (by omega)]
      unfold isa
      simp only [decide_true, decide_false, Bool.not_true, Bool.not_false, am_cont, Option.bind_some, Option.toList_some, Option.toList_none, List.singleton_append, List.nil_append, cond_true, cond_false, hat, bk_104_39, c_isLetter env _ (c (a + i)) hcp, bk_104_42, bi_eq0, Bool.not_not]
      cases hl : isl (c (a + i))
      · simp only [decide_true, decide_false, Bool.not_true, Bool.not_false, am_cont, Option.bind_some, Option.toList_some, Option.toList_none, List.singleton_append, List.nil_append, cond_true, cond_false, ur_at, i1, hat, bk_104_56, c_isDigit env _ (c (a + i)) hcp, bk_104_59, bi_eq0, Bool.false_or]
        cases hd : isd (c (a + i))
        · simp only [decide_true, decide_false, Bool.not_true, Bool.not_false, am_cont, Option.bind_some, Option.toList_some, Option.toList_none, List.singleton_append, List.nil_append, cond_true, cond_false]
        · simp only [decide_true, decide_false, Bool.not_true, Bool.not_false, am_cont, Option.bind_some, Option.toList_some, Option.toList_none, List.singleton_append, List.nil_append, cond_true, cond_false, bk_104_62, ur_at, i1, hat, bk_104_73, c_isLetter env _ (c (a + i)) hcp, hl, bk_104_76, bi_eq0, bk_104_126, am_u_g32]
      · simp only [decide_true, decide_false, Bool.not_true, Bool.not_false, am_cont, Option.bind_some, Option.toList_some, Option.toList_none, List.singleton_append, List.nil_append, cond_true, cond_false, bk_104_62, ur_at, i1, hat, bk_104_73, c_isLetter env _ (c (a + i)) hcp, hl, bk_104_76, bi_eq0, bk_104_95, Bool.true_or]
    cases ha : isa (c (a + i)) with
    | false =>
      rw [hrn, ha]
      refine ⟨r, s, ?_, ⟨i1, i2, i3, i4⟩⟩
      rw [head, ha]
      rfl
    | true =>
      rw [hrn, ha]
      have goal : ∀ r1 s1, RI c a (i + 1) r1 s1 r0 → ∃ r' s', am_ev env (d + 2, 104, 14, [some (.ref 1), some (.int (Int32.ofNat (nlt c a (i + 1)))), some (.int (Int32.ofNat (ndg c a (i + 1))))], [], am_hp (am_ur I 1 r1) (am_ur J 1 s1) E) = am_ev env (d + 2, 104, 149, [some (.ref 1), some (.int (Int32.ofNat (nlt c a (i + (rnl c f (a + i + 1) + 1))))), some (.int (Int32.ofNat (ndg c a (i + (rnl c f (a + i + 1) + 1)))))], [], am_hp (am_ur I 1 r') (am_ur J 1 s') E) ∧ RI c a (i + (rnl c f (a + i + 1) + 1)) r' s' r0 := by
        intro r1 s1 h1
        have := ih (i + 1) r1 s1 (by omega) h1
        rw [show a + (i + 1) = a + i + 1 by omega, show i + 1 + rnl c f (a + i + 1) = i + (rnl c f (a + i + 1) + 1) by omega] at this
        exact this
      cases hl : isl (c (a + i)) with
      | true =>
        rw [hl] at hn1 hd1
        simp only [if_true] at hn1 hd1
        obtain ⟨v, hv, hname⟩ : ∃ v : Int64, am_ev env (d + 1, 112, 0, [some (.long (s 2)), none, some (.int (Int32.ofNat (c (a + i))))], [], am_hp (am_ur I 1 r) (am_ur J 1 s) E) = some (true, some (.long v), am_hp (am_ur I 1 r) (am_ur J 1 s) E) ∧ (ndg c a i = 0 → nlt c a i + 1 ≤ 7 → v = Int64.ofNat (pk 32 (ltr c a (i + 1)))) := by
          by_cases hq : ndg c a i = 0 ∧ nlt c a i + 1 ≤ 7
          · have e := i2 hq.1 (by omega)
            refine ⟨_, by rw [e]; exact c_withLetter env d (pk 32 (ltr c a i)) (c (a + i)) (pk_small c a i hq.1 (by omega)) hl _ _ _, fun _ _ => rfl⟩
          · exact ⟨_, bk_112_0 _ _ _ _ _ _ _, fun h1 h2 => absurd ⟨h1, h2⟩ hq⟩
        obtain ⟨r', s', e1, e2⟩ := goal (ru r 9 (Int32.ofNat (a + i + 1))) (rug s 2 v) ⟨by rw [ru_eq]; rfl, fun h1 h2 => by rw [rug_eq]; exact hname (by omega) (by omega), fun h1 h2 => by omega, fun j h1 h2 => by rw [ru_ne _ _ _ _ h2]; exact i4 j h1 h2⟩
        refine ⟨r', s', ?_, e2⟩
        rw [head, ha, hl]
        simp only [decide_true, decide_false, Bool.not_true, Bool.not_false, am_cont, Option.bind_some, Option.toList_some, Option.toList_none, List.singleton_append, List.nil_append, cond_true, cond_false, hv, bk_104_98, bk_104_136, am_u_g, am_u_g32, ur_at, i1, zd_1]
        rw [hn1, hd1] at e1
        exact e1
      | false =>
        rw [hl] at hn1 hd1
        simp only [Bool.false_eq_true, if_false] at hn1 hd1
        have hdg : isd (c (a + i)) = true := by unfold isa at ha; rw [hl] at ha; exact ha
        have hdr := (isd_iff _).mp hdg
        obtain ⟨r', s', e1, e2⟩ := goal (ru (ru r 5 ((r 5 * 10 + Int32.ofNat (c (a + i))) - 48)) 9 (Int32.ofNat (a + i + 1))) s ⟨by rw [ru_eq]; rfl, fun h1 h2 => by omega, fun h1 h2 => by
          rw [ru_ne _ _ _ _ (by omega), ru_eq, i3 (by omega) (by omega)]
          show _ = Int32.ofNat (nmv c a i * 10 + (c (a + i) - 48))
          rw [show Int32.ofNat (nmv c a i) * 10 = Int32.ofNat (nmv c a i * 10) from zI_mul _ 10, zI_add, show Int32.ofNat (nmv c a i * 10 + c (a + i)) - 48 = Int32.ofNat (nmv c a i * 10 + c (a + i) - 48) from zI_sub _ 48 (by omega), show nmv c a i * 10 + c (a + i) - 48 = nmv c a i * 10 + (c (a + i) - 48) by omega], fun j h1 h2 => by rw [ru_ne _ _ _ _ h2, ru_ne _ _ _ _ h1]; exact i4 j h1 h2⟩
        refine ⟨r', s', ?_, e2⟩
        rw [head, ha, hl]
        simp only [decide_true, decide_false, Bool.not_true, Bool.not_false, am_cont, Option.bind_some, Option.toList_some, Option.toList_none, List.singleton_append, List.nil_append, cond_true, cond_false, bk_104_136, am_u_g32, ur_at, ru_ne r 5 _ 9 (by omega), i1, zd_1]
        rw [hn1, hd1] at e1
        exact e1
def ckd (t : Tk) : Int32 := if t.1 = 2 then (if kwi t.2.1 = 0 then 3 else 2) else if t.1 = 3 then 4 else if t.1 = 4 then Int32.ofNat t.2.2 else Int32.ofNat t.1
def cwd (t : Tk) : Nat := if t.1 = 2 then kwi t.2.1 else 0
/-- the class's Text is at a token -/
def CU (r : Nat → Int32) (s : Nat → Int64) (e : Nat → Nat) (u : Cu) : Prop := r 0 = ckd u.1 ∧ e 1 = cwd u.1 ∧ (u.1.1 = 2 → s 2 = Int64.ofNat (pk 32 u.1.2.1)) ∧ (u.1.1 = 3 → r 5 = Int32.ofNat u.1.2.2) ∧ r 8 = Int32.ofNat u.2.1 ∧ r 9 = Int32.ofNat u.2.2
theorem c_takeRun (env : am_E) (d : Nat) (z a : Nat) (hz : z ≤ 940) (ha : a ≤ z) (c : Nat → Nat) (I : Nat → Nat → Int32) (J : Nat → Nat → Int64) (E : Nat → Nat → Nat) (ht : Tp I z c) (r : Nat → Int32) (s : Nat → Int64) (e : Nat → Nat) (h9 : r 9 = Int32.ofNat a) (h8 : r 8 = Int32.ofNat a) (he : e 1 = 0) : ∃ r' s' e', am_ev env (d + 2, 104, 0, [some (.ref 1), none, none], [], am_hp (am_ur I 1 r) (am_ur J 1 s) (am_ur E 1 e)) = some (true, none, am_hp (am_ur I 1 r') (am_ur J 1 s') (am_ur E 1 e')) ∧ CU r' s' e' (tkr c a (rnl c (z - a) a), a, a + rnl c (z - a) a) ∧ r' 3 = r 3 ∧ r' 4 = r 4 ∧ r' 7 = r 7 := by
  obtain ⟨r', s', e1, i1, i2, i3, i4⟩ := c_run env d z a hz c I J (am_ur E 1 e) ht r (z - a) 0 (ru r 5 0) (rug s 2 0) (by omega) ⟨by rw [ru_ne _ _ _ _ (by omega)]; exact h9, fun _ _ => by rw [rug_eq]; rfl, fun _ _ => by rw [ru_eq]; rfl, fun j h1 h2 => ru_ne _ _ _ _ h1⟩
  have hr := rnl_le c (z - a) a
  have hall := rnl_all c (z - a) a
  rw [Nat.add_zero, Nat.zero_add] at e1 i1 i2 i3
  generalize rnl c (z - a) a = i at e1 i1 i2 i3 hr hall
  have hnn := nlt_ndg c a i
  have start : am_ev env (d + 2, 104, 0, [some (.ref 1), none, none], [], am_hp (am_ur I 1 r) (am_ur J 1 s) (am_ur E 1 e)) = am_ev env (d + 2, 104, 149, [some (.ref 1), some (.int (Int32.ofNat (nlt c a i))), some (.int (Int32.ofNat (ndg c a i)))], [], am_hp (am_ur I 1 r') (am_ur J 1 s') (am_ur E 1 e)) := by
    refine (bk_104_0 _ _ _ _ _).trans ?_
    rw [am_u_g32, am_u_g]
    exact e1
  have d1 : decide (Int32.ofNat (ndg c a i) = (0 : Int32)) = decide (ndg c a i = 0) := zI_deq _ 0 (by omega) (by omega)
  have d2 : decide ((7 : Int32) < Int32.ofNat (nlt c a i)) = decide (7 < nlt c a i) := zlt_d 7 _ (by omega) (by omega)
  have d3 : decide (Int32.ofNat (nlt c a i) = (0 : Int32)) = decide (nlt c a i = 0) := zI_deq _ 0 (by omega) (by omega)
  have d4 : decide ((3 : Int32) < Int32.ofNat (ndg c a i)) = decide (3 < ndg c a i) := zlt_d 3 _ (by omega) (by omega)
  have k3 := i4 3 (by omega) (by omega)
  have k4 := i4 4 (by omega) (by omega)
  have k7 := i4 7 (by omega) (by omega)
  have k8 := i4 8 (by omega) (by omega)
  unfold tkr
  by_cases h1 : ndg c a i = 0 ∧ nlt c a i ≤ 7
  · rw [if_pos h1]
    have hs := i2 h1.1 h1.2
    by_cases hi0 : i = 0
    · subst hi0
      refine ⟨ru r' 0 (ckd (2, ltr c a 0, 0)), s', rug e 1 (kwi (ltr c a 0)), ?_, ⟨ru_eq _ _ _, rug_eq _ _ _, fun _ => hs, fun h => absurd h (nq rfl), by rw [ru_ne _ _ _ _ (by omega), k8]; exact h8, by rw [ru_ne _ _ _ _ (by omega)]; exact i1⟩, by rw [ru_ne _ _ _ _ (by omega)]; exact k3, by rw [ru_ne _ _ _ _ (by omega)]; exact k4, by rw [ru_ne _ _ _ _ (by omega)]; exact k7⟩
      have hw : am_wordOf (Int64.ofNat (pk 32 (ltr c a 0))) = 0 := by show am_wordOf (Int64.ofNat 0) = 0; decide +kernel
      have hw2 : kwi (ltr c a 0) = 0 := by show kwi [] = 0; decide +kernel
      refine start.trans ((bk_104_149 _ _ _ _ _ _ _).trans ?_)
      rw [d1, d2, decide_eq_true h1.1, decide_eq_false (by omega : ¬ 7 < nlt c a 0), ur_at, hs, hw, am_u_g, ur_at, rug_eq]
      simp only [decide_true, decide_false, Bool.not_true, Bool.not_false, am_cont, Option.bind_some, Option.toList_some, Option.toList_none, List.singleton_append, List.nil_append, cond_true, cond_false, bk_104_183, bk_104_207, am_u_g32]
      rw [hw2]
      rfl
    · have hg : gw (ltr c a i) := ⟨ltr_g c a i (nd0 c a i h1.1), by rw [ltr_len]; omega, by rw [ltr_len]; omega⟩
      refine ⟨ru r' 0 (ckd (2, ltr c a i, 0)), s', rug e 1 (kwi (ltr c a i)), ?_, ⟨ru_eq _ _ _, rug_eq _ _ _, fun _ => hs, fun h => absurd h (nq rfl), by rw [ru_ne _ _ _ _ (by omega), k8]; exact h8, by rw [ru_ne _ _ _ _ (by omega)]; exact i1⟩, by rw [ru_ne _ _ _ _ (by omega)]; exact k3, by rw [ru_ne _ _ _ _ (by omega)]; exact k4, by rw [ru_ne _ _ _ _ (by omega)]; exact k7⟩
      refine start.trans ((bk_104_149 _ _ _ _ _ _ _).trans ?_)
      rw [d1, d2, decide_eq_true h1.1, decide_eq_false (by omega : ¬ 7 < nlt c a i), ur_at, hs, wordOf_k _ hg, am_u_g, ur_at, rug_eq]
      unfold ckd
      rw [if_pos rfl]
      by_cases hk : kwi (ltr c a i) = 0
      · rw [decide_eq_true hk, if_pos hk]; simp only [decide_true, decide_false, Bool.not_true, Bool.not_false, am_cont, Option.bind_some, Option.toList_some, Option.toList_none, List.singleton_append, List.nil_append, cond_true, cond_false, bk_104_183, bk_104_207, am_u_g32]
      · rw [decide_eq_false hk, if_neg hk]; simp only [decide_true, decide_false, Bool.not_true, Bool.not_false, am_cont, Option.bind_some, Option.toList_some, Option.toList_none, List.singleton_append, List.nil_append, cond_true, cond_false, bk_104_183, bk_104_207, am_u_g32]
  · rw [if_neg h1]
    have hto : am_ev env (d + 2, 104, 149, [some (.ref 1), some (.int (Int32.ofNat (nlt c a i))), some (.int (Int32.ofNat (ndg c a i)))], [], am_hp (am_ur I 1 r') (am_ur J 1 s') (am_ur E 1 e)) = am_ev env (d + 2, 104, 189, [some (.ref 1), some (.int (Int32.ofNat (nlt c a i))), some (.int (Int32.ofNat (ndg c a i)))], [], am_hp (am_ur I 1 r') (am_ur J 1 s') (am_ur E 1 e)) := by
      refine (bk_104_149 _ _ _ _ _ _ _).trans ?_
      rw [d1, d2]
      by_cases g1 : ndg c a i = 0
      · rw [decide_eq_true g1, decide_eq_true (by omega : 7 < nlt c a i)]; rfl
      · rw [decide_eq_false g1]; rfl
    by_cases h2 : nlt c a i = 0 ∧ ndg c a i ≤ 3
    · rw [if_pos h2]
      refine ⟨ru r' 0 4, s', e, ?_, ⟨ru_eq _ _ _, he, fun h => absurd h (nq rfl), fun _ => by rw [ru_ne _ _ _ _ (by omega)]; exact i3 h2.1 h2.2, by rw [ru_ne _ _ _ _ (by omega), k8]; exact h8, by rw [ru_ne _ _ _ _ (by omega)]; exact i1⟩, by rw [ru_ne _ _ _ _ (by omega)]; exact k3, by rw [ru_ne _ _ _ _ (by omega)]; exact k4, by rw [ru_ne _ _ _ _ (by omega)]; exact k7⟩
      refine start.trans (hto.trans ((bk_104_189 _ _ _ _ _ _ _).trans ?_))
      rw [d3, d4, decide_eq_true h2.1, decide_eq_false (by omega : ¬ 3 < ndg c a i)]
      simp only [decide_true, decide_false, Bool.not_true, Bool.not_false, am_cont, Option.bind_some, Option.toList_some, Option.toList_none, List.singleton_append, List.nil_append, cond_true, cond_false, bk_104_204, bk_104_207, am_u_g32]
    · rw [if_neg h2]
      refine ⟨ru r' 0 1, s', e, ?_, ⟨ru_eq _ _ _, he, fun h => absurd h (nq rfl), fun h => absurd h (nq rfl), by rw [ru_ne _ _ _ _ (by omega), k8]; exact h8, by rw [ru_ne _ _ _ _ (by omega)]; exact i1⟩, by rw [ru_ne _ _ _ _ (by omega)]; exact k3, by rw [ru_ne _ _ _ _ (by omega)]; exact k4, by rw [ru_ne _ _ _ _ (by omega)]; exact k7⟩
      refine start.trans (hto.trans ((bk_104_189 _ _ _ _ _ _ _).trans ?_))
      rw [d3, d4]
      by_cases g1 : nlt c a i = 0
      · rw [decide_eq_true g1, decide_eq_true (by omega : 3 < ndg c a i)]
        simp only [decide_true, decide_false, Bool.not_true, Bool.not_false, am_cont, Option.bind_some, Option.toList_some, Option.toList_none, List.singleton_append, List.nil_append, cond_true, cond_false, bk_104_203, bk_104_204, bk_104_207, am_u_g32]
      · rw [decide_eq_false g1]
        simp only [decide_true, decide_false, Bool.not_true, Bool.not_false, am_cont, Option.bind_some, Option.toList_some, Option.toList_none, List.singleton_append, List.nil_append, cond_true, cond_false, bk_104_203, bk_104_204, bk_104_207, am_u_g32]
theorem min_i (lim z : Nat) (h1 : lim < 2147483648) (h2 : z < 2147483648) : (if (Int32.ofNat lim : Int32) < Int32.ofNat z then Int32.ofNat lim else Int32.ofNat z) = Int32.ofNat (min z lim) := by
  by_cases h : lim < z
  · rw [if_pos (by rw [zI_lt _ _ h1 h2]; exact h), Nat.min_eq_right (by omega)]
  · rw [if_neg (by rw [zI_lt _ _ h1 h2]; exact h), Nat.min_eq_left (by omega)]
theorem c_next (env : am_E) (d : Nat) (z lim p : Nat) (hz : z ≤ 940) (hp : p ≤ z) (hlim : lim ≤ 1000) (c : Nat → Nat) (I : Nat → Nat → Int32) (J : Nat → Nat → Int64) (E : Nat → Nat → Nat) (ht : Tp I z c) (r : Nat → Int32) (s : Nat → Int64) (e : Nat → Nat) (h9 : r 9 = Int32.ofNat p) (h7 : r 7 = Int32.ofNat lim) : ∃ r' s' e', am_ev env (d + 3, 103, 0, [some (.ref 1), none], [], am_hp (am_ur I 1 r) (am_ur J 1 s) (am_ur E 1 e)) = some (true, none, am_hp (am_ur I 1 r') (am_ur J 1 s') (am_ur E 1 e')) ∧ CU r' s' e' (lx c z lim p) ∧ r' 3 = r 3 ∧ r' 4 = r 4 ∧ r' 7 = r 7 := by
  have hsk := skp_ge c (z - p) p
  have st := c_skip env (d + 1) z hz c I (am_ur J 1 s) (am_ur E 1 e) ht (z - p) p r (by omega) h9
  unfold lx
  generalize skp c (z - p) p = q at hsk st
  unfold lxq
  have hI2 : ∀ r, am_ur I 1 r 2 0 = Int32.ofNat z := fun r => by rw [ur_ne _ _ _ _ (by omega)]; exact ht.1
  by_cases h : z ≤ q ∨ lim ≤ q
  · rw [if_pos h]
    have s74 : am_ev env (d + 3, 103, 44, [some (.ref 1), none], [], am_hp (am_ur I 1 (ru r 9 (Int32.ofNat q))) (am_ur J 1 s) (am_ur E 1 e)) = am_ev env (d + 3, 103, 74, [some (.ref 1), none], [], am_hp (am_ur I 1 (ru r 9 (Int32.ofNat q))) (am_ur J 1 s) (am_ur E 1 (rug e 1 0))) := by
      refine (bk_103_44 _ _ _ _ _).trans ?_
      rw [hI2, ur_at, ru_eq, ru_ne _ _ _ 7 (by omega), h7, zle_d z q (by omega) (by omega), zlt_d q lim (by omega) (by omega), am_u_g]
      by_cases h1 : z ≤ q
      · rw [decide_eq_true h1]; rfl
      · rw [decide_eq_false h1, decide_eq_false (by omega : ¬ q < lim)]; rfl
    refine ⟨ru (ru (ru r 9 (Int32.ofNat q)) 8 (Int32.ofNat (min z lim))) 0 (if z ≤ lim then 0 else 1), s, rug e 1 0, ?_, ⟨?_, ?_, ?_, ?_, ?_, ?_⟩, ?_, ?_, ?_⟩
    · refine st.trans (s74.trans ((bk_103_74 _ _ _ _ _).trans ?_))
      rw [hI2, ur_at, ru_ne _ _ _ 7 (by omega), h7, min_i lim z (by omega) (by omega), am_u_g32, hI2, ur_at, ru_ne _ _ _ 7 (by omega), ru_ne _ _ _ 7 (by omega), h7, zle_d z lim (by omega) (by omega)]
      by_cases h1 : z ≤ lim
      · rw [decide_eq_true h1, if_pos h1]; simp only [decide_true, decide_false, Bool.not_true, Bool.not_false, am_cont, Option.bind_some, Option.toList_some, Option.toList_none, List.singleton_append, List.nil_append, cond_true, cond_false, bk_103_112, am_u_g32]
      · rw [decide_eq_false h1, if_neg h1]; simp only [decide_true, decide_false, Bool.not_true, Bool.not_false, am_cont, Option.bind_some, Option.toList_some, Option.toList_none, List.singleton_append, List.nil_append, cond_true, cond_false, bk_103_112, am_u_g32]
    · rw [ru_eq]
      by_cases h1 : z ≤ lim
      · rw [if_pos h1, if_pos h1]; rfl
      · rw [if_neg h1, if_neg h1]; rfl
    · rw [rug_eq]
      by_cases h1 : z ≤ lim
      · rw [if_pos h1]; rfl
      · rw [if_neg h1]; rfl
    · intro h2
      by_cases h1 : z ≤ lim
      · rw [if_pos h1] at h2; exact absurd h2 (by show ¬ (0 = 2); omega)
      · rw [if_neg h1] at h2; exact absurd h2 (by show ¬ (1 = 2); omega)
    · intro h2
      by_cases h1 : z ≤ lim
      · rw [if_pos h1] at h2; exact absurd h2 (by show ¬ (0 = 3); omega)
      · rw [if_neg h1] at h2; exact absurd h2 (by show ¬ (1 = 3); omega)
    · rw [ru_ne _ _ _ _ (by omega), ru_eq]
    · rw [ru_ne _ _ _ _ (by omega), ru_ne _ _ _ _ (by omega), ru_eq]
    · rw [ru_ne _ _ _ _ (by omega), ru_ne _ _ _ _ (by omega), ru_ne _ _ _ _ (by omega)]
    · rw [ru_ne _ _ _ _ (by omega), ru_ne _ _ _ _ (by omega), ru_ne _ _ _ _ (by omega)]
    · rw [ru_ne _ _ _ _ (by omega), ru_ne _ _ _ _ (by omega), ru_ne _ _ _ _ (by omega)]
  · rw [if_neg h]
    have hcq := (ht.2 q (by omega)).2
    have hat := fun d r s E => c_tat env d z q c hz (by omega) (am_ur I 1 r) (am_ur J 1 s) E (Tp_ur ht 1 (by omega) (by omega) r)
    have s135 : am_ev env (d + 3, 103, 44, [some (.ref 1), none], [], am_hp (am_ur I 1 (ru r 9 (Int32.ofNat q))) (am_ur J 1 s) (am_ur E 1 e)) = (bif isa (c q) then am_ev env (d + 3, 103, 150, [some (.ref 1), some (.int (Int32.ofNat (c q)))], [], am_hp (am_ur I 1 (ru (ru r 9 (Int32.ofNat q)) 8 (Int32.ofNat q))) (am_ur J 1 s) (am_ur E 1 (rug e 1 0))) else am_ev env (d + 3, 103, 170, [some (.ref 1), some (.int (Int32.ofNat (c q)))], [.int (if iss (c q) = true then Int32.ofNat (c q) else 1), .ref 1], am_hp (am_ur I 1 (ru (ru r 9 (Int32.ofNat q)) 8 (Int32.ofNat q))) (am_ur J 1 s) (am_ur E 1 (rug e 1 0)))) := by
      refine (bk_103_44 _ _ _ _ _).trans ?_
      rw [hI2, ur_at, ru_eq, ru_ne _ _ _ 7 (by omega), h7, zle_f z q (by omega) (by omega), zlt_t q lim (by omega) (by omega), am_u_g, am_u_g32, ur_at, ru_eq]
      unfold isa
      simp only [decide_true, decide_false, Bool.not_true, Bool.not_false, am_cont, Option.bind_some, Option.toList_some, Option.toList_none, List.singleton_append, List.nil_append, cond_true, cond_false, hat, bk_103_135, c_isLetter env _ (c q) hcq, bk_103_140, bi_eq0, Bool.not_not]
      cases isl (c q)
      · simp only [decide_true, decide_false, Bool.not_true, Bool.not_false, am_cont, Option.bind_some, Option.toList_some, Option.toList_none, List.singleton_append, List.nil_append, cond_true, cond_false, c_isDigit env _ (c q) hcq, bk_103_147, bi_eq0, Bool.false_or]
        cases isd (c q)
        · simp only [decide_true, decide_false, Bool.not_true, Bool.not_false, am_cont, Option.bind_some, Option.toList_some, Option.toList_none, List.singleton_append, List.nil_append, cond_true, cond_false, c_isSign env _ (c q) hcq, bk_103_162, bi_eq0]
          cases iss (c q)
          · simp only [decide_true, decide_false, Bool.not_true, Bool.not_false, am_cont, Option.bind_some, Option.toList_some, Option.toList_none, List.singleton_append, List.nil_append, cond_true, cond_false, Bool.false_eq_true, if_false]
          · simp only [decide_true, decide_false, Bool.not_true, Bool.not_false, am_cont, Option.bind_some, Option.toList_some, Option.toList_none, List.singleton_append, List.nil_append, cond_true, cond_false, if_true]
        · simp only [decide_true, decide_false, Bool.not_true, Bool.not_false, am_cont, Option.bind_some, Option.toList_some, Option.toList_none, List.singleton_append, List.nil_append, cond_true, cond_false]
      · simp only [decide_true, decide_false, Bool.not_true, Bool.not_false, am_cont, Option.bind_some, Option.toList_some, Option.toList_none, List.singleton_append, List.nil_append, cond_true, cond_false, Bool.true_or]
    by_cases ha : isa (c q) = true
    · rw [if_pos ha]
      obtain ⟨r', s', e', t1, t2, t3, t4, t5⟩ := c_takeRun env d z q hz (by omega) c I J E ht (ru (ru r 9 (Int32.ofNat q)) 8 (Int32.ofNat q)) s (rug e 1 0) (by rw [ru_ne _ _ _ _ (by omega), ru_eq]) (by rw [ru_eq]) (by rw [rug_eq])
      refine ⟨r', s', e', ?_, t2, ?_, ?_, ?_⟩
      · refine st.trans (s135.trans ?_)
        rw [ha]
        simp only [decide_true, decide_false, Bool.not_true, Bool.not_false, am_cont, Option.bind_some, Option.toList_some, Option.toList_none, List.singleton_append, List.nil_append, cond_true, cond_false, bk_103_150, t1, bk_103_154, bk_103_183]
      · rw [t3, ru_ne _ _ _ _ (by omega), ru_ne _ _ _ _ (by omega)]
      · rw [t4, ru_ne _ _ _ _ (by omega), ru_ne _ _ _ _ (by omega)]
      · rw [t5, ru_ne _ _ _ _ (by omega), ru_ne _ _ _ _ (by omega)]
    · rw [if_neg ha]
      refine ⟨ru (ru (ru (ru r 9 (Int32.ofNat q)) 8 (Int32.ofNat q)) 0 (if iss (c q) = true then Int32.ofNat (c q) else 1)) 9 (Int32.ofNat (q + 1)), s, rug e 1 0, ?_, ⟨?_, ?_, ?_, ?_, ?_, ?_⟩, ?_, ?_, ?_⟩
      · refine st.trans (s135.trans ?_)
        rw [Bool.not_eq_true] at ha
        rw [ha]
        simp only [decide_true, decide_false, Bool.not_true, Bool.not_false, am_cont, Option.bind_some, Option.toList_some, Option.toList_none, List.singleton_append, List.nil_append, cond_true, cond_false, bk_103_170, bk_103_183, am_u_g32, ur_at]
        rw [ru_ne _ 0 _ 9 (by omega), ru_ne _ 8 _ 9 (by omega), ru_eq, zd_1]
      · rw [ru_ne _ _ _ _ (by omega), ru_eq]
        by_cases h1 : iss (c q) = true
        · rw [if_pos h1, if_pos h1]; rfl
        · rw [if_neg h1, if_neg h1]; rfl
      · rw [rug_eq]
        by_cases h1 : iss (c q) = true
        · rw [if_pos h1]; rfl
        · rw [if_neg h1]; rfl
      · intro h2
        by_cases h1 : iss (c q) = true
        · rw [if_pos h1] at h2; exact absurd h2 (by show ¬ (4 = 2); omega)
        · rw [if_neg h1] at h2; exact absurd h2 (by show ¬ (1 = 2); omega)
      · intro h2
        by_cases h1 : iss (c q) = true
        · rw [if_pos h1] at h2; exact absurd h2 (by show ¬ (4 = 3); omega)
        · rw [if_neg h1] at h2; exact absurd h2 (by show ¬ (1 = 3); omega)
      · rw [ru_ne _ _ _ _ (by omega), ru_ne _ _ _ _ (by omega), ru_eq]
      · rw [ru_eq]
      · rw [ru_ne _ _ _ _ (by omega), ru_ne _ _ _ _ (by omega), ru_ne _ _ _ _ (by omega), ru_ne _ _ _ _ (by omega)]
      · rw [ru_ne _ _ _ _ (by omega), ru_ne _ _ _ _ (by omega), ru_ne _ _ _ _ (by omega), ru_ne _ _ _ _ (by omega)]
      · rw [ru_ne _ _ _ _ (by omega), ru_ne _ _ _ _ (by omega), ru_ne _ _ _ _ (by omega), ru_ne _ _ _ _ (by omega)]
