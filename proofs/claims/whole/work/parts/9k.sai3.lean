/-! said: the class runs the steps -/
noncomputable abbrev a66 (env : am_E) (d fl s i : Nat) (o : Option Value) (I : Nat → Nat → Int32) (J : Nat → Nat → Int64) (E : Nat → Nat → Nat) : Option am_R := am_ev env (d + 4, 66, 15, [some (.ref 18), some (.ref 5), some (.ref 12), some (.int (Int32.ofNat fl)), some (.int (Int32.ofNat s)), some (.int (Int32.ofNat i)), o], [], am_hp I J E)
theorem z_m1 (k : Nat) : Int32.ofNat (k + 1) + (-1) = Int32.ofNat k := by rw [← Int32.sub_eq_add_neg, z_p1]
theorem c_push (env : am_E) (d : Nat) (n k fl s i : Nat) (hn : n ≤ 8) (hk : k ≤ 6) (S : Ssn) (hi : i < S.1) (hS : S.1 < 40) (hs : s ≤ i) (hw : lfk n (S.2.2.1 i)) (o : Option Value) (I : Nat → Nat → Int32) (J : Nat → Nat → Int64) (E : Nat → Nat → Nat) (hc : CSp 18 I E S) (h2 : I 5 2 = Int32.ofNat k) : a66 env d fl s i o I J E = a66 env d fl (s + 1) (i + 1) (some (.retAddr (S.2.2.1 i).1)) (am_u I 22 s (Int32.ofNat (bsN (lfv (rS I 12) (S.2.2.1 i)) k))) J E := by
  obtain ⟨q1, q2, q3⟩ := hc
  obtain ⟨r1, r2, r3⟩ := q3 i hi
  obtain ⟨w1, w2, -⟩ := id hw
  have e67 := c_mask env d n i k hn (by omega) hk _ hw I J E h2 r1 r2 r3
  refine (bk_66_15 _ _ _ _ _ _ _ _ _ _ _ _).trans ?_
  rw [k18s.1.1, k18s.1.2.1, q2, show decide (Int32.ofNat S.1 ≤ Int32.ofNat i) = false from zle_f S.1 i (by omega) (by omega), k18s.1.2.2.1, k18s.2.1.1, k18s.2.1.2.1, k18s.2.1.2.2, zI_in i 40 (by omega) (by omega), zI_nat i (by omega), r1, decide_eq_false (by omega : ¬ (S.2.2.1 i).1 = 15)]
  simp only [decide_true, decide_false, Bool.not_true, Bool.not_false, am_cont, Option.bind_some, Option.toList_some, Option.toList_none, List.singleton_append, List.nil_append, cond_true, cond_false, Bool.and_self, bk_66_63, decide_eq_false (by omega : ¬ (S.2.2.1 i).1 = 14), bk_66_102, decide_eq_false (by omega : ¬ (S.2.2.1 i).1 = 13)]
  refine (bk_66_141 _ _ _ _ _ _ _ _ _ _ _ _).trans ?_
  rw [show decide ((40 : Int32) ≤ Int32.ofNat s) = false from zle_f 40 s (by omega) (by omega), k18s.1.1, k18s.1.2.1]
  simp only [decide_true, decide_false, Bool.not_true, Bool.not_false, am_cont, Option.bind_some, Option.toList_some, Option.toList_none, List.singleton_append, List.nil_append, cond_true, cond_false, Bool.and_self, e67, k18s.1.2.2.2.2.2]
  refine (bk_66_162 _ _ _ _ _ _ _ _ _ _ _ _ _ _ _).trans ?_
  rw [k18s.2.2.2.2.1, k18s.2.2.2.2.2.1, k18s.2.2.2.2.2.2, zI_in s 40 (by omega) (by omega), zI_nat s (by omega)]
  simp only [decide_true, decide_false, Bool.not_true, Bool.not_false, am_cont, Option.bind_some, Option.toList_some, Option.toList_none, List.singleton_append, List.nil_append, cond_true, cond_false, Bool.and_self, bk_66_166, zd_1]
theorem c_neg (env : am_E) (d : Nat) (fl s i : Nat) (S : Ssn) (hi : i < S.1) (hS : S.1 < 40) (hs : s ≤ i) (hw : (S.2.2.1 i).1 = 15) (o : Option Value) (I : Nat → Nat → Int32) (J : Nat → Nat → Int64) (E : Nat → Nat → Nat) (hc : CSp 18 I E S) : a66 env d fl (s + 1) i o I J E = a66 env d fl (s + 1) (i + 1) (some (.retAddr (S.2.2.1 i).1)) (am_u I 22 s (I 22 s ^^^ Int32.ofNat fl)) J E := by
  obtain ⟨q1, q2, q3⟩ := hc
  obtain ⟨r1, r2, r3⟩ := q3 i hi
  refine (bk_66_15 _ _ _ _ _ _ _ _ _ _ _ _).trans ?_
  rw [k18s.1.1, k18s.1.2.1, q2, show decide (Int32.ofNat S.1 ≤ Int32.ofNat i) = false from zle_f S.1 i (by omega) (by omega), k18s.1.2.2.1, k18s.2.1.1, k18s.2.1.2.1, k18s.2.1.2.2, zI_in i 40 (by omega) (by omega), zI_nat i (by omega), r1, decide_eq_true hw, show decide (Int32.ofNat (s + 1) < (1 : Int32)) = false from zlt_f (s + 1) 1 (by omega) (by omega), z_p1, k18s.1.2.2.2.2.2, k18s.2.2.2.2.1, k18s.2.2.2.2.2.1, k18s.2.2.2.2.2.2, zI_in s 40 (by omega) (by omega), zI_nat s (by omega)]
  simp only [decide_true, decide_false, Bool.not_true, Bool.not_false, am_cont, Option.bind_some, Option.toList_some, Option.toList_none, List.singleton_append, List.nil_append, cond_true, cond_false, Bool.and_self, bk_66_166, zd_1]
theorem c_and2 (env : am_E) (d : Nat) (fl s i : Nat) (S : Ssn) (hi : i < S.1) (hS : S.1 < 40) (hs : s + 1 ≤ i) (hw : (S.2.2.1 i).1 = 14) (o : Option Value) (I : Nat → Nat → Int32) (J : Nat → Nat → Int64) (E : Nat → Nat → Nat) (hc : CSp 18 I E S) : a66 env d fl (s + 2) i o I J E = a66 env d fl (s + 1) (i + 1) (some (.retAddr (S.2.2.1 i).1)) (am_u I 22 s (I 22 s &&& I 22 (s + 1))) J E := by
  obtain ⟨q1, q2, q3⟩ := hc
  obtain ⟨r1, r2, r3⟩ := q3 i hi
  refine (bk_66_15 _ _ _ _ _ _ _ _ _ _ _ _).trans ?_
  rw [k18s.1.1, k18s.1.2.1, q2, show decide (Int32.ofNat S.1 ≤ Int32.ofNat i) = false from zle_f S.1 i (by omega) (by omega), k18s.1.2.2.1, k18s.2.1.1, k18s.2.1.2.1, k18s.2.1.2.2, zI_in i 40 (by omega) (by omega), zI_nat i (by omega), r1, decide_eq_false (by omega : ¬ (S.2.2.1 i).1 = 15)]
  simp only [decide_true, decide_false, Bool.not_true, Bool.not_false, am_cont, Option.bind_some, Option.toList_some, Option.toList_none, List.singleton_append, List.nil_append, cond_true, cond_false, Bool.and_self]
  refine (bk_66_63 _ _ _ _ _ _ _ _ _ _ _ _).trans ?_
  rw [k18s.1.1, k18s.1.2.1, decide_eq_true hw, show decide (Int32.ofNat (s + 2) < (2 : Int32)) = false from zlt_f (s + 2) 2 (by omega) (by omega), z_m1 (s + 1), z_p1, k18s.1.2.2.2.2.2, k18s.2.2.2.2.1, k18s.2.2.2.2.2.1, k18s.2.2.2.2.2.2, zI_in s 40 (by omega) (by omega), zI_nat s (by omega), zI_in (s + 1) 40 (by omega) (by omega), zI_nat (s + 1) (by omega)]
  simp only [decide_true, decide_false, Bool.not_true, Bool.not_false, am_cont, Option.bind_some, Option.toList_some, Option.toList_none, List.singleton_append, List.nil_append, cond_true, cond_false, Bool.and_self, bk_66_166, zd_1]
theorem c_or2 (env : am_E) (d : Nat) (fl s i : Nat) (S : Ssn) (hi : i < S.1) (hS : S.1 < 40) (hs : s + 1 ≤ i) (hw : (S.2.2.1 i).1 = 13) (o : Option Value) (I : Nat → Nat → Int32) (J : Nat → Nat → Int64) (E : Nat → Nat → Nat) (hc : CSp 18 I E S) : a66 env d fl (s + 2) i o I J E = a66 env d fl (s + 1) (i + 1) (some (.retAddr (S.2.2.1 i).1)) (am_u I 22 s (I 22 s ||| I 22 (s + 1))) J E := by
  obtain ⟨q1, q2, q3⟩ := hc
  obtain ⟨r1, r2, r3⟩ := q3 i hi
  refine (bk_66_15 _ _ _ _ _ _ _ _ _ _ _ _).trans ?_
  rw [k18s.1.1, k18s.1.2.1, q2, show decide (Int32.ofNat S.1 ≤ Int32.ofNat i) = false from zle_f S.1 i (by omega) (by omega), k18s.1.2.2.1, k18s.2.1.1, k18s.2.1.2.1, k18s.2.1.2.2, zI_in i 40 (by omega) (by omega), zI_nat i (by omega), r1, decide_eq_false (by omega : ¬ (S.2.2.1 i).1 = 15)]
  simp only [decide_true, decide_false, Bool.not_true, Bool.not_false, am_cont, Option.bind_some, Option.toList_some, Option.toList_none, List.singleton_append, List.nil_append, cond_true, cond_false, Bool.and_self, bk_66_63, decide_eq_false (by omega : ¬ (S.2.2.1 i).1 = 14)]
  refine (bk_66_102 _ _ _ _ _ _ _ _ _ _ _ _).trans ?_
  rw [k18s.1.1, k18s.1.2.1, decide_eq_true hw, show decide (Int32.ofNat (s + 2) < (2 : Int32)) = false from zlt_f (s + 2) 2 (by omega) (by omega), z_m1 (s + 1), z_p1, k18s.1.2.2.2.2.2, k18s.2.2.2.2.1, k18s.2.2.2.2.2.1, k18s.2.2.2.2.2.2, zI_in s 40 (by omega) (by omega), zI_nat s (by omega), zI_in (s + 1) 40 (by omega) (by omega), zI_nat (s + 1) (by omega)]
  simp only [decide_true, decide_false, Bool.not_true, Bool.not_false, am_cont, Option.bind_some, Option.toList_some, Option.toList_none, List.singleton_append, List.nil_append, cond_true, cond_false, Bool.and_self, bk_66_166, zd_1]
theorem CSp_22 {I I' : Nat → Nat → Int32} {E : Nat → Nat → Nat} {S : Ssn} (h : CSp 18 I E S) (hf : ∀ q, q ≠ 22 → I' q = I q) : CSp 18 I' E S := by
  unfold CSp
  rw [hf 18 (by omega), hf (18 + 2) (by omega), hf (18 + 3) (by omega)]
  exact h
theorem tvl_s (m : Nat → Int32) (S : Ssn) (r f i : Nat) : tvl m S r (f + 1) i = (if (S.2.2.1 i).1 = 15 then !tvl m S r f (S.2.2.2 i).1 else if (S.2.2.1 i).1 = 14 then (tvl m S r f (S.2.2.2 i).1 && tvl m S r f (S.2.2.2 i).2) else if (S.2.2.1 i).1 = 13 then (tvl m S r f (S.2.2.2 i).1 || tvl m S r f (S.2.2.2 i).2) else lfv m (S.2.2.1 i) r) := rfl
theorem BS_congr {k : Nat} {g g' : Nat → Bool} {x : Nat} (h : BS k g x) (he : ∀ r, r < k → g r = g' r) : BS k g' x := ⟨h.1, fun r hr => (h.2 r hr).trans (he r hr)⟩
theorem c_run66 (env : am_E) (d : Nat) (n k : Nat) (hn : n ≤ 8) (hk : k ≤ 6) (S : Ssn) (hS : S.1 < 40) (J : Nat → Nat → Int64) (E : Nat → Nat → Nat) (m : Nat → Int32) : ∀ (f lo i s : Nat) (o : Option Value) (I : Nat → Nat → Int32), Wf n S f lo i → i < S.1 → s ≤ lo → CSp 18 I E S → I 5 2 = Int32.ofNat k → rS I 12 = m → ∃ I' o', a66 env d (2 ^ k - 1) s lo o I J E = a66 env d (2 ^ k - 1) (s + 1) (i + 1) o' I' J E ∧ (∀ q, q ≠ 22 → I' q = I q) ∧ (∀ j, j < s → I' 22 j = I 22 j) ∧ ∃ x, I' 22 s = Int32.ofNat x ∧ BS k (fun r => tvl m S r f i) x := by
  have p64 := p2_64 k hk
  intro f
  induction f with
  | zero => intro lo i s o I h; exact h.elim
  | succ f ih =>
    intro lo i s o I h hi hs hc h2 hm
    rcases h with ⟨h1, h3⟩ | ⟨a, h1, h3, h4, h5⟩ | ⟨a, b, h1, h3, h4, h5, h6⟩
    · subst h1
      have := h3.1
      refine ⟨_, _, c_push env d n k (2 ^ k - 1) s lo hn hk S hi hS hs h3 o I J E hc h2, fun q hq => am_u_ng _ _ _ _ _ hq, fun j hj => by rw [am_u_sg, if_neg (by omega)], _, by rw [am_u_at], ?_⟩
      rw [hm]
      refine BS_congr (bsN_P _ k) (fun r _ => ?_)
      unfold tvl
      rw [if_neg (by omega), if_neg (by omega), if_neg (by omega)]
    · have hle := Wf_le n S f _ _ h5
      obtain ⟨I1, o1, e1, f1, g1, x, x1, x2⟩ := ih lo a s o I h5 (by omega) hs hc h2 hm
      have e2 := c_neg env d (2 ^ k - 1) s i S hi hS (by omega) h3 o1 I1 J E (CSp_22 hc f1)
      rw [← h1] at e1
      refine ⟨_, _, e1.trans e2, fun q hq => by rw [am_u_ng _ _ _ _ _ hq]; exact f1 q hq, fun j hj => by rw [am_u_sg, if_neg (by omega)]; exact g1 j hj, x ^^^ (2 ^ k - 1), ?_, ?_⟩
      · have := x2.1
        rw [am_u_at, x1, (z_or64 ⟨x, by omega⟩ ⟨2 ^ k - 1, by omega⟩).2.2]
      · refine ⟨Nat.xor_lt_two_pow x2.1 (by have := Nat.two_pow_pos k; omega), fun r hr => ?_⟩
        rw [Nat.testBit_xor, Nat.testBit_two_pow_sub_one, decide_eq_true hr, x2.2 r hr, Bool.xor_true]
        show _ = tvl m S r (f + 1) i
        rw [tvl_s, if_pos h3, h4]
    · have hle := Wf_le n S f _ _ h5
      have hle2 := Wf_le n S f _ _ h6
      obtain ⟨I1, o1, e1, f1, g1, x, x1, x2⟩ := ih lo a s o I h5 (by omega) hs hc h2 hm
      have c1 := CSp_22 hc f1
      obtain ⟨I2, o2, e2, f2, g2, y, y1, y2⟩ := ih (a + 1) b (s + 1) o1 I1 h6 (by omega) (by omega) c1 (by rw [f1 5 (by omega)]; exact h2) (by rw [← hm]; exact rS_congr _ _ 12 (fun q hq => by first | exact f1 q (by omega) | exact (f1 q (by omega)).symm))
      have c2 := CSp_22 c1 f2
      have F : ∀ q, q ≠ 22 → I2 q = I q := fun q hq => (f2 q hq).trans (f1 q hq)
      have i22 : I2 22 s = Int32.ofNat x := by rw [g2 s (by omega)]; exact x1
      have xl := x2.1
      have yl := y2.1
      rw [← h1] at e2
      rcases h3 with h3 | h3
      · have e3 := c_or2 env d (2 ^ k - 1) s i S hi hS (by omega) h3 o2 I2 J E c2
        refine ⟨_, _, e1.trans (e2.trans e3), fun q hq => by rw [am_u_ng _ _ _ _ _ hq]; exact F q hq, fun j hj => by rw [am_u_sg, if_neg (by omega), g2 j (by omega)]; exact g1 j hj, x ||| y, ?_, ?_⟩
        · rw [am_u_at, i22, y1, (z_or64 ⟨x, by omega⟩ ⟨y, by omega⟩).1]
        · refine ⟨Nat.or_lt_two_pow xl yl, fun r hr => ?_⟩
          rw [Nat.testBit_or, x2.2 r hr, y2.2 r hr]
          show _ = tvl m S r (f + 1) i
          rw [tvl_s, if_neg (by omega), if_neg (by omega), if_pos h3, h4]
      · have e3 := c_and2 env d (2 ^ k - 1) s i S hi hS (by omega) h3 o2 I2 J E c2
        refine ⟨_, _, e1.trans (e2.trans e3), fun q hq => by rw [am_u_ng _ _ _ _ _ hq]; exact F q hq, fun j hj => by rw [am_u_sg, if_neg (by omega), g2 j (by omega)]; exact g1 j hj, x &&& y, ?_, ?_⟩
        · rw [am_u_at, i22, y1, (z_or64 ⟨x, by omega⟩ ⟨y, by omega⟩).2.1]
        · refine ⟨Nat.and_lt_two_pow x yl, fun r hr => ?_⟩
          rw [Nat.testBit_and, x2.2 r hr, y2.2 r hr]
          show _ = tvl m S r (f + 1) i
          rw [tvl_s, if_neg (by omega), if_pos h3, h4]
theorem c_saidSet (env : am_E) (d : Nat) (n k : Nat) (hn : n ≤ 8) (hk : k ≤ 6) (S : Ssn) (hS : S.1 < 40) (hS1 : 1 ≤ S.1) (hw : Wf n S S.1 0 (S.1 - 1)) (I : Nat → Nat → Int32) (J : Nat → Nat → Int64) (E : Nat → Nat → Nat) (hc : CSp 18 I E S) (h2 : I 5 2 = Int32.ofNat k) : ∃ I' x, am_ev env (d + 4, 66, 0, [some (.ref 18), some (.ref 5), some (.ref 12), none, none, none, none], [], am_hp I J E) = some (true, some (.int (Int32.ofNat x)), am_hp I' J E) ∧ (∀ q, q ≠ 22 → I' q = I q) ∧ BS k (fun r => tvl (rS I 12) S r S.1 (S.1 - 1)) x := by
  obtain ⟨I1, o1, e1, f1, g1, x, x1, x2⟩ := c_run66 env d n k hn hk S hS J E (rS I 12) S.1 0 (S.1 - 1) 0 none I hw (by omega) (by omega) hc h2 rfl
  refine ⟨I1, x, ?_, f1, x2⟩
  refine (bk_66_0 _ _ _ _ _ _ _ _).trans ?_
  rw [k5s.1.1, k5s.1.2.1, h2, full_n k (by omega)]
  refine Eq.trans e1 ?_
  rw [show S.1 - 1 + 1 = S.1 by omega]
  refine (bk_66_15 _ _ _ _ _ _ _ _ _ _ _ _).trans ?_
  rw [k18s.1.1, k18s.1.2.1, (CSp_22 hc f1).2.1, zle_t S.1 S.1 (Nat.le_refl _) (by omega), show decide ((1 : Int32) ≤ Int32.ofNat (0 + 1)) = true by decide, z_p1, k18s.1.2.2.2.2.2, k18s.2.2.2.2.1, k18s.2.2.2.2.2.1, k18s.2.2.2.2.2.2, zI_in 0 40 (by omega) (by omega), zI_nat 0 (by omega), x1]
  simp only [decide_true, decide_false, Bool.not_true, Bool.not_false, am_cont, Option.bind_some, Option.toList_some, Option.toList_none, List.singleton_append, List.nil_append, cond_true, cond_false, Bool.and_self, bk_66_191]
