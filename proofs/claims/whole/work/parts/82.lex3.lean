/-! the reference's tokens -/
def Tm (I : Nat → Nat → Int32) (z : Nat) (c : Nat → Nat) : Prop := ∀ j, j < z → I 157 j = Int32.ofNat (c j) ∧ c j < 256
theorem m_isLetter (env : am_E) (d : Nat) (x : Nat) (hx : x < 256) (I : Nat → Nat → Int32) (J : Nat → Nat → Int64) (E : Nat → Nat → Nat) : am_ev env (d + 1, 182, 0, [some (.int (Int32.ofNat x))], [], am_hp I J E) = some (true, some (.int (bi (isl x))), am_hp I J E) := by
  refine (bk_182_0 _ _ _ _ _ _).trans ?_
  rw [show decide (Int32.ofNat x < (97 : Int32)) = decide (x < 97) from zlt_d x 97 (by omega) (by omega), show decide ((122 : Int32) < Int32.ofNat x) = decide (122 < x) from zlt_d 122 x (by omega) (by omega)]
  unfold isl
  by_cases h1 : x < 97
  · rw [decide_eq_true h1, decide_eq_false (by omega : ¬ 97 ≤ x)]; simp only [decide_true, decide_false, Bool.not_true, Bool.not_false, am_cont, Option.bind_some, Option.toList_some, Option.toList_none, List.singleton_append, List.nil_append, cond_true, cond_false, bk_182_16, bk_182_17]; try rfl
  · rw [decide_eq_false h1, decide_eq_true (by omega : 97 ≤ x)]
    by_cases h2 : 122 < x
    · rw [decide_eq_true h2, decide_eq_false (by omega : ¬ x ≤ 122)]; simp only [decide_true, decide_false, Bool.not_true, Bool.not_false, am_cont, Option.bind_some, Option.toList_some, Option.toList_none, List.singleton_append, List.nil_append, cond_true, cond_false, bk_182_16, bk_182_17]; try rfl
    · rw [decide_eq_false h2, decide_eq_true (by omega : x ≤ 122)]; simp only [decide_true, decide_false, Bool.not_true, Bool.not_false, am_cont, Option.bind_some, Option.toList_some, Option.toList_none, List.singleton_append, List.nil_append, cond_true, cond_false, bk_182_16, bk_182_17]; try rfl
theorem m_isDigit (env : am_E) (d : Nat) (x : Nat) (hx : x < 256) (I : Nat → Nat → Int32) (J : Nat → Nat → Int64) (E : Nat → Nat → Nat) : am_ev env (d + 1, 181, 0, [some (.int (Int32.ofNat x))], [], am_hp I J E) = some (true, some (.int (bi (isd x))), am_hp I J E) := by
  refine (bk_181_0 _ _ _ _ _ _).trans ?_
  rw [show decide (Int32.ofNat x < (48 : Int32)) = decide (x < 48) from zlt_d x 48 (by omega) (by omega), show decide ((57 : Int32) < Int32.ofNat x) = decide (57 < x) from zlt_d 57 x (by omega) (by omega)]
  unfold isd
  by_cases h1 : x < 48
  · rw [decide_eq_true h1, decide_eq_false (by omega : ¬ 48 ≤ x)]; simp only [decide_true, decide_false, Bool.not_true, Bool.not_false, am_cont, Option.bind_some, Option.toList_some, Option.toList_none, List.singleton_append, List.nil_append, cond_true, cond_false, bk_181_16, bk_181_17]; try rfl
  · rw [decide_eq_false h1, decide_eq_true (by omega : 48 ≤ x)]
    by_cases h2 : 57 < x
    · rw [decide_eq_true h2, decide_eq_false (by omega : ¬ x ≤ 57)]; simp only [decide_true, decide_false, Bool.not_true, Bool.not_false, am_cont, Option.bind_some, Option.toList_some, Option.toList_none, List.singleton_append, List.nil_append, cond_true, cond_false, bk_181_16, bk_181_17]; try rfl
    · rw [decide_eq_false h2, decide_eq_true (by omega : x ≤ 57)]; simp only [decide_true, decide_false, Bool.not_true, Bool.not_false, am_cont, Option.bind_some, Option.toList_some, Option.toList_none, List.singleton_append, List.nil_append, cond_true, cond_false, bk_181_16, bk_181_17]; try rfl
theorem m_skip (env : am_E) (d : Nat) (z : Nat) (hz : z ≤ 940) (c : Nat → Nat) (I : Nat → Nat → Int32) (J : Nat → Nat → Int64) (E : Nat → Nat → Nat) (ht : Tm I z c) : ∀ f p r, p + f = z → r 3 = Int32.ofNat z → r 5 = Int32.ofNat p → am_ev env (d + 2, 183, 0, [some (.ref 156), none, none, none, none], [], am_hp (am_ur I 156 r) J E) = am_ev env (d + 2, 183, 52, [some (.ref 156), none, none, none, none], [], am_hp (am_ur I 156 (ru r 5 (Int32.ofNat (skp c f p)))) J E) := by
  intro f
  induction f with
  | zero =>
    intro p r hp h3 h5
    refine (bk_183_0 _ _ _ _ _).trans ?_
    rw [ur_at, h3, h5, zle_t z p (by omega) (by omega)]
    show am_ev env (d + 2, 183, 52, [some (.ref 156), none, none, none, none], [], am_hp (am_ur I 156 r) J E) = am_ev env (d + 2, 183, 52, [some (.ref 156), none, none, none, none], [], am_hp (am_ur I 156 (ru r 5 (Int32.ofNat p))) J E)
    rw [← h5, ru_self]
  | succ f ih =>
    intro p r hp h3 h5
    obtain ⟨hcp, hc⟩ := ht p (by omega)
    refine (bk_183_0 _ _ _ _ _).trans ?_
    rw [ur_at, h3, h5, zle_f z p (by omega) (by omega), zI_in p 940 (by omega) (by omega), zI_nat p (by omega), ur_ne _ _ _ _ (by omega), hcp, show decide (Int32.ofNat (c p) = (32 : Int32)) = decide (c p = 32) from zI_deq _ 32 (by omega) (by omega), show decide (Int32.ofNat (c p) = (10 : Int32)) = decide (c p = 10) from zI_deq _ 10 (by omega) (by omega)]
    have s39 : am_ev env (d + 2, 183, 39, [some (.ref 156), none, none, none, none], [], am_hp (am_ur I 156 r) J E) = am_ev env (d + 2, 183, 52, [some (.ref 156), none, none, none, none], [], am_hp (am_ur I 156 (ru r 5 (Int32.ofNat (skp c f (p + 1))))) J E) := by
      refine (bk_183_39 _ _ _ _ _).trans ?_
      rw [am_u_g32, ur_at, h5, zd_1, ih (p + 1) (ru r 5 (Int32.ofNat (p + 1))) (by omega) (by rw [ru_ne _ _ _ _ (by omega)]; exact h3) (ru_eq _ _ _), ru_ru]
    have sself : am_ur I 156 r = am_ur I 156 (ru r 5 (Int32.ofNat p)) := by rw [← h5, ru_self]
    show _ = am_ev env (d + 2, 183, 52, [some (.ref 156), none, none, none, none], [], am_hp (am_ur I 156 (ru r 5 (Int32.ofNat (bif (decide (c p = 32) || decide (c p = 10)) then skp c f (p + 1) else p)))) J E)
    cases decide (c p = 32)
    · cases decide (c p = 10)
      · simp only [decide_true, decide_false, Bool.not_true, Bool.not_false, am_cont, Option.bind_some, Option.toList_some, Option.toList_none, List.singleton_append, List.nil_append, cond_true, cond_false, Bool.or_self]; rw [← sself]
      · simp only [decide_true, decide_false, Bool.not_true, Bool.not_false, am_cont, Option.bind_some, Option.toList_some, Option.toList_none, List.singleton_append, List.nil_append, cond_true, cond_false, Bool.false_or]; exact s39
    · simp only [decide_true, decide_false, Bool.not_true, Bool.not_false, am_cont, Option.bind_some, Option.toList_some, Option.toList_none, List.singleton_append, List.nil_append, cond_true, cond_false, Bool.true_or]; exact s39
def gd (c : Nat → Nat) (a i : Nat) : Bool := bif isl (c a) then decide (ndg c a i = 0) else decide (nlt c a i = 0)
theorem gd_succ (c : Nat → Nat) (a i : Nat) : gd c a (i + 1) = (gd c a i && (isl (c (a + i)) == isl (c a))) := by
  have hn1 : nlt c a (i + 1) = nlt c a i + (if isl (c (a + i)) then 1 else 0) := rfl
  have hd1 : ndg c a (i + 1) = ndg c a i + (if isl (c (a + i)) then 0 else 1) := rfl
  unfold gd
  rw [hn1, hd1]
  cases isl (c a) <;> cases isl (c (a + i)) <;> simp
theorem first_n (c : Nat → Nat) (a : Nat) : ∀ i, 1 ≤ i → (isl (c a) = true → 1 ≤ nlt c a i) ∧ (isl (c a) = false → 1 ≤ ndg c a i) := by
  intro i
  induction i with
  | zero => intro h; omega
  | succ i ih =>
    intro _
    have hn1 : nlt c a (i + 1) = nlt c a i + (if isl (c (a + i)) then 1 else 0) := rfl
    have hd1 : ndg c a (i + 1) = ndg c a i + (if isl (c (a + i)) then 0 else 1) := rfl
    by_cases h0 : i = 0
    · subst h0
      rw [hn1, hd1, Nat.add_zero]
      constructor
      · intro h; rw [h]; simp
      · intro h; rw [h]; simp
    · have := ih (by omega)
      exact ⟨fun h => by have := this.1 h; omega, fun h => by have := this.2 h; omega⟩
theorem mul27 (v x : Nat) (hx : isl x = true) : 27 * Int64.ofNat v + Int32.toInt64 (Int32.ofNat x) - 96 = Int64.ofNat (v * 27 + (x - 96)) := by
  have hx := (isl_iff x).mp hx
  rw [show Int32.toInt64 (Int32.ofNat x) = Int64.ofNat x from Int32.toInt64_ofNat' (by rw [Int32.toInt_maxValue]; omega), show v * 27 + (x - 96) = 27 * v + x - 96 by omega, Int64.ofNat_sub _ _ (by omega), Int64.ofNat_add, Int64.ofNat_mul]
  rfl
def RM (c : Nat → Nat) (a i : Nat) (r : Nat → Int32) (s : Nat → Int64) (r0 : Nat → Int32) (s0 : Nat → Int64) : Prop := r 5 = Int32.ofNat (a + i) ∧ (ndg c a i = 0 → i ≤ 7 → s 12 = Int64.ofNat (pk 27 (ltr c a i))) ∧ (nlt c a i = 0 → i ≤ 3 → r 8 = Int32.ofNat (nmv c a i)) ∧ (∀ j, j ≠ 5 → j ≠ 8 → r j = r0 j) ∧ ∀ j, j ≠ 12 → s j = s0 j
theorem m_tapeAt (env : am_E) (d : Nat) (z p : Nat) (hz : z ≤ 940) (hp : p < z) (c : Nat → Nat) (I : Nat → Nat → Int32) (J : Nat → Nat → Int64) (E : Nat → Nat → Nat) (ht : Tm I z c) (h3 : I 156 3 = Int32.ofNat z) : am_ev env (d + 1, 180, 0, [some (.ref 156), some (.int (Int32.ofNat p))], [], am_hp I J E) = some (true, some (.int (Int32.ofNat (c p))), am_hp I J E) := by
  refine (bk_180_0 _ _ _ _ _ _).trans ?_
  rw [h3, zle_f z p hp (by omega), zI_in p 940 (by omega) (by omega), zI_nat p (by omega), (ht p hp).1]
  simp only [decide_true, decide_false, Bool.not_true, Bool.not_false, am_cont, Option.bind_some, Option.toList_some, Option.toList_none, List.singleton_append, List.nil_append, cond_true, cond_false, bk_180_18]
theorem m_tapeAt0 (env : am_E) (d : Nat) (z : Nat) (hz : z ≤ 940) (I : Nat → Nat → Int32) (J : Nat → Nat → Int64) (E : Nat → Nat → Nat) (h3 : I 156 3 = Int32.ofNat z) : am_ev env (d + 1, 180, 0, [some (.ref 156), some (.int (Int32.ofNat z))], [], am_hp I J E) = some (true, some (.int (Int32.ofNat 0)), am_hp I J E) := by
  refine (bk_180_0 _ _ _ _ _ _).trans ?_
  rw [h3, zle_t z z (Nat.le_refl _) (by omega)]
  simp only [decide_true, decide_false, Bool.not_true, Bool.not_false, am_cont, Option.bind_some, Option.toList_some, Option.toList_none, List.singleton_append, List.nil_append, cond_true, cond_false, bk_180_18]
  rfl
def MU (r : Nat → Int32) (s : Nat → Int64) (u : Cu) : Prop := r 7 = Int32.ofNat u.1.1 ∧ (u.1.1 = 2 → s 12 = Int64.ofNat (pk 27 u.1.2.1)) ∧ (u.1.1 = 3 → r 8 = Int32.ofNat u.1.2.2) ∧ (u.1.1 = 4 → r 9 = Int32.ofNat u.1.2.2) ∧ r 6 = Int32.ofNat u.2.1 ∧ r 5 = Int32.ofNat u.2.2
theorem Tm_ur {I : Nat → Nat → Int32} {z : Nat} {c : Nat → Nat} (ht : Tm I z c) (p : Nat) (hp : p ≠ 157) (r : Nat → Int32) : Tm (am_ur I p r) z c := fun j hj => by rw [ur_ne _ _ _ _ (Ne.symm hp)]; exact ht j hj
theorem m_run (env : am_E) (d : Nat) (z a : Nat) (hz : z ≤ 940) (c : Nat → Nat) (I : Nat → Nat → Int32) (J : Nat → Nat → Int64) (E : Nat → Nat → Nat) (ht : Tm I z c) (r0 : Nat → Int32) (s0 : Nat → Int64) (h3 : r0 3 = Int32.ofNat z) (h6 : r0 6 = Int32.ofNat a) (x1 : Int32) (z0 : Nat) (r : Nat → Int32) (s : Nat → Int64) (o4 : Option Value) (h1 : 1 ≤ 0 + rnl c z0 (a + 0)) (hz1 : a + 0 + z0 = z) (hI : RM c a 0 r s r0 s0) : ∃ r' s', am_ev env (d + 2, 183, 215, [some (.ref 156), some (.int x1), some (.int (bi (isl (c a)))), some (.int (bi (gd c a 0))), o4], [], am_hp (am_ur I 156 r) (am_ur J 156 s) E) = some (true, none, am_hp (am_ur I 156 r') (am_ur J 156 s') E) ∧ MU r' s' (tkr c a (0 + rnl c z0 (a + 0)), a, a + (0 + rnl c z0 (a + 0))) ∧ (∀ j, j < 5 ∨ 9 ≤ j → r' j = r0 j) ∧ ∀ j, j ≠ 12 → s' j = s0 j := by
  have fin : ∀ i r s (o4 : Option Value), 1 ≤ i → a + i ≤ z → (∀ j, j < i → isa (c (a + j)) = true) → RM c a i r s r0 s0 → ∃ r' s', (bif decide (bi (gd c a i) = 0) then am_ev env (d + 2, 183, 377, [some (.ref 156), some (.int x1), some (.int (bi (isl (c a)))), some (.int (bi (gd c a i))), o4], [.ref 156], am_hp (am_ur I 156 r) (am_ur J 156 s) E) else bif decide (bi (isl (c a)) = 0) then am_ev env (d + 2, 183, 374, [some (.ref 156), some (.int x1), some (.int (bi (isl (c a)))), some (.int (bi (gd c a i))), o4], [.int 3, .int (am_ur I 156 r 156 5 - am_ur I 156 r 156 6), .ref 156], am_hp (am_ur I 156 r) (am_ur J 156 s) E) else am_ev env (d + 2, 183, 374, [some (.ref 156), some (.int x1), some (.int (bi (isl (c a)))), some (.int (bi (gd c a i))), o4], [.int 7, .int (am_ur I 156 r 156 5 - am_ur I 156 r 156 6), .ref 156], am_hp (am_ur I 156 r) (am_ur J 156 s) E)) = some (true, none, am_hp (am_ur I 156 r') (am_ur J 156 s') E) ∧ MU r' s' (tkr c a i, a, a + i) ∧ (∀ j, j < 5 ∨ 9 ≤ j → r' j = r0 j) ∧ ∀ j, j ≠ 12 → s' j = s0 j := by
    intro i r s o4 hi hiz hall hI
    obtain ⟨i1, i2, i3, i4, i5⟩ := hI
    have hf := first_n c a i hi
    have hnn := nlt_ndg c a i
    have k6 : r 6 = Int32.ofNat a := (i4 6 (by omega) (by omega)).trans h6
    have kk : ∀ v j, j < 5 ∨ 9 ≤ j → ru r 7 v j = r0 j := fun v j hj => by rw [ru_ne _ _ _ _ (by omega)]; exact i4 j (by omega) (by omega)
    have mk : ∀ v : Nat, (v = 2 → s 12 = Int64.ofNat (pk 27 (ltr c a i))) → (v = 3 → r 8 = Int32.ofNat (nmv c a i)) → v < 4 → MU (ru r 7 (Int32.ofNat v)) s ((v, (if v = 2 then ltr c a i else []), if v = 3 then nmv c a i else 0), a, a + i) := by
      intro v q2 q3 q4
      refine ⟨ru_eq _ _ _, fun h => ?_, fun h => ?_, fun h => ?_, by rw [ru_ne _ _ _ _ (by omega)]; exact k6, by rw [ru_ne _ _ _ _ (by omega)]; exact i1⟩
      · have h : v = 2 := h
        show s 12 = Int64.ofNat (pk 27 (if v = 2 then ltr c a i else []))
        rw [if_pos h]; exact q2 h
      · have h : v = 3 := h
        show ru r 7 _ 8 = Int32.ofNat (if v = 3 then nmv c a i else 0)
        rw [ru_ne _ _ _ _ (by omega), if_pos h]; exact q3 h
      · have h : v = 4 := h
        omega
    rw [bi_eq0, bi_eq0, ur_at, i1, k6, zI_sub (a + i) a (by omega), Nat.add_sub_cancel_left]
    have hw : ∀ o4, am_ev env (d + 2, 183, 377, [some (.ref 156), some (.int x1), some (.int (bi (isl (c a)))), some (.int (bi (gd c a i))), o4], [.ref 156], am_hp (am_ur I 156 r) (am_ur J 156 s) E) = some (true, none, am_hp (am_ur I 156 (ru r 7 1)) (am_ur J 156 s) E) := by
      intro o4
      simp only [bk_183_377, bk_183_390, am_u_g32]
    unfold tkr
    cases hl : isl (c a) with
    | true =>
      have h1 := hf.1 hl
      have hgd : gd c a i = decide (ndg c a i = 0) := by unfold gd; rw [hl]; rfl
      by_cases g0 : ndg c a i = 0
      · by_cases g7 : nlt c a i ≤ 7
        · rw [if_pos ⟨g0, g7⟩]
          refine ⟨ru r 7 2, s, ?_, mk 2 (fun _ => i2 g0 (by omega)) (fun h => by omega) (by omega), kk 2, i5⟩
          rw [hgd, decide_eq_true g0]
          simp only [decide_true, decide_false, Bool.not_true, Bool.not_false, am_cont, Option.bind_some, Option.toList_some, Option.toList_none, List.singleton_append, List.nil_append, cond_true, cond_false, bk_183_374, show decide (Int32.ofNat i ≤ (7 : Int32)) = true from zle_t i 7 (by omega) (by omega), bi_eq0, bk_183_390, am_u_g32]
        · rw [if_neg (fun h => g7 h.2), if_neg (fun h => by omega)]
          refine ⟨ru r 7 1, s, ?_, mk 1 (fun h => by omega) (fun h => by omega) (by omega), kk 1, i5⟩
          have hw' := hw o4
          rw [hl] at hw'
          rw [hgd, decide_eq_true g0] at hw' ⊢
          simp only [decide_true, decide_false, Bool.not_true, Bool.not_false, am_cont, Option.bind_some, Option.toList_some, Option.toList_none, List.singleton_append, List.nil_append, cond_true, cond_false, bk_183_374, show decide (Int32.ofNat i ≤ (7 : Int32)) = false from zle_f i 7 (by omega) (by omega)]
          exact hw'
      · rw [if_neg (fun h => g0 h.1), if_neg (fun h => by omega)]
        refine ⟨ru r 7 1, s, ?_, mk 1 (fun h => by omega) (fun h => by omega) (by omega), kk 1, i5⟩
        have hw' := hw o4
        rw [hl] at hw'
        rw [hgd, decide_eq_false g0] at hw' ⊢
        exact hw'
    | false =>
      have h1 := hf.2 hl
      have hgd : gd c a i = decide (nlt c a i = 0) := by unfold gd; rw [hl]; rfl
      rw [if_neg (fun h => by omega)]
      by_cases g0 : nlt c a i = 0
      · by_cases g3 : ndg c a i ≤ 3
        · rw [if_pos ⟨g0, g3⟩]
          refine ⟨ru r 7 3, s, ?_, mk 3 (fun h => by omega) (fun _ => i3 g0 (by omega)) (by omega), kk 3, i5⟩
          rw [hgd, decide_eq_true g0]
          simp only [decide_true, decide_false, Bool.not_true, Bool.not_false, am_cont, Option.bind_some, Option.toList_some, Option.toList_none, List.singleton_append, List.nil_append, cond_true, cond_false, bk_183_374, show decide (Int32.ofNat i ≤ (3 : Int32)) = true from zle_t i 3 (by omega) (by omega), bi_eq0, bk_183_390, am_u_g32]
        · rw [if_neg (fun h => g3 h.2)]
          refine ⟨ru r 7 1, s, ?_, mk 1 (fun h => by omega) (fun h => by omega) (by omega), kk 1, i5⟩
          have hw' := hw o4
          rw [hl] at hw'
          rw [hgd, decide_eq_true g0] at hw' ⊢
          simp only [decide_true, decide_false, Bool.not_true, Bool.not_false, am_cont, Option.bind_some, Option.toList_some, Option.toList_none, List.singleton_append, List.nil_append, cond_true, cond_false, bk_183_374, show decide (Int32.ofNat i ≤ (3 : Int32)) = false from zle_f i 3 (by omega) (by omega)]
          exact hw'
      · rw [if_neg (fun h => g0 h.1)]
        refine ⟨ru r 7 1, s, ?_, mk 1 (fun h => by omega) (fun h => by omega) (by omega), kk 1, i5⟩
        have hw' := hw o4
        rw [hl] at hw'
        rw [hgd, decide_eq_false g0] at hw' ⊢
        exact hw'
  have main : ∀ f i r s (o4 : Option Value), (∀ j, j < i → isa (c (a + j)) = true) → 1 ≤ i + rnl c f (a + i) → a + i + f = z → RM c a i r s r0 s0 → ∃ r' s', am_ev env (d + 2, 183, 215, [some (.ref 156), some (.int x1), some (.int (bi (isl (c a)))), some (.int (bi (gd c a i))), o4], [], am_hp (am_ur I 156 r) (am_ur J 156 s) E) = some (true, none, am_hp (am_ur I 156 r') (am_ur J 156 s') E) ∧ MU r' s' (tkr c a (i + rnl c f (a + i)), a, a + (i + rnl c f (a + i))) ∧ (∀ j, j < 5 ∨ 9 ≤ j → r' j = r0 j) ∧ ∀ j, j ≠ 12 → s' j = s0 j := by
    intro f
    induction f with
    | zero =>
      intro i r s o4 hall h1 hz1 hI
      have h1 : 1 ≤ i := h1
      obtain ⟨r', s', e1, e2⟩ := fin i r s o4 h1 (by omega) hall hI
      refine ⟨r', s', ?_, e2⟩
      have k3 : am_ur I 156 r 156 3 = Int32.ofNat z := by rw [ur_at, hI.2.2.2.1 3 (by omega) (by omega)]; exact h3
      have k5 : am_ur I 156 r 156 5 = Int32.ofNat z := by rw [ur_at, hI.1, show a + i = z by omega]
      rw [← e1]
      refine (bk_183_215 _ _ _ _ _ _ _ _ _).trans ?_
      simp only [decide_true, decide_false, Bool.not_true, Bool.not_false, am_cont, Option.bind_some, Option.toList_some, Option.toList_none, List.singleton_append, List.nil_append, cond_true, cond_false, k5, m_tapeAt0 env _ z hz _ _ _ k3, bk_183_223, m_isLetter env _ 0 (by omega), bk_183_226, show isl 0 = false from rfl, bi_f, zq_0_0, bk_183_237, m_isDigit env _ 0 (by omega), show isd 0 = false from rfl, bk_183_240]
    | succ f ih =>
      intro i r s o4 hall h1 hz1 hI
      have hrn : rnl c (f + 1) (a + i) = (bif isa (c (a + i)) then rnl c f (a + i + 1) + 1 else 0) := rfl
      obtain ⟨hcp, hc⟩ := ht (a + i) (by omega)
      have k3 : am_ur I 156 r 156 3 = Int32.ofNat z := by rw [ur_at, hI.2.2.2.1 3 (by omega) (by omega)]; exact h3
      have k5 : am_ur I 156 r 156 5 = Int32.ofNat (a + i) := by rw [ur_at, hI.1]
      have hat := fun d => m_tapeAt env d z (a + i) hz (by omega) c (am_ur I 156 r) (am_ur J 156 s) E (Tm_ur ht 156 (by omega) r) k3
      cases ha : isa (c (a + i)) with
      | false =>
        rw [hrn, ha] at h1 ⊢
        have h1 : 1 ≤ i := h1
        obtain ⟨r', s', e1, e2⟩ := fin i r s o4 h1 (by omega) hall hI
        refine ⟨r', s', ?_, e2⟩
        unfold isa at ha
        rw [Bool.or_eq_false_iff] at ha
        rw [← e1]
        refine (bk_183_215 _ _ _ _ _ _ _ _ _).trans ?_
        simp only [decide_true, decide_false, Bool.not_true, Bool.not_false, am_cont, Option.bind_some, Option.toList_some, Option.toList_none, List.singleton_append, List.nil_append, cond_true, cond_false, k5, hat, bk_183_223, m_isLetter env _ _ hc, bk_183_226, ha.1, bi_f, zq_0_0, bk_183_237, m_isDigit env _ _ hc, ha.2, bk_183_240]
      | true =>
        rw [hrn, ha]
        have s243 : am_ev env (d + 2, 183, 215, [some (.ref 156), some (.int x1), some (.int (bi (isl (c a)))), some (.int (bi (gd c a i))), o4], [], am_hp (am_ur I 156 r) (am_ur J 156 s) E) = am_ev env (d + 2, 183, 243, [some (.ref 156), some (.int x1), some (.int (bi (isl (c a)))), some (.int (bi (gd c a i))), o4], [], am_hp (am_ur I 156 r) (am_ur J 156 s) E) := by
          unfold isa at ha
          refine (bk_183_215 _ _ _ _ _ _ _ _ _).trans ?_
          simp only [decide_true, decide_false, Bool.not_true, Bool.not_false, am_cont, Option.bind_some, Option.toList_some, Option.toList_none, List.singleton_append, List.nil_append, cond_true, cond_false, k5, hat, bk_183_223, m_isLetter env _ _ hc, bk_183_226, bi_eq0, Bool.not_not]
          cases hl : isl (c (a + i))
          · rw [hl] at ha
            simp only [Bool.false_or] at ha
            simp only [decide_true, decide_false, Bool.not_true, Bool.not_false, am_cont, Option.bind_some, Option.toList_some, Option.toList_none, List.singleton_append, List.nil_append, cond_true, cond_false, hat, bk_183_237, m_isDigit env _ _ hc, ha, bk_183_240, bi_eq0]
          · simp only [decide_true, decide_false, Bool.not_true, Bool.not_false, am_cont, Option.bind_some, Option.toList_some, Option.toList_none, List.singleton_append, List.nil_append, cond_true, cond_false]
        have s272 : am_ev env (d + 2, 183, 243, [some (.ref 156), some (.int x1), some (.int (bi (isl (c a)))), some (.int (bi (gd c a i))), o4], [], am_hp (am_ur I 156 r) (am_ur J 156 s) E) = am_ev env (d + 2, 183, 272, [some (.ref 156), some (.int x1), some (.int (bi (isl (c a)))), some (.int (bi (gd c a i))), some (.int (Int32.ofNat (c (a + i))))], [.int (bi (gd c a (i + 1)))], am_hp (am_ur I 156 r) (am_ur J 156 s) E) := by
          refine (bk_183_243 _ _ _ _ _ _ _ _ _).trans ?_
          rw [k5, zI_in (a + i) 940 (by omega) (by omega), zI_nat (a + i) (by omega), ur_ne _ _ _ _ (by omega), hcp, bi_eq0, gd_succ]
          cases gd c a i
          · simp only [decide_true, decide_false, Bool.not_true, Bool.not_false, am_cont, Option.bind_some, Option.toList_some, Option.toList_none, List.singleton_append, List.nil_append, cond_true, cond_false, bk_183_271, Bool.false_and]; try rfl
          · simp only [decide_true, decide_false, Bool.not_true, Bool.not_false, am_cont, Option.bind_some, Option.toList_some, Option.toList_none, List.singleton_append, List.nil_append, cond_true, cond_false, m_isLetter env _ _ hc, bk_183_263, bi_deq, bk_183_271, Bool.true_and]
            cases (isl (c (a + i)) == isl (c a))
            · simp only [decide_true, decide_false, Bool.not_true, Bool.not_false, am_cont, Option.bind_some, Option.toList_some, Option.toList_none, List.singleton_append, List.nil_append, cond_true, cond_false]; try rfl
            · simp only [decide_true, decide_false, Bool.not_true, Bool.not_false, am_cont, Option.bind_some, Option.toList_some, Option.toList_none, List.singleton_append, List.nil_append, cond_true, cond_false]; try rfl
        obtain ⟨i1, i2, i3, i4, i5⟩ := hI
        have k6 : r 6 = Int32.ofNat a := (i4 6 (by omega) (by omega)).trans h6
        have kd : am_ur I 156 r 156 5 - am_ur I 156 r 156 6 = Int32.ofNat i := by rw [ur_at, i1, k6, zI_sub _ _ (by omega), Nat.add_sub_cancel_left]
        have s215 : ∀ x3, am_ev env (d + 2, 183, 272, [some (.ref 156), some (.int x1), some (.int (bi (isl (c a)))), some (.int (bi (gd c a i))), some (.int (Int32.ofNat (c (a + i))))], [.int x3], am_hp (am_ur I 156 r) (am_ur J 156 s) E) = am_ev env (d + 2, 183, 215, [some (.ref 156), some (.int x1), some (.int (bi (isl (c a)))), some (.int x3), some (.int (Int32.ofNat (c (a + i))))], [], am_hp (am_ur I 156 (ru (if 3 ≤ i then r else ru r 8 (((10 * r 8) + Int32.ofNat (c (a + i))) - 48)) 5 (Int32.ofNat (a + i + 1)))) (am_ur J 156 (if 7 ≤ i then s else rug s 12 (((27 * s 12) + Int32.toInt64 (Int32.ofNat (c (a + i)))) - 96))) E) := by
          intro x3
          have d7 : decide ((7 : Int32) ≤ Int32.ofNat i) = decide (7 ≤ i) := zle_d 7 i (by omega) (by omega)
          have d3 : decide ((3 : Int32) ≤ Int32.ofNat i) = decide (3 ≤ i) := zle_d 3 i (by omega) (by omega)
          refine (bk_183_272 _ _ _ _ _ _ _ _ _ _).trans ?_
          rw [kd, d7, am_u_g, ur_at]
          have s307 : ∀ J', am_ev env (d + 2, 183, 307, [some (.ref 156), some (.int x1), some (.int (bi (isl (c a)))), some (.int x3), some (.int (Int32.ofNat (c (a + i))))], [], am_hp (am_ur I 156 r) J' E) = am_ev env (d + 2, 183, 215, [some (.ref 156), some (.int x1), some (.int (bi (isl (c a)))), some (.int x3), some (.int (Int32.ofNat (c (a + i))))], [], am_hp (am_ur I 156 (ru (if 3 ≤ i then r else ru r 8 (((10 * r 8) + Int32.ofNat (c (a + i))) - 48)) 5 (Int32.ofNat (a + i + 1)))) J' E) := by
            intro J'
            refine (bk_183_307 _ _ _ _ _ _ _ _ _).trans ?_
            rw [kd, d3, am_u_g32, ur_at]
            by_cases q3 : 3 ≤ i
            · rw [decide_eq_true q3, if_pos q3]
              simp only [decide_true, decide_false, Bool.not_true, Bool.not_false, am_cont, Option.bind_some, Option.toList_some, Option.toList_none, List.singleton_append, List.nil_append, cond_true, cond_false, bk_183_337, am_u_g32, ur_at, i1, zd_1]
            · rw [decide_eq_false q3, if_neg q3]
              simp only [decide_true, decide_false, Bool.not_true, Bool.not_false, am_cont, Option.bind_some, Option.toList_some, Option.toList_none, List.singleton_append, List.nil_append, cond_true, cond_false, bk_183_337, am_u_g32, ur_at, ru_ne r 8 _ 5 (by omega), i1, zd_1]
          by_cases q7 : 7 ≤ i
          · rw [decide_eq_true q7, if_pos q7, cond_true]; exact s307 _
          · rw [decide_eq_false q7, if_neg q7, cond_false]; exact s307 _
        have hn1 : nlt c a (i + 1) = nlt c a i + (if isl (c (a + i)) then 1 else 0) := rfl
        have hd1 : ndg c a (i + 1) = ndg c a i + (if isl (c (a + i)) then 0 else 1) := rfl
        have hI' : RM c a (i + 1) (ru (if 3 ≤ i then r else ru r 8 (((10 * r 8) + Int32.ofNat (c (a + i))) - 48)) 5 (Int32.ofNat (a + i + 1))) (if 7 ≤ i then s else rug s 12 (((27 * s 12) + Int32.toInt64 (Int32.ofNat (c (a + i)))) - 96)) r0 s0 := by
          refine ⟨by rw [ru_eq]; rfl, fun q1 q2 => ?_, fun q1 q2 => ?_, fun j q1 q2 => ?_, fun j q1 => ?_⟩
          · have hl := nd0 c a (i + 1) q1 i (by omega)
            rw [if_neg (by omega), rug_eq, i2 (by omega) (by omega), mul27 _ _ hl]
            rfl
          · have hl : isl (c (a + i)) = false := by
              cases e : isl (c (a + i)) with
              | false => rfl
              | true => rw [e] at hn1; simp at hn1; omega
            have hdr : 48 ≤ c (a + i) ∧ c (a + i) ≤ 57 := by
              unfold isa at ha; rw [hl] at ha; exact (isd_iff _).mp ha
            rw [ru_ne _ _ _ _ (by omega), if_neg (by omega), ru_eq, i3 (by omega) (by omega)]
            show _ = Int32.ofNat (nmv c a i * 10 + (c (a + i) - 48))
            rw [show 10 * Int32.ofNat (nmv c a i) = Int32.ofNat (10 * nmv c a i) from zI_mul 10 _, zI_add, show Int32.ofNat (10 * nmv c a i + c (a + i)) - 48 = Int32.ofNat (10 * nmv c a i + c (a + i) - 48) from zI_sub _ 48 (by omega), show 10 * nmv c a i + c (a + i) - 48 = nmv c a i * 10 + (c (a + i) - 48) by omega]
          · rw [ru_ne _ _ _ _ q1]
            by_cases q3 : 3 ≤ i
            · rw [if_pos q3]; exact i4 j q1 q2
            · rw [if_neg q3, ru_ne _ _ _ _ q2]; exact i4 j q1 q2
          · by_cases q7 : 7 ≤ i
            · rw [if_pos q7]; exact i5 j q1
            · rw [if_neg q7, rug_ne _ _ _ _ q1]; exact i5 j q1
        have hgo := ih (i + 1) _ _ (some (.int (Int32.ofNat (c (a + i))))) (fun j hj => by
          by_cases e : j = i
          · rw [e]; exact ha
          · exact hall j (by omega)) (by omega) (by omega) hI'
        rw [show a + (i + 1) = a + i + 1 by omega, show i + 1 + rnl c f (a + i + 1) = i + (rnl c f (a + i + 1) + 1) by omega] at hgo
        obtain ⟨r', s', e1, e2⟩ := hgo
        exact ⟨r', s', (s243.trans (s272.trans (s215 _))).trans e1, e2⟩
  exact main z0 0 r s o4 (fun j hj => absurd hj (Nat.not_lt_zero _)) h1 hz1 hI
theorem m_go (env : am_E) (d : Nat) (z lim p : Nat) (hz : z ≤ 940) (hp : p ≤ z) (hlim : lim ≤ 1000) (c : Nat → Nat) (I : Nat → Nat → Int32) (J : Nat → Nat → Int64) (E : Nat → Nat → Nat) (ht : Tm I z c) (r : Nat → Int32) (s : Nat → Int64) (h3 : r 3 = Int32.ofNat z) (h4 : r 4 = Int32.ofNat lim) (h5 : r 5 = Int32.ofNat p) : ∃ r' s', am_ev env (d + 2, 183, 0, [some (.ref 156), none, none, none, none], [], am_hp (am_ur I 156 r) (am_ur J 156 s) E) = some (true, none, am_hp (am_ur I 156 r') (am_ur J 156 s') E) ∧ MU r' s' (lx c z lim p) ∧ (∀ j, j < 5 ∨ 10 ≤ j → r' j = r j) ∧ ∀ j, j ≠ 12 → s' j = s j := by
  have hsk := skp_ge c (z - p) p
  have st := m_skip env d z hz c I (am_ur J 156 s) E ht (z - p) p r (by omega) h3 h5
  unfold lx
  generalize skp c (z - p) p = q at hsk st
  unfold lxq
  have hrq : ∀ j, j ≠ 5 → ru r 5 (Int32.ofNat q) j = r j := fun j hj => ru_ne _ _ _ _ hj
  have s52 : am_ev env (d + 2, 183, 52, [some (.ref 156), none, none, none, none], [], am_hp (am_ur I 156 (ru r 5 (Int32.ofNat q))) (am_ur J 156 s) E) = (bif decide (z ≤ lim) then am_ev env (d + 2, 183, 96, [some (.ref 156), none, none, none, none], [], am_hp (am_ur I 156 (ru (ru r 5 (Int32.ofNat q)) 6 (Int32.ofNat q))) (am_ur J 156 s) E) else bif decide (q < lim) then am_ev env (d + 2, 183, 96, [some (.ref 156), none, none, none, none], [], am_hp (am_ur I 156 (ru (ru r 5 (Int32.ofNat q)) 6 (Int32.ofNat q))) (am_ur J 156 s) E) else some (true, none, am_hp (am_ur I 156 (ru (ru (ru r 5 (Int32.ofNat q)) 6 (Int32.ofNat lim)) 7 1)) (am_ur J 156 s) E)) := by
    refine (bk_183_52 _ _ _ _ _).trans ?_
    rw [ur_at, ru_eq, am_u_g32, ur_at, ru_ne _ 6 _ 3 (by omega), ru_ne _ 6 _ 4 (by omega), ru_eq, hrq 3 (by omega), hrq 4 (by omega), h3, h4, zle_d z lim (by omega) (by omega), zlt_d q lim (by omega) (by omega), am_u_g32, ru_ru, am_u_g32]
  by_cases h : z ≤ q ∨ lim ≤ q
  · rw [if_pos h]
    by_cases h1 : z ≤ lim
    · have hqz : q = z := by omega
      subst hqz
      rw [if_pos h1, Nat.min_eq_left h1]
      refine ⟨ru (ru (ru r 5 (Int32.ofNat q)) 6 (Int32.ofNat q)) 7 0, s, ?_, ⟨ru_eq _ _ _, fun h => absurd h (by show ¬ (0 = 2); omega), fun h => absurd h (by show ¬ (0 = 3); omega), fun h => absurd h (by show ¬ (0 = 4); omega), by rw [ru_ne _ _ _ _ (by omega), ru_eq], by rw [ru_ne _ _ _ _ (by omega), ru_ne _ _ _ _ (by omega), ru_eq]⟩, fun j hj => by rw [ru_ne _ _ _ _ (by omega), ru_ne _ _ _ _ (by omega), ru_ne _ _ _ _ (by omega)], fun _ _ => rfl⟩
      refine st.trans (s52.trans ?_)
      rw [decide_eq_true h1, cond_true]
      refine (bk_183_96 _ _ _ _ _).trans ?_
      rw [ur_at, ru_ne _ 6 _ 5 (by omega), ru_eq, ru_ne _ 6 _ 3 (by omega), hrq 3 (by omega), h3, zlt_f q q (Nat.le_refl _) (by omega), cond_false, am_u_g32]
    · rw [if_neg h1, Nat.min_eq_right (by omega)]
      refine ⟨ru (ru (ru r 5 (Int32.ofNat q)) 6 (Int32.ofNat lim)) 7 1, s, ?_, ⟨ru_eq _ _ _, fun h => absurd h (by show ¬ (1 = 2); omega), fun h => absurd h (by show ¬ (1 = 3); omega), fun h => absurd h (by show ¬ (1 = 4); omega), by rw [ru_ne _ _ _ _ (by omega), ru_eq], by rw [ru_ne _ _ _ _ (by omega), ru_ne _ _ _ _ (by omega), ru_eq]⟩, fun j hj => by rw [ru_ne _ _ _ _ (by omega), ru_ne _ _ _ _ (by omega), ru_ne _ _ _ _ (by omega)], fun _ _ => rfl⟩
      refine st.trans (s52.trans ?_)
      rw [decide_eq_false h1, decide_eq_false (by omega : ¬ q < lim)]
      rfl
  · rw [if_neg h]
    obtain ⟨hcq, hc⟩ := ht q (by omega)
    have hrow : ∀ j, j ≠ 5 → j ≠ 6 → ru (ru r 5 (Int32.ofNat q)) 6 (Int32.ofNat q) j = r j := fun j h5 h6 => by rw [ru_ne _ _ _ _ h6, ru_ne _ _ _ _ h5]
    have hr5 : ru (ru r 5 (Int32.ofNat q)) 6 (Int32.ofNat q) 5 = Int32.ofNat q := by rw [ru_ne _ _ _ _ (by omega), ru_eq]
    have hr6 : ru (ru r 5 (Int32.ofNat q)) 6 (Int32.ofNat q) 6 = Int32.ofNat q := ru_eq _ _ _
    have s96 : am_ev env (d + 2, 183, 0, [some (.ref 156), none, none, none, none], [], am_hp (am_ur I 156 r) (am_ur J 156 s) E) = am_ev env (d + 2, 183, 96, [some (.ref 156), none, none, none, none], [], am_hp (am_ur I 156 (ru (ru r 5 (Int32.ofNat q)) 6 (Int32.ofNat q))) (am_ur J 156 s) E) := by
      refine st.trans (s52.trans ?_)
      by_cases h1 : z ≤ lim
      · rw [decide_eq_true h1]; rfl
      · rw [decide_eq_false h1, decide_eq_true (by omega : q < lim)]; rfl
    generalize hrr : ru (ru r 5 (Int32.ofNat q)) 6 (Int32.ofNat q) = r1 at hrow hr5 hr6 s96
    have g3 : r1 3 = Int32.ofNat z := by rw [hrow 3 (by omega) (by omega)]; exact h3
    have e59 : decide (Int32.ofNat (c q) = (59 : Int32)) = decide (c q = 59) := zI_deq _ 59 (by omega) (by omega)
    have e60 : decide (Int32.ofNat (c q) = (60 : Int32)) = decide (c q = 60) := zI_deq _ 60 (by omega) (by omega)
    have e61 : decide (Int32.ofNat (c q) = (61 : Int32)) = decide (c q = 61) := zI_deq _ 61 (by omega) (by omega)
    have e62 : decide (Int32.ofNat (c q) = (62 : Int32)) = decide (c q = 62) := zI_deq _ 62 (by omega) (by omega)
    have e40 : decide (Int32.ofNat (c q) = (40 : Int32)) = decide (c q = 40) := zI_deq _ 40 (by omega) (by omega)
    have e41 : decide (Int32.ofNat (c q) = (41 : Int32)) = decide (c q = 41) := zI_deq _ 41 (by omega) (by omega)
    have s127 : am_ev env (d + 2, 183, 96, [some (.ref 156), none, none, none, none], [], am_hp (am_ur I 156 r1) (am_ur J 156 s) E) = (bif isa (c q) then am_ev env (d + 2, 183, 198, [some (.ref 156), some (.int (Int32.ofNat (c q))), none, none, none], [], am_hp (am_ur I 156 r1) (am_ur J 156 s) E) else am_ev env (d + 2, 183, 179, [some (.ref 156), some (.int (Int32.ofNat (c q))), none, none, none], [.int (if iss (c q) = true then 4 else 1), .ref 156], am_hp (am_ur I 156 r1) (am_ur J 156 s) E)) := by
      refine (bk_183_96 _ _ _ _ _).trans ?_
      rw [ur_at, hr5, g3, zlt_t q z (by omega) (by omega), zI_in q 940 (by omega) (by omega), zI_nat q (by omega), ur_ne _ _ _ _ (by omega), hcq]
      unfold isa
      simp only [decide_true, decide_false, Bool.not_true, Bool.not_false, am_cont, Option.bind_some, Option.toList_some, Option.toList_none, List.singleton_append, List.nil_append, cond_true, cond_false, m_isLetter env _ _ hc, bk_183_127, bi_eq0, Bool.not_not]
      cases isl (c q)
      · simp only [decide_true, decide_false, Bool.not_true, Bool.not_false, am_cont, Option.bind_some, Option.toList_some, Option.toList_none, List.singleton_append, List.nil_append, cond_true, cond_false, m_isDigit env _ _ hc, bk_183_134, bi_eq0, Bool.not_not, Bool.false_or]
        cases isd (c q)
        · simp only [decide_true, decide_false, Bool.not_true, Bool.not_false, am_cont, Option.bind_some, Option.toList_some, Option.toList_none, List.singleton_append, List.nil_append, cond_true, cond_false, e59, e60, e61, e62, e40, e41, bk_183_174]
          unfold iss
          cases decide (c q = 59) <;> cases decide (c q = 60) <;> cases decide (c q = 61) <;> cases decide (c q = 62) <;> cases decide (c q = 40) <;> cases decide (c q = 41) <;> rfl
        · simp only [decide_true, decide_false, Bool.not_true, Bool.not_false, am_cont, Option.bind_some, Option.toList_some, Option.toList_none, List.singleton_append, List.nil_append, cond_true, cond_false]
      · simp only [decide_true, decide_false, Bool.not_true, Bool.not_false, am_cont, Option.bind_some, Option.toList_some, Option.toList_none, List.singleton_append, List.nil_append, cond_true, cond_false, Bool.true_or]
    by_cases ha : isa (c q) = true
    · rw [if_pos ha]
      have hr1 : 1 ≤ rnl c (z - q) q := by
        obtain ⟨f, hf⟩ : ∃ f, z - q = f + 1 := ⟨z - q - 1, by omega⟩
        rw [hf]
        show 1 ≤ (bif isa (c q) then rnl c f (q + 1) + 1 else 0)
        rw [ha]; show 1 ≤ rnl c f (q + 1) + 1; omega
      have hm := m_run env d z q hz c I J E ht (ru r1 8 0) s (by rw [ru_ne _ _ _ _ (by omega)]; exact g3) (by rw [ru_ne _ _ _ _ (by omega)]; exact hr6) (Int32.ofNat (c q)) (z - q) (ru r1 8 0) (rug s 12 0) none (by rw [Nat.zero_add, Nat.add_zero]; exact hr1) (by omega) ⟨by rw [ru_ne _ _ _ _ (by omega), Nat.add_zero]; exact hr5, fun _ _ => by rw [rug_eq]; rfl, fun _ _ => by rw [ru_eq]; rfl, fun _ _ _ => rfl, fun j hj => rug_ne _ _ _ _ hj⟩
      rw [Nat.zero_add, Nat.add_zero] at hm
      obtain ⟨r', s', t1, t2, t3, t4⟩ := hm
      refine ⟨r', s', ?_, t2, fun j hj => ?_, t4⟩
      · refine s96.trans (s127.trans ?_)
        rw [ha]
        have hg0 : bi (gd c q 0) = 1 := by unfold gd; cases isl (c q) <;> rfl
        rw [hg0] at t1
        simp only [decide_true, decide_false, Bool.not_true, Bool.not_false, am_cont, Option.bind_some, Option.toList_some, Option.toList_none, List.singleton_append, List.nil_append, cond_true, cond_false, bk_183_198, m_isLetter env _ _ hc, bk_183_202, am_u_g32, am_u_g]
        exact t1
      · rw [t3 j (by omega), ru_ne _ _ _ _ (by omega)]; exact hrow j (by omega) (by omega)
    · rw [if_neg ha]
      refine ⟨ru (ru (ru r1 7 (if iss (c q) = true then 4 else 1)) 9 (Int32.ofNat (c q))) 5 (Int32.ofNat (q + 1)), s, ?_, ⟨?_, ?_, ?_, ?_, ?_, ?_⟩, ?_, fun _ _ => rfl⟩
      · refine s96.trans (s127.trans ?_)
        rw [Bool.not_eq_true] at ha
        rw [ha]
        simp only [decide_true, decide_false, Bool.not_true, Bool.not_false, am_cont, Option.bind_some, Option.toList_some, Option.toList_none, List.singleton_append, List.nil_append, cond_true, cond_false, bk_183_179, am_u_g32, ur_at]
        rw [ru_ne _ 9 _ 5 (by omega), ru_ne _ 7 _ 5 (by omega), hr5, zd_1]
      · rw [ru_ne _ _ _ _ (by omega), ru_ne _ _ _ _ (by omega), ru_eq]
        by_cases h1 : iss (c q) = true
        · rw [if_pos h1, if_pos h1]; rfl
        · rw [if_neg h1, if_neg h1]; rfl
      · intro h2
        by_cases h1 : iss (c q) = true
        · rw [if_pos h1] at h2; exact absurd h2 (by show ¬ (4 = 2); omega)
        · rw [if_neg h1] at h2; exact absurd h2 (by show ¬ (1 = 2); omega)
      · intro h2
        by_cases h1 : iss (c q) = true
        · rw [if_pos h1] at h2; exact absurd h2 (by show ¬ (4 = 3); omega)
        · rw [if_neg h1] at h2; exact absurd h2 (by show ¬ (1 = 3); omega)
      · intro _; rw [ru_ne _ _ _ _ (by omega), ru_eq]
      · rw [ru_ne _ _ _ _ (by omega), ru_ne _ _ _ _ (by omega), ru_ne _ _ _ _ (by omega)]; exact hr6
      · rw [ru_eq]
      · intro j hj; rw [ru_ne _ _ _ _ (by omega), ru_ne _ _ _ _ (by omega), ru_ne _ _ _ _ (by omega)]; exact hrow j (by omega) (by omega)
