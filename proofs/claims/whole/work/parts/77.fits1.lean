/-! fits: the pairs told -/
/-- P of all of j from i on -/
def afw (P : Nat → Bool) : Nat → Nat → Bool
  | 0, _ => true
  | j + 1, i => P i && afw P j (i + 1)
/-- a tape of z bytes c -/
def Tp (I : Nat → Nat → Int32) (z : Nat) (c : Nat → Nat) : Prop := I 2 0 = Int32.ofNat z ∧ ∀ j, j < z → I 3 j = Int32.ofNat (c j) ∧ c j < 256
theorem c_tat (env : am_E) (d : Nat) (z j : Nat) (c : Nat → Nat) (hz : z ≤ 940) (hj : j < z) (I : Nat → Nat → Int32) (J : Nat → Nat → Int64) (E : Nat → Nat → Nat) (ht : Tp I z c) : am_ev env (d + 1, 100, 0, [some (.ref 2), some (.int (Int32.ofNat j))], [], am_hp I J E) = some (true, some (.int (Int32.ofNat (c j))), am_hp I J E) := by
  have g1 : decide (Int32.ofNat j < (0 : Int32)) = false := zlt_f j 0 (by omega) (by omega)
  have g2 : decide ((940 : Int32) ≤ Int32.ofNat j) = false := zle_f 940 j (by omega) (by omega)
  simp (disch := omega) only [bk_100_0, bk_100_20, bk_100_21, g1, g2, zI_in, zI_nat, decide_true, decide_false, Bool.not_true, Bool.not_false, am_cont, Option.bind_some, Option.toList_some, Option.toList_none, List.singleton_append, List.nil_append, cond_true, cond_false, (ht.2 j hj).1]
theorem c_allBooks (env : am_E) (d : Nat) (n : Nat) (hn : n ≤ 8) (I : Nat → Nat → Int32) (J : Nat → Nat → Int64) (E : Nat → Nat → Nat) (h0 : I 5 0 = Int32.ofNat n) : am_ev env (d + 1, 17, 0, [some (.ref 5)], [], am_hp I J E) = some (true, some (.int (Int32.ofNat (2 ^ n - 1))), am_hp I J E) := by
  simp only [bk_17_0, lb_d, lb_b, Bool.and_self, decide_true, decide_false, Bool.not_true, Bool.not_false, am_cont, Option.bind_some, Option.toList_some, Option.toList_none, List.singleton_append, List.nil_append, cond_true, cond_false, h0, full_n n hn]
def vpp (n : Nat) (c : Nat → Nat) (i : Nat) : Bool := decide (c (2 * i) < 2 ^ n) && decide (c (2 * i + 1) ≤ 1)
def fpp (c : Nat → Nat) (s : Int32) (i : Nat) : Bool := decide (s &&& (Int32.ofNat (c (2 * i)) ^^^ (-1)) = 0) == decide (c (2 * i + 1) = 1)
theorem bi_deq (a b : Bool) : decide (bi a = bi b) = (a == b) := by cases a <;> cases b <;> decide
theorem c_fitsPairs (env : am_E) (d : Nat) (h : Nat) (hh : h ≤ 8) (c : Nat → Nat) (s : Int32) (I : Nat → Nat → Int32) (J : Nat → Nat → Int64) (E : Nat → Nat → Nat) (ht : Tp I (2 * h) c) : am_ev env (d + 2, 148, 0, [some (.ref 0), some (.int s), none, none], [], am_hp I J E) = some (true, some (.int (bi (afw (fpp c s) h 0))), am_hp I J E) := by
  refine (bk_148_0 _ _ _ _ _ _).trans ?_
  have key : ∀ j i (o : Option Value), i + j = h → am_ev env (d + 2, 148, 2, [some (.ref 0), some (.int s), some (.int (Int32.ofNat (2 * i))), o], [], am_hp I J E) = some (true, some (.int (bi (afw (fpp c s) j i))), am_hp I J E) := by
    intro j
    induction j with
    | zero =>
      intro i o hi
      refine (bk_148_2 _ _ _ _ _ _ _ _).trans ?_
      rw [ht.1, zd_1, zle_t (2 * h) (2 * i + 1) (by omega) (by omega)]
      rfl
    | succ j ih =>
      intro i o hi
      refine (bk_148_2 _ _ _ _ _ _ _ _).trans ?_
      rw [ht.1, zd_1, zle_f (2 * h) (2 * i + 1) (by omega) (by omega)]
      have h1 := (ht.2 (2 * i + 1) (by omega)).2
      have e1 : decide (Int32.ofNat (c (2 * i + 1)) = (1 : Int32)) = decide (c (2 * i + 1) = 1) := zI_deq _ 1 (by omega) (by omega)
      have hat := fun d => c_tat env d (2 * h) (2 * i) c (by omega) (by omega) I J E ht
      have hat1 := fun d => c_tat env d (2 * h) (2 * i + 1) c (by omega) (by omega) I J E ht
      have e2 : 2 * i + 2 = 2 * (i + 1) := by omega
      simp only [decide_true, decide_false, Bool.not_true, Bool.not_false, am_cont, Option.bind_some, Option.toList_some, Option.toList_none, List.singleton_append, List.nil_append, cond_true, cond_false, hat, bk_148_24]
      unfold afw fpp
      cases hq : decide (s &&& (Int32.ofNat (c (2 * i)) ^^^ (-1)) = 0)
      · simp only [decide_true, decide_false, Bool.not_true, Bool.not_false, am_cont, Option.bind_some, Option.toList_some, Option.toList_none, List.singleton_append, List.nil_append, cond_true, cond_false, bk_148_35, zd_1, hat1, bk_148_47, e1]
        cases hq2 : decide (c (2 * i + 1) = 1)
        · simp only [decide_true, decide_false, Bool.not_true, Bool.not_false, am_cont, Option.bind_some, Option.toList_some, Option.toList_none, List.singleton_append, List.nil_append, cond_true, cond_false, bk_148_56, zq_0_0, zd_2, e2]; exact ih (i + 1) _ (by omega)
        · simp only [decide_true, decide_false, Bool.not_true, Bool.not_false, am_cont, Option.bind_some, Option.toList_some, Option.toList_none, List.singleton_append, List.nil_append, cond_true, cond_false, bk_148_56, zq_0_1]; rfl
      · simp only [decide_true, decide_false, Bool.not_true, Bool.not_false, am_cont, Option.bind_some, Option.toList_some, Option.toList_none, List.singleton_append, List.nil_append, cond_true, cond_false, bk_148_35, zd_1, hat1, bk_148_47, e1]
        cases hq2 : decide (c (2 * i + 1) = 1)
        · simp only [decide_true, decide_false, Bool.not_true, Bool.not_false, am_cont, Option.bind_some, Option.toList_some, Option.toList_none, List.singleton_append, List.nil_append, cond_true, cond_false, bk_148_56, zq_1_0]; rfl
        · simp only [decide_true, decide_false, Bool.not_true, Bool.not_false, am_cont, Option.bind_some, Option.toList_some, Option.toList_none, List.singleton_append, List.nil_append, cond_true, cond_false, bk_148_56, zq_1_1, zd_2, e2]; exact ih (i + 1) _ (by omega)
  exact key h 0 none (by omega)
theorem m_fitsAll (env : am_E) (d : Nat) (h : Nat) (hh : h ≤ 8) (c : Nat → Nat) (s : Int32) (I : Nat → Nat → Int32) (J : Nat → Nat → Int64) (E : Nat → Nat → Nat) (ht : ∀ j, j < 2 * h → I 157 j = Int32.ofNat (c j) ∧ c j < 256) : am_ev env (d + 2, 255, 0, [some (.ref 156), some (.int s), some (.int (Int32.ofNat (2 * h))), none], [], am_hp I J E) = some (true, some (.int (bi (afw (fpp c s) h 0))), am_hp I J E) := by
  refine (bk_255_0 _ _ _ _ _ _ _).trans ?_
  have key : ∀ j i, i + j = h → am_ev env (d + 2, 255, 2, [some (.ref 156), some (.int s), some (.int (Int32.ofNat (2 * h))), some (.int (Int32.ofNat (2 * i)))], [], am_hp I J E) = some (true, some (.int (bi (afw (fpp c s) j i))), am_hp I J E) := by
    intro j
    induction j with
    | zero =>
      intro i hi
      refine (bk_255_2 _ _ _ _ _ _ _ _).trans ?_
      rw [zle_t (2 * h) (2 * i) (by omega) (by omega)]
      rfl
    | succ j ih =>
      intro i hi
      refine (bk_255_2 _ _ _ _ _ _ _ _).trans ?_
      rw [zle_f (2 * h) (2 * i) (by omega) (by omega)]
      have h0 := (ht (2 * i) (by omega)).1
      obtain ⟨h1, h2⟩ := ht (2 * i + 1) (by omega)
      have e1 : decide (Int32.ofNat (c (2 * i + 1)) = (1 : Int32)) = decide (c (2 * i + 1) = 1) := zI_deq _ 1 (by omega) (by omega)
      have e2 : 2 * i + 2 = 2 * (i + 1) := by omega
      simp (disch := omega) only [decide_true, decide_false, Bool.not_true, Bool.not_false, am_cont, Option.bind_some, Option.toList_some, Option.toList_none, List.singleton_append, List.nil_append, cond_true, cond_false, zI_in, zI_nat, h0, m_isWithin, bk_255_17, zd_1, h1, e1]
      unfold afw fpp
      cases hq : decide (s &&& (Int32.ofNat (c (2 * i)) ^^^ (-1)) = 0)
      · cases hq2 : decide (c (2 * i + 1) = 1)
        · simp only [decide_true, decide_false, Bool.not_true, Bool.not_false, am_cont, Option.bind_some, Option.toList_some, Option.toList_none, List.singleton_append, List.nil_append, cond_true, cond_false, bk_255_34, bi_f, zq_0_0, zd_2, e2]; exact ih (i + 1) (by omega)
        · simp only [decide_true, decide_false, Bool.not_true, Bool.not_false, am_cont, Option.bind_some, Option.toList_some, Option.toList_none, List.singleton_append, List.nil_append, cond_true, cond_false, bk_255_34, bi_f, zq_0_1]; rfl
      · cases hq2 : decide (c (2 * i + 1) = 1)
        · simp only [decide_true, decide_false, Bool.not_true, Bool.not_false, am_cont, Option.bind_some, Option.toList_some, Option.toList_none, List.singleton_append, List.nil_append, cond_true, cond_false, bk_255_34, bi_t, zq_1_0]; rfl
        · simp only [decide_true, decide_false, Bool.not_true, Bool.not_false, am_cont, Option.bind_some, Option.toList_some, Option.toList_none, List.singleton_append, List.nil_append, cond_true, cond_false, bk_255_34, bi_t, zq_1_1, zd_2, e2]; exact ih (i + 1) (by omega)
  exact key h 0 (by omega)
theorem c_pairs43 (env : am_E) (d : Nat) (n h : Nat) (hn : n ≤ 8) (hh : h ≤ 8) (c : Nat → Nat) (I : Nat → Nat → Int32) (J : Nat → Nat → Int64) (E : Nat → Nat → Nat) (h0 : I 5 0 = Int32.ofNat n) (ht : Tp I (2 * h) c) : am_ev env (d + 2, 147, 43, [some (.ref 0), some (.int (Int32.ofNat (2 * h))), some (.int (Int32.ofNat 0))], [], am_hp I J E) = some (true, some (.int (bi (afw (vpp n c) h 0))), am_hp I J E) := by
  obtain ⟨p1, p2⟩ := pow256 n hn
  have key : ∀ j i, i + j = h → am_ev env (d + 2, 147, 43, [some (.ref 0), some (.int (Int32.ofNat (2 * h))), some (.int (Int32.ofNat (2 * i)))], [], am_hp I J E) = some (true, some (.int (bi (afw (vpp n c) j i))), am_hp I J E) := by
    intro j
    induction j with
    | zero =>
      intro i hi
      refine (bk_147_43 _ _ _ _ _ _ _).trans ?_
      rw [zd_1, zle_t (2 * h) (2 * i + 1) (by omega) (by omega)]
      rfl
    | succ j ih =>
      intro i hi
      refine (bk_147_43 _ _ _ _ _ _ _).trans ?_
      rw [zd_1, zle_f (2 * h) (2 * i + 1) (by omega) (by omega)]
      have hat := fun d => c_tat env d (2 * h) (2 * i) c (by omega) (by omega) I J E ht
      have hat1 := fun d => c_tat env d (2 * h) (2 * i + 1) c (by omega) (by omega) I J E ht
      have h1 := (ht.2 (2 * i) (by omega)).2
      have h2 := (ht.2 (2 * i + 1) (by omega)).2
      have e2 : 2 * i + 2 = 2 * (i + 1) := by omega
      simp only [decide_true, decide_false, Bool.not_true, Bool.not_false, am_cont, Option.bind_some, Option.toList_some, Option.toList_none, List.singleton_append, List.nil_append, cond_true, cond_false, hat, bk_147_58, c_allBooks env _ n hn I J E h0, bk_147_68]
      unfold afw vpp
      by_cases g1 : c (2 * i) < 2 ^ n
      · rw [zlt_f (2 ^ n - 1) (c (2 * i)) (by omega) (by omega), decide_eq_true g1]
        simp only [decide_true, decide_false, Bool.not_true, Bool.not_false, am_cont, Option.bind_some, Option.toList_some, Option.toList_none, List.singleton_append, List.nil_append, cond_true, cond_false, zd_1, hat1, bk_147_81]
        by_cases g2 : c (2 * i + 1) ≤ 1
        · rw [show decide (Int32.ofNat (c (2 * i + 1)) ≤ (1 : Int32)) = true from zle_t _ 1 g2 (by omega), decide_eq_true g2]
          simp only [decide_true, decide_false, Bool.not_true, Bool.not_false, am_cont, Option.bind_some, Option.toList_some, Option.toList_none, List.singleton_append, List.nil_append, cond_true, cond_false, zd_2, e2, Bool.and_self]; exact ih (i + 1) (by omega)
        · rw [show decide (Int32.ofNat (c (2 * i + 1)) ≤ (1 : Int32)) = false from zle_f _ 1 (by omega) (by omega), decide_eq_false g2]
          simp only [decide_true, decide_false, Bool.not_true, Bool.not_false, am_cont, Option.bind_some, Option.toList_some, Option.toList_none, List.singleton_append, List.nil_append, cond_true, cond_false, bk_147_85]; rfl
      · rw [zlt_t (2 ^ n - 1) (c (2 * i)) (by omega) (by omega), decide_eq_false g1]
        simp only [decide_true, decide_false, Bool.not_true, Bool.not_false, am_cont, Option.bind_some, Option.toList_some, Option.toList_none, List.singleton_append, List.nil_append, cond_true, cond_false, bk_147_85]; rfl
  exact key h 0 (by omega)
theorem pow_n (n : Nat) (hn : n ≤ 8) : (1 : Int32) <<< (Int32.ofNat n &&& 31) = Int32.ofNat (2 ^ n) := by
  have : ∀ n : Fin 9, (1 : Int32) <<< (Int32.ofNat n.1 &&& 31) = Int32.ofNat (2 ^ n.1) := by decide +kernel
  exact this ⟨n, by omega⟩
theorem m_pairs41 (env : am_E) (d : Nat) (n h : Nat) (hn : n ≤ 8) (hh : h ≤ 8) (c : Nat → Nat) (I : Nat → Nat → Int32) (J : Nat → Nat → Int64) (E : Nat → Nat → Nat) (h0 : I 158 0 = Int32.ofNat n) (ht : ∀ j, j < 2 * h → I 157 j = Int32.ofNat (c j) ∧ c j < 256) : am_ev env (d + 2, 257, 41, [some (.ref 156), some (.int (Int32.ofNat (2 * h))), some (.int (Int32.ofNat 0)), none, none], [], am_hp I J E) = (bif afw (vpp n c) h 0 then am_ev env (d + 2, 257, 90, [some (.ref 156), some (.int (Int32.ofNat (2 * h))), some (.int 0), some (.int (-1)), some (.int 0)], [], am_hp I J E) else some (true, some (.int (-1)), am_hp I J E)) := by
  obtain ⟨p1, p2⟩ := pow256 n hn
  have key : ∀ j i, i + j = h → am_ev env (d + 2, 257, 41, [some (.ref 156), some (.int (Int32.ofNat (2 * h))), some (.int (Int32.ofNat (2 * i))), none, none], [], am_hp I J E) = (bif afw (vpp n c) j i then am_ev env (d + 2, 257, 90, [some (.ref 156), some (.int (Int32.ofNat (2 * h))), some (.int 0), some (.int (-1)), some (.int 0)], [], am_hp I J E) else some (true, some (.int (-1)), am_hp I J E)) := by
    intro j
    induction j with
    | zero =>
      intro i hi
      refine (bk_257_41 _ _ _ _ _ _ _).trans ?_
      rw [zle_t (2 * h) (2 * i) (by omega) (by omega)]
      rfl
    | succ j ih =>
      intro i hi
      refine (bk_257_41 _ _ _ _ _ _ _).trans ?_
      obtain ⟨q0, q1⟩ := ht (2 * i) (by omega)
      obtain ⟨q2, q3⟩ := ht (2 * i + 1) (by omega)
      have e2 : 2 * i + 2 = 2 * (i + 1) := by omega
      rw [zle_f (2 * h) (2 * i) (by omega) (by omega), h0, pow_n n hn]
      simp (disch := omega) only [decide_true, decide_false, Bool.not_true, Bool.not_false, am_cont, Option.bind_some, Option.toList_some, Option.toList_none, List.singleton_append, List.nil_append, cond_true, cond_false, zI_in, zI_nat, q0, zd_1, q2]
      unfold afw vpp
      by_cases g1 : c (2 * i) < 2 ^ n
      · rw [zle_f (2 ^ n) (c (2 * i)) g1 (by omega), decide_eq_true g1]
        by_cases g2 : c (2 * i + 1) ≤ 1
        · rw [show decide (Int32.ofNat (c (2 * i + 1)) ≤ (1 : Int32)) = true from zle_t _ 1 g2 (by omega), decide_eq_true g2]
          simp only [decide_true, decide_false, Bool.not_true, Bool.not_false, am_cont, Option.bind_some, Option.toList_some, Option.toList_none, List.singleton_append, List.nil_append, cond_true, cond_false, zd_2, e2, Bool.and_self, Bool.true_and]; exact ih (i + 1) (by omega)
        · rw [show decide (Int32.ofNat (c (2 * i + 1)) ≤ (1 : Int32)) = false from zle_f _ 1 (by omega) (by omega), decide_eq_false g2]
          simp only [decide_true, decide_false, Bool.not_true, Bool.not_false, am_cont, Option.bind_some, Option.toList_some, Option.toList_none, List.singleton_append, List.nil_append, cond_true, cond_false, bk_257_75, Bool.and_false, Bool.false_and]
      · rw [zle_t (2 ^ n) (c (2 * i)) (by omega) (by omega), decide_eq_false g1]
        simp only [decide_true, decide_false, Bool.not_true, Bool.not_false, am_cont, Option.bind_some, Option.toList_some, Option.toList_none, List.singleton_append, List.nil_append, cond_true, cond_false, bk_257_75, Bool.false_and]
  exact key h 0 (by omega)
