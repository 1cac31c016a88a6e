/-! the reference's small methods -/
def bi (b : Bool) : Int32 := bif b then 1 else 0
theorem bi_t : bi true = 1 := rfl
theorem bi_f : bi false = 0 := rfl
theorem bi_and (b : Bool) : decide (bi b &&& 1 = bi b) = true := by cases b <;> decide
theorem bi_eq0 (b : Bool) : decide (bi b = 0) = !b := by cases b <;> decide
theorem bi_eq1 (b : Bool) : decide (bi b = 1) = b := by cases b <;> decide
theorem bt_hasb (s : Int32) (k : Nat) (hk : k < 32) : decide ((s >>> (Int32.ofNat k &&& 31)) &&& 1 = 1) = bt s k := by
  rw [bt_has s k hk]
  cases bt s k <;> decide
theorem zI_in (k n : Nat) (h : k < n) (hn : n ≤ 100000) : am_in (Int32.ofNat k) n = true := by
  unfold am_in
  rw [zI_nat k (by omega), decide_eq_true h, decide_eq_false (by rw [zI_nneg k (by omega)]; exact id)]
  rfl
theorem zc_add (c : Nat) (k : Nat) : Int32.ofNat c + Int32.ofNat k = Int32.ofNat (c + k) := (Int32.ofNat_add c k).symm
theorem zc_72 (k : Nat) : 72 + Int32.ofNat k = Int32.ofNat (72 + k) := zc_add 72 k
theorem zc_46 (k : Nat) : 46 + Int32.ofNat k = Int32.ofNat (46 + k) := zc_add 46 k
theorem zc_52 (k : Nat) : 52 + Int32.ofNat k = Int32.ofNat (52 + k) := zc_add 52 k
theorem zc_38 (k : Nat) : 38 + Int32.ofNat k = Int32.ofNat (38 + k) := zc_add 38 k
theorem zc_58 (k : Nat) : 58 + Int32.ofNat k = Int32.ofNat (58 + k) := zc_add 58 k
theorem zc_64 (k : Nat) : 64 + Int32.ofNat k = Int32.ofNat (64 + k) := zc_add 64 k
theorem zc_28 (k : Nat) : 28 + Int32.ofNat k = Int32.ofNat (28 + k) := zc_add 28 k
theorem zc_20 (k : Nat) : 20 + Int32.ofNat k = Int32.ofNat (20 + k) := zc_add 20 k
theorem zc_34 (k : Nat) : 34 + Int32.ofNat k = Int32.ofNat (34 + k) := zc_add 34 k
theorem zc_4 (k : Nat) : 4 + Int32.ofNat k = Int32.ofNat (4 + k) := zc_add 4 k
theorem zc_8 (k : Nat) : 8 + Int32.ofNat k = Int32.ofNat (8 + k) := zc_add 8 k
theorem zc_50 (k : Nat) : 50 + Int32.ofNat k = Int32.ofNat (50 + k) := zc_add 50 k
theorem zc_48 (k : Nat) : 48 + Int32.ofNat k = Int32.ofNat (48 + k) := zc_add 48 k
theorem zc_12 (k : Nat) : 12 + Int32.ofNat k = Int32.ofNat (12 + k) := zc_add 12 k
theorem zc_96 (k : Nat) : 96 + Int32.ofNat k = Int32.ofNat (96 + k) := zc_add 96 k
theorem zd_1 (k : Nat) : Int32.ofNat k + 1 = Int32.ofNat (k + 1) := zc_add k 1
theorem zd_2 (k : Nat) : Int32.ofNat k + 2 = Int32.ofNat (k + 2) := zc_add k 2
theorem zd_3 (k : Nat) : Int32.ofNat k + 3 = Int32.ofNat (k + 3) := zc_add k 3
theorem zd_8 (k : Nat) : Int32.ofNat k + 8 = Int32.ofNat (k + 8) := zc_add k 8
theorem zd_36 (k : Nat) : Int32.ofNat k + 36 = Int32.ofNat (k + 36) := zc_add k 36
theorem zd_20 (k : Nat) : Int32.ofNat k + 20 = Int32.ofNat (k + 20) := zc_add k 20
theorem am_in_of (k n : Nat) (h : k < 2147483648) : am_in (Int32.ofNat k) n = decide (k < n) := by
  unfold am_in
  rw [zI_nat k h, decide_eq_false (by rw [zI_nneg k h]; exact id)]
  rfl
theorem zI_cases (x : Int32) (n : Nat) (h : am_in x n = true) : ∃ k, k < n ∧ k < 2147483648 ∧ x = Int32.ofNat k := by
  unfold am_in at h
  rw [Bool.and_eq_true] at h
  have h0 : ¬ (x < 0) := by
    intro hx
    rw [decide_eq_true hx] at h
    exact absurd h.1 (by decide)
  obtain ⟨e, hl⟩ := zI_of x (Int32.not_lt.mp h0)
  exact ⟨x.toNatClampNeg, of_decide_eq_true h.2, hl, e⟩
theorem zI_inb (x : Int32) (n : Nat) (hn : n ≤ 100000) : (!(decide (x < 0)) && !(decide (Int32.ofNat n - 1 < x))) = am_in x n := by
  unfold am_in
  by_cases hx : x < 0
  · rw [decide_eq_true hx]; rfl
  · rw [decide_eq_false hx]
    obtain ⟨e, hl⟩ := zI_of x (Int32.not_lt.mp hx)
    have e2 : (x.toNatClampNeg : Int) = x.toInt := by
      have := congrArg Int32.toInt e
      rw [zI_toInt _ hl] at this
      exact this.symm
    congr 1
    by_cases hz : n = 0
    · subst hz
      rw [decide_eq_false (Nat.not_lt_zero _), decide_eq_true (p := Int32.ofNat 0 - 1 < x)]
      · rfl
      · rw [Int32.lt_iff_toInt_lt, ← e2]
        have : (Int32.ofNat 0 - 1).toInt = -1 := by decide
        omega
    · rw [show (1 : Int32) = Int32.ofNat 1 from rfl, zI_sub n 1 (by omega)]
      by_cases hk : x.toNatClampNeg < n
      · rw [decide_eq_true hk, decide_eq_false]
        · rfl
        · rw [Int32.lt_iff_toInt_lt, ← e2, zI_toInt _ (by omega)]
          omega
      · rw [decide_eq_false hk, decide_eq_true]
        · rfl
        · rw [Int32.lt_iff_toInt_lt, ← e2, zI_toInt _ (by omega)]
          omega
theorem m_isIn (env : am_E) (d : Nat) (v a b : Int32) (I : Nat → Nat → Int32) (J : Nat → Nat → Int64) (E : Nat → Nat → Nat) : am_ev env (d + 1, 175, 0, [some (.int v), some (.int a), some (.int b)], [], am_hp I J E) = some (true, some (.int (bi (!(decide (v < a)) && !(decide (b < v))))), am_hp I J E) := by
  simp only [bk_175_0, bk_175_14, bk_175_15]
  cases decide (v < a) <;> cases decide (b < v) <;> rfl
theorem m_has (env : am_E) (d : Nat) (s : Int32) (k : Nat) (hk : k < 32) (I : Nat → Nat → Int32) (J : Nat → Nat → Int64) (E : Nat → Nat → Nat) : am_ev env (d + 1, 176, 0, [some (.int s), some (.int (Int32.ofNat k))], [], am_hp I J E) = some (true, some (.int (bi (bt s k))), am_hp I J E) := by
  simp only [bk_176_0, bk_176_14, bt_hasb s k hk]
  cases bt s k <;> rfl
theorem m_least (env : am_E) (d : Nat) (a b : Int32) (I : Nat → Nat → Int32) (J : Nat → Nat → Int64) (E : Nat → Nat → Nat) : am_ev env (d + 1, 178, 0, [some (.int a), some (.int b)], [], am_hp I J E) = some (true, some (.int (bif decide (b ≤ a) then b else a)), am_hp I J E) := by
  simp only [bk_178_0, bk_178_10]
  cases decide (b ≤ a) <;> rfl
theorem m_isBook (env : am_E) (d : Nat) (x : Int32) (I : Nat → Nat → Int32) (J : Nat → Nat → Int64) (E : Nat → Nat → Nat) (n : Nat) (hn : n ≤ 8) (h : I 158 0 = Int32.ofNat n) : am_ev env (d + 2, 207, 0, [some (.ref 156), some (.int x)], [], am_hp I J E) = some (true, some (.int (bi (am_in x n))), am_hp I J E) := by
  simp only [bk_207_0, bk_207_13, decide_true, decide_false, Bool.not_true, Bool.not_false, am_cont, Option.bind_some, Option.toList_some, Option.toList_none, List.singleton_append, List.nil_append, cond_true, cond_false, m_isIn, h, zI_inb x n (by omega), bi_and]
theorem m_isReader (env : am_E) (d : Nat) (x : Int32) (I : Nat → Nat → Int32) (J : Nat → Nat → Int64) (E : Nat → Nat → Nat) (n : Nat) (hn : n ≤ 8) (h : I 158 2 = Int32.ofNat n) : am_ev env (d + 2, 208, 0, [some (.ref 156), some (.int x)], [], am_hp I J E) = some (true, some (.int (bi (am_in x n))), am_hp I J E) := by
  simp only [bk_208_0, bk_208_13, decide_true, decide_false, Bool.not_true, Bool.not_false, am_cont, Option.bind_some, Option.toList_some, Option.toList_none, List.singleton_append, List.nil_append, cond_true, cond_false, m_isIn, h, zI_inb x n (by omega), bi_and]
theorem m_isForged (env : am_E) (d : Nat) (b : Nat) (hb : b < 8) (I : Nat → Nat → Int32) (J : Nat → Nat → Int64) (E : Nat → Nat → Nat) : am_ev env (d + 2, 209, 0, [some (.ref 156), some (.int (Int32.ofNat b))], [], am_hp I J E) = some (true, some (.int (bi (bt (I 158 35) b))), am_hp I J E) := by
  simp (disch := omega) only [bk_209_0, bk_209_11, decide_true, decide_false, Bool.not_true, Bool.not_false, am_cont, Option.bind_some, Option.toList_some, Option.toList_none, List.singleton_append, List.nil_append, cond_true, cond_false, m_has, bi_and]
theorem m_isIdle (env : am_E) (d : Nat) (r : Nat) (hr : r < 6) (I : Nat → Nat → Int32) (J : Nat → Nat → Int64) (E : Nat → Nat → Nat) : am_ev env (d + 1, 210, 0, [some (.ref 156), some (.int (Int32.ofNat r))], [], am_hp I J E) = some (true, some (.int (bi (decide (I 158 (46 + r) = -1)))), am_hp I J E) := by
  simp (disch := omega) only [bk_210_0, bk_210_18, decide_true, decide_false, Bool.not_true, Bool.not_false, am_cont, Option.bind_some, Option.toList_some, Option.toList_none, List.singleton_append, List.nil_append, cond_true, cond_false, zc_72, zc_46, zc_52, zc_38, zc_58, zc_64, zc_28, zc_20, zc_34, zc_4, zc_8, zc_50, zc_48, zc_12, zc_96, zd_1, zd_2, zd_3, zd_8, zd_36, zd_20, zI_in, zI_nat]
  cases decide (I 158 (46 + r) = -1) <;> rfl
theorem m_hasRead (env : am_E) (d : Nat) (r b : Nat) (hr : r < 6) (hb : b < 8) (I : Nat → Nat → Int32) (J : Nat → Nat → Int64) (E : Nat → Nat → Nat) : am_ev env (d + 2, 211, 0, [some (.ref 156), some (.int (Int32.ofNat r)), some (.int (Int32.ofNat b))], [], am_hp I J E) = some (true, some (.int (bi (bt (I 158 (64 + r)) b))), am_hp I J E) := by
  simp (disch := omega) only [bk_211_0, bk_211_13, decide_true, decide_false, Bool.not_true, Bool.not_false, am_cont, Option.bind_some, Option.toList_some, Option.toList_none, List.singleton_append, List.nil_append, cond_true, cond_false, zc_72, zc_46, zc_52, zc_38, zc_58, zc_64, zc_28, zc_20, zc_34, zc_4, zc_8, zc_50, zc_48, zc_12, zc_96, zd_1, zd_2, zd_3, zd_8, zd_36, zd_20, zI_in, zI_nat, m_has, bi_and]
/-- what book b is after, unless it is forged -/
def aft (m : Nat → Int32) (b : Nat) : Int32 := bif bt (m 35) b then 0 else m (20 + b)
theorem m_afters (env : am_E) (d : Nat) (b : Nat) (hb : b < 8) (I : Nat → Nat → Int32) (J : Nat → Nat → Int64) (E : Nat → Nat → Nat) : am_ev env (d + 3, 212, 0, [some (.ref 156), some (.int (Int32.ofNat b))], [], am_hp I J E) = some (true, some (.int (aft (I 158) b)), am_hp I J E) := by
  simp (disch := omega) only [bk_212_0, bk_212_5, bk_212_21, decide_true, decide_false, Bool.not_true, Bool.not_false, am_cont, Option.bind_some, Option.toList_some, Option.toList_none, List.singleton_append, List.nil_append, cond_true, cond_false, zc_72, zc_46, zc_52, zc_38, zc_58, zc_64, zc_28, zc_20, zc_34, zc_4, zc_8, zc_50, zc_48, zc_12, zc_96, zd_1, zd_2, zd_3, zd_8, zd_36, zd_20, zI_in, zI_nat, m_isForged, bi_eq0]
  unfold aft
  cases bt (I 158 35) b <;> rfl
def fitq (m : Nat → Int32) (r b : Nat) : Bool := decide (aft m b &&& (m (64 + r) ^^^ -1) = 0)
theorem m_isFit (env : am_E) (d : Nat) (r b : Nat) (hr : r < 6) (hb : b < 8) (I : Nat → Nat → Int32) (J : Nat → Nat → Int64) (E : Nat → Nat → Nat) : am_ev env (d + 4, 213, 0, [some (.ref 156), some (.int (Int32.ofNat r)), some (.int (Int32.ofNat b))], [], am_hp I J E) = some (true, some (.int (bi (fitq (I 158) r b))), am_hp I J E) := by
  simp (disch := omega) only [bk_213_0, bk_213_5, bk_213_25, decide_true, decide_false, Bool.not_true, Bool.not_false, am_cont, Option.bind_some, Option.toList_some, Option.toList_none, List.singleton_append, List.nil_append, cond_true, cond_false, zc_72, zc_46, zc_52, zc_38, zc_58, zc_64, zc_28, zc_20, zc_34, zc_4, zc_8, zc_50, zc_48, zc_12, zc_96, zd_1, zd_2, zd_3, zd_8, zd_36, zd_20, zI_in, zI_nat, m_afters]
  unfold fitq
  cases decide (aft (I 158) b &&& (I 158 (64 + r) ^^^ -1) = 0) <;> rfl
theorem m_isWithin (env : am_E) (d : Nat) (s t : Int32) (I : Nat → Nat → Int32) (J : Nat → Nat → Int64) (E : Nat → Nat → Nat) : am_ev env (d + 1, 214, 0, [some (.int s), some (.int t)], [], am_hp I J E) = some (true, some (.int (bi (decide (s &&& (t ^^^ -1) = 0)))), am_hp I J E) := by
  simp only [bk_214_0, bk_214_13]
  cases decide (s &&& (t ^^^ -1) = 0) <;> rfl
def wLend (m : Nat → Int32) (r b : Nat) : Int32 := bif !decide (m (46 + r) = -1) then 1 else bif bt (m (64 + r)) b then 2 else bif !fitq m r b then 3 else bif decide (m (38 + b) = 0) then 4 else 0
theorem m_whyLend (env : am_E) (d : Nat) (r b : Nat) (hr : r < 6) (hb : b < 8) (I : Nat → Nat → Int32) (J : Nat → Nat → Int64) (E : Nat → Nat → Nat) : am_ev env (d + 5, 216, 0, [some (.ref 156), some (.int (Int32.ofNat r)), some (.int (Int32.ofNat b))], [], am_hp I J E) = some (true, some (.int (wLend (I 158) r b)), am_hp I J E) := by
  simp (disch := omega) only [bk_216_0, bk_216_5, bk_216_18, bk_216_31, bk_216_55, decide_true, decide_false, Bool.not_true, Bool.not_false, am_cont, Option.bind_some, Option.toList_some, Option.toList_none, List.singleton_append, List.nil_append, cond_true, cond_false, zc_72, zc_46, zc_52, zc_38, zc_58, zc_64, zc_28, zc_20, zc_34, zc_4, zc_8, zc_50, zc_48, zc_12, zc_96, zd_1, zd_2, zd_3, zd_8, zd_36, zd_20, zI_in, zI_nat, m_isIdle, m_hasRead, m_isFit, bi_eq0]
  unfold wLend
  cases decide (I 158 (46 + r) = -1) <;> cases bt (I 158 (64 + r)) b <;> cases fitq (I 158) r b <;> cases decide (I 158 (38 + b) = 0) <;> rfl
