/-! a row, changed; what the reference's acts do -/
theorem zq_0_0 : decide ((0 : Int32) = 0) = true := by decide
theorem zq_0_1 : decide ((0 : Int32) = 1) = false := by decide
theorem zq_0_2 : decide ((0 : Int32) = 2) = false := by decide
theorem zq_0_3 : decide ((0 : Int32) = 3) = false := by decide
theorem zq_0_4 : decide ((0 : Int32) = 4) = false := by decide
theorem zq_0_5 : decide ((0 : Int32) = 5) = false := by decide
theorem zq_0_6 : decide ((0 : Int32) = 6) = false := by decide
theorem zq_0_7 : decide ((0 : Int32) = 7) = false := by decide
theorem zq_0_8 : decide ((0 : Int32) = 8) = false := by decide
theorem zq_1_0 : decide ((1 : Int32) = 0) = false := by decide
theorem zq_1_1 : decide ((1 : Int32) = 1) = true := by decide
theorem zq_1_2 : decide ((1 : Int32) = 2) = false := by decide
theorem zq_1_3 : decide ((1 : Int32) = 3) = false := by decide
theorem zq_1_4 : decide ((1 : Int32) = 4) = false := by decide
theorem zq_1_5 : decide ((1 : Int32) = 5) = false := by decide
theorem zq_1_6 : decide ((1 : Int32) = 6) = false := by decide
theorem zq_1_7 : decide ((1 : Int32) = 7) = false := by decide
theorem zq_1_8 : decide ((1 : Int32) = 8) = false := by decide
theorem zq_2_0 : decide ((2 : Int32) = 0) = false := by decide
theorem zq_2_1 : decide ((2 : Int32) = 1) = false := by decide
theorem zq_2_2 : decide ((2 : Int32) = 2) = true := by decide
theorem zq_2_3 : decide ((2 : Int32) = 3) = false := by decide
theorem zq_2_4 : decide ((2 : Int32) = 4) = false := by decide
theorem zq_2_5 : decide ((2 : Int32) = 5) = false := by decide
theorem zq_2_6 : decide ((2 : Int32) = 6) = false := by decide
theorem zq_2_7 : decide ((2 : Int32) = 7) = false := by decide
theorem zq_2_8 : decide ((2 : Int32) = 8) = false := by decide
theorem zq_3_0 : decide ((3 : Int32) = 0) = false := by decide
theorem zq_3_1 : decide ((3 : Int32) = 1) = false := by decide
theorem zq_3_2 : decide ((3 : Int32) = 2) = false := by decide
theorem zq_3_3 : decide ((3 : Int32) = 3) = true := by decide
theorem zq_3_4 : decide ((3 : Int32) = 4) = false := by decide
theorem zq_3_5 : decide ((3 : Int32) = 5) = false := by decide
theorem zq_3_6 : decide ((3 : Int32) = 6) = false := by decide
theorem zq_3_7 : decide ((3 : Int32) = 7) = false := by decide
theorem zq_3_8 : decide ((3 : Int32) = 8) = false := by decide
theorem zq_4_0 : decide ((4 : Int32) = 0) = false := by decide
theorem zq_4_1 : decide ((4 : Int32) = 1) = false := by decide
theorem zq_4_2 : decide ((4 : Int32) = 2) = false := by decide
theorem zq_4_3 : decide ((4 : Int32) = 3) = false := by decide
theorem zq_4_4 : decide ((4 : Int32) = 4) = true := by decide
theorem zq_4_5 : decide ((4 : Int32) = 5) = false := by decide
theorem zq_4_6 : decide ((4 : Int32) = 6) = false := by decide
theorem zq_4_7 : decide ((4 : Int32) = 7) = false := by decide
theorem zq_4_8 : decide ((4 : Int32) = 8) = false := by decide
theorem zq_5_0 : decide ((5 : Int32) = 0) = false := by decide
theorem zq_5_1 : decide ((5 : Int32) = 1) = false := by decide
theorem zq_5_2 : decide ((5 : Int32) = 2) = false := by decide
theorem zq_5_3 : decide ((5 : Int32) = 3) = false := by decide
theorem zq_5_4 : decide ((5 : Int32) = 4) = false := by decide
theorem zq_5_5 : decide ((5 : Int32) = 5) = true := by decide
theorem zq_5_6 : decide ((5 : Int32) = 6) = false := by decide
theorem zq_5_7 : decide ((5 : Int32) = 7) = false := by decide
theorem zq_5_8 : decide ((5 : Int32) = 8) = false := by decide
theorem zq_6_0 : decide ((6 : Int32) = 0) = false := by decide
theorem zq_6_1 : decide ((6 : Int32) = 1) = false := by decide
theorem zq_6_2 : decide ((6 : Int32) = 2) = false := by decide
theorem zq_6_3 : decide ((6 : Int32) = 3) = false := by decide
theorem zq_6_4 : decide ((6 : Int32) = 4) = false := by decide
theorem zq_6_5 : decide ((6 : Int32) = 5) = false := by decide
theorem zq_6_6 : decide ((6 : Int32) = 6) = true := by decide
theorem zq_6_7 : decide ((6 : Int32) = 7) = false := by decide
theorem zq_6_8 : decide ((6 : Int32) = 8) = false := by decide
theorem zq_7_0 : decide ((7 : Int32) = 0) = false := by decide
theorem zq_7_1 : decide ((7 : Int32) = 1) = false := by decide
theorem zq_7_2 : decide ((7 : Int32) = 2) = false := by decide
theorem zq_7_3 : decide ((7 : Int32) = 3) = false := by decide
theorem zq_7_4 : decide ((7 : Int32) = 4) = false := by decide
theorem zq_7_5 : decide ((7 : Int32) = 5) = false := by decide
theorem zq_7_6 : decide ((7 : Int32) = 6) = false := by decide
theorem zq_7_7 : decide ((7 : Int32) = 7) = true := by decide
theorem zq_7_8 : decide ((7 : Int32) = 8) = false := by decide
theorem zq_8_0 : decide ((8 : Int32) = 0) = false := by decide
theorem zq_8_1 : decide ((8 : Int32) = 1) = false := by decide
theorem zq_8_2 : decide ((8 : Int32) = 2) = false := by decide
theorem zq_8_3 : decide ((8 : Int32) = 3) = false := by decide
theorem zq_8_4 : decide ((8 : Int32) = 4) = false := by decide
theorem zq_8_5 : decide ((8 : Int32) = 5) = false := by decide
theorem zq_8_6 : decide ((8 : Int32) = 6) = false := by decide
theorem zq_8_7 : decide ((8 : Int32) = 7) = false := by decide
theorem zq_8_8 : decide ((8 : Int32) = 8) = true := by decide
def ru (m : Nat → Int32) (k : Nat) (x : Int32) : Nat → Int32 := fun j => if j = k then x else m j
theorem ru_eq (m : Nat → Int32) (k : Nat) (x : Int32) : ru m k x k = x := if_pos rfl
theorem ru_ne (m : Nat → Int32) (k : Nat) (x : Int32) (j : Nat) (h : j ≠ k) : ru m k x j = m j := if_neg h
theorem ru_ru (m : Nat → Int32) (k : Nat) (x y : Int32) : ru (ru m k x) k y = ru m k y := by
  funext j; unfold ru; split <;> rfl
theorem ru_self (m : Nat → Int32) (k : Nat) : ru m k (m k) = m := by
  funext j; unfold ru; split
  · rename_i h; rw [h]
  · rfl
theorem am_u_r (I : Nat → Nat → Int32) (p k : Nat) (x : Int32) : am_u I p k x = am_ur I p (ru (I p) k x) := by
  funext q j; unfold am_u am_ur ru
  by_cases h : q = p
  · subst h; rfl
  · rw [if_neg h, if_neg h]
theorem ur_ur {α : Type} (I : Nat → Nat → α) (p : Nat) (r s : Nat → α) : am_ur (am_ur I p r) p s = am_ur I p s := by
  funext q j; unfold am_ur; split <;> rfl
theorem ur_at {α : Type} (I : Nat → Nat → α) (p : Nat) (r : Nat → α) : am_ur I p r p = r := by
  funext j; unfold am_ur; exact if_pos rfl
theorem ur_ne {α : Type} (I : Nat → Nat → α) (p : Nat) (r : Nat → α) (q : Nat) (h : q ≠ p) : am_ur I p r q = I q := by
  funext j; unfold am_ur; exact if_neg h
theorem ur_self {α : Type} (I : Nat → Nat → α) (p : Nat) : am_ur I p (I p) = I := by
  funext q j; unfold am_ur; split
  · rename_i h; rw [h]
  · rfl
theorem ur_comm {α : Type} (I : Nat → Nat → α) (p q : Nat) (r s : Nat → α) (h : q < p) : am_ur (am_ur I p r) q s = am_ur (am_ur I q s) p r := by
  funext x j; unfold am_ur
  by_cases h1 : x = q
  · rw [if_pos h1, if_neg (by omega), if_pos h1]
  · rw [if_neg h1, if_neg h1]
def wTell (m : Nat → Int32) (r b q : Nat) : Int32 := bif decide (r = q) then 1 else bif !bt (m (64 + r)) b then 2 else bif bt (m (64 + q)) b then 3 else bif !fitq m q b || decide (m (46 + q) = Int32.ofNat b) then 4 else 0
theorem zI_deq (a b : Nat) (ha : a < 2147483648) (hb : b < 2147483648) : decide (Int32.ofNat a = Int32.ofNat b) = decide (a = b) := by
  by_cases h : a = b
  · subst h; rw [decide_eq_true rfl, decide_eq_true rfl]
  · rw [decide_eq_false h, decide_eq_false]
    rw [zI_eq a b ha hb]; exact h
theorem m_whyTell (env : am_E) (d : Nat) (r b q : Nat) (hr : r < 6) (hb : b < 8) (hq : q < 6) (I : Nat → Nat → Int32) (J : Nat → Nat → Int64) (E : Nat → Nat → Nat) : am_ev env (d + 5, 226, 0, [some (.ref 156), some (.int (Int32.ofNat r)), some (.int (Int32.ofNat b)), some (.int (Int32.ofNat q))], [], am_hp I J E) = some (true, some (.int (wTell (I 158) r b q)), am_hp I J E) := by
  simp (disch := omega) only [bk_226_0, bk_226_13, bk_226_24, bk_226_37, bk_226_53, bk_226_58, decide_true, decide_false, Bool.not_true, Bool.not_false, am_cont, Option.bind_some, Option.toList_some, Option.toList_none, List.singleton_append, List.nil_append, cond_true, cond_false, zc_72, zc_46, zc_52, zc_38, zc_58, zc_64, zc_28, zc_20, zc_34, zc_4, zc_8, zc_50, zc_48, zc_12, zc_96, zd_1, zd_2, zd_3, zd_8, zd_36, zd_20, zI_in, zI_nat, m_hasRead, m_isFit, bi_eq0, zI_deq]
  unfold wTell
  cases decide (r = q) <;> cases bt (I 158 (64 + r)) b <;> cases bt (I 158 (64 + q)) b <;> cases fitq (I 158) q b <;> cases decide (I 158 (46 + q) = Int32.ofNat b) <;> rfl
theorem m_why0 (env : am_E) (d : Nat) (r b : Nat) (z : Int32) (hr : r < 6) (hb : b < 8) (I : Nat → Nat → Int32) (J : Nat → Nat → Int64) (E : Nat → Nat → Nat) : am_ev env (d + 6, 227, 0, [some (.ref 156), some (.int 0), some (.int (Int32.ofNat r)), some (.int (Int32.ofNat b)), some (.int z)], [], am_hp I J E) = some (true, some (.int (wLend (I 158) r b)), am_hp I J E) := by
  simp (disch := omega) only [bk_227_0, bk_227_46, bk_227_52, bk_227_60, bk_227_69, bk_227_75, bk_227_99, bk_227_105, bk_227_113, bk_227_131, bk_227_151, zq_0_0, decide_true, decide_false, Bool.not_true, Bool.not_false, am_cont, Option.bind_some, Option.toList_some, Option.toList_none, List.singleton_append, List.nil_append, cond_true, cond_false, m_whyLend]
theorem m_why1 (env : am_E) (d : Nat) (r : Nat) (y z : Int32) (hr : r < 6) (I : Nat → Nat → Int32) (J : Nat → Nat → Int64) (E : Nat → Nat → Nat) : am_ev env (d + 2, 227, 0, [some (.ref 156), some (.int 1), some (.int (Int32.ofNat r)), some (.int y), some (.int z)], [], am_hp I J E) = some (true, some (.int (bi (decide (I 158 (46 + r) = -1)))), am_hp I J E) := by
  simp (disch := omega) only [bk_227_0, bk_227_46, bk_227_52, bk_227_60, bk_227_69, bk_227_75, bk_227_99, bk_227_105, bk_227_113, bk_227_131, bk_227_151, zq_1_0, zq_1_1, decide_true, decide_false, Bool.not_true, Bool.not_false, am_cont, Option.bind_some, Option.toList_some, Option.toList_none, List.singleton_append, List.nil_append, cond_true, cond_false, m_isIdle, bi_eq0]
  cases decide (I 158 (46 + r) = -1) <;> rfl
theorem m_why2 (env : am_E) (d : Nat) (r b q : Nat) (hr : r < 6) (hb : b < 8) (hq : q < 6) (I : Nat → Nat → Int32) (J : Nat → Nat → Int64) (E : Nat → Nat → Nat) : am_ev env (d + 6, 227, 0, [some (.ref 156), some (.int 2), some (.int (Int32.ofNat r)), some (.int (Int32.ofNat b)), some (.int (Int32.ofNat q))], [], am_hp I J E) = some (true, some (.int (wTell (I 158) r b q)), am_hp I J E) := by
  simp (disch := omega) only [bk_227_0, bk_227_46, bk_227_52, bk_227_60, bk_227_69, bk_227_75, bk_227_99, bk_227_105, bk_227_113, bk_227_131, bk_227_151, zq_2_0, zq_2_1, zq_2_2, decide_true, decide_false, Bool.not_true, Bool.not_false, am_cont, Option.bind_some, Option.toList_some, Option.toList_none, List.singleton_append, List.nil_append, cond_true, cond_false, m_whyTell]
def wForge (m : Nat → Int32) (b : Nat) : Int32 := bif bt (m 35) b then 1 else bif decide (m (20 + b) = 0) then 2 else 0
theorem m_why3 (env : am_E) (d : Nat) (b : Nat) (y z : Int32) (hb : b < 8) (I : Nat → Nat → Int32) (J : Nat → Nat → Int64) (E : Nat → Nat → Nat) : am_ev env (d + 3, 227, 0, [some (.ref 156), some (.int 3), some (.int (Int32.ofNat b)), some (.int y), some (.int z)], [], am_hp I J E) = some (true, some (.int (wForge (I 158) b)), am_hp I J E) := by
  simp (disch := omega) only [bk_227_0, bk_227_46, bk_227_52, bk_227_60, bk_227_69, bk_227_75, bk_227_99, bk_227_105, bk_227_113, bk_227_131, bk_227_151, zq_3_0, zq_3_1, zq_3_2, zq_3_3, decide_true, decide_false, Bool.not_true, Bool.not_false, am_cont, Option.bind_some, Option.toList_some, Option.toList_none, List.singleton_append, List.nil_append, cond_true, cond_false, zc_72, zc_46, zc_52, zc_38, zc_58, zc_64, zc_28, zc_20, zc_34, zc_4, zc_8, zc_50, zc_48, zc_12, zc_96, zd_1, zd_2, zd_3, zd_8, zd_36, zd_20, zI_in, zI_nat, m_isForged, bi_eq0]
  unfold wForge
  cases bt (I 158 35) b <;> cases decide (I 158 (20 + b) = 0) <;> rfl
theorem m_why4 (env : am_E) (d : Nat) (b : Nat) (y z : Int32) (hb : b < 8) (I : Nat → Nat → Int32) (J : Nat → Nat → Int64) (E : Nat → Nat → Nat) : am_ev env (d + 3, 227, 0, [some (.ref 156), some (.int 4), some (.int (Int32.ofNat b)), some (.int y), some (.int z)], [], am_hp I J E) = some (true, some (.int (bi (!bt (I 158 35) b))), am_hp I J E) := by
  simp (disch := omega) only [bk_227_0, bk_227_46, bk_227_52, bk_227_60, bk_227_69, bk_227_75, bk_227_99, bk_227_105, bk_227_113, bk_227_131, bk_227_151, zq_4_0, zq_4_1, zq_4_2, zq_4_3, zq_4_4, decide_true, decide_false, Bool.not_true, Bool.not_false, am_cont, Option.bind_some, Option.toList_some, Option.toList_none, List.singleton_append, List.nil_append, cond_true, cond_false, zc_72, zc_46, zc_52, zc_38, zc_58, zc_64, zc_28, zc_20, zc_34, zc_4, zc_8, zc_50, zc_48, zc_12, zc_96, zd_1, zd_2, zd_3, zd_8, zd_36, zd_20, zI_in, zI_nat, m_isForged, bi_eq0]
  cases bt (I 158 35) b <;> rfl
theorem m_why5 (env : am_E) (d : Nat) (b : Nat) (y z : Int32) (hb : b < 8) (I : Nat → Nat → Int32) (J : Nat → Nat → Int64) (E : Nat → Nat → Nat) : am_ev env (d + 1, 227, 0, [some (.ref 156), some (.int 5), some (.int (Int32.ofNat b)), some (.int y), some (.int z)], [], am_hp I J E) = some (true, some (.int (bi (decide (I 158 (38 + b) = 0)))), am_hp I J E) := by
  simp (disch := omega) only [bk_227_0, bk_227_46, bk_227_52, bk_227_60, bk_227_69, bk_227_75, bk_227_99, bk_227_105, bk_227_113, bk_227_131, bk_227_151, zq_5_0, zq_5_1, zq_5_2, zq_5_3, zq_5_4, zq_5_5, decide_true, decide_false, Bool.not_true, Bool.not_false, am_cont, Option.bind_some, Option.toList_some, Option.toList_none, List.singleton_append, List.nil_append, cond_true, cond_false, zc_72, zc_46, zc_52, zc_38, zc_58, zc_64, zc_28, zc_20, zc_34, zc_4, zc_8, zc_50, zc_48, zc_12, zc_96, zd_1, zd_2, zd_3, zd_8, zd_36, zd_20, zI_in, zI_nat]
  cases decide (I 158 (38 + b) = 0) <;> rfl
theorem m_why6 (env : am_E) (d : Nat) (b : Nat) (y z : Int32) (hb : b < 8) (I : Nat → Nat → Int32) (J : Nat → Nat → Int64) (E : Nat → Nat → Nat) : am_ev env (d + 1, 227, 0, [some (.ref 156), some (.int 6), some (.int (Int32.ofNat b)), some (.int y), some (.int z)], [], am_hp I J E) = some (true, some (.int (bi (!decide (I 158 (38 + b) < 9)))), am_hp I J E) := by
  simp (disch := omega) only [bk_227_0, bk_227_46, bk_227_52, bk_227_60, bk_227_69, bk_227_75, bk_227_99, bk_227_105, bk_227_113, bk_227_131, bk_227_151, zq_6_0, zq_6_1, zq_6_2, zq_6_3, zq_6_4, zq_6_5, decide_true, decide_false, Bool.not_true, Bool.not_false, am_cont, Option.bind_some, Option.toList_some, Option.toList_none, List.singleton_append, List.nil_append, cond_true, cond_false, zc_72, zc_46, zc_52, zc_38, zc_58, zc_64, zc_28, zc_20, zc_34, zc_4, zc_8, zc_50, zc_48, zc_12, zc_96, zd_1, zd_2, zd_3, zd_8, zd_36, zd_20, zI_in, zI_nat]
  cases decide (I 158 (38 + b) < 9) <;> rfl
def lLeave (m : Nat → Int32) (r : Nat) (b : Nat) : Nat → Int32 := ru (ru (ru m (38 + b) (m (38 + b) + 1)) (46 + r) (-1)) (52 + r) 0
def lLearn (m : Nat → Int32) (r b : Nat) : Nat → Int32 := ru (ru m (64 + r) (m (64 + r) ||| ((1 : Int32) <<< (Int32.ofNat b &&& 31)))) 36 (m 36 + 1)
def lLend (m : Nat → Int32) (r b : Nat) : Nat → Int32 := ru (ru (ru m (38 + b) (m (38 + b) - 1)) (46 + r) (Int32.ofNat b)) (52 + r) (m (4 + b))
def lst (a b : Int32) : Int32 := bif decide (b ≤ a) then b else a
def lBack (m : Nat → Int32) (r b : Nat) : Nat → Int32 := ru (lLeave m r b) (58 + r) (lst 99 (m (58 + r) + m 3))
def lForge (m : Nat → Int32) (b : Nat) : Nat → Int32 := ru m 35 (m 35 ^^^ ((1 : Int32) <<< (Int32.ofNat b &&& 31)))
def lBurn (m : Nat → Int32) (b : Nat) : Nat → Int32 := ru m (38 + b) (m (38 + b) - 1)
def lBuy (m : Nat → Int32) (b : Nat) : Nat → Int32 := ru m (38 + b) (m (38 + b) + 1)
theorem m_leave (env : am_E) (d : Nat) (r b : Nat) (hr : r < 6) (hb : b < 8) (I : Nat → Nat → Int32) (J : Nat → Nat → Int64) (E : Nat → Nat → Nat) (h : I 158 (46 + r) = Int32.ofNat b) : am_ev env (d + 1, 228, 0, [some (.ref 156), some (.int (Int32.ofNat r))], [], am_hp I J E) = some (true, none, am_hp (am_ur I 158 (lLeave (I 158) r b)) J E) := by
  simp (disch := omega) only [bk_228_0, decide_true, decide_false, Bool.not_true, Bool.not_false, am_cont, Option.bind_some, Option.toList_some, Option.toList_none, List.singleton_append, List.nil_append, cond_true, cond_false, zc_72, zc_46, zc_52, zc_38, zc_58, zc_64, zc_28, zc_20, zc_34, zc_4, zc_8, zc_50, zc_48, zc_12, zc_96, zd_1, zd_2, zd_3, zd_8, zd_36, zd_20, zI_in, zI_nat, h, am_u_r, ur_ur, ur_at]
  rfl
theorem m_learn (env : am_E) (d : Nat) (r b : Nat) (hr : r < 6) (hb : b < 8) (I : Nat → Nat → Int32) (J : Nat → Nat → Int64) (E : Nat → Nat → Nat) : am_ev env (d + 1, 229, 0, [some (.ref 156), some (.int (Int32.ofNat r)), some (.int (Int32.ofNat b))], [], am_hp I J E) = some (true, none, am_hp (am_ur I 158 (lLearn (I 158) r b)) J E) := by
  simp (disch := omega) only [bk_229_0, decide_true, decide_false, Bool.not_true, Bool.not_false, am_cont, Option.bind_some, Option.toList_some, Option.toList_none, List.singleton_append, List.nil_append, cond_true, cond_false, zc_72, zc_46, zc_52, zc_38, zc_58, zc_64, zc_28, zc_20, zc_34, zc_4, zc_8, zc_50, zc_48, zc_12, zc_96, zd_1, zd_2, zd_3, zd_8, zd_36, zd_20, zI_in, zI_nat, am_u_r, ur_ur, ur_at, ru_ne]
  rfl
theorem m_live0 (env : am_E) (d : Nat) (r b : Nat) (z : Int32) (hr : r < 6) (hb : b < 8) (I : Nat → Nat → Int32) (J : Nat → Nat → Int64) (E : Nat → Nat → Nat) : am_ev env (d + 1, 230, 0, [some (.ref 156), some (.int 0), some (.int (Int32.ofNat r)), some (.int (Int32.ofNat b)), some (.int z)], [], am_hp I J E) = some (true, none, am_hp (am_ur I 158 (lLend (I 158) r b)) J E) := by
  simp (disch := omega) only [bk_230_0, bk_230_80, bk_230_86, bk_230_115, bk_230_124, bk_230_125, zq_0_0, decide_true, decide_false, Bool.not_true, Bool.not_false, am_cont, Option.bind_some, Option.toList_some, Option.toList_none, List.singleton_append, List.nil_append, cond_true, cond_false, zc_72, zc_46, zc_52, zc_38, zc_58, zc_64, zc_28, zc_20, zc_34, zc_4, zc_8, zc_50, zc_48, zc_12, zc_96, zd_1, zd_2, zd_3, zd_8, zd_36, zd_20, zI_in, zI_nat, am_u_r, ur_ur, ur_at, ru_ne]
  rfl
theorem m_live1 (env : am_E) (d : Nat) (r b : Nat) (y z : Int32) (hr : r < 6) (hb : b < 8) (I : Nat → Nat → Int32) (J : Nat → Nat → Int64) (E : Nat → Nat → Nat) (h : I 158 (46 + r) = Int32.ofNat b) : am_ev env (d + 2, 230, 0, [some (.ref 156), some (.int 1), some (.int (Int32.ofNat r)), some (.int y), some (.int z)], [], am_hp I J E) = some (true, none, am_hp (am_ur I 158 (lBack (I 158) r b)) J E) := by
  simp (disch := omega) only [bk_230_0, bk_230_80, bk_230_86, bk_230_115, bk_230_124, bk_230_125, zq_1_0, zq_1_1, decide_true, decide_false, Bool.not_true, Bool.not_false, am_cont, Option.bind_some, Option.toList_some, Option.toList_none, List.singleton_append, List.nil_append, cond_true, cond_false, zc_72, zc_46, zc_52, zc_38, zc_58, zc_64, zc_28, zc_20, zc_34, zc_4, zc_8, zc_50, zc_48, zc_12, zc_96, zd_1, zd_2, zd_3, zd_8, zd_36, zd_20, zI_in, zI_nat, m_leave env d r b hr hb I J E h, m_least, am_u_r, ur_ur, ur_at]
  unfold lBack lst
  have e1 : lLeave (I 158) r b (58 + r) = I 158 (58 + r) := by unfold lLeave; rw [ru_ne _ _ _ _ (by omega), ru_ne _ _ _ _ (by omega), ru_ne _ _ _ _ (by omega)]
  have e2 : lLeave (I 158) r b 3 = I 158 3 := by unfold lLeave; rw [ru_ne _ _ _ _ (by omega), ru_ne _ _ _ _ (by omega), ru_ne _ _ _ _ (by omega)]
  rw [e1, e2]
theorem m_live2 (env : am_E) (d : Nat) (r b q : Nat) (hb : b < 8) (hq : q < 6) (I : Nat → Nat → Int32) (J : Nat → Nat → Int64) (E : Nat → Nat → Nat) : am_ev env (d + 2, 230, 0, [some (.ref 156), some (.int 2), some (.int (Int32.ofNat r)), some (.int (Int32.ofNat b)), some (.int (Int32.ofNat q))], [], am_hp I J E) = some (true, none, am_hp (am_ur I 158 (lLearn (I 158) q b)) J E) := by
  simp (disch := omega) only [bk_230_0, bk_230_80, bk_230_86, bk_230_115, bk_230_124, bk_230_125, zq_2_0, zq_2_1, zq_2_2, decide_true, decide_false, Bool.not_true, Bool.not_false, am_cont, Option.bind_some, Option.toList_some, Option.toList_none, List.singleton_append, List.nil_append, cond_true, cond_false, m_learn]
theorem m_live3 (env : am_E) (d : Nat) (b : Nat) (y z : Int32) (I : Nat → Nat → Int32) (J : Nat → Nat → Int64) (E : Nat → Nat → Nat) : am_ev env (d + 1, 230, 0, [some (.ref 156), some (.int 3), some (.int (Int32.ofNat b)), some (.int y), some (.int z)], [], am_hp I J E) = some (true, none, am_hp (am_ur I 158 (lForge (I 158) b)) J E) := by
  simp (disch := omega) only [bk_230_0, bk_230_80, bk_230_86, bk_230_115, bk_230_124, bk_230_125, zq_3_0, zq_3_1, zq_3_2, zq_3_3, decide_true, decide_false, Bool.not_true, Bool.not_false, am_cont, Option.bind_some, Option.toList_some, Option.toList_none, List.singleton_append, List.nil_append, cond_true, cond_false, am_u_r, ur_ur, ur_at]
  rfl
theorem m_live4 (env : am_E) (d : Nat) (b : Nat) (y z : Int32) (I : Nat → Nat → Int32) (J : Nat → Nat → Int64) (E : Nat → Nat → Nat) : am_ev env (d + 1, 230, 0, [some (.ref 156), some (.int 4), some (.int (Int32.ofNat b)), some (.int y), some (.int z)], [], am_hp I J E) = some (true, none, am_hp (am_ur I 158 (lForge (I 158) b)) J E) := by
  simp (disch := omega) only [bk_230_0, bk_230_80, bk_230_86, bk_230_115, bk_230_124, bk_230_125, zq_4_0, zq_4_1, zq_4_2, zq_4_3, zq_4_4, decide_true, decide_false, Bool.not_true, Bool.not_false, am_cont, Option.bind_some, Option.toList_some, Option.toList_none, List.singleton_append, List.nil_append, cond_true, cond_false, am_u_r, ur_ur, ur_at]
  rfl
theorem m_live5 (env : am_E) (d : Nat) (b : Nat) (y z : Int32) (hb : b < 8) (I : Nat → Nat → Int32) (J : Nat → Nat → Int64) (E : Nat → Nat → Nat) : am_ev env (d + 1, 230, 0, [some (.ref 156), some (.int 5), some (.int (Int32.ofNat b)), some (.int y), some (.int z)], [], am_hp I J E) = some (true, none, am_hp (am_ur I 158 (lBurn (I 158) b)) J E) := by
  simp (disch := omega) only [bk_230_0, bk_230_80, bk_230_86, bk_230_115, bk_230_124, bk_230_125, zq_5_0, zq_5_1, zq_5_2, zq_5_3, zq_5_4, zq_5_5, decide_true, decide_false, Bool.not_true, Bool.not_false, am_cont, Option.bind_some, Option.toList_some, Option.toList_none, List.singleton_append, List.nil_append, cond_true, cond_false, zc_72, zc_46, zc_52, zc_38, zc_58, zc_64, zc_28, zc_20, zc_34, zc_4, zc_8, zc_50, zc_48, zc_12, zc_96, zd_1, zd_2, zd_3, zd_8, zd_36, zd_20, zI_in, zI_nat, am_u_r, ur_ur, ur_at]
  rfl
theorem m_live6 (env : am_E) (d : Nat) (b : Nat) (y z : Int32) (hb : b < 8) (I : Nat → Nat → Int32) (J : Nat → Nat → Int64) (E : Nat → Nat → Nat) : am_ev env (d + 1, 230, 0, [some (.ref 156), some (.int 6), some (.int (Int32.ofNat b)), some (.int y), some (.int z)], [], am_hp I J E) = some (true, none, am_hp (am_ur I 158 (lBuy (I 158) b)) J E) := by
  simp (disch := omega) only [bk_230_0, bk_230_80, bk_230_86, bk_230_115, bk_230_124, bk_230_125, zq_6_0, zq_6_1, zq_6_2, zq_6_3, zq_6_4, zq_6_5, decide_true, decide_false, Bool.not_true, Bool.not_false, am_cont, Option.bind_some, Option.toList_some, Option.toList_none, List.singleton_append, List.nil_append, cond_true, cond_false, zc_72, zc_46, zc_52, zc_38, zc_58, zc_64, zc_28, zc_20, zc_34, zc_4, zc_8, zc_50, zc_48, zc_12, zc_96, zd_1, zd_2, zd_3, zd_8, zd_36, zd_20, zI_in, zI_nat, am_u_r, ur_ur, ur_at]
  rfl
