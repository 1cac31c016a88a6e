/-! said: what a SENTENCE says of a reader; the reference's answer -/
def msv (m : Nat → Int32) (w r : Nat) : Int32 := if w = 21 then m (28 + r) else if w = 22 then m (52 + r) else if w = 23 then m (58 + r) else Int32.ofNat r
def mcv (s : Nat) (v x : Int32) : Bool := if s = 60 then !decide (x ≤ v) else if s = 61 then decide (v = x) else !decide (v ≤ x)
def lfv (m : Nat → Int32) (w : Nat × Nat × Nat) (r : Nat) : Bool :=
  if w.1 = 16 then decide (m (46 + r) = -1) else
  if w.1 = 17 then !decide (m (58 + r) ≤ 0) else
  if w.1 = 18 then decide (m (64 + r) = ((1 : Int32) <<< (m 0 &&& 31)) - 1) else
  if w.1 = 19 then decide (m (46 + r) = Int32.ofNat w.2.1) else
  if w.1 = 20 then bt (m (64 + r)) w.2.1 else mcv w.2.2 (msv m w.1 r) (Int32.ofNat w.2.1)
def tvl (m : Nat → Int32) (S : Ssn) (r : Nat) : Nat → Nat → Bool
  | 0, _ => false
  | f + 1, i => if (S.2.2.1 i).1 = 15 then !tvl m S r f (S.2.2.2 i).1 else if (S.2.2.1 i).1 = 14 then (tvl m S r f (S.2.2.2 i).1 && tvl m S r f (S.2.2.2 i).2) else if (S.2.2.1 i).1 = 13 then (tvl m S r f (S.2.2.2 i).1 || tvl m S r f (S.2.2.2 i).2) else lfv m (S.2.2.1 i) r
theorem m_325 (env : am_E) (d : Nat) (x1 x2 x4 x5 x6 v : Int32) (c s : Nat) (hc : c + 3 < 312) (hs : s ≤ 1000) (I : Nat → Nat → Int32) (J : Nat → Nat → Int64) (E : Nat → Nat → Nat) (h3 : I 158 (c + 3) = Int32.ofNat s) : am_ev env (d + 1, 297, 325, [some (.ref 156), some (.int x1), some (.int x2), some (.int (Int32.ofNat c)), some (.int x4), some (.int x5), some (.int x6), none], [.int v], am_hp I J E) = some (true, some (.int (bi (mcv s v x5))), am_hp I J E) := by
  refine (bk_297_325 _ _ _ _ _ _ _ _ _ _ _ _).trans ?_
  rw [zd_3, zI_in (c + 3) 312 hc (by omega), zI_nat (c + 3) (by omega), h3, show decide (Int32.ofNat s = (60 : Int32)) = decide (s = 60) from zI_deq s 60 (by omega) (by omega), show decide (Int32.ofNat s = (61 : Int32)) = decide (s = 61) from zI_deq s 61 (by omega) (by omega)]
  unfold mcv
  by_cases h1 : s = 60
  · rw [if_pos h1, decide_eq_true h1]
    simp only [decide_true, decide_false, Bool.not_true, Bool.not_false, am_cont, Option.bind_some, Option.toList_some, Option.toList_none, List.singleton_append, List.nil_append, cond_true, cond_false, bk_297_395]
    cases decide (x5 ≤ v) <;> rfl
  rw [if_neg h1, decide_eq_false h1]
  by_cases h2 : s = 61
  · rw [if_pos h2, decide_eq_true h2]
    simp only [decide_true, decide_false, Bool.not_true, Bool.not_false, am_cont, Option.bind_some, Option.toList_some, Option.toList_none, List.singleton_append, List.nil_append, cond_true, cond_false, bk_297_395]
    cases decide (v = x5) <;> rfl
  rw [if_neg h2, decide_eq_false h2]
  simp only [decide_true, decide_false, Bool.not_true, Bool.not_false, am_cont, Option.bind_some, Option.toList_some, Option.toList_none, List.singleton_append, List.nil_append, cond_true, cond_false, bk_297_395]
  cases decide (v ≤ x5) <;> rfl
theorem z_sub50 (w : Nat) (h : 1 ≤ w) : Int32.ofNat (49 + w) - 50 = Int32.ofNat (w - 1) := by
  have : Int32.ofNat (49 + w) = Int32.ofNat (w - 1) + 50 := by
    rw [show 49 + w = (w - 1) + 50 by omega]; exact (zc_add (w - 1) 50).symm
  rw [this, Int32.add_sub_cancel]
theorem m_leafv (env : am_E) (d : Nat) (n i r : Nat) (hn : n ≤ 8) (hi : i < 40) (hr : r < 6) (w : Nat × Nat × Nat) (hw : lfk n w) (cc : Nat × Nat) (I : Nat → Nat → Int32) (J : Nat → Nat → Int64) (E : Nat → Nat → Nat) (hd : ∀ j, j < 4 → I 158 (72 + (4 * i + j)) = Int32.ofNat (nd w cc j)) : am_ev env (d + 3, 297, 0, [some (.ref 156), some (.int (Int32.ofNat i)), some (.int (Int32.ofNat r)), none, none, none, none, none], [], am_hp I J E) = some (true, some (.int (bi (lfv (I 158) w r))), am_hp I J E) := by
  obtain ⟨w1, w2, w3, w4⟩ := hw
  have n0 : nd w cc 0 = 49 + w.1 := by unfold nd; rw [if_neg (by omega), if_neg (by omega), if_neg (by omega), if_pos rfl]
  have c0 : I 158 (72 + 4 * i) = Int32.ofNat (49 + w.1) := by have := hd 0 (by omega); rw [n0] at this; exact this
  have c1 : I 158 (72 + 4 * i + 1) = Int32.ofNat (nd w cc 1) := hd 1 (by omega)
  have c2 : I 158 (72 + 4 * i + 2) = Int32.ofNat (nd w cc 2) := hd 2 (by omega)
  have c3 : I 158 (72 + 4 * i + 3) = Int32.ofNat (nd w cc 3) := hd 3 (by omega)
  have start := bk_297_0 env (d + 2) (Int32.ofNat i) (Int32.ofNat r) I J E
  rw [show (72 : Int32) + 4 * Int32.ofNat i = Int32.ofNat (72 + 4 * i) by rw [show (4 : Int32) * Int32.ofNat i = Int32.ofNat (4 * i) from zI_mul 4 i]; exact zc_add 72 (4 * i)] at start
  rw [zd_1, zd_2, zI_in (72 + 4 * i + 1) 312 (by omega) (by omega), zI_in (72 + 4 * i + 2) 312 (by omega) (by omega), zI_in (72 + 4 * i) 312 (by omega) (by omega), zI_nat (72 + 4 * i) (by omega), zI_nat (72 + 4 * i + 1) (by omega), zI_nat (72 + 4 * i + 2) (by omega), c0, c1, c2] at start
  have q : ∀ k : Nat, k < 1000 → decide (Int32.ofNat (49 + w.1) = Int32.ofNat k) = decide (49 + w.1 = k) := fun k hk => zI_deq _ k (by omega) (by omega)
  rw [show decide (Int32.ofNat (49 + w.1) = (1 : Int32)) = false from (q 1 (by omega)).trans (decide_eq_false (by omega)), show decide (Int32.ofNat (49 + w.1) = (2 : Int32)) = false from (q 2 (by omega)).trans (decide_eq_false (by omega)), show decide (Int32.ofNat (49 + w.1) = (3 : Int32)) = false from (q 3 (by omega)).trans (decide_eq_false (by omega)), show decide (Int32.ofNat (49 + w.1) = (65 : Int32)) = decide (49 + w.1 = 65) from q 65 (by omega), show decide (Int32.ofNat (49 + w.1) = (66 : Int32)) = decide (49 + w.1 = 66) from q 66 (by omega), show decide (Int32.ofNat (49 + w.1) = (67 : Int32)) = decide (49 + w.1 = 67) from q 67 (by omega), show decide (Int32.ofNat (49 + w.1) = (68 : Int32)) = decide (49 + w.1 = 68) from q 68 (by omega), show decide (Int32.ofNat (49 + w.1) = (69 : Int32)) = decide (49 + w.1 = 69) from q 69 (by omega)] at start
  have a58 : (58 : Int32) + Int32.ofNat r = Int32.ofNat (58 + r) := zc_add 58 r
  have a64 : (64 : Int32) + Int32.ofNat r = Int32.ofNat (64 + r) := zc_add 64 r
  have a46 : (46 : Int32) + Int32.ofNat r = Int32.ofNat (46 + r) := zc_add 46 r
  have a52 : (52 : Int32) + Int32.ofNat r = Int32.ofNat (52 + r) := zc_add 52 r
  have a28 : (28 : Int32) + Int32.ofNat r = Int32.ofNat (28 + r) := zc_add 28 r
  rw [a58, a64, a46, a52, a28, zI_in (58 + r) 312 (by omega) (by omega), zI_in (64 + r) 312 (by omega) (by omega), zI_in (46 + r) 312 (by omega) (by omega), zI_in (52 + r) 312 (by omega) (by omega), zI_in (28 + r) 312 (by omega) (by omega), zI_nat (58 + r) (by omega), zI_nat (64 + r) (by omega), zI_nat (46 + r) (by omega), zI_nat (52 + r) (by omega), zI_nat (28 + r) (by omega)] at start
  unfold lfv
  by_cases h16 : w.1 = 16
  · rw [if_pos h16]
    rw [decide_eq_true (by omega : 49 + w.1 = 65)] at start
    refine start.trans ?_
    simp only [decide_true, decide_false, Bool.not_true, Bool.not_false, am_cont, Option.bind_some, Option.toList_some, Option.toList_none, List.singleton_append, List.nil_append, cond_true, cond_false, m_isIdle env _ r hr, bk_297_181, bi_and]
  rw [if_neg h16]
  rw [decide_eq_false (by omega : ¬ 49 + w.1 = 65)] at start
  by_cases h17 : w.1 = 17
  · rw [if_pos h17]
    rw [decide_eq_true (by omega : 49 + w.1 = 66)] at start
    refine start.trans ?_
    simp only [decide_true, decide_false, Bool.not_true, Bool.not_false, am_cont, Option.bind_some, Option.toList_some, Option.toList_none, List.singleton_append, List.nil_append, cond_true, cond_false, bk_297_199]
    cases decide (I 158 (58 + r) ≤ 0) <;> rfl
  rw [if_neg h17]
  rw [decide_eq_false (by omega : ¬ 49 + w.1 = 66)] at start
  by_cases h18 : w.1 = 18
  · rw [if_pos h18]
    rw [decide_eq_true (by omega : 49 + w.1 = 67)] at start
    refine start.trans ?_
    simp only [decide_true, decide_false, Bool.not_true, Bool.not_false, am_cont, Option.bind_some, Option.toList_some, Option.toList_none, List.singleton_append, List.nil_append, cond_true, cond_false, bk_297_227]
    cases decide (I 158 (64 + r) = ((1 : Int32) <<< (I 158 0 &&& 31)) - 1) <;> rfl
  rw [if_neg h18]
  rw [decide_eq_false (by omega : ¬ 49 + w.1 = 67)] at start
  by_cases h19 : w.1 = 19
  · rw [if_pos h19]
    have n1 : nd w cc 1 = w.2.1 := by unfold nd; rw [if_neg (by omega), if_neg (by omega), if_neg (by omega), if_neg (by omega), if_pos (by omega), if_pos rfl]
    rw [decide_eq_true (by omega : 49 + w.1 = 68), n1] at start
    refine start.trans ?_
    simp only [decide_true, decide_false, Bool.not_true, Bool.not_false, am_cont, Option.bind_some, Option.toList_some, Option.toList_none, List.singleton_append, List.nil_append, cond_true, cond_false, bk_297_247]
    cases decide (I 158 (46 + r) = Int32.ofNat w.2.1) <;> rfl
  rw [if_neg h19]
  rw [decide_eq_false (by omega : ¬ 49 + w.1 = 68)] at start
  by_cases h20 : w.1 = 20
  · rw [if_pos h20]
    have n1 : nd w cc 1 = w.2.1 := by unfold nd; rw [if_neg (by omega), if_neg (by omega), if_neg (by omega), if_neg (by omega), if_pos (by omega), if_pos rfl]
    rw [decide_eq_true (by omega : 49 + w.1 = 69), n1] at start
    refine start.trans ?_
    have := w3 (by omega) (by omega)
    simp only [decide_true, decide_false, Bool.not_true, Bool.not_false, am_cont, Option.bind_some, Option.toList_some, Option.toList_none, List.singleton_append, List.nil_append, cond_true, cond_false, m_hasRead env _ r w.2.1 hr (by omega), bk_297_255, bi_and]
  rw [if_neg h20]
  have n2 : nd w cc 2 = w.2.1 := by unfold nd; rw [if_neg (by omega), if_neg (by omega), if_neg (by omega), if_neg (by omega), if_neg (by omega), if_neg (by omega), if_pos rfl]
  have n3 : nd w cc 3 = w.2.2 := by unfold nd; rw [if_neg (by omega), if_neg (by omega), if_neg (by omega), if_neg (by omega), if_neg (by omega), if_neg (by omega), if_neg (by omega)]
  have p : ∀ k : Nat, k < 1000 → decide (Int32.ofNat (w.1 - 1) = Int32.ofNat k) = decide (w.1 - 1 = k) := fun k hk => zI_deq _ k (by omega) (by omega)
  rw [decide_eq_false (by omega : ¬ 49 + w.1 = 69), z_sub50 w.1 (by omega), show decide (Int32.ofNat (w.1 - 1) = (20 : Int32)) = decide (w.1 - 1 = 20) from p 20 (by omega), show decide (Int32.ofNat (w.1 - 1) = (21 : Int32)) = decide (w.1 - 1 = 21) from p 21 (by omega), show decide (Int32.ofNat (w.1 - 1) = (22 : Int32)) = decide (w.1 - 1 = 22) from p 22 (by omega), n2] at start
  have hs := (w4 (by omega)).2
  rw [n3] at c3
  refine start.trans ?_
  unfold msv
  by_cases h21 : w.1 = 21
  · rw [if_pos h21, decide_eq_true (by omega : w.1 - 1 = 20)]
    simp only [decide_true, decide_false, Bool.not_true, Bool.not_false, am_cont, Option.bind_some, Option.toList_some, Option.toList_none, List.singleton_append, List.nil_append, cond_true, cond_false]
    exact m_325 _ _ _ _ _ _ _ _ (72 + 4 * i) w.2.2 (by omega) (by omega) _ _ _ c3
  rw [if_neg h21, decide_eq_false (by omega : ¬ w.1 - 1 = 20)]
  by_cases h22 : w.1 = 22
  · rw [if_pos h22, decide_eq_true (by omega : w.1 - 1 = 21)]
    simp only [decide_true, decide_false, Bool.not_true, Bool.not_false, am_cont, Option.bind_some, Option.toList_some, Option.toList_none, List.singleton_append, List.nil_append, cond_true, cond_false]
    exact m_325 _ _ _ _ _ _ _ _ (72 + 4 * i) w.2.2 (by omega) (by omega) _ _ _ c3
  rw [if_neg h22, decide_eq_false (by omega : ¬ w.1 - 1 = 21)]
  by_cases h23 : w.1 = 23
  · rw [if_pos h23, decide_eq_true (by omega : w.1 - 1 = 22)]
    simp only [decide_true, decide_false, Bool.not_true, Bool.not_false, am_cont, Option.bind_some, Option.toList_some, Option.toList_none, List.singleton_append, List.nil_append, cond_true, cond_false]
    exact m_325 _ _ _ _ _ _ _ _ (72 + 4 * i) w.2.2 (by omega) (by omega) _ _ _ c3
  rw [if_neg h23, decide_eq_false (by omega : ¬ w.1 - 1 = 22)]
  simp only [decide_true, decide_false, Bool.not_true, Bool.not_false, am_cont, Option.bind_some, Option.toList_some, Option.toList_none, List.singleton_append, List.nil_append, cond_true, cond_false]
  exact m_325 _ _ _ _ _ _ _ _ (72 + 4 * i) w.2.2 (by omega) (by omega) _ _ _ c3
theorem m_hnot (env : am_E) (d : Nat) (i r : Nat) (hi : i < 40) (w : Nat × Nat × Nat) (cc : Nat × Nat) (hw : w.1 = 15) (va : Bool) (I : Nat → Nat → Int32) (J : Nat → Nat → Int64) (E : Nat → Nat → Nat) (hd : ∀ j, j < 4 → I 158 (72 + (4 * i + j)) = Int32.ofNat (nd w cc j)) (ea : am_ev env (d, 297, 0, [some (.ref 156), some (.int (Int32.ofNat (cc.1))), some (.int (Int32.ofNat r)), none, none, none, none, none], [], am_hp I J E) = some (true, some (.int (bi va)), am_hp I J E)) : am_ev env (d + 1, 297, 0, [some (.ref 156), some (.int (Int32.ofNat i)), some (.int (Int32.ofNat r)), none, none, none, none, none], [], am_hp I J E) = some (true, some (.int (bi (!va))), am_hp I J E) := by
  have c0 : I 158 (72 + 4 * i) = Int32.ofNat (nd w cc 0) := hd 0 (by omega)
  have c1 : I 158 (72 + 4 * i + 1) = Int32.ofNat (nd w cc 1) := hd 1 (by omega)
  have c2 : I 158 (72 + 4 * i + 2) = Int32.ofNat (nd w cc 2) := hd 2 (by omega)
  have start := bk_297_0 env d (Int32.ofNat i) (Int32.ofNat r) I J E
  rw [show (72 : Int32) + 4 * Int32.ofNat i = Int32.ofNat (72 + 4 * i) by rw [show (4 : Int32) * Int32.ofNat i = Int32.ofNat (4 * i) from zI_mul 4 i]; exact zc_add 72 (4 * i)] at start
  rw [zd_1, zd_2, zI_in (72 + 4 * i + 1) 312 (by omega) (by omega), zI_in (72 + 4 * i + 2) 312 (by omega) (by omega), zI_in (72 + 4 * i) 312 (by omega) (by omega), zI_nat (72 + 4 * i) (by omega), zI_nat (72 + 4 * i + 1) (by omega), zI_nat (72 + 4 * i + 2) (by omega), c0, c1, c2, cond_true, cond_true, cond_true] at start
  have n0 : nd w cc 0 = 1 := by unfold nd; rw [if_neg (by omega), if_neg (by omega), if_pos hw, if_pos rfl]
  have n1 : nd w cc 1 = cc.1 := by unfold nd; rw [if_neg (by omega), if_neg (by omega), if_pos hw, if_neg (by omega), if_pos rfl]
  rw [show decide (Int32.ofNat (nd w cc 0) = (1 : Int32)) = true by rw [n0]; decide, cond_true, n1, am_cont_some ea] at start
  refine start.trans ?_
  simp only [decide_true, decide_false, Bool.not_true, Bool.not_false, am_cont, Option.bind_some, Option.toList_some, Option.toList_none, List.singleton_append, List.nil_append, cond_true, cond_false, bk_297_115, bi_eq0, Bool.not_not, bk_297_123]
  cases va <;> rfl
theorem m_hor (env : am_E) (d : Nat) (i r : Nat) (hi : i < 40) (w : Nat × Nat × Nat) (cc : Nat × Nat) (hw : w.1 = 13) (va vb : Bool) (I : Nat → Nat → Int32) (J : Nat → Nat → Int64) (E : Nat → Nat → Nat) (hd : ∀ j, j < 4 → I 158 (72 + (4 * i + j)) = Int32.ofNat (nd w cc j)) (ea : am_ev env (d, 297, 0, [some (.ref 156), some (.int (Int32.ofNat (cc.1))), some (.int (Int32.ofNat r)), none, none, none, none, none], [], am_hp I J E) = some (true, some (.int (bi va)), am_hp I J E)) (eb : am_ev env (d, 297, 0, [some (.ref 156), some (.int (Int32.ofNat (cc.2))), some (.int (Int32.ofNat r)), none, none, none, none, none], [], am_hp I J E) = some (true, some (.int (bi vb)), am_hp I J E)) : am_ev env (d + 1, 297, 0, [some (.ref 156), some (.int (Int32.ofNat i)), some (.int (Int32.ofNat r)), none, none, none, none, none], [], am_hp I J E) = some (true, some (.int (bi (va || vb))), am_hp I J E) := by
  have c0 : I 158 (72 + 4 * i) = Int32.ofNat (nd w cc 0) := hd 0 (by omega)
  have c1 : I 158 (72 + 4 * i + 1) = Int32.ofNat (nd w cc 1) := hd 1 (by omega)
  have c2 : I 158 (72 + 4 * i + 2) = Int32.ofNat (nd w cc 2) := hd 2 (by omega)
  have start := bk_297_0 env d (Int32.ofNat i) (Int32.ofNat r) I J E
  rw [show (72 : Int32) + 4 * Int32.ofNat i = Int32.ofNat (72 + 4 * i) by rw [show (4 : Int32) * Int32.ofNat i = Int32.ofNat (4 * i) from zI_mul 4 i]; exact zc_add 72 (4 * i)] at start
  rw [zd_1, zd_2, zI_in (72 + 4 * i + 1) 312 (by omega) (by omega), zI_in (72 + 4 * i + 2) 312 (by omega) (by omega), zI_in (72 + 4 * i) 312 (by omega) (by omega), zI_nat (72 + 4 * i) (by omega), zI_nat (72 + 4 * i + 1) (by omega), zI_nat (72 + 4 * i + 2) (by omega), c0, c1, c2, cond_true, cond_true, cond_true] at start
  have n0 : nd w cc 0 = 3 := by unfold nd; rw [if_pos hw, if_pos rfl]
  have n1 : nd w cc 1 = cc.1 := by unfold nd; rw [if_pos hw, if_neg (by omega), if_pos rfl]
  have n2 : nd w cc 2 = cc.2 := by unfold nd; rw [if_pos hw, if_neg (by omega), if_neg (by omega), if_pos rfl]
  rw [show decide (Int32.ofNat (nd w cc 0) = (1 : Int32)) = false by rw [n0]; decide, cond_false, show decide (Int32.ofNat (nd w cc 0) = (2 : Int32)) = false by rw [n0]; decide, cond_false, show decide (Int32.ofNat (nd w cc 0) = (3 : Int32)) = true by rw [n0]; decide, cond_true, n1, n2, am_cont_some ea] at start
  refine start.trans ?_
  simp only [decide_true, decide_false, Bool.not_true, Bool.not_false, am_cont, Option.bind_some, Option.toList_some, Option.toList_none, List.singleton_append, List.nil_append, cond_true, cond_false, bk_297_157, bi_eq0, Bool.not_not]
  cases va
  · simp only [decide_true, decide_false, Bool.not_true, Bool.not_false, am_cont, Option.bind_some, Option.toList_some, Option.toList_none, List.singleton_append, List.nil_append, cond_true, cond_false, eb, bk_297_167, bi_eq0, Bool.not_not, bk_297_170, bk_297_175]
    cases vb <;> rfl
  · simp only [decide_true, decide_false, Bool.not_true, Bool.not_false, am_cont, Option.bind_some, Option.toList_some, Option.toList_none, List.singleton_append, List.nil_append, cond_true, cond_false, bk_297_170, bk_297_175]; rfl
theorem m_hand (env : am_E) (d : Nat) (i r : Nat) (hi : i < 40) (w : Nat × Nat × Nat) (cc : Nat × Nat) (hw : w.1 = 14) (va vb : Bool) (I : Nat → Nat → Int32) (J : Nat → Nat → Int64) (E : Nat → Nat → Nat) (hd : ∀ j, j < 4 → I 158 (72 + (4 * i + j)) = Int32.ofNat (nd w cc j)) (ea : am_ev env (d, 297, 0, [some (.ref 156), some (.int (Int32.ofNat (cc.1))), some (.int (Int32.ofNat r)), none, none, none, none, none], [], am_hp I J E) = some (true, some (.int (bi va)), am_hp I J E)) (eb : am_ev env (d, 297, 0, [some (.ref 156), some (.int (Int32.ofNat (cc.2))), some (.int (Int32.ofNat r)), none, none, none, none, none], [], am_hp I J E) = some (true, some (.int (bi vb)), am_hp I J E)) : am_ev env (d + 1, 297, 0, [some (.ref 156), some (.int (Int32.ofNat i)), some (.int (Int32.ofNat r)), none, none, none, none, none], [], am_hp I J E) = some (true, some (.int (bi (va && vb))), am_hp I J E) := by
  have c0 : I 158 (72 + 4 * i) = Int32.ofNat (nd w cc 0) := hd 0 (by omega)
  have c1 : I 158 (72 + 4 * i + 1) = Int32.ofNat (nd w cc 1) := hd 1 (by omega)
  have c2 : I 158 (72 + 4 * i + 2) = Int32.ofNat (nd w cc 2) := hd 2 (by omega)
  have start := bk_297_0 env d (Int32.ofNat i) (Int32.ofNat r) I J E
  rw [show (72 : Int32) + 4 * Int32.ofNat i = Int32.ofNat (72 + 4 * i) by rw [show (4 : Int32) * Int32.ofNat i = Int32.ofNat (4 * i) from zI_mul 4 i]; exact zc_add 72 (4 * i)] at start
  rw [zd_1, zd_2, zI_in (72 + 4 * i + 1) 312 (by omega) (by omega), zI_in (72 + 4 * i + 2) 312 (by omega) (by omega), zI_in (72 + 4 * i) 312 (by omega) (by omega), zI_nat (72 + 4 * i) (by omega), zI_nat (72 + 4 * i + 1) (by omega), zI_nat (72 + 4 * i + 2) (by omega), c0, c1, c2, cond_true, cond_true, cond_true] at start
  have n0 : nd w cc 0 = 2 := by unfold nd; rw [if_neg (by omega), if_pos hw, if_pos rfl]
  have n1 : nd w cc 1 = cc.1 := by unfold nd; rw [if_neg (by omega), if_pos hw, if_neg (by omega), if_pos rfl]
  have n2 : nd w cc 2 = cc.2 := by unfold nd; rw [if_neg (by omega), if_pos hw, if_neg (by omega), if_neg (by omega), if_pos rfl]
  rw [show decide (Int32.ofNat (nd w cc 0) = (1 : Int32)) = false by rw [n0]; decide, cond_false, show decide (Int32.ofNat (nd w cc 0) = (2 : Int32)) = true by rw [n0]; decide, cond_true, n1, n2, am_cont_some ea] at start
  refine start.trans ?_
  simp only [decide_true, decide_false, Bool.not_true, Bool.not_false, am_cont, Option.bind_some, Option.toList_some, Option.toList_none, List.singleton_append, List.nil_append, cond_true, cond_false, bk_297_131, bi_eq0, Bool.not_not]
  cases va
  · simp only [decide_true, decide_false, Bool.not_true, Bool.not_false, am_cont, Option.bind_some, Option.toList_some, Option.toList_none, List.singleton_append, List.nil_append, cond_true, cond_false, bk_297_148, bk_297_149]; rfl
  · simp only [decide_true, decide_false, Bool.not_true, Bool.not_false, am_cont, Option.bind_some, Option.toList_some, Option.toList_none, List.singleton_append, List.nil_append, cond_true, cond_false, eb, bk_297_141, bi_eq0, Bool.not_not, bk_297_148, bk_297_149]
    cases vb <;> rfl
theorem m_holds (env : am_E) (n r : Nat) (hn : n ≤ 8) (hr : r < 6) (S : Ssn) (hs : S.1 ≤ 40) (I : Nat → Nat → Int32) (J : Nat → Nat → Int64) (E : Nat → Nat → Nat) (hd : Nds (fun j => I 158 (72 + j)) S) : ∀ (f lo i D : Nat), f + 2 ≤ D → i < S.1 → Wf n S f lo i → am_ev env (D, 297, 0, [some (.ref 156), some (.int (Int32.ofNat i)), some (.int (Int32.ofNat r)), none, none, none, none, none], [], am_hp I J E) = some (true, some (.int (bi (tvl (I 158) S r f i))), am_hp I J E) := by
  intro f
  induction f with
  | zero => intro lo i D _ _ h; exact h.elim
  | succ f ih =>
    intro lo i D hD hi h
    unfold tvl
    have hdi : ∀ j, j < 4 → I 158 (72 + (4 * i + j)) = Int32.ofNat (nd (S.2.2.1 i) (S.2.2.2 i) j) := fun j hj => hd i hi j hj
    rcases h with ⟨h1, h2⟩ | ⟨a, h1, h2, h3, h4⟩ | ⟨a, b, h1, h2, h3, h4, h5⟩
    · have := h2.1
      rw [if_neg (by omega), if_neg (by omega), if_neg (by omega)]
      obtain ⟨d0, rfl⟩ : ∃ d0, D = d0 + 3 := ⟨D - 3, by omega⟩
      exact m_leafv env d0 n i r hn (by omega) hr _ h2 (S.2.2.2 i) I J E hdi
    · obtain ⟨d0, rfl⟩ : ∃ d0, D = d0 + 1 := ⟨D - 1, by omega⟩
      rw [if_pos h2]
      have ea := ih lo a d0 (by omega) (by omega) h4
      rw [h3] at hdi ⊢
      exact m_hnot env d0 i r (by omega) _ (a, 0) h2 _ I J E hdi ea
    · obtain ⟨d0, rfl⟩ : ∃ d0, D = d0 + 1 := ⟨D - 1, by omega⟩
      have hle := Wf_le n S f _ _ h5
      have ea := ih lo a d0 (by omega) (by omega) h4
      have eb := ih (a + 1) b d0 (by omega) (by omega) h5
      rw [h3] at hdi ⊢
      rw [if_neg (by omega)]
      rcases h2 with h2 | h2
      · rw [if_neg (by omega), if_pos h2]
        exact m_hor env d0 i r (by omega) _ (a, b) h2 _ _ I J E hdi ea eb
      · rw [if_pos h2]
        exact m_hand env d0 i r (by omega) _ (a, b) h2 _ _ I J E hdi ea eb
