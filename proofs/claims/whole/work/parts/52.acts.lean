/-! acts as calls, of both -/
theorem c_takeBack (env : am_E) (d : Nat) (p : Nat) (hp : stq p = true) (r : Nat) (hr : r < 6) (I : Nat → Nat → Int32) (J : Nat → Nat → Int64) (E : Nat → Nat → Nat) (m : Nat → Int32) (hl : Lb I m) (h : m (46 + r) = -1 ∨ ∃ b, b < 8 ∧ m (46 + r) = Int32.ofNat b) : am_ev env (d + 2, 78, 0, [some (.ref p), some (.ref 5), some (.int (Int32.ofNat r))], [], am_hp (pS I p m) J E) = some (true, some (.int (bi (decide (m (46 + r) = -1)))), am_hp (pS I p (bif decide (bi (decide (m (46 + r) = -1)) = 0) then lBack m r (m (46 + r)).toNatClampNeg else m)) J E) := by
  rw [bi_eq0]
  rcases h with h | ⟨b, hb, h⟩
  · rw [c_takeBack1 env (d + 1) p hp r hr I J E m h, decide_eq_true h]; rfl
  · rw [c_takeBack0 env d p hp r b hr hb I J E m hl h, decide_eq_false (by rw [h]; exact fun e => m1_ne b (by omega) e.symm), h, zI_nat b (by omega)]; rfl
theorem c_mend' (env : am_E) (d : Nat) (p : Nat) (hp : stq p = true) (b : Nat) (hb : b < 8) (I : Nat → Nat → Int32) (J : Nat → Nat → Int64) (E : Nat → Nat → Nat) (m : Nat → Int32) : am_ev env (d + 2, 82, 0, [some (.ref p), some (.int (Int32.ofNat b))], [], am_hp (pS I p m) J E) = some (true, some (.int (bi (!bt (m 35) b))), am_hp (pS I p (bif decide (bi (!bt (m 35) b) = 0) then lMendC m b else m)) J E) := by
  rw [bi_eq0, Bool.not_not]; exact c_mendIt env d p hp b hb I J E m
theorem c_burn' (env : am_E) (d : Nat) (p : Nat) (hp : stq p = true) (b : Nat) (hb : b < 8) (I : Nat → Nat → Int32) (J : Nat → Nat → Int64) (E : Nat → Nat → Nat) (m : Nat → Int32) : am_ev env (d + 1, 83, 0, [some (.ref p), some (.int (Int32.ofNat b))], [], am_hp (pS I p m) J E) = some (true, some (.int (bi (!decide (1 ≤ m (38 + b))))), am_hp (pS I p (bif decide (bi (!decide (1 ≤ m (38 + b))) = 0) then lBurn m b else m)) J E) := by
  rw [bi_eq0, Bool.not_not]; exact c_burnOne env d p hp b hb I J E m
theorem c_buy' (env : am_E) (d : Nat) (p : Nat) (hp : stq p = true) (b : Nat) (hb : b < 8) (I : Nat → Nat → Int32) (J : Nat → Nat → Int64) (E : Nat → Nat → Nat) (m : Nat → Int32) : am_ev env (d + 1, 84, 0, [some (.ref p), some (.int (Int32.ofNat b))], [], am_hp (pS I p m) J E) = some (true, some (.int (bi (!decide (m (38 + b) < 9)))), am_hp (pS I p (bif decide (bi (!decide (m (38 + b) < 9)) = 0) then lBuy m b else m)) J E) := by
  rw [bi_eq0, Bool.not_not]; exact c_buyOne env d p hp b hb I J E m
theorem c_lend1 (env : am_E) (d : Nat) (t h n k r b : Nat) (hr0 : r < k) (hb0 : b < n) (hn : n ≤ 8) (hk : k ≤ 6) (ht : t < 9) (hh : h ≤ 8) (I : Nat → Nat → Int32) (J : Nat → Nat → Int64) (E : Nat → Nat → Nat) (e1 : I 43 1 = Int32.ofNat t) (e2 : I 43 2 = Int32.ofNat h) (f0 : I 5 0 = Int32.ofNat n) (f2 : I 5 2 = Int32.ofNat k)  : am_ev env (d + 20, 123, 0, [some (.ref 0), some (.int (Int32.ofNat r)), some (.int (Int32.ofNat b))], [], am_hp I J E) = some (true, some (.int (cwLend (rS I 12) r b)), am_hp (cA I t h (cwLend (rS I 12) r b) (lLend (rS I 12) r b)) J E) := by
  have hc := c_lendTo env (d + 15) 12 st12 r b (by omega) (by omega) (hd I t) J E (rS I 12) (Lb_hd I t)
  rw [hd_ps] at hc
  simp (disch := omega) only [bk_123_0, bk_123_11, bk_123_25, bk_123_28, bk_123_44, bk_123_64, bk_123_67, c_hasReader env _ (Int32.ofNat r) I J E k hk f2, c_hasBook env _ (Int32.ofNat b) I J E n hn f0, zI_in, bi_t, zq_1_0, zq_0_0, decide_true, decide_false, Bool.not_true, Bool.not_false, am_cont, Option.bind_some, Option.toList_some, Option.toList_none, List.singleton_append, List.nil_append, cond_true, cond_false, c_hold env _ t ht I J E e1, hc, c_keepIf env _ t h ht hh _ (lLend (rS I 12) r b) I J E e1 e2]
theorem c_lend0 (env : am_E) (d : Nat) (n k : Nat) (a x : Int32) (hn : n ≤ 8) (hk : k ≤ 6) (I : Nat → Nat → Int32) (J : Nat → Nat → Int64) (E : Nat → Nat → Nat) (f0 : I 5 0 = Int32.ofNat n) (f2 : I 5 2 = Int32.ofNat k) (hne : (am_in a k && am_in x n) = false) : am_ev env (d + 20, 123, 0, [some (.ref 0), some (.int a), some (.int x)], [], am_hp I J E) = some (true, some (.int (-1)), am_hp I J E) := by
  simp only [bk_123_0, bk_123_11, bk_123_25, bk_123_28, bk_123_44, bk_123_64, bk_123_67, c_hasReader env _ a I J E k hk f2, c_hasBook env _ x I J E n hn f0, bi_eq0, zq_1_0, zq_0_0, decide_true, decide_false, Bool.not_true, Bool.not_false, am_cont, Option.bind_some, Option.toList_some, Option.toList_none, List.singleton_append, List.nil_append, cond_true, cond_false]
  revert hne
  cases ha : am_in a k <;> cases hx : am_in x n <;> intro hne <;> first | (exact absurd hne (by decide)) | (simp only [decide_true, decide_false, Bool.not_true, Bool.not_false, am_cont, Option.bind_some, Option.toList_some, Option.toList_none, List.singleton_append, List.nil_append, cond_true, cond_false])
theorem c_back1 (env : am_E) (d : Nat) (t h n k r : Nat) (hr0 : r < k) (hn : n ≤ 8) (hk : k ≤ 6) (ht : t < 9) (hh : h ≤ 8) (I : Nat → Nat → Int32) (J : Nat → Nat → Int64) (E : Nat → Nat → Nat) (e1 : I 43 1 = Int32.ofNat t) (e2 : I 43 2 = Int32.ofNat h) (f0 : I 5 0 = Int32.ofNat n) (f2 : I 5 2 = Int32.ofNat k) (hx : rS I 12 (46 + r) = -1 ∨ ∃ b, b < 8 ∧ rS I 12 (46 + r) = Int32.ofNat b) : am_ev env (d + 20, 124, 0, [some (.ref 0), some (.int (Int32.ofNat r))], [], am_hp I J E) = some (true, some (.int (bi (decide (rS I 12 (46 + r) = -1)))), am_hp (cA I t h (bi (decide (rS I 12 (46 + r) = -1))) (lBack (rS I 12) r (rS I 12 (46 + r)).toNatClampNeg)) J E) := by
  have hc := c_takeBack env (d + 17) 12 st12 r (by omega) (hd I t) J E (rS I 12) (Lb_hd I t) hx
  rw [hd_ps] at hc
  simp (disch := omega) only [bk_124_0, bk_124_11, bk_124_30, bk_124_49, bk_124_52, c_hasReader env _ (Int32.ofNat r) I J E k hk f2, zI_in, bi_t, zq_1_0, zq_0_0, decide_true, decide_false, Bool.not_true, Bool.not_false, am_cont, Option.bind_some, Option.toList_some, Option.toList_none, List.singleton_append, List.nil_append, cond_true, cond_false, c_hold env _ t ht I J E e1, hc, c_keepIf env _ t h ht hh _ (lBack (rS I 12) r (rS I 12 (46 + r)).toNatClampNeg) I J E e1 e2]
theorem c_back0 (env : am_E) (d : Nat) (n k : Nat) (a : Int32) (hn : n ≤ 8) (hk : k ≤ 6) (I : Nat → Nat → Int32) (J : Nat → Nat → Int64) (E : Nat → Nat → Nat) (f0 : I 5 0 = Int32.ofNat n) (f2 : I 5 2 = Int32.ofNat k) (hne : (am_in a k) = false) : am_ev env (d + 20, 124, 0, [some (.ref 0), some (.int a)], [], am_hp I J E) = some (true, some (.int (-1)), am_hp I J E) := by
  simp only [bk_124_0, bk_124_11, bk_124_30, bk_124_49, bk_124_52, c_hasReader env _ a I J E k hk f2, bi_eq0, zq_1_0, zq_0_0, decide_true, decide_false, Bool.not_true, Bool.not_false, am_cont, Option.bind_some, Option.toList_some, Option.toList_none, List.singleton_append, List.nil_append, cond_true, cond_false]
  revert hne
  cases ha : am_in a k <;> intro hne <;> first | (exact absurd hne (by decide)) | (simp only [decide_true, decide_false, Bool.not_true, Bool.not_false, am_cont, Option.bind_some, Option.toList_some, Option.toList_none, List.singleton_append, List.nil_append, cond_true, cond_false])
theorem c_tell1 (env : am_E) (d : Nat) (t h n k r b q : Nat) (hr0 : r < k) (hb0 : b < n) (hq0 : q < k) (hn : n ≤ 8) (hk : k ≤ 6) (ht : t < 9) (hh : h ≤ 8) (I : Nat → Nat → Int32) (J : Nat → Nat → Int64) (E : Nat → Nat → Nat) (e1 : I 43 1 = Int32.ofNat t) (e2 : I 43 2 = Int32.ofNat h) (f0 : I 5 0 = Int32.ofNat n) (f2 : I 5 2 = Int32.ofNat k)  : am_ev env (d + 20, 125, 0, [some (.ref 0), some (.int (Int32.ofNat r)), some (.int (Int32.ofNat b)), some (.int (Int32.ofNat q)), none], [], am_hp I J E) = some (true, some (.int (wTell (rS I 12) r b q)), am_hp (cA I t h (wTell (rS I 12) r b q) (lLearn (rS I 12) q b)) J E) := by
  have hc := c_tellOn env (d + 16) 12 st12 r b q (by omega) (by omega) (by omega) (hd I t) J E (rS I 12) (Lb_hd I t)
  rw [hd_ps] at hc
  simp (disch := omega) only [bk_125_0, bk_125_15, bk_125_24, bk_125_33, bk_125_36, bk_125_52, bk_125_68, bk_125_71, c_hasReader env _ (Int32.ofNat r) I J E k hk f2, c_hasBook env _ (Int32.ofNat b) I J E n hn f0, c_hasReader env _ (Int32.ofNat q) I J E k hk f2, zI_in, bi_t, zq_1_0, zq_0_0, decide_true, decide_false, Bool.not_true, Bool.not_false, am_cont, Option.bind_some, Option.toList_some, Option.toList_none, List.singleton_append, List.nil_append, cond_true, cond_false, c_hold env _ t ht I J E e1, hc, c_keepIf env _ t h ht hh _ (lLearn (rS I 12) q b) I J E e1 e2]
theorem c_tell0 (env : am_E) (d : Nat) (n k : Nat) (a x z : Int32) (hn : n ≤ 8) (hk : k ≤ 6) (I : Nat → Nat → Int32) (J : Nat → Nat → Int64) (E : Nat → Nat → Nat) (f0 : I 5 0 = Int32.ofNat n) (f2 : I 5 2 = Int32.ofNat k) (hne : (am_in a k && am_in x n && am_in z k) = false) : am_ev env (d + 20, 125, 0, [some (.ref 0), some (.int a), some (.int x), some (.int z), none], [], am_hp I J E) = some (true, some (.int (-1)), am_hp I J E) := by
  simp only [bk_125_0, bk_125_15, bk_125_24, bk_125_33, bk_125_36, bk_125_52, bk_125_68, bk_125_71, c_hasReader env _ a I J E k hk f2, c_hasBook env _ x I J E n hn f0, c_hasReader env _ z I J E k hk f2, bi_eq0, zq_1_0, zq_0_0, decide_true, decide_false, Bool.not_true, Bool.not_false, am_cont, Option.bind_some, Option.toList_some, Option.toList_none, List.singleton_append, List.nil_append, cond_true, cond_false]
  revert hne
  cases ha : am_in a k <;> cases hx : am_in x n <;> cases hz : am_in z k <;> intro hne <;> first | (exact absurd hne (by decide)) | (simp only [decide_true, decide_false, Bool.not_true, Bool.not_false, am_cont, Option.bind_some, Option.toList_some, Option.toList_none, List.singleton_append, List.nil_append, cond_true, cond_false])
theorem c_forge1 (env : am_E) (d : Nat) (t h n k b : Nat) (hb0 : b < n) (hn : n ≤ 8) (hk : k ≤ 6) (ht : t < 9) (hh : h ≤ 8) (I : Nat → Nat → Int32) (J : Nat → Nat → Int64) (E : Nat → Nat → Nat) (e1 : I 43 1 = Int32.ofNat t) (e2 : I 43 2 = Int32.ofNat h) (f0 : I 5 0 = Int32.ofNat n) (f2 : I 5 2 = Int32.ofNat k)  : am_ev env (d + 20, 126, 0, [some (.ref 0), some (.int (Int32.ofNat b))], [], am_hp I J E) = some (true, some (.int (wForge (rS I 12) b)), am_hp (cA I t h (wForge (rS I 12) b) (lForgeC (rS I 12) b)) J E) := by
  have hc := c_forgeIt env (d + 17) 12 st12 b (by omega) (hd I t) J E (rS I 12) (Lb_hd I t)
  rw [hd_ps] at hc
  simp (disch := omega) only [bk_126_0, bk_126_11, bk_126_30, bk_126_49, bk_126_52, c_hasBook env _ (Int32.ofNat b) I J E n hn f0, zI_in, bi_t, zq_1_0, zq_0_0, decide_true, decide_false, Bool.not_true, Bool.not_false, am_cont, Option.bind_some, Option.toList_some, Option.toList_none, List.singleton_append, List.nil_append, cond_true, cond_false, c_hold env _ t ht I J E e1, hc, c_keepIf env _ t h ht hh _ (lForgeC (rS I 12) b) I J E e1 e2]
theorem c_forge0 (env : am_E) (d : Nat) (n k : Nat) (x : Int32) (hn : n ≤ 8) (hk : k ≤ 6) (I : Nat → Nat → Int32) (J : Nat → Nat → Int64) (E : Nat → Nat → Nat) (f0 : I 5 0 = Int32.ofNat n) (f2 : I 5 2 = Int32.ofNat k) (hne : (am_in x n) = false) : am_ev env (d + 20, 126, 0, [some (.ref 0), some (.int x)], [], am_hp I J E) = some (true, some (.int (-1)), am_hp I J E) := by
  simp only [bk_126_0, bk_126_11, bk_126_30, bk_126_49, bk_126_52, c_hasBook env _ x I J E n hn f0, bi_eq0, zq_1_0, zq_0_0, decide_true, decide_false, Bool.not_true, Bool.not_false, am_cont, Option.bind_some, Option.toList_some, Option.toList_none, List.singleton_append, List.nil_append, cond_true, cond_false]
  revert hne
  cases hx : am_in x n <;> intro hne <;> first | (exact absurd hne (by decide)) | (simp only [decide_true, decide_false, Bool.not_true, Bool.not_false, am_cont, Option.bind_some, Option.toList_some, Option.toList_none, List.singleton_append, List.nil_append, cond_true, cond_false])
theorem c_mend1 (env : am_E) (d : Nat) (t h n k b : Nat) (hb0 : b < n) (hn : n ≤ 8) (hk : k ≤ 6) (ht : t < 9) (hh : h ≤ 8) (I : Nat → Nat → Int32) (J : Nat → Nat → Int64) (E : Nat → Nat → Nat) (e1 : I 43 1 = Int32.ofNat t) (e2 : I 43 2 = Int32.ofNat h) (f0 : I 5 0 = Int32.ofNat n) (f2 : I 5 2 = Int32.ofNat k)  : am_ev env (d + 20, 127, 0, [some (.ref 0), some (.int (Int32.ofNat b))], [], am_hp I J E) = some (true, some (.int (bi (!bt (rS I 12 35) b))), am_hp (cA I t h (bi (!bt (rS I 12 35) b)) (lMendC (rS I 12) b)) J E) := by
  have hc := c_mend' env (d + 17) 12 st12 b (by omega) (hd I t) J E (rS I 12)
  rw [hd_ps] at hc
  simp (disch := omega) only [bk_127_0, bk_127_11, bk_127_30, bk_127_42, bk_127_45, c_hasBook env _ (Int32.ofNat b) I J E n hn f0, zI_in, bi_t, zq_1_0, zq_0_0, decide_true, decide_false, Bool.not_true, Bool.not_false, am_cont, Option.bind_some, Option.toList_some, Option.toList_none, List.singleton_append, List.nil_append, cond_true, cond_false, c_hold env _ t ht I J E e1, hc, c_keepIf env _ t h ht hh _ (lMendC (rS I 12) b) I J E e1 e2]
theorem c_mend0 (env : am_E) (d : Nat) (n k : Nat) (x : Int32) (hn : n ≤ 8) (hk : k ≤ 6) (I : Nat → Nat → Int32) (J : Nat → Nat → Int64) (E : Nat → Nat → Nat) (f0 : I 5 0 = Int32.ofNat n) (f2 : I 5 2 = Int32.ofNat k) (hne : (am_in x n) = false) : am_ev env (d + 20, 127, 0, [some (.ref 0), some (.int x)], [], am_hp I J E) = some (true, some (.int (-1)), am_hp I J E) := by
  simp only [bk_127_0, bk_127_11, bk_127_30, bk_127_42, bk_127_45, c_hasBook env _ x I J E n hn f0, bi_eq0, zq_1_0, zq_0_0, decide_true, decide_false, Bool.not_true, Bool.not_false, am_cont, Option.bind_some, Option.toList_some, Option.toList_none, List.singleton_append, List.nil_append, cond_true, cond_false]
  revert hne
  cases hx : am_in x n <;> intro hne <;> first | (exact absurd hne (by decide)) | (simp only [decide_true, decide_false, Bool.not_true, Bool.not_false, am_cont, Option.bind_some, Option.toList_some, Option.toList_none, List.singleton_append, List.nil_append, cond_true, cond_false])
theorem c_burn1 (env : am_E) (d : Nat) (t h n k b : Nat) (hb0 : b < n) (hn : n ≤ 8) (hk : k ≤ 6) (ht : t < 9) (hh : h ≤ 8) (I : Nat → Nat → Int32) (J : Nat → Nat → Int64) (E : Nat → Nat → Nat) (e1 : I 43 1 = Int32.ofNat t) (e2 : I 43 2 = Int32.ofNat h) (f0 : I 5 0 = Int32.ofNat n) (f2 : I 5 2 = Int32.ofNat k)  : am_ev env (d + 20, 128, 0, [some (.ref 0), some (.int (Int32.ofNat b))], [], am_hp I J E) = some (true, some (.int (bi (!decide (1 ≤ rS I 12 (38 + b))))), am_hp (cA I t h (bi (!decide (1 ≤ rS I 12 (38 + b)))) (lBurn (rS I 12) b)) J E) := by
  have hc := c_burn' env (d + 18) 12 st12 b (by omega) (hd I t) J E (rS I 12)
  rw [hd_ps] at hc
  simp (disch := omega) only [bk_128_0, bk_128_11, bk_128_30, bk_128_42, bk_128_45, c_hasBook env _ (Int32.ofNat b) I J E n hn f0, zI_in, bi_t, zq_1_0, zq_0_0, decide_true, decide_false, Bool.not_true, Bool.not_false, am_cont, Option.bind_some, Option.toList_some, Option.toList_none, List.singleton_append, List.nil_append, cond_true, cond_false, c_hold env _ t ht I J E e1, hc, c_keepIf env _ t h ht hh _ (lBurn (rS I 12) b) I J E e1 e2]
theorem c_burn0 (env : am_E) (d : Nat) (n k : Nat) (x : Int32) (hn : n ≤ 8) (hk : k ≤ 6) (I : Nat → Nat → Int32) (J : Nat → Nat → Int64) (E : Nat → Nat → Nat) (f0 : I 5 0 = Int32.ofNat n) (f2 : I 5 2 = Int32.ofNat k) (hne : (am_in x n) = false) : am_ev env (d + 20, 128, 0, [some (.ref 0), some (.int x)], [], am_hp I J E) = some (true, some (.int (-1)), am_hp I J E) := by
  simp only [bk_128_0, bk_128_11, bk_128_30, bk_128_42, bk_128_45, c_hasBook env _ x I J E n hn f0, bi_eq0, zq_1_0, zq_0_0, decide_true, decide_false, Bool.not_true, Bool.not_false, am_cont, Option.bind_some, Option.toList_some, Option.toList_none, List.singleton_append, List.nil_append, cond_true, cond_false]
  revert hne
  cases hx : am_in x n <;> intro hne <;> first | (exact absurd hne (by decide)) | (simp only [decide_true, decide_false, Bool.not_true, Bool.not_false, am_cont, Option.bind_some, Option.toList_some, Option.toList_none, List.singleton_append, List.nil_append, cond_true, cond_false])
theorem c_buy1 (env : am_E) (d : Nat) (t h n k b : Nat) (hb0 : b < n) (hn : n ≤ 8) (hk : k ≤ 6) (ht : t < 9) (hh : h ≤ 8) (I : Nat → Nat → Int32) (J : Nat → Nat → Int64) (E : Nat → Nat → Nat) (e1 : I 43 1 = Int32.ofNat t) (e2 : I 43 2 = Int32.ofNat h) (f0 : I 5 0 = Int32.ofNat n) (f2 : I 5 2 = Int32.ofNat k)  : am_ev env (d + 20, 129, 0, [some (.ref 0), some (.int (Int32.ofNat b))], [], am_hp I J E) = some (true, some (.int (bi (!decide (rS I 12 (38 + b) < 9)))), am_hp (cA I t h (bi (!decide (rS I 12 (38 + b) < 9))) (lBuy (rS I 12) b)) J E) := by
  have hc := c_buy' env (d + 18) 12 st12 b (by omega) (hd I t) J E (rS I 12)
  rw [hd_ps] at hc
  simp (disch := omega) only [bk_129_0, bk_129_11, bk_129_30, bk_129_42, bk_129_45, c_hasBook env _ (Int32.ofNat b) I J E n hn f0, zI_in, bi_t, zq_1_0, zq_0_0, decide_true, decide_false, Bool.not_true, Bool.not_false, am_cont, Option.bind_some, Option.toList_some, Option.toList_none, List.singleton_append, List.nil_append, cond_true, cond_false, c_hold env _ t ht I J E e1, hc, c_keepIf env _ t h ht hh _ (lBuy (rS I 12) b) I J E e1 e2]
theorem c_buy0 (env : am_E) (d : Nat) (n k : Nat) (x : Int32) (hn : n ≤ 8) (hk : k ≤ 6) (I : Nat → Nat → Int32) (J : Nat → Nat → Int64) (E : Nat → Nat → Nat) (f0 : I 5 0 = Int32.ofNat n) (f2 : I 5 2 = Int32.ofNat k) (hne : (am_in x n) = false) : am_ev env (d + 20, 129, 0, [some (.ref 0), some (.int x)], [], am_hp I J E) = some (true, some (.int (-1)), am_hp I J E) := by
  simp only [bk_129_0, bk_129_11, bk_129_30, bk_129_42, bk_129_45, c_hasBook env _ x I J E n hn f0, bi_eq0, zq_1_0, zq_0_0, decide_true, decide_false, Bool.not_true, Bool.not_false, am_cont, Option.bind_some, Option.toList_some, Option.toList_none, List.singleton_append, List.nil_append, cond_true, cond_false]
  revert hne
  cases hx : am_in x n <;> intro hne <;> first | (exact absurd hne (by decide)) | (simp only [decide_true, decide_false, Bool.not_true, Bool.not_false, am_cont, Option.bind_some, Option.toList_some, Option.toList_none, List.singleton_append, List.nil_append, cond_true, cond_false])

/-- a picture taken, in the reference -/
def mS (I : Nat → Nat → Int32) (h : Nat) : Nat → Nat → Int32 := am_ur (am_ur (th0 I) 156 (ru (th0 I 156) 24 (Int32.ofNat (sns h)))) 161 (snr (I 161) (I 158) h)
def mA (I : Nat → Nat → Int32) (h : Nat) (w : Int32) (m' : Nat → Int32) : Nat → Nat → Int32 := bif decide (w = 0) then am_ur (mS I h) 158 m' else th0 I
theorem th0_158 (I : Nat → Nat → Int32) : th0 I 158 = I 158 := th0_ne I 158 (by omega)
theorem mS_158 (I : Nat → Nat → Int32) (h : Nat) : mS I h 158 = I 158 := by
  unfold mS; rw [ur_ne _ _ _ _ (by omega), ur_ne _ _ _ _ (by omega), th0_158]
theorem m_snapT (env : am_E) (d : Nat) (h : Nat) (hh : h ≤ 8) (I : Nat → Nat → Int32) (J : Nat → Nat → Int64) (E : Nat → Nat → Nat) (e : I 156 24 = Int32.ofNat h) : am_ev env (d + 1, 225, 0, [some (.ref 156), none], [], am_hp (th0 I) J E) = some (true, none, am_hp (mS I h) J E) := by
  rw [m_snap env d h hh (th0 I) J E (by rw [th0_at I 24 (by omega)]; exact e), th0_158, th0_ne I 161 (by omega)]; rfl
theorem m_lend1 (env : am_E) (d : Nat) (h n k r b : Nat) (hr0 : r < k) (hb0 : b < n) (hn : n ≤ 8) (hk : k ≤ 6) (hh : h ≤ 8) (I : Nat → Nat → Int32) (J : Nat → Nat → Int64) (E : Nat → Nat → Nat) (e2 : I 156 24 = Int32.ofNat h) (f0 : I 158 0 = Int32.ofNat n) (f2 : I 158 2 = Int32.ofNat k)  : am_ev env (d + 20, 232, 0, [some (.ref 156), some (.int (Int32.ofNat r)), some (.int (Int32.ofNat b))], [], am_hp I J E) = some (true, some (.int (wLend (I 158) r b)), am_hp (mA I h (wLend (I 158) r b) (lLend (I 158) r b)) J E) := by
  unfold mA
  simp (disch := omega) only [bk_231_0, bk_231_16, bk_231_39, bk_232_0, bk_232_15, bk_232_23, bk_232_30, bk_232_31, bk_232_34, th0_u, m_isReader env _ (Int32.ofNat r) (th0 I) J E k (by omega) (by rw [th0_158]; exact f2), m_isBook env _ (Int32.ofNat b) (th0 I) J E n (by omega) (by rw [th0_158]; exact f0), zI_in, bi_t, zq_1_0, zq_0_0, decide_true, decide_false, Bool.not_true, Bool.not_false, am_cont, Option.bind_some, Option.toList_some, Option.toList_none, List.singleton_append, List.nil_append, cond_true, cond_false, m_why0 env _ r b 0 (by omega) (by omega), th0_158]
  by_cases hw : wLend (I 158) r b = 0
  · rw [decide_eq_true hw, hw]
    simp only [m_snapT env _ h hh I J E e2, bk_231_30, bk_231_39, bk_232_0, bk_232_15, bk_232_23, bk_232_30, bk_232_31, bk_232_34, decide_true, decide_false, Bool.not_true, Bool.not_false, am_cont, Option.bind_some, Option.toList_some, Option.toList_none, List.singleton_append, List.nil_append, cond_true, cond_false, m_live0 env _ r b 0 (by omega) (by omega), mS_158]
  · rw [decide_eq_false hw]; simp only [bk_232_0, bk_232_15, bk_232_23, bk_232_30, bk_232_31, bk_232_34, decide_true, decide_false, Bool.not_true, Bool.not_false, am_cont, Option.bind_some, Option.toList_some, Option.toList_none, List.singleton_append, List.nil_append, cond_true, cond_false]
theorem m_lend0 (env : am_E) (d : Nat) (n k : Nat) (a x : Int32) (hn : n ≤ 8) (hk : k ≤ 6) (I : Nat → Nat → Int32) (J : Nat → Nat → Int64) (E : Nat → Nat → Nat) (f0 : I 158 0 = Int32.ofNat n) (f2 : I 158 2 = Int32.ofNat k) (hne : (am_in a k && am_in x n) = false) : am_ev env (d + 20, 232, 0, [some (.ref 156), some (.int a), some (.int x)], [], am_hp I J E) = some (true, some (.int (-1)), am_hp (th0 I) J E) := by
  simp only [bk_232_0, bk_232_15, bk_232_23, bk_232_30, bk_232_31, bk_232_34, bk_231_0, th0_u, m_isReader env _ a (th0 I) J E k (by omega) (by rw [th0_158]; exact f2), m_isBook env _ x (th0 I) J E n (by omega) (by rw [th0_158]; exact f0), bi_eq0, zq_1_0, zq_0_0, decide_true, decide_false, Bool.not_true, Bool.not_false, am_cont, Option.bind_some, Option.toList_some, Option.toList_none, List.singleton_append, List.nil_append, cond_true, cond_false]
  revert hne
  cases ha : am_in a k <;> cases hx : am_in x n <;> intro hne <;> first | (exact absurd hne (by decide)) | (simp only [decide_true, decide_false, Bool.not_true, Bool.not_false, am_cont, Option.bind_some, Option.toList_some, Option.toList_none, List.singleton_append, List.nil_append, cond_true, cond_false, bk_231_0, bi_f, zq_0_0, bk_232_0, bk_232_15, bk_232_23, bk_232_30, bk_232_31, bk_232_34])
theorem m_back1 (env : am_E) (d : Nat) (h n k r : Nat) (hr0 : r < k) (hn : n ≤ 8) (hk : k ≤ 6) (hh : h ≤ 8) (I : Nat → Nat → Int32) (J : Nat → Nat → Int64) (E : Nat → Nat → Nat) (e2 : I 156 24 = Int32.ofNat h) (f0 : I 158 0 = Int32.ofNat n) (f2 : I 158 2 = Int32.ofNat k) (hx : I 158 (46 + r) = -1 ∨ ∃ b, b < 8 ∧ I 158 (46 + r) = Int32.ofNat b) : am_ev env (d + 20, 233, 0, [some (.ref 156), some (.int (Int32.ofNat r))], [], am_hp I J E) = some (true, some (.int (bi (decide (I 158 (46 + r) = -1)))), am_hp (mA I h (bi (decide (I 158 (46 + r) = -1))) (lBack (I 158) r (I 158 (46 + r)).toNatClampNeg)) J E) := by
  unfold mA
  simp (disch := omega) only [bk_231_0, bk_231_16, bk_231_39, bk_233_0, bk_233_15, bk_233_18, th0_u, m_isReader env _ (Int32.ofNat r) (th0 I) J E k (by omega) (by rw [th0_158]; exact f2), zI_in, bi_t, zq_1_0, zq_0_0, decide_true, decide_false, Bool.not_true, Bool.not_false, am_cont, Option.bind_some, Option.toList_some, Option.toList_none, List.singleton_append, List.nil_append, cond_true, cond_false, m_why1 env _ r 0 0 (by omega), th0_158]
  rcases hx with hx | ⟨b, hb, hx⟩
  · have hz : bi (decide (I 158 (46 + r) = -1)) = 1 := by rw [decide_eq_true hx]; rfl
    rw [hz, zq_1_0]
    simp only [bk_233_0, bk_233_15, bk_233_18, decide_true, decide_false, Bool.not_true, Bool.not_false, am_cont, Option.bind_some, Option.toList_some, Option.toList_none, List.singleton_append, List.nil_append, cond_true, cond_false]
  · have hz : bi (decide (I 158 (46 + r) = -1)) = 0 := by rw [decide_eq_false (by rw [hx]; exact fun e => m1_ne b (by omega) e.symm)]; rfl
    rw [hz, zq_0_0, hx, zI_nat b (by omega)]
    simp only [m_snapT env _ h hh I J E e2, bk_231_30, bk_231_39, bk_233_0, bk_233_15, bk_233_18, decide_true, decide_false, Bool.not_true, Bool.not_false, am_cont, Option.bind_some, Option.toList_some, Option.toList_none, List.singleton_append, List.nil_append, cond_true, cond_false, m_live1 env _ r b 0 0 (by omega) hb (mS I h) J E (by rw [mS_158]; exact hx), mS_158]
theorem m_back0 (env : am_E) (d : Nat) (n k : Nat) (a : Int32) (hn : n ≤ 8) (hk : k ≤ 6) (I : Nat → Nat → Int32) (J : Nat → Nat → Int64) (E : Nat → Nat → Nat) (f0 : I 158 0 = Int32.ofNat n) (f2 : I 158 2 = Int32.ofNat k) (hne : (am_in a k) = false) : am_ev env (d + 20, 233, 0, [some (.ref 156), some (.int a)], [], am_hp I J E) = some (true, some (.int (-1)), am_hp (th0 I) J E) := by
  simp only [bk_233_0, bk_233_15, bk_233_18, bk_231_0, th0_u, m_isReader env _ a (th0 I) J E k (by omega) (by rw [th0_158]; exact f2), bi_eq0, zq_1_0, zq_0_0, decide_true, decide_false, Bool.not_true, Bool.not_false, am_cont, Option.bind_some, Option.toList_some, Option.toList_none, List.singleton_append, List.nil_append, cond_true, cond_false]
  revert hne
  cases ha : am_in a k <;> intro hne <;> first | (exact absurd hne (by decide)) | (simp only [decide_true, decide_false, Bool.not_true, Bool.not_false, am_cont, Option.bind_some, Option.toList_some, Option.toList_none, List.singleton_append, List.nil_append, cond_true, cond_false, bk_231_0, bi_f, zq_0_0, bk_233_0, bk_233_15, bk_233_18])
theorem m_tell1 (env : am_E) (d : Nat) (h n k r b q : Nat) (hr0 : r < k) (hb0 : b < n) (hq0 : q < k) (hn : n ≤ 8) (hk : k ≤ 6) (hh : h ≤ 8) (I : Nat → Nat → Int32) (J : Nat → Nat → Int64) (E : Nat → Nat → Nat) (e2 : I 156 24 = Int32.ofNat h) (f0 : I 158 0 = Int32.ofNat n) (f2 : I 158 2 = Int32.ofNat k)  : am_ev env (d + 20, 234, 0, [some (.ref 156), some (.int (Int32.ofNat r)), some (.int (Int32.ofNat b)), some (.int (Int32.ofNat q))], [], am_hp I J E) = some (true, some (.int (wTell (I 158) r b q)), am_hp (mA I h (wTell (I 158) r b q) (lLearn (I 158) q b)) J E) := by
  unfold mA
  simp (disch := omega) only [bk_231_0, bk_231_16, bk_231_39, bk_234_0, bk_234_15, bk_234_23, bk_234_31, bk_234_38, bk_234_39, bk_234_42, th0_u, m_isReader env _ (Int32.ofNat r) (th0 I) J E k (by omega) (by rw [th0_158]; exact f2), m_isBook env _ (Int32.ofNat b) (th0 I) J E n (by omega) (by rw [th0_158]; exact f0), m_isReader env _ (Int32.ofNat q) (th0 I) J E k (by omega) (by rw [th0_158]; exact f2), zI_in, bi_t, zq_1_0, zq_0_0, decide_true, decide_false, Bool.not_true, Bool.not_false, am_cont, Option.bind_some, Option.toList_some, Option.toList_none, List.singleton_append, List.nil_append, cond_true, cond_false, m_why2 env _ r b q (by omega) (by omega) (by omega), th0_158]
  by_cases hw : wTell (I 158) r b q = 0
  · rw [decide_eq_true hw, hw]
    simp only [m_snapT env _ h hh I J E e2, bk_231_30, bk_231_39, bk_234_0, bk_234_15, bk_234_23, bk_234_31, bk_234_38, bk_234_39, bk_234_42, decide_true, decide_false, Bool.not_true, Bool.not_false, am_cont, Option.bind_some, Option.toList_some, Option.toList_none, List.singleton_append, List.nil_append, cond_true, cond_false, m_live2 env _ r b q (by omega) (by omega), mS_158]
  · rw [decide_eq_false hw]; simp only [bk_234_0, bk_234_15, bk_234_23, bk_234_31, bk_234_38, bk_234_39, bk_234_42, decide_true, decide_false, Bool.not_true, Bool.not_false, am_cont, Option.bind_some, Option.toList_some, Option.toList_none, List.singleton_append, List.nil_append, cond_true, cond_false]
theorem m_tell0 (env : am_E) (d : Nat) (n k : Nat) (a x z : Int32) (hn : n ≤ 8) (hk : k ≤ 6) (I : Nat → Nat → Int32) (J : Nat → Nat → Int64) (E : Nat → Nat → Nat) (f0 : I 158 0 = Int32.ofNat n) (f2 : I 158 2 = Int32.ofNat k) (hne : (am_in a k && am_in x n && am_in z k) = false) : am_ev env (d + 20, 234, 0, [some (.ref 156), some (.int a), some (.int x), some (.int z)], [], am_hp I J E) = some (true, some (.int (-1)), am_hp (th0 I) J E) := by
  simp only [bk_234_0, bk_234_15, bk_234_23, bk_234_31, bk_234_38, bk_234_39, bk_234_42, bk_231_0, th0_u, m_isReader env _ a (th0 I) J E k (by omega) (by rw [th0_158]; exact f2), m_isBook env _ x (th0 I) J E n (by omega) (by rw [th0_158]; exact f0), m_isReader env _ z (th0 I) J E k (by omega) (by rw [th0_158]; exact f2), bi_eq0, zq_1_0, zq_0_0, decide_true, decide_false, Bool.not_true, Bool.not_false, am_cont, Option.bind_some, Option.toList_some, Option.toList_none, List.singleton_append, List.nil_append, cond_true, cond_false]
  revert hne
  cases ha : am_in a k <;> cases hx : am_in x n <;> cases hz : am_in z k <;> intro hne <;> first | (exact absurd hne (by decide)) | (simp only [decide_true, decide_false, Bool.not_true, Bool.not_false, am_cont, Option.bind_some, Option.toList_some, Option.toList_none, List.singleton_append, List.nil_append, cond_true, cond_false, bk_231_0, bi_f, zq_0_0, bk_234_0, bk_234_15, bk_234_23, bk_234_31, bk_234_38, bk_234_39, bk_234_42])
theorem m_forge1 (env : am_E) (d : Nat) (h n k b : Nat) (hb0 : b < n) (hn : n ≤ 8) (hk : k ≤ 6) (hh : h ≤ 8) (I : Nat → Nat → Int32) (J : Nat → Nat → Int64) (E : Nat → Nat → Nat) (e2 : I 156 24 = Int32.ofNat h) (f0 : I 158 0 = Int32.ofNat n) (f2 : I 158 2 = Int32.ofNat k)  : am_ev env (d + 20, 235, 0, [some (.ref 156), some (.int (Int32.ofNat b))], [], am_hp I J E) = some (true, some (.int (wForge (I 158) b)), am_hp (mA I h (wForge (I 158) b) (lForge (I 158) b)) J E) := by
  unfold mA
  simp (disch := omega) only [bk_231_0, bk_231_16, bk_231_39, bk_235_0, bk_235_15, bk_235_18, th0_u, m_isBook env _ (Int32.ofNat b) (th0 I) J E n (by omega) (by rw [th0_158]; exact f0), zI_in, bi_t, zq_1_0, zq_0_0, decide_true, decide_false, Bool.not_true, Bool.not_false, am_cont, Option.bind_some, Option.toList_some, Option.toList_none, List.singleton_append, List.nil_append, cond_true, cond_false, m_why3 env _ b 0 0 (by omega), th0_158]
  by_cases hw : wForge (I 158) b = 0
  · rw [decide_eq_true hw, hw]
    simp only [m_snapT env _ h hh I J E e2, bk_231_30, bk_231_39, bk_235_0, bk_235_15, bk_235_18, decide_true, decide_false, Bool.not_true, Bool.not_false, am_cont, Option.bind_some, Option.toList_some, Option.toList_none, List.singleton_append, List.nil_append, cond_true, cond_false, m_live3 env _ b 0 0, mS_158]
  · rw [decide_eq_false hw]; simp only [bk_235_0, bk_235_15, bk_235_18, decide_true, decide_false, Bool.not_true, Bool.not_false, am_cont, Option.bind_some, Option.toList_some, Option.toList_none, List.singleton_append, List.nil_append, cond_true, cond_false]
theorem m_forge0 (env : am_E) (d : Nat) (n k : Nat) (x : Int32) (hn : n ≤ 8) (hk : k ≤ 6) (I : Nat → Nat → Int32) (J : Nat → Nat → Int64) (E : Nat → Nat → Nat) (f0 : I 158 0 = Int32.ofNat n) (f2 : I 158 2 = Int32.ofNat k) (hne : (am_in x n) = false) : am_ev env (d + 20, 235, 0, [some (.ref 156), some (.int x)], [], am_hp I J E) = some (true, some (.int (-1)), am_hp (th0 I) J E) := by
  simp only [bk_235_0, bk_235_15, bk_235_18, bk_231_0, th0_u, m_isBook env _ x (th0 I) J E n (by omega) (by rw [th0_158]; exact f0), bi_eq0, zq_1_0, zq_0_0, decide_true, decide_false, Bool.not_true, Bool.not_false, am_cont, Option.bind_some, Option.toList_some, Option.toList_none, List.singleton_append, List.nil_append, cond_true, cond_false]
  revert hne
  cases hx : am_in x n <;> intro hne <;> first | (exact absurd hne (by decide)) | (simp only [decide_true, decide_false, Bool.not_true, Bool.not_false, am_cont, Option.bind_some, Option.toList_some, Option.toList_none, List.singleton_append, List.nil_append, cond_true, cond_false, bk_231_0, bi_f, zq_0_0, bk_235_0, bk_235_15, bk_235_18])
theorem m_mend1 (env : am_E) (d : Nat) (h n k b : Nat) (hb0 : b < n) (hn : n ≤ 8) (hk : k ≤ 6) (hh : h ≤ 8) (I : Nat → Nat → Int32) (J : Nat → Nat → Int64) (E : Nat → Nat → Nat) (e2 : I 156 24 = Int32.ofNat h) (f0 : I 158 0 = Int32.ofNat n) (f2 : I 158 2 = Int32.ofNat k)  : am_ev env (d + 20, 236, 0, [some (.ref 156), some (.int (Int32.ofNat b))], [], am_hp I J E) = some (true, some (.int (bi (!bt (I 158 35) b))), am_hp (mA I h (bi (!bt (I 158 35) b)) (lForge (I 158) b)) J E) := by
  unfold mA
  simp (disch := omega) only [bk_231_0, bk_231_16, bk_231_39, bk_236_0, bk_236_15, bk_236_18, th0_u, m_isBook env _ (Int32.ofNat b) (th0 I) J E n (by omega) (by rw [th0_158]; exact f0), zI_in, bi_t, zq_1_0, zq_0_0, decide_true, decide_false, Bool.not_true, Bool.not_false, am_cont, Option.bind_some, Option.toList_some, Option.toList_none, List.singleton_append, List.nil_append, cond_true, cond_false, m_why4 env _ b 0 0 (by omega), th0_158]
  by_cases hw : bi (!bt (I 158 35) b) = 0
  · rw [decide_eq_true hw, hw]
    simp only [m_snapT env _ h hh I J E e2, bk_231_30, bk_231_39, bk_236_0, bk_236_15, bk_236_18, decide_true, decide_false, Bool.not_true, Bool.not_false, am_cont, Option.bind_some, Option.toList_some, Option.toList_none, List.singleton_append, List.nil_append, cond_true, cond_false, m_live4 env _ b 0 0, mS_158]
  · rw [decide_eq_false hw]; simp only [bk_236_0, bk_236_15, bk_236_18, decide_true, decide_false, Bool.not_true, Bool.not_false, am_cont, Option.bind_some, Option.toList_some, Option.toList_none, List.singleton_append, List.nil_append, cond_true, cond_false]
theorem m_mend0 (env : am_E) (d : Nat) (n k : Nat) (x : Int32) (hn : n ≤ 8) (hk : k ≤ 6) (I : Nat → Nat → Int32) (J : Nat → Nat → Int64) (E : Nat → Nat → Nat) (f0 : I 158 0 = Int32.ofNat n) (f2 : I 158 2 = Int32.ofNat k) (hne : (am_in x n) = false) : am_ev env (d + 20, 236, 0, [some (.ref 156), some (.int x)], [], am_hp I J E) = some (true, some (.int (-1)), am_hp (th0 I) J E) := by
  simp only [bk_236_0, bk_236_15, bk_236_18, bk_231_0, th0_u, m_isBook env _ x (th0 I) J E n (by omega) (by rw [th0_158]; exact f0), bi_eq0, zq_1_0, zq_0_0, decide_true, decide_false, Bool.not_true, Bool.not_false, am_cont, Option.bind_some, Option.toList_some, Option.toList_none, List.singleton_append, List.nil_append, cond_true, cond_false]
  revert hne
  cases hx : am_in x n <;> intro hne <;> first | (exact absurd hne (by decide)) | (simp only [decide_true, decide_false, Bool.not_true, Bool.not_false, am_cont, Option.bind_some, Option.toList_some, Option.toList_none, List.singleton_append, List.nil_append, cond_true, cond_false, bk_231_0, bi_f, zq_0_0, bk_236_0, bk_236_15, bk_236_18])
theorem m_burn1 (env : am_E) (d : Nat) (h n k b : Nat) (hb0 : b < n) (hn : n ≤ 8) (hk : k ≤ 6) (hh : h ≤ 8) (I : Nat → Nat → Int32) (J : Nat → Nat → Int64) (E : Nat → Nat → Nat) (e2 : I 156 24 = Int32.ofNat h) (f0 : I 158 0 = Int32.ofNat n) (f2 : I 158 2 = Int32.ofNat k)  : am_ev env (d + 20, 237, 0, [some (.ref 156), some (.int (Int32.ofNat b))], [], am_hp I J E) = some (true, some (.int (bi (decide (I 158 (38 + b) = 0)))), am_hp (mA I h (bi (decide (I 158 (38 + b) = 0))) (lBurn (I 158) b)) J E) := by
  unfold mA
  simp (disch := omega) only [bk_231_0, bk_231_16, bk_231_39, bk_237_0, bk_237_15, bk_237_18, th0_u, m_isBook env _ (Int32.ofNat b) (th0 I) J E n (by omega) (by rw [th0_158]; exact f0), zI_in, bi_t, zq_1_0, zq_0_0, decide_true, decide_false, Bool.not_true, Bool.not_false, am_cont, Option.bind_some, Option.toList_some, Option.toList_none, List.singleton_append, List.nil_append, cond_true, cond_false, m_why5 env _ b 0 0 (by omega), th0_158]
  by_cases hw : bi (decide (I 158 (38 + b) = 0)) = 0
  · rw [decide_eq_true hw, hw]
    simp only [m_snapT env _ h hh I J E e2, bk_231_30, bk_231_39, bk_237_0, bk_237_15, bk_237_18, decide_true, decide_false, Bool.not_true, Bool.not_false, am_cont, Option.bind_some, Option.toList_some, Option.toList_none, List.singleton_append, List.nil_append, cond_true, cond_false, m_live5 env _ b 0 0 (by omega), mS_158]
  · rw [decide_eq_false hw]; simp only [bk_237_0, bk_237_15, bk_237_18, decide_true, decide_false, Bool.not_true, Bool.not_false, am_cont, Option.bind_some, Option.toList_some, Option.toList_none, List.singleton_append, List.nil_append, cond_true, cond_false]
theorem m_burn0 (env : am_E) (d : Nat) (n k : Nat) (x : Int32) (hn : n ≤ 8) (hk : k ≤ 6) (I : Nat → Nat → Int32) (J : Nat → Nat → Int64) (E : Nat → Nat → Nat) (f0 : I 158 0 = Int32.ofNat n) (f2 : I 158 2 = Int32.ofNat k) (hne : (am_in x n) = false) : am_ev env (d + 20, 237, 0, [some (.ref 156), some (.int x)], [], am_hp I J E) = some (true, some (.int (-1)), am_hp (th0 I) J E) := by
  simp only [bk_237_0, bk_237_15, bk_237_18, bk_231_0, th0_u, m_isBook env _ x (th0 I) J E n (by omega) (by rw [th0_158]; exact f0), bi_eq0, zq_1_0, zq_0_0, decide_true, decide_false, Bool.not_true, Bool.not_false, am_cont, Option.bind_some, Option.toList_some, Option.toList_none, List.singleton_append, List.nil_append, cond_true, cond_false]
  revert hne
  cases hx : am_in x n <;> intro hne <;> first | (exact absurd hne (by decide)) | (simp only [decide_true, decide_false, Bool.not_true, Bool.not_false, am_cont, Option.bind_some, Option.toList_some, Option.toList_none, List.singleton_append, List.nil_append, cond_true, cond_false, bk_231_0, bi_f, zq_0_0, bk_237_0, bk_237_15, bk_237_18])
theorem m_buy1 (env : am_E) (d : Nat) (h n k b : Nat) (hb0 : b < n) (hn : n ≤ 8) (hk : k ≤ 6) (hh : h ≤ 8) (I : Nat → Nat → Int32) (J : Nat → Nat → Int64) (E : Nat → Nat → Nat) (e2 : I 156 24 = Int32.ofNat h) (f0 : I 158 0 = Int32.ofNat n) (f2 : I 158 2 = Int32.ofNat k)  : am_ev env (d + 20, 238, 0, [some (.ref 156), some (.int (Int32.ofNat b))], [], am_hp I J E) = some (true, some (.int (bi (!decide (I 158 (38 + b) < 9)))), am_hp (mA I h (bi (!decide (I 158 (38 + b) < 9))) (lBuy (I 158) b)) J E) := by
  unfold mA
  simp (disch := omega) only [bk_231_0, bk_231_16, bk_231_39, bk_238_0, bk_238_16, bk_238_19, th0_u, m_isBook env _ (Int32.ofNat b) (th0 I) J E n (by omega) (by rw [th0_158]; exact f0), zI_in, bi_t, zq_1_0, zq_0_0, decide_true, decide_false, Bool.not_true, Bool.not_false, am_cont, Option.bind_some, Option.toList_some, Option.toList_none, List.singleton_append, List.nil_append, cond_true, cond_false, m_why6 env _ b 0 0 (by omega), th0_158]
  by_cases hw : bi (!decide (I 158 (38 + b) < 9)) = 0
  · rw [decide_eq_true hw, hw]
    simp only [m_snapT env _ h hh I J E e2, bk_231_30, bk_231_39, bk_238_0, bk_238_16, bk_238_19, decide_true, decide_false, Bool.not_true, Bool.not_false, am_cont, Option.bind_some, Option.toList_some, Option.toList_none, List.singleton_append, List.nil_append, cond_true, cond_false, m_live6 env _ b 0 0 (by omega), mS_158]
  · rw [decide_eq_false hw]; simp only [bk_238_0, bk_238_16, bk_238_19, decide_true, decide_false, Bool.not_true, Bool.not_false, am_cont, Option.bind_some, Option.toList_some, Option.toList_none, List.singleton_append, List.nil_append, cond_true, cond_false]
theorem m_buy0 (env : am_E) (d : Nat) (n k : Nat) (x : Int32) (hn : n ≤ 8) (hk : k ≤ 6) (I : Nat → Nat → Int32) (J : Nat → Nat → Int64) (E : Nat → Nat → Nat) (f0 : I 158 0 = Int32.ofNat n) (f2 : I 158 2 = Int32.ofNat k) (hne : (am_in x n) = false) : am_ev env (d + 20, 238, 0, [some (.ref 156), some (.int x)], [], am_hp I J E) = some (true, some (.int (-1)), am_hp (th0 I) J E) := by
  simp only [bk_238_0, bk_238_16, bk_238_19, bk_231_0, th0_u, m_isBook env _ x (th0 I) J E n (by omega) (by rw [th0_158]; exact f0), bi_eq0, zq_1_0, zq_0_0, decide_true, decide_false, Bool.not_true, Bool.not_false, am_cont, Option.bind_some, Option.toList_some, Option.toList_none, List.singleton_append, List.nil_append, cond_true, cond_false]
  revert hne
  cases hx : am_in x n <;> intro hne <;> first | (exact absurd hne (by decide)) | (simp only [decide_true, decide_false, Bool.not_true, Bool.not_false, am_cont, Option.bind_some, Option.toList_some, Option.toList_none, List.singleton_append, List.nil_append, cond_true, cond_false, bk_231_0, bi_f, zq_0_0, bk_238_0, bk_238_16, bk_238_19])

def snp (I : Nat → Nat → Int32) (i j : Nat) : Int32 := if j < 34 then I 158 j else I 161 (36 * i + (j - 34))
/-- LIBRARY, state, history: class and reference have the same -/
def R1 (I : Nat → Nat → Int32) (n k t h : Nat) : Prop := IvL (I 158) n k ∧ IvS (I 158) n k ∧ Agr n k (rS I 12) (I 158) ∧ (t < 9 ∧ h ≤ 8 ∧ I 43 1 = Int32.ofNat t ∧ I 43 2 = Int32.ofNat h ∧ I 156 24 = Int32.ofNat h) ∧ ∀ i, i < h → IvS (snp I i) n k ∧ Agr n k (rS I (45 + 6 * ((t + 9 - h + i) % 9))) (snp I i)
theorem R1_act (I : Nat → Nat → Int32) (n k t h : Nat) (hR : R1 I n k t h) (w : Int32) (m1 m2 : Nat → Int32) (hlow1 : ∀ j, j < 34 → m1 j = rS I 12 j) (hlow2 : ∀ j, j < 34 → m2 j = I 158 j) (hA : w = 0 → Agr n k m1 m2) (hi : w = 0 → IvS m2 n k) : ∃ t' h', R1 (mA (cA I t h w m1) h w m2) n k t' h' := by
  obtain ⟨r1, r2, r3, ⟨r4, r5, r6, r7, r8⟩, r9⟩ := hR
  have hn := r1.1.2
  have hk := r1.2.1.2
  have hdq : ∀ q, (q < 45 + 6 * t ∨ 45 + 6 * t + 5 < q) → hd I t q = I q := fun q hq => ps_ne _ _ _ _ hq
  by_cases hw : w = 0
  · have hI : mA (cA I t h w m1) h w m2 = am_ur (mS (kp (pS (hd I t) 12 m1) t h) h) 158 m2 := by unfold mA cA; rw [decide_eq_true hw]; rfl
    rw [hI]
    have q0 : ∀ q, q ≠ 43 → q < 156 → am_ur (mS (kp (pS (hd I t) 12 m1) t h) h) 158 m2 q = pS (hd I t) 12 m1 q := by
      intro q h1 h2
      rw [ur_ne _ _ _ _ (by omega)]
      unfold mS
      rw [ur_ne _ _ _ _ (by omega), ur_ne _ _ _ _ (by omega), th0_ne _ _ (by omega)]
      unfold kp
      rw [ur_ne _ _ _ _ (by omega)]
    have k158 : kp (pS (hd I t) 12 m1) t h 158 = I 158 := by unfold kp; rw [ur_ne _ _ _ _ (by omega), ps_ne _ _ _ _ (by omega), hdq _ (by omega)]
    have k161 : kp (pS (hd I t) 12 m1) t h 161 = I 161 := by unfold kp; rw [ur_ne _ _ _ _ (by omega), ps_ne _ _ _ _ (by omega), hdq _ (by omega)]
    have k43 : am_ur (mS (kp (pS (hd I t) 12 m1) t h) h) 158 m2 43 = ru (ru (I 43) 1 (Int32.ofNat ((t + 1) % 9))) 2 (Int32.ofNat (sns h)) := by
      rw [ur_ne _ _ _ _ (by omega)]
      unfold mS
      rw [ur_ne _ _ _ _ (by omega), ur_ne _ _ _ _ (by omega), th0_ne _ _ (by omega)]
      unfold kp
      rw [ur_at, ps_ne _ _ _ _ (by omega), hdq _ (by omega)]
    have k156 : am_ur (mS (kp (pS (hd I t) 12 m1) t h) h) 158 m2 156 24 = Int32.ofNat (sns h) := by
      rw [ur_ne _ _ _ _ (by omega)]
      unfold mS
      rw [ur_ne _ _ _ _ (by omega), ur_at, ru_eq]
    have g161 : am_ur (mS (kp (pS (hd I t) 12 m1) t h) h) 158 m2 161 = snr (I 161) (I 158) h := by
      rw [ur_ne _ _ _ _ (by omega)]
      unfold mS
      rw [ur_at, k161, k158]
    have g12 : Agr n k (rS (am_ur (mS (kp (pS (hd I t) 12 m1) t h) h) 158 m2) 12) m2 := by
      intro j hj
      rw [rS_congr (pS (hd I t) 12 m1) _ 12 (fun q hq => q0 q (by omega) (by omega)), rS_pS (hd I t) 12 m1 (by omega) (fun j hj => by rw [rS_hd]; exact hlow1 j hj) j (by unfold rel at hj; omega)]
      exact hA hw j hj
    have gold : ∀ x, x < 9 → x ≠ t → rS (am_ur (mS (kp (pS (hd I t) 12 m1) t h) h) 158 m2) (45 + 6 * x) = fun k => rS (pS (hd I t) 12 m1) (45 + 6 * x) k := by
      intro x hx hxt
      exact rS_congr _ _ _ (fun q hq => q0 q (by omega) (by omega))
    have glow : ∀ x j, j < 34 → rS (pS (hd I t) 12 m1) x j = rS I x j := by
      intro x j hj
      rw [rS_low _ x 12 j hj, rS_low I x 12 j hj, rS_pS (hd I t) 12 m1 (by omega) (fun j hj => by rw [rS_hd]; exact hlow1 j hj) j (by omega)]
      exact hlow1 j hj
    have ghi : ∀ x, x < 9 → x ≠ t → rS (pS (hd I t) 12 m1) (45 + 6 * x) = rS I (45 + 6 * x) := by
      intro x hx hxt
      refine rS_congr _ _ _ (fun q hq => ?_)
      rw [ps_ne _ _ _ _ (by omega), hdq q (by omega)]
    have gnew : ∀ j, j < 70 → rS (am_ur (mS (kp (pS (hd I t) 12 m1) t h) h) 158 m2) (45 + 6 * t) j = rS I 12 j := by
      intro j hj
      rw [rS_congr (hd I t) _ (45 + 6 * t) (fun q hq => by rw [q0 q (by omega) (by omega), ps_ne _ _ _ _ (by omega)])]
      unfold hd
      exact rS_pS I (45 + 6 * t) (rS I 12) (by omega) (fun j hj => rS_low _ _ _ _ hj) j hj
    have gS : ∀ i j, j < 70 → snp (am_ur (mS (kp (pS (hd I t) 12 m1) t h) h) 158 m2) i j = if j < 34 then I 158 j else snr (I 161) (I 158) h (36 * i + (j - 34)) := by
      intro i j hj
      unfold snp
      rw [g161, ur_at]
      by_cases g : j < 34
      · rw [if_pos g, if_pos g]; exact hlow2 j g
      · rw [if_neg g, if_neg g]
    have gNew : ∀ i, snr (I 161) (I 158) h = snr (I 161) (I 158) h → i = sns h - 1 → Agr n k (I 158) (snp (am_ur (mS (kp (pS (hd I t) 12 m1) t h) h) 158 m2) i) := by
      intro i _ hi2 j hj
      have hj70 : j < 70 := by unfold rel at hj; omega
      rw [gS i j hj70]
      by_cases g : j < 34
      · rw [if_pos g]
      · rw [if_neg g]
        unfold snr
        by_cases h8 : h = 8
        · rw [if_pos h8]
          have : i = 7 := by rw [hi2, h8]; rfl
          subst this
          rw [show 36 * 7 + (j - 34) = 252 + (j - 34) by omega, cpr_in _ _ _ _ _ (by omega), show 34 + (j - 34) = j by omega]
        · rw [if_neg h8]
          have : i = h := by rw [hi2]; unfold sns; rw [if_neg h8]; omega
          subst this
          rw [cpr_in _ _ _ _ _ (by omega), show 34 + (j - 34) = j by omega]
    have gOld : ∀ i i', i < sns h - 1 → i' = (if h = 8 then i + 1 else i) → Agr n k (snp I i') (snp (am_ur (mS (kp (pS (hd I t) 12 m1) t h) h) 158 m2) i) := by
      intro i i' hi2 hi3 j hj
      have hj70 : j < 70 := by unfold rel at hj; omega
      rw [gS i j hj70]
      unfold snp
      by_cases g : j < 34
      · rw [if_pos g, if_pos g]
      · rw [if_neg g, if_neg g]
        unfold snr
        by_cases h8 : h = 8
        · rw [if_pos h8] at hi3
          rw [if_pos h8]
          have hs : sns h = 8 := by unfold sns; rw [if_pos h8]
          rw [cpr_out _ _ _ _ _ (by omega)]
          have := cpr_in (I 161) 0 252 (fun k => I 161 (k + 36)) (36 * i + (j - 34)) (by omega)
          rw [Nat.zero_add] at this
          rw [this, hi3]
          congr 1; omega
        · rw [if_neg h8] at hi3
          rw [if_neg h8]
          have hs : sns h = h + 1 := by unfold sns; rw [if_neg h8]
          rw [cpr_out _ _ _ _ _ (by omega), hi3]
    refine ⟨(t + 1) % 9, sns h, IvL_low (m := I 158) (fun j hj => by rw [ur_at]; exact hlow2 j hj) r1, by rw [ur_at]; exact hi hw, by rw [ur_at]; exact g12, ⟨Nat.mod_lt _ (by omega), by unfold sns; split <;> omega, by rw [k43, ru_ne _ _ _ _ (by omega), ru_eq], by rw [k43, ru_eq], k156⟩, ?_⟩
    intro i hi2
    have hsn : sns h = (if h = 8 then 8 else h + 1) := rfl
    by_cases hlast : i = sns h - 1
    · have hx : ((t + 1) % 9 + 9 - sns h + i) % 9 = t := by
        split at hsn <;> omega
      have a1 := gNew i rfl hlast
      refine ⟨IvS_agr a1 r2, ?_⟩
      rw [hx]
      intro j hj
      rw [gnew j (by unfold rel at hj; omega), ← a1 j hj]
      exact r3 j hj
    · have a1 := gOld i (if h = 8 then i + 1 else i) (by omega) rfl
      have hi4 : (if h = 8 then i + 1 else i) < h := by split <;> split at hsn <;> omega
      obtain ⟨b1, b2⟩ := r9 _ hi4
      have hx : ((t + 1) % 9 + 9 - sns h + i) % 9 = (t + 9 - h + (if h = 8 then i + 1 else i)) % 9 := by
        split <;> split at hsn <;> omega
      have hne : (t + 9 - h + (if h = 8 then i + 1 else i)) % 9 ≠ t := by omega
      have hlt : (t + 9 - h + (if h = 8 then i + 1 else i)) % 9 < 9 := Nat.mod_lt _ (by omega)
      refine ⟨IvS_agr a1 b1, ?_⟩
      rw [hx, gold _ hlt hne]
      intro j hj
      show rS (pS (hd I t) 12 m1) _ j = _
      rw [ghi _ hlt hne, ← a1 j hj]
      exact b2 j hj
  · have hI : mA (cA I t h w m1) h w m2 = th0 (hd I t) := by unfold mA cA; rw [decide_eq_false hw]; rfl
    rw [hI]
    have q0 : ∀ q, q ≠ 156 → (q < 45 + 6 * t ∨ 45 + 6 * t + 5 < q) → th0 (hd I t) q = I q := by
      intro q h1 h2
      rw [th0_ne _ _ h1, hdq q h2]
    have g158 : th0 (hd I t) 158 = I 158 := q0 158 (by omega) (by omega)
    have gs : ∀ i, snp (th0 (hd I t)) i = snp I i := by
      intro i; funext j; unfold snp; rw [g158, q0 161 (by omega) (by omega)]
    refine ⟨t, h, by rw [g158]; exact r1, by rw [g158]; exact r2, ?_, ⟨r4, r5, by rw [q0 43 (by omega) (by omega)]; exact r6, by rw [q0 43 (by omega) (by omega)]; exact r7, ?_⟩, ?_⟩
    · rw [g158, rS_congr I _ 12 (fun q hq => q0 q (by omega) (by omega))]; exact r3
    · rw [th0_at _ _ (by omega), hdq 156 (by omega)]; exact r8
    · intro i hi2
      have hne : (t + 9 - h + i) % 9 ≠ t := by omega
      have hlt : (t + 9 - h + i) % 9 < 9 := Nat.mod_lt _ (by omega)
      rw [gs, rS_congr I _ (45 + 6 * ((t + 9 - h + i) % 9)) (fun q hq => q0 q (by omega) (by omega))]
      exact r9 i hi2
