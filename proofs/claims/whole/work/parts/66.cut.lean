/-! numbers of bits; cut -/
def pc (x : Nat) : Nat := cn 8 (Int32.ofNat x)
def bcf (X_ : Int32) : Int32 := ((((((((X_ - ((am_ushr X_ 1) &&& 1431655765)) &&& 858993459) + ((am_ushr (X_ - ((am_ushr X_ 1) &&& 1431655765)) 2) &&& 858993459)) + (am_ushr (((X_ - ((am_ushr X_ 1) &&& 1431655765)) &&& 858993459) + ((am_ushr (X_ - ((am_ushr X_ 1) &&& 1431655765)) 2) &&& 858993459)) 4)) &&& 252645135) + (am_ushr (((((X_ - ((am_ushr X_ 1) &&& 1431655765)) &&& 858993459) + ((am_ushr (X_ - ((am_ushr X_ 1) &&& 1431655765)) 2) &&& 858993459)) + (am_ushr (((X_ - ((am_ushr X_ 1) &&& 1431655765)) &&& 858993459) + ((am_ushr (X_ - ((am_ushr X_ 1) &&& 1431655765)) 2) &&& 858993459)) 4)) &&& 252645135) 8)) + (am_ushr ((((((X_ - ((am_ushr X_ 1) &&& 1431655765)) &&& 858993459) + ((am_ushr (X_ - ((am_ushr X_ 1) &&& 1431655765)) 2) &&& 858993459)) + (am_ushr (((X_ - ((am_ushr X_ 1) &&& 1431655765)) &&& 858993459) + ((am_ushr (X_ - ((am_ushr X_ 1) &&& 1431655765)) 2) &&& 858993459)) 4)) &&& 252645135) + (am_ushr (((((X_ - ((am_ushr X_ 1) &&& 1431655765)) &&& 858993459) + ((am_ushr (X_ - ((am_ushr X_ 1) &&& 1431655765)) 2) &&& 858993459)) + (am_ushr (((X_ - ((am_ushr X_ 1) &&& 1431655765)) &&& 858993459) + ((am_ushr (X_ - ((am_ushr X_ 1) &&& 1431655765)) 2) &&& 858993459)) 4)) &&& 252645135) 8)) 16)) &&& 63)
theorem bc256 : ∀ x : Fin 256, bcf (Int32.ofNat x.1) = Int32.ofNat (pc x.1) := by decide +kernel
theorem c_bitCount (env : am_E) (d : Nat) (x : Nat) (hx : x < 256) (I : Nat → Nat → Int32) (J : Nat → Nat → Int64) (E : Nat → Nat → Nat) : am_ev env (d + 1, 302, 0, [some (.int (Int32.ofNat x))], [], am_hp I J E) = some (true, some (.int (Int32.ofNat (pc x))), am_hp I J E) := by
  refine (bk_302_0 _ _ _ _ _ _).trans ?_
  rw [← bc256 ⟨x, hx⟩]
  rfl
theorem bq256 : ∀ x : Fin 256, x.1 ≠ 0 → Int32.ofNat x.1 &&& (Int32.ofNat x.1 - 1) = Int32.ofNat (x.1 &&& (x.1 - 1)) ∧ (x.1 &&& (x.1 - 1)) < x.1 ∧ pc x.1 = pc (x.1 &&& (x.1 - 1)) + 1 := by decide +kernel
theorem m_bits (env : am_E) (d : Nat) (x : Nat) (hx : x < 256) (I : Nat → Nat → Int32) (J : Nat → Nat → Int64) (E : Nat → Nat → Nat) : am_ev env (d + 1, 177, 0, [some (.int (Int32.ofNat x)), none, none], [], am_hp I J E) = some (true, some (.int (Int32.ofNat (pc x))), am_hp I J E) := by
  refine (bk_177_0 _ _ _ _ _ _).trans ?_
  have key : ∀ (N y c : Nat) (z : Int32), y ≤ N → y < 256 → am_ev env (d + 1, 177, 4, [some (.int z), some (.int (Int32.ofNat c)), some (.int (Int32.ofNat y))], [], am_hp I J E) = some (true, some (.int (Int32.ofNat (c + pc y))), am_hp I J E) := by
    intro N
    induction N with
    | zero =>
      intro y c z h1 h2
      refine (bk_177_4 _ _ _ _ _ _ _ _).trans ?_
      have : y = 0 := by omega
      subst this
      rfl
    | succ N ih =>
      intro y c z h1 h2
      refine (bk_177_4 _ _ _ _ _ _ _ _).trans ?_
      by_cases h0 : y = 0
      · subst h0; rfl
      · obtain ⟨b1, b2, b3⟩ := bq256 ⟨y, h2⟩ h0
        have e0 : decide (Int32.ofNat y = 0) = false := (zI_deq y 0 (by omega) (by omega)).trans (decide_eq_false h0)
        have b1 : Int32.ofNat y &&& (Int32.ofNat y - 1) = Int32.ofNat (y &&& (y - 1)) := b1
        have b3 : pc y = pc (y &&& (y - 1)) + 1 := b3
        rw [e0, cond_false, b1, zd_1, b3]
        rw [ih (y &&& (y - 1)) (c + 1) z (by have : y &&& (y - 1) < y := b2; omega) (by have : y &&& (y - 1) < y := b2; omega)]
        rw [show c + 1 + pc (y &&& (y - 1)) = c + (pc (y &&& (y - 1)) + 1) by omega]
  have := key x x 0 (Int32.ofNat x) (Nat.le_refl _) hx
  rw [Nat.zero_add] at this
  exact this
theorem bt_tb (x k : Nat) (hx : x < 4294967296) (hk : k < 32) : bt (Int32.ofNat x) k = x.testBit k := by
  show (BitVec.ofNat 32 x).getLsbD k = _
  rw [BitVec.getLsbD_ofNat, decide_eq_true hk]; rfl
theorem low_nat (n : Nat) (hn : n ≤ 8) (s : Int32) (hs : lowb n s) : ∃ x, x < 2 ^ n ∧ x < 256 ∧ s = Int32.ofNat x := by
  have h1 : s.toBitVec.toNat < 2 ^ n := by
    apply Nat.lt_pow_two_of_testBit
    intro i hi
    cases hb : s.toBitVec.toNat.testBit i with
    | false => rfl
    | true =>
      have : bt s i = true := hb
      have := hs i this
      omega
  have h2 : 2 ^ n ≤ 2 ^ 8 := Nat.pow_le_pow_right (by omega) hn
  have h3 : s.toBitVec.toNat < 256 := by omega
  refine ⟨s.toBitVec.toNat, h1, h3, ?_⟩
  apply Int32.toBitVec_inj.mp
  apply BitVec.eq_of_toNat_eq
  show _ = (BitVec.ofNat 32 _).toNat
  rw [BitVec.toNat_ofNat, Nat.mod_eq_of_lt (by omega)]
theorem nat_low (n x : Nat) (hn : n ≤ 8) (hx : x < 2 ^ n) : lowb n (Int32.ofNat x) := by
  have h2 : 2 ^ n ≤ 2 ^ 8 := Nat.pow_le_pow_right (by omega) hn
  intro k hk
  apply Classical.byContradiction
  intro hkn
  have hk32 := bt_lt32 hk
  rw [bt_tb x k (by omega) hk32] at hk
  have : x < 2 ^ k := Nat.lt_of_lt_of_le hx (Nat.pow_le_pow_right (by omega) (by omega))
  rw [Nat.testBit_lt_two_pow this] at hk
  cases hk
theorem pow256 (n : Nat) (hn : n ≤ 8) : 1 ≤ 2 ^ n ∧ 2 ^ n ≤ 256 := ⟨Nat.one_le_two_pow, Nat.pow_le_pow_right (by omega) hn⟩
theorem full8 : ∀ n : Fin 9, ((1 : Int32) <<< (Int32.ofNat n.1 &&& 31)) - 1 = Int32.ofNat (2 ^ n.1 - 1) := by decide +kernel
theorem full_n (n : Nat) (hn : n ≤ 8) : ((1 : Int32) <<< (Int32.ofNat n &&& 31)) - 1 = Int32.ofNat (2 ^ n - 1) := full8 ⟨n, by omega⟩
/-- with these forged too, all can be read -/
def qc (n : Nat) (a : Nat → Int32) (s : Int32) : Bool := decide (grs a n n s = Int32.ofNat (2 ^ n - 1))
def qm (n : Nat) (a : Nat → Int32) (s : Int32) : Bool := decide (accO (fun b => bt (rq n (aw a s) b) b) n = 0)
theorem full_bt (n : Nat) (hn : n ≤ 8) (k : Nat) : bt (Int32.ofNat (2 ^ n - 1)) k = decide (k < n) := by
  rw [← full_n n hn]; exact bt_low n k (by omega)
theorem qm_iff (n : Nat) (hn : n ≤ 8) (a : Nat → Int32) (s : Int32) : qm n a s = true ↔ ∀ b, b < n → ¬ bt (rq n (aw a s) b) b = true := by
  unfold qm
  rw [decide_eq_true_iff, accO_zero _ n (by omega)]
  constructor
  · intro h b hb e; have := h b hb; rw [e] at this; cases this
  · intro h b hb
    cases hz : bt (rq n (aw a s) b) b with
    | false => rfl
    | true => exact absurd hz (h b hb)
theorem qc_iff (n : Nat) (hn : n ≤ 8) (a : Nat → Int32) (s : Int32) (hs : lowb n s) : qc n a s = true ↔ ∀ b, b < n → bt (grs a n n s) b = true := by
  unfold qc
  rw [decide_eq_true_iff]
  have hl := (grs_base a n (by omega) s hs n).2.1
  constructor
  · intro h b hb; rw [h, full_bt n hn]; exact decide_eq_true hb
  · intro h
    apply bt_ext
    intro k _
    rw [full_bt n hn]
    by_cases hk : k < n
    · rw [decide_eq_true hk]; exact h k hk
    · rw [decide_eq_false hk]
      cases hz : bt (grs a n n s) k with
      | false => rfl
      | true => exact absurd (hl k hz) hk
theorem qc_qm (n : Nat) (hn : n ≤ 8) (a : Nat → Int32) (ha : lowa n a) (s : Int32) (hs : lowb n s) : qc n a s = qm n a s := by
  have h : qc n a s = true ↔ qm n a s = true := by rw [qc_iff n hn a s hs, qm_iff n hn a s]; exact cut_iff (by omega) ha s hs
  cases h1 : qc n a s with
  | true => exact (h.mp h1).symm
  | false =>
    cases h2 : qm n a s with
    | false => rfl
    | true => rw [h.mpr h2] at h1; cases h1
def lcs (q : Nat → Bool) (x best : Nat) : Nat := if pc x < pc best ∧ q x = true then x else best
def lc (q : Nat → Bool) (n : Nat) : Nat := lp (lcs q) (2 ^ n) (2 ^ n - 1)
theorem c_opensAll (env : am_E) (d : Nat) (n : Nat) (hn : n ≤ 8) (a : Nat → Int32) (s : Int32) (I : Nat → Nat → Int32) (J : Nat → Nat → Int64) (E : Nat → Nat → Nat) (ho : Or I n a) : am_ev env (d + 4, 37, 0, [some (.ref 104), some (.int s)], [], am_hp I J E) = some (true, some (.int (bi (qc n a s))), am_hp I J E) := by
  simp only [bk_37_0, bk_37_5, decide_true, decide_false, Bool.not_true, Bool.not_false, am_cont, Option.bind_some, Option.toList_some, Option.toList_none, List.singleton_append, List.nil_append, cond_true, cond_false, c_grown env d n hn a s I J E ho, ho.1, full_n n hn]
  unfold qc
  cases decide (grs a n n s = Int32.ofNat (2 ^ n - 1)) <;> simp only [decide_true, decide_false, Bool.not_true, Bool.not_false, am_cont, Option.bind_some, Option.toList_some, Option.toList_none, List.singleton_append, List.nil_append, cond_true, cond_false, bk_37_21] <;> rfl
theorem lc_lt (q : Nat → Bool) (n N : Nat) (hN : N ≤ 2 ^ n) : lp (lcs q) N (2 ^ n - 1) < 2 ^ n := by
  have h1 : 1 ≤ 2 ^ n := Nat.one_le_two_pow
  induction N with
  | zero => show 2 ^ n - 1 < _; omega
  | succ N ih =>
    show lcs q N (lp (lcs q) N (2 ^ n - 1)) < 2 ^ n
    unfold lcs
    split
    · omega
    · exact ih (by omega)
theorem pc_le8 (x : Nat) : pc x ≤ 8 := cn_le 8 _
theorem c_leastCut (env : am_E) (d : Nat) (n : Nat) (hn : n ≤ 8) (a : Nat → Int32) (I : Nat → Nat → Int32) (J : Nat → Nat → Int64) (E : Nat → Nat → Nat) (ho : Or I n a) : am_ev env (d + 5, 36, 0, [some (.ref 104), none, none, none], [], am_hp I J E) = some (true, some (.int (Int32.ofNat (lc (fun x => qc n a (Int32.ofNat x)) n))), am_hp I J E) := by
  obtain ⟨p1, p2⟩ := pow256 n hn
  refine (bk_36_0 _ _ _ _ _).trans ?_
  rw [ho.1, full_n n hn]
  have hr := lp_run (fun x (best : Nat) => am_ev env (d + 5, 36, 13, [some (.ref 104), some (.int (Int32.ofNat (2 ^ n - 1))), some (.int (Int32.ofNat best)), some (.int (Int32.ofNat x))], [], am_hp I J E)) (lcs (fun x => qc n a (Int32.ofNat x))) (fun _ best => best < 2 ^ n) (2 ^ n) (fun x best hx hP => by
    refine ⟨?_, by unfold lcs; split <;> omega⟩
    refine (bk_36_13 _ _ _ _ _ _ _ _).trans ?_
    rw [show decide (Int32.ofNat (2 ^ n - 1) < Int32.ofNat x) = false from zlt_f _ _ (by omega) (by omega)]
    have q1 := pc_le8 x
    have q2 := pc_le8 best
    simp (disch := omega) only [decide_true, decide_false, Bool.not_true, Bool.not_false, am_cont, Option.bind_some, Option.toList_some, Option.toList_none, List.singleton_append, List.nil_append, cond_true, cond_false, c_bitCount, bk_36_22, bk_36_26]
    unfold lcs
    by_cases h1 : pc x < pc best
    · rw [zle_f (pc best) (pc x) h1 (by omega)]
      simp only [decide_true, decide_false, Bool.not_true, Bool.not_false, am_cont, Option.bind_some, Option.toList_some, Option.toList_none, List.singleton_append, List.nil_append, cond_true, cond_false, c_opensAll env _ n hn a _ I J E ho, bk_36_34, bi_eq0]
      by_cases hq : qc n a (Int32.ofNat x) = true
      · rw [if_pos ⟨h1, hq⟩, hq]; simp only [decide_true, decide_false, Bool.not_true, Bool.not_false, am_cont, Option.bind_some, Option.toList_some, Option.toList_none, List.singleton_append, List.nil_append, cond_true, cond_false, bk_36_39, zd_1]
      · rw [if_neg (fun h => hq h.2)]
        rw [Bool.not_eq_true] at hq
        rw [hq]; simp only [decide_true, decide_false, Bool.not_true, Bool.not_false, am_cont, Option.bind_some, Option.toList_some, Option.toList_none, List.singleton_append, List.nil_append, cond_true, cond_false, bk_36_39, zd_1]
    · rw [zle_t (pc best) (pc x) (by omega) (by omega), if_neg (fun h => h1 h.1)]
      simp only [decide_true, decide_false, Bool.not_true, Bool.not_false, am_cont, Option.bind_some, Option.toList_some, Option.toList_none, List.singleton_append, List.nil_append, cond_true, cond_false, bk_36_39, zd_1]) (2 ^ n - 1) (by omega) (2 ^ n) (Nat.le_refl _)
  refine Eq.trans hr.1 ?_
  refine (bk_36_13 _ _ _ _ _ _ _ _).trans ?_
  rw [show decide (Int32.ofNat (2 ^ n - 1) < Int32.ofNat (2 ^ n)) = true from zlt_t _ _ (by omega) (by omega)]
  rfl
/-- x is of u -/
def sbb (x u : Nat) : Bool := decide (Int32.ofNat x &&& (Int32.ofNat u ^^^ (-1)) = 0)
def mls (q : Nat → Bool) (u x best : Nat) : Nat := if sbb x u = true ∧ pc x ≤ pc best ∧ q x = true then x else best
def mlc (q : Nat → Bool) (u : Nat) : Nat → Nat → Nat
  | 0, best => mls q u 0 best
  | x + 1, best => mlc q u x (mls q u (x + 1) best)
theorem m_cut_lp (env : am_E) (d : Nat) (n u : Nat) (hn : n ≤ 8) (hu : u < 256) (I : Nat → Nat → Int32) (J : Nat → Nat → Int64) (E : Nat → Nat → Nat) (h0 : I 158 0 = Int32.ofNat n) (ha : lowa n (aft (I 158))) : ∀ x best, x < 256 → best < 256 → am_ev env (d + 8, 251, 30, [some (.ref 156), some (.int (Int32.ofNat u)), some (.int (Int32.ofNat best)), some (.int (Int32.ofNat x))], [], am_hp I J E) = am_ev env (d + 8, 251, 30, [some (.ref 156), some (.int (Int32.ofNat u)), some (.int (Int32.ofNat (mlc (fun x => qm n (aft (I 158)) (Int32.ofNat x)) u x best))), some (.int (-1))], [], am_hp I J E) ∧ mlc (fun x => qm n (aft (I 158)) (Int32.ofNat x)) u x best < 256 := by
  have step : ∀ x best, x < 256 → best < 256 → am_ev env (d + 8, 251, 30, [some (.ref 156), some (.int (Int32.ofNat u)), some (.int (Int32.ofNat best)), some (.int (Int32.ofNat x))], [], am_hp I J E) = am_ev env (d + 8, 251, 30, [some (.ref 156), some (.int (Int32.ofNat u)), some (.int (Int32.ofNat (mls (fun x => qm n (aft (I 158)) (Int32.ofNat x)) u x best))), some (.int (Int32.ofNat x + (-1)))], [], am_hp I J E) ∧ mls (fun x => qm n (aft (I 158)) (Int32.ofNat x)) u x best < 256 := by
    intro x best hx hb
    refine ⟨?_, by unfold mls; split <;> omega⟩
    refine (bk_251_30 _ _ _ _ _ _ _ _).trans ?_
    rw [show decide (Int32.ofNat x < (0 : Int32)) = false from zlt_f x 0 (by omega) (by omega)]
    have q1 := pc_le8 x
    have q2 := pc_le8 best
    simp (disch := omega) only [decide_true, decide_false, Bool.not_true, Bool.not_false, am_cont, Option.bind_some, Option.toList_some, Option.toList_none, List.singleton_append, List.nil_append, cond_true, cond_false, m_isWithin, bk_251_39, bi_eq0]
    have es : decide (Int32.ofNat x &&& (Int32.ofNat u ^^^ (-1)) = 0) = sbb x u := rfl
    rw [es]
    unfold mls
    by_cases hs : sbb x u = false
    · rw [if_neg (fun h => by rw [hs] at h; cases h.1), hs]; simp only [decide_true, decide_false, Bool.not_true, Bool.not_false, am_cont, Option.bind_some, Option.toList_some, Option.toList_none, List.singleton_append, List.nil_append, cond_true, cond_false, bk_251_63]
    · rw [Bool.not_eq_false] at hs
      rw [hs]
      simp (disch := omega) only [decide_true, decide_false, Bool.not_true, Bool.not_false, am_cont, Option.bind_some, Option.toList_some, Option.toList_none, List.singleton_append, List.nil_append, cond_true, cond_false, m_bits, bk_251_46, bk_251_50]
      by_cases h1 : pc x ≤ pc best
      · rw [zlt_f (pc best) (pc x) h1 (by omega)]
        simp only [decide_true, decide_false, Bool.not_true, Bool.not_false, am_cont, Option.bind_some, Option.toList_some, Option.toList_none, List.singleton_append, List.nil_append, cond_true, cond_false, m_ringed env _ n _ hn I J E h0 ha, bk_251_58]
        have eq : decide (accO (fun b => bt (rq n (aw (aft (I 158)) (Int32.ofNat x)) b) b) n = 0) = qm n (aft (I 158)) (Int32.ofNat x) := rfl
        rw [eq]
        by_cases hq : qm n (aft (I 158)) (Int32.ofNat x) = true
        · rw [if_pos ⟨trivial, h1, hq⟩, hq]; simp only [decide_true, decide_false, Bool.not_true, Bool.not_false, am_cont, Option.bind_some, Option.toList_some, Option.toList_none, List.singleton_append, List.nil_append, cond_true, cond_false, bk_251_63]
        · rw [if_neg (fun h => hq h.2.2)]
          rw [Bool.not_eq_true] at hq
          rw [hq]; simp only [decide_true, decide_false, Bool.not_true, Bool.not_false, am_cont, Option.bind_some, Option.toList_some, Option.toList_none, List.singleton_append, List.nil_append, cond_true, cond_false, bk_251_63]
      · rw [zlt_t (pc best) (pc x) (by omega) (by omega), if_neg (fun h => h1 h.2.1)]
        simp only [decide_true, decide_false, Bool.not_true, Bool.not_false, am_cont, Option.bind_some, Option.toList_some, Option.toList_none, List.singleton_append, List.nil_append, cond_true, cond_false, bk_251_63]
  intro x
  induction x with
  | zero =>
    intro best hx hb
    obtain ⟨s1, s2⟩ := step 0 best hx hb
    exact ⟨s1, s2⟩
  | succ x ih =>
    intro best hx hb
    obtain ⟨s1, s2⟩ := step (x + 1) best hx hb
    rw [zI_pred (x + 1) (by omega), Nat.add_sub_cancel] at s1
    obtain ⟨i1, i2⟩ := ih _ (by omega) s2
    exact ⟨s1.trans i1, i2⟩
theorem sbb_iff (x u : Nat) : sbb x u = true ↔ bs (Int32.ofNat x) (Int32.ofNat u) := by
  unfold sbb; rw [decide_eq_true_iff, bt_sub]
theorem sbb_le (x u : Nat) (hx : x < 256) (hu : u < 256) (h : sbb x u = true) : x ≤ u := by
  rw [sbb_iff] at h
  have e : x &&& u = x := by
    apply Nat.eq_of_testBit_eq
    intro i
    rw [Nat.testBit_and]
    cases hi : x.testBit i with
    | false => rfl
    | true =>
      have hi32 : i < 32 := by
        apply Classical.byContradiction
        intro hc
        have : x < 2 ^ i := Nat.lt_of_lt_of_le (by omega : x < 2 ^ 8) (Nat.pow_le_pow_right (by omega) (by omega))
        rw [Nat.testBit_lt_two_pow this] at hi; cases hi
      have := h i (by rw [bt_tb x i (by omega) hi32]; exact hi)
      rw [bt_tb u i (by omega) hi32] at this
      rw [this]; rfl
  have := Nat.and_le_right (n := x) (m := u)
  omega
theorem mlc_P (q : Nat → Bool) (u : Nat) : ∀ x best, sbb best u = true → q best = true → (∀ y, x < y → y ≤ u → sbb y u = true → q y = true → pc best < pc y ∨ (pc best = pc y ∧ best ≤ y)) → sbb (mlc q u x best) u = true ∧ q (mlc q u x best) = true ∧ ∀ y, y ≤ u → sbb y u = true → q y = true → pc (mlc q u x best) < pc y ∨ (pc (mlc q u x best) = pc y ∧ mlc q u x best ≤ y) := by
  have step : ∀ x best, sbb best u = true → q best = true → (∀ y, x < y → y ≤ u → sbb y u = true → q y = true → pc best < pc y ∨ (pc best = pc y ∧ best ≤ y)) → sbb (mls q u x best) u = true ∧ q (mls q u x best) = true ∧ ∀ y, x ≤ y → y ≤ u → sbb y u = true → q y = true → pc (mls q u x best) < pc y ∨ (pc (mls q u x best) = pc y ∧ mls q u x best ≤ y) := by
    intro x best h1 h2 h3
    unfold mls
    by_cases hc : sbb x u = true ∧ pc x ≤ pc best ∧ q x = true
    · rw [if_pos hc]
      refine ⟨hc.1, hc.2.2, ?_⟩
      intro y g1 g2 g3 g4
      by_cases e : y = x
      · subst e; exact Or.inr ⟨rfl, Nat.le_refl _⟩
      · rcases h3 y (by omega) g2 g3 g4 with g | g
        · exact Or.inl (by omega)
        · by_cases e2 : pc x = pc y
          · exact Or.inr ⟨e2, by omega⟩
          · exact Or.inl (by omega)
    · rw [if_neg hc]
      refine ⟨h1, h2, ?_⟩
      intro y g1 g2 g3 g4
      by_cases e : y = x
      · subst e
        left
        apply Classical.byContradiction
        intro hn
        exact hc ⟨g3, by omega, g4⟩
      · exact h3 y (by omega) g2 g3 g4
  intro x
  induction x with
  | zero =>
    intro best h1 h2 h3
    obtain ⟨s1, s2, s3⟩ := step 0 best h1 h2 h3
    exact ⟨s1, s2, fun y g2 g3 g4 => s3 y (by omega) g2 g3 g4⟩
  | succ x ih =>
    intro best h1 h2 h3
    obtain ⟨s1, s2, s3⟩ := step (x + 1) best h1 h2 h3
    exact ih _ s1 s2 (fun y g1 g2 g3 g4 => s3 y (by omega) g2 g3 g4)
theorem lc_P (q : Nat → Bool) (n : Nat) : ∀ N, N ≤ 2 ^ n → (lp (lcs q) N (2 ^ n - 1) = 2 ^ n - 1 ∨ (lp (lcs q) N (2 ^ n - 1) < N ∧ q (lp (lcs q) N (2 ^ n - 1)) = true)) ∧ (∀ x, x < N → q x = true → pc (lp (lcs q) N (2 ^ n - 1)) ≤ pc x) ∧ (∀ x, x < N → q x = true → pc x = pc (lp (lcs q) N (2 ^ n - 1)) → lp (lcs q) N (2 ^ n - 1) ≤ x ∨ lp (lcs q) N (2 ^ n - 1) = 2 ^ n - 1) := by
  intro N
  induction N with
  | zero => intro _; exact ⟨Or.inl rfl, fun x hx => by omega, fun x hx => by omega⟩
  | succ N ih =>
    intro hN
    obtain ⟨i1, i2, i3⟩ := ih (by omega)
    show (lcs q N (lp (lcs q) N (2 ^ n - 1)) = 2 ^ n - 1 ∨ (lcs q N (lp (lcs q) N (2 ^ n - 1)) < N + 1 ∧ q (lcs q N (lp (lcs q) N (2 ^ n - 1))) = true)) ∧ (∀ x, x < N + 1 → q x = true → pc (lcs q N (lp (lcs q) N (2 ^ n - 1))) ≤ pc x) ∧ (∀ x, x < N + 1 → q x = true → pc x = pc (lcs q N (lp (lcs q) N (2 ^ n - 1))) → lcs q N (lp (lcs q) N (2 ^ n - 1)) ≤ x ∨ lcs q N (lp (lcs q) N (2 ^ n - 1)) = 2 ^ n - 1)
    generalize lp (lcs q) N (2 ^ n - 1) = B at i1 i2 i3
    unfold lcs
    by_cases hc : pc N < pc B ∧ q N = true
    · rw [if_pos hc]
      refine ⟨Or.inr ⟨by omega, hc.2⟩, ?_, ?_⟩
      · intro x hx hq
        by_cases e : x = N
        · subst e; exact Nat.le_refl _
        · have := i2 x (by omega) hq; omega
      · intro x hx hq he
        by_cases e : x = N
        · left; omega
        · have := i2 x (by omega) hq; omega
    · rw [if_neg hc]
      refine ⟨?_, ?_, ?_⟩
      · rcases i1 with h | h
        · exact Or.inl h
        · exact Or.inr ⟨by omega, h.2⟩
      · intro x hx hq
        by_cases e : x = N
        · subst e
          apply Classical.byContradiction
          intro hn
          exact hc ⟨by omega, hq⟩
        · exact i2 x (by omega) hq
      · intro x hx hq he
        by_cases e : x = N
        · rcases i1 with h | h
          · exact Or.inr h
          · left; omega
        · exact i3 x (by omega) hq he
