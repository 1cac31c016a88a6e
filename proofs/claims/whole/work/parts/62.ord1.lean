/-! the class's order of BOOKS -/
def Or (I : Nat → Nat → Int32) (n : Nat) (a : Nat → Int32) : Prop := I 104 0 = Int32.ofNat n ∧ ∀ b, b < n → I 105 b = a b
def tk (I : Nat → Nat → Int32) (n : Nat) (a : Nat → Int32) : Nat → Nat → Int32 := am_ur (am_ur I 104 (ru (I 104) 0 (Int32.ofNat n))) 105 (cpr (I 105) 0 n a)
theorem tk_or (I : Nat → Nat → Int32) (n : Nat) (a : Nat → Int32) : Or (tk I n a) n a := by
  unfold tk
  refine ⟨by rw [ur_ne _ _ _ _ (by omega), ur_at, ru_eq], fun b hb => ?_⟩
  have := cpr_in (I 105) 0 n a b hb
  rw [Nat.zero_add] at this
  rw [ur_at]; exact this
theorem tk_ne (I : Nat → Nat → Int32) (n : Nat) (a : Nat → Int32) (q : Nat) (h : q ≠ 104 ∧ q ≠ 105) : tk I n a q = I q := by
  unfold tk; rw [ur_ne _ _ _ _ h.2, ur_ne _ _ _ _ h.1]
theorem tk_104 (I : Nat → Nat → Int32) (n : Nat) (a : Nat → Int32) (j : Nat) (h : j ≠ 0) : tk I n a 104 j = I 104 j := by
  unfold tk; rw [ur_ne _ _ _ _ (by omega), ur_at, ru_ne _ _ _ _ h]
theorem c_take (env : am_E) (d : Nat) (n : Nat) (hn : n ≤ 8) (f : Int32) (I : Nat → Nat → Int32) (J : Nat → Nat → Int64) (E : Nat → Nat → Nat) (h0 : I 5 0 = Int32.ofNat n) : am_ev env (d + 2, 30, 0, [some (.ref 104), some (.ref 5), some (.int f), none], [], am_hp I J E) = some (true, none, am_hp (tk I n (fun b => bif bt f b then 0 else I 9 b)) J E) := by
  have e8 : (if (8 : Int32) < Int32.ofNat n then 8 else Int32.ofNat n) = Int32.ofNat n := by
    rw [if_neg]
    have := zlt_f 8 n hn (by omega)
    exact of_decide_eq_false this
  refine (bk_30_0 _ _ _ _ _ _ _).trans ?_
  rw [h0, e8]
  simp only [lb_d, lb_b, Bool.and_self, decide_true, decide_false, Bool.not_true, Bool.not_false, am_cont, Option.bind_some, Option.toList_some, Option.toList_none, List.singleton_append, List.nil_append, cond_true, cond_false]
  have hz := zcopy (fun b I => am_ev env (d + 2, 30, 15, [some (.ref 104), some (.ref 5), some (.int f), some (.int (Int32.ofNat b))], [], am_hp I J E)) (am_u I 104 0 (Int32.ofNat n)) 105 0 (fun b => bif bt f b then 0 else I 9 b) n (fun b hb => by
    refine (bk_30_15 _ _ _ _ _ _ _ _).trans ?_
    rw [ur_ne _ _ _ _ (by omega), am_u_at, zle_f n b hb (by omega)]
    simp (disch := omega) only [decide_true, decide_false, Bool.not_true, Bool.not_false, am_cont, Option.bind_some, Option.toList_some, Option.toList_none, List.singleton_append, List.nil_append, cond_true, cond_false, c_isIn, bk_30_33, bi_eq0, lb_d, lb_b, lb_8, lb_d9, lb_b9, lb_l9, Bool.and_self, Bool.and_true, zI_in, zI_nat, ur_ne, am_u_nr]
    cases bt f b <;> simp (disch := omega) only [decide_true, decide_false, Bool.not_true, Bool.not_false, am_cont, Option.bind_some, Option.toList_some, Option.toList_none, List.singleton_append, List.nil_append, cond_true, cond_false, bk_30_46, zI_in, zI_nat, am_u_r, ur_ur, ur_at, zd_1, Nat.zero_add])
  refine Eq.trans hz ?_
  refine (bk_30_15 _ _ _ _ _ _ _ _).trans ?_
  rw [ur_ne _ _ _ _ (by omega), am_u_at, zle_t n n (Nat.le_refl _) (by omega)]
  unfold tk
  rw [am_u_r, ur_ne _ 104 _ 105 (by omega)]
  rfl
theorem c_openTo (env : am_E) (d : Nat) (n : Nat) (hn : n ≤ 8) (a : Nat → Int32) (s : Int32) (I : Nat → Nat → Int32) (J : Nat → Nat → Int64) (E : Nat → Nat → Nat) (ho : Or I n a) : am_ev env (d + 2, 31, 0, [some (.ref 104), some (.int s), none, none], [], am_hp I J E) = some (true, some (.int (opn a s n)), am_hp I J E) := by
  refine (bk_31_0 _ _ _ _ _ _).trans ?_
  have hr := lp_run (fun b (o : Int32) => am_ev env (d + 2, 31, 4, [some (.ref 104), some (.int s), some (.int o), some (.int (Int32.ofNat b))], [], am_hp I J E)) (fun b o => if bt s b = false ∧ (a b &&& (s ^^^ (-1)) = 0) then o ||| bit1 b else o) (fun _ _ => True) n (fun b o hb _ => by
    refine ⟨?_, trivial⟩
    refine (bk_31_4 _ _ _ _ _ _ _ _).trans ?_
    rw [ho.1, zle_f n b hb (by omega)]
    simp (disch := omega) only [decide_true, decide_false, Bool.not_true, Bool.not_false, am_cont, Option.bind_some, Option.toList_some, Option.toList_none, List.singleton_append, List.nil_append, cond_true, cond_false, c_isIn, bk_31_17, bi_eq0, zI_in, zI_nat, ho.2 b hb]
    by_cases h1 : bt s b = true
    · rw [h1, if_neg (by simp)]; simp only [decide_true, decide_false, Bool.not_true, Bool.not_false, am_cont, Option.bind_some, Option.toList_some, Option.toList_none, List.singleton_append, List.nil_append, cond_true, cond_false, bk_31_39, zd_1]
    · rw [Bool.not_eq_true] at h1; rw [h1]
      by_cases h2 : a b &&& (s ^^^ (-1)) = 0
      · rw [decide_eq_true h2, if_pos ⟨rfl, h2⟩]; simp only [decide_true, decide_false, Bool.not_true, Bool.not_false, am_cont, Option.bind_some, Option.toList_some, Option.toList_none, List.singleton_append, List.nil_append, cond_true, cond_false, bk_31_39, zd_1]
      · rw [decide_eq_false h2, if_neg (fun h => h2 h.2)]; simp only [decide_true, decide_false, Bool.not_true, Bool.not_false, am_cont, Option.bind_some, Option.toList_some, Option.toList_none, List.singleton_append, List.nil_append, cond_true, cond_false, bk_31_39, zd_1]) 0 trivial n (Nat.le_refl _)
  refine Eq.trans hr.1 ?_
  refine (bk_31_4 _ _ _ _ _ _ _ _).trans ?_
  rw [ho.1, zle_t n n (Nat.le_refl _) (by omega)]
  rfl
theorem c_grown (env : am_E) (d : Nat) (n : Nat) (hn : n ≤ 8) (a : Nat → Int32) (s : Int32) (I : Nat → Nat → Int32) (J : Nat → Nat → Int64) (E : Nat → Nat → Nat) (ho : Or I n a) : am_ev env (d + 3, 32, 0, [some (.ref 104), some (.int s), none, none, none], [], am_hp I J E) = some (true, some (.int (grs a n n s)), am_hp I J E) := by
  simp only [bk_32_0, bk_32_7, decide_true, decide_false, Bool.not_true, Bool.not_false, am_cont, Option.bind_some, Option.toList_some, Option.toList_none, List.singleton_append, List.nil_append, cond_true, cond_false, c_openTo env _ n hn a _ I J E ho]
  have key : ∀ j i, i + j = n → am_ev env (d + 3, 32, 11, [some (.ref 104), some (.int s), some (.int (grs a n i s)), some (.int (opn a (grs a n i s) n)), some (.int (Int32.ofNat i))], [], am_hp I J E) = some (true, some (.int (grs a n n s)), am_hp I J E) := by
    intro j
    induction j with
    | zero =>
      intro i hi
      refine (bk_32_11 _ _ _ _ _ _ _ _ _).trans ?_
      rw [ho.1, show i = n by omega, zle_t n n (Nat.le_refl _) (by omega)]
      simp only [decide_true, decide_false, Bool.not_true, Bool.not_false, am_cont, Option.bind_some, Option.toList_some, Option.toList_none, List.singleton_append, List.nil_append, cond_true, cond_false, bk_32_40]
    | succ j ih =>
      intro i hi
      refine (bk_32_11 _ _ _ _ _ _ _ _ _).trans ?_
      rw [ho.1, zle_f n i (by omega) (by omega)]
      by_cases h0 : opn a (grs a n i s) n = 0
      · rw [decide_eq_true h0]
        simp only [decide_true, decide_false, Bool.not_true, Bool.not_false, am_cont, Option.bind_some, Option.toList_some, Option.toList_none, List.singleton_append, List.nil_append, cond_true, cond_false, bk_32_40]
        rw [show n = i + (n - i) by omega]
        rw [show grs a (i + (n - i)) (i + (n - i)) s = grs a n (i + (n - i)) s by rw [show i + (n - i) = n by omega]]
        rw [show grs a (i + (n - i)) i s = grs a n i s by rw [show i + (n - i) = n by omega]]
        rw [grs_stop a n s i (n - i) h0]
      · rw [decide_eq_false h0]
        simp only [decide_true, decide_false, Bool.not_true, Bool.not_false, am_cont, Option.bind_some, Option.toList_some, Option.toList_none, List.singleton_append, List.nil_append, cond_true, cond_false, c_openTo env _ n hn a _ I J E ho, bk_32_33, zd_1]
        exact ih (i + 1) (by omega)
  exact key n 0 (by omega)
theorem c_allBefore (env : am_E) (d : Nat) (n b : Nat) (hn : n ≤ 8) (hb : b < n) (a : Nat → Int32) (I : Nat → Nat → Int32) (J : Nat → Nat → Int64) (E : Nat → Nat → Nat) (ho : Or I n a) : am_ev env (d + 2, 34, 0, [some (.ref 104), some (.int (Int32.ofNat b)), none, none, none], [], am_hp I J E) = some (true, some (.int (rq n a b)), am_hp I J E) := by
  refine (bk_34_0 _ _ _ _ _ _).trans ?_
  simp (disch := omega) only [zI_in, zI_nat, decide_true, decide_false, Bool.not_true, Bool.not_false, am_cont, Option.bind_some, Option.toList_some, Option.toList_none, List.singleton_append, List.nil_append, cond_true, cond_false, ho.2 b hb]
  have inner : ∀ (i s : Int32), am_ev env (d + 2, 34, 20, [some (.ref 104), some (.int (Int32.ofNat b)), some (.int s), some (.int i), some (.int (Int32.ofNat 0))], [], am_hp I J E) = am_ev env (d + 2, 34, 9, [some (.ref 104), some (.int (Int32.ofNat b)), some (.int (swp a n s)), some (.int (i + 1)), some (.int (Int32.ofNat n))], [], am_hp I J E) := by
    intro i s
    have hr := lp_run (fun x (s : Int32) => am_ev env (d + 2, 34, 20, [some (.ref 104), some (.int (Int32.ofNat b)), some (.int s), some (.int i), some (.int (Int32.ofNat x))], [], am_hp I J E)) (fun x s => if bt s x then s ||| a x else s) (fun _ _ => True) n (fun x s hx _ => by
      refine ⟨?_, trivial⟩
      refine (bk_34_20 _ _ _ _ _ _ _ _ _).trans ?_
      rw [ho.1, zle_f n x hx (by omega)]
      simp (disch := omega) only [decide_true, decide_false, Bool.not_true, Bool.not_false, am_cont, Option.bind_some, Option.toList_some, Option.toList_none, List.singleton_append, List.nil_append, cond_true, cond_false, c_isIn, bk_34_35, bi_eq0, zI_in, zI_nat, ho.2 x hx]
      by_cases h1 : bt s x = true
      · rw [h1, if_pos rfl]; simp only [decide_true, decide_false, Bool.not_true, Bool.not_false, am_cont, Option.bind_some, Option.toList_some, Option.toList_none, List.singleton_append, List.nil_append, cond_true, cond_false, bk_34_48, zd_1]
      · rw [Bool.not_eq_true] at h1; rw [h1, if_neg (by simp)]; simp only [decide_true, decide_false, Bool.not_true, Bool.not_false, am_cont, Option.bind_some, Option.toList_some, Option.toList_none, List.singleton_append, List.nil_append, cond_true, cond_false, bk_34_48, zd_1]) s trivial n (Nat.le_refl _)
    refine Eq.trans hr.1 ?_
    refine (bk_34_20 _ _ _ _ _ _ _ _ _).trans ?_
    rw [ho.1, zle_t n n (Nat.le_refl _) (by omega)]
    rfl
  have key : ∀ j i (o : Option Value) s, i + j = n → am_ev env (d + 2, 34, 9, [some (.ref 104), some (.int (Int32.ofNat b)), some (.int s), some (.int (Int32.ofNat i)), o], [], am_hp I J E) = some (true, some (.int (swps a n j s)), am_hp I J E) := by
    intro j
    induction j with
    | zero =>
      intro i o s hi
      refine (bk_34_9 _ _ _ _ _ _ _ _ _).trans ?_
      rw [ho.1, zle_t n i (by omega) (by omega)]
      rfl
    | succ j ih =>
      intro i o s hi
      refine (bk_34_9 _ _ _ _ _ _ _ _ _).trans ?_
      rw [ho.1, zle_f n i (by omega) (by omega), cond_false]
      refine (inner (Int32.ofNat i) s).trans ?_
      rw [zd_1]
      refine (ih (i + 1) _ (swp a n s) (by omega)).trans ?_
      unfold swps
      rw [lp_front (fun s => swp a n s) j s]
  exact key n 0 none (a b) (by omega)
theorem c_ringed (env : am_E) (d : Nat) (n : Nat) (hn : n ≤ 8) (a : Nat → Int32) (I : Nat → Nat → Int32) (J : Nat → Nat → Int64) (E : Nat → Nat → Nat) (ho : Or I n a) : am_ev env (d + 3, 35, 0, [some (.ref 104), none, none], [], am_hp I J E) = some (true, some (.int (accO (fun b => bt (rq n a b) b) n)), am_hp I J E) := by
  refine (bk_35_0 _ _ _ _ _).trans ?_
  have hr := lp_run (fun b (o : Int32) => am_ev env (d + 3, 35, 4, [some (.ref 104), some (.int o), some (.int (Int32.ofNat b))], [], am_hp I J E)) (fun b o => bif bt (rq n a b) b then o ||| bit1 b else o) (fun _ _ => True) n (fun b o hb _ => by
    refine ⟨?_, trivial⟩
    refine (bk_35_4 _ _ _ _ _ _ _).trans ?_
    rw [ho.1, zle_f n b hb (by omega)]
    simp (disch := omega) only [decide_true, decide_false, Bool.not_true, Bool.not_false, am_cont, Option.bind_some, Option.toList_some, Option.toList_none, List.singleton_append, List.nil_append, cond_true, cond_false, c_allBefore env _ n b hn hb a I J E ho, bk_35_17, c_isIn, bk_35_21, bi_eq0]
    cases bt (rq n a b) b <;> simp only [decide_true, decide_false, Bool.not_true, Bool.not_false, am_cont, Option.bind_some, Option.toList_some, Option.toList_none, List.singleton_append, List.nil_append, cond_true, cond_false, bk_35_30, zd_1]) 0 trivial n (Nat.le_refl _)
  refine Eq.trans hr.1 ?_
  refine (bk_35_4 _ _ _ _ _ _ _).trans ?_
  rw [ho.1, zle_t n n (Nat.le_refl _) (by omega)]
  rfl
/-- the first round that has b, of those left -/
def dpo (n : Nat) (a : Nat → Int32) (b : Nat) : Nat → Nat → Int32
  | 0, _ => -1
  | j + 1, i => bif bt (lvl a n (i + 1)) b then Int32.ofNat i else dpo n a b j (i + 1)
theorem c_depthOf (env : am_E) (d : Nat) (n b : Nat) (hn : n ≤ 8) (hb : b < 8) (a : Nat → Int32) (I : Nat → Nat → Int32) (J : Nat → Nat → Int64) (E : Nat → Nat → Nat) (ho : Or I n a) : am_ev env (d + 3, 33, 0, [some (.ref 104), some (.int (Int32.ofNat b)), none, none], [], am_hp I J E) = some (true, some (.int (dpo n a b n 0)), am_hp I J E) := by
  refine (bk_33_0 _ _ _ _ _ _).trans ?_
  have key : ∀ j i, i + j = n → am_ev env (d + 3, 33, 4, [some (.ref 104), some (.int (Int32.ofNat b)), some (.int (lvl a n i)), some (.int (Int32.ofNat i))], [], am_hp I J E) = some (true, some (.int (dpo n a b j i)), am_hp I J E) := by
    intro j
    induction j with
    | zero =>
      intro i hi
      refine (bk_33_4 _ _ _ _ _ _ _ _).trans ?_
      rw [ho.1, zle_t n i (by omega) (by omega)]
      rfl
    | succ j ih =>
      intro i hi
      refine (bk_33_4 _ _ _ _ _ _ _ _).trans ?_
      rw [ho.1, zle_f n i (by omega) (by omega)]
      have e : lvl a n i ||| opn a (lvl a n i) n = lvl a n (i + 1) := rfl
      simp (disch := omega) only [decide_true, decide_false, Bool.not_true, Bool.not_false, am_cont, Option.bind_some, Option.toList_some, Option.toList_none, List.singleton_append, List.nil_append, cond_true, cond_false, c_openTo env _ n hn a _ I J E ho, bk_33_18, e, c_isIn, bk_33_25, bi_eq0, zd_1]
      unfold dpo
      cases bt (lvl a n (i + 1)) b
      · simp only [decide_true, decide_false, Bool.not_true, Bool.not_false, am_cont, Option.bind_some, Option.toList_some, Option.toList_none, List.singleton_append, List.nil_append, cond_true, cond_false]; exact ih (i + 1) (by omega)
      · simp only [decide_true, decide_false, Bool.not_true, Bool.not_false, am_cont, Option.bind_some, Option.toList_some, Option.toList_none, List.singleton_append, List.nil_append, cond_true, cond_false]
  exact key n 0 (by omega)
theorem c_readOrHas1 (env : am_E) (d : Nat) (p : Nat) (hp : stq p = true) (r : Nat) (hr : r < 6) (I : Nat → Nat → Int32) (J : Nat → Nat → Int64) (E : Nat → Nat → Nat) (m : Nat → Int32) : am_ev env (d + 1, 92, 0, [some (.ref p), some (.int (Int32.ofNat r))], [], am_hp (pS I p m) J E) = some (true, some (.int (bif decide (m (46 + r) = -1) then m (64 + r) else m (64 + r) ||| ((1 : Int32) <<< (m (46 + r) &&& 31)))), am_hp (pS I p m) J E) := by
  have hpb := st_bd p hp
  simp (disch := omega) only [bk_92_0, bk_92_34, st_d0 p hp, st_b0 p hp, st_4 p hp, st_5 p hp, st_6 p hp, st_7 p hp, st_8 p hp, st_d1 p hp, st_b1 p hp, st_l1 p hp, st_d2 p hp, st_b2 p hp, st_l2 p hp, st_d3 p hp, st_b3 p hp, st_l3 p hp, st_d4 p hp, st_b4 p hp, st_l4 p hp, st_d5 p hp, st_b5 p hp, st_l5 p hp, st_t1 p hp, st_t2 p hp, st_t3 p hp, st_t4 p hp, st_t5 p hp, Bool.and_true, Bool.and_self, decide_true, ps_g0, ps_g1, ps_g2, ps_g3, ps_g9, ps_gi, ps_gh, ps_gl, ps_gf, ps_gr, ps_s0, ps_s1, ps_s2, ps_s3, ps_s9, ps_si, ps_sh, ps_sl, ps_sf, ps_sr, ps_ne, zI_in, zI_nat, decide_true, decide_false, Bool.not_true, Bool.not_false, am_cont, Option.bind_some, Option.toList_some, Option.toList_none, List.singleton_append, List.nil_append, cond_true, cond_false]
  cases decide (m (46 + r) = -1) <;> rfl
/-- what a reader has read, and the one that he has -/
def roh (m : Nat → Int32) (r : Nat) : Int32 := bif decide (m (46 + r) = -1) then m (64 + r) else m (64 + r) ||| ((1 : Int32) <<< (m (46 + r) &&& 31))
theorem c_everOf (env : am_E) (d : Nat) (n r : Nat) (hn : n ≤ 8) (hr : r < 6) (I : Nat → Nat → Int32) (J : Nat → Nat → Int64) (E : Nat → Nat → Nat) (h0 : I 5 0 = Int32.ofNat n) : am_ev env (d + 5, 135, 0, [some (.ref 0), some (.int (Int32.ofNat r))], [], am_hp I J E) = some (true, some (.int (grs (aft (rS I 12)) n n (roh (rS I 12) r))), am_hp (tk I n (aft (rS I 12))) J E) := by
  have ea : ∀ b, b < n → (bif bt (I 12 1) b then (0 : Int32) else I 9 b) = aft (rS I 12) b := by
    intro b hb
    unfold aft
    rw [(r12f I).2.1, (rS_lb I 12).2.2.2.1 b (by omega)]
  have et : tk I n (fun b => bif bt (I 12 1) b then 0 else I 9 b) = tk I n (aft (rS I 12)) := by
    unfold tk
    congr 1
    funext j
    unfold cpr
    by_cases h : 0 ≤ j ∧ j < 0 + n
    · rw [if_pos h, if_pos h]; exact ea _ (by omega)
    · rw [if_neg h, if_neg h]
  have ct := c_take env (d + 2) n hn (I 12 1) I J E h0
  rw [et] at ct
  have hS : rS (tk I n (aft (rS I 12))) 12 = rS I 12 := rS_congr _ _ _ (fun q hq => tk_ne _ _ _ _ (by omega))
  have cr := c_readOrHas1 env (d + 3) 12 st12 r hr (tk I n (aft (rS I 12))) J E (rS I 12)
  have eps : pS (tk I n (aft (rS I 12))) 12 (rS I 12) = tk I n (aft (rS I 12)) := by
    have := ps_rS (tk I n (aft (rS I 12))) 12
    rw [hS] at this
    exact this
  rw [eps] at cr
  have cg := c_grown env (d + 1) n hn (aft (rS I 12)) (roh (rS I 12) r) (tk I n (aft (rS I 12))) J E (tk_or _ _ _)
  have cr2 : am_ev env (d + 3 + 1, 92, 0, [some (.ref 12), some (.int (Int32.ofNat r))], [], am_hp (tk I n (aft (rS I 12))) J E) = some (true, some (.int (roh (rS I 12) r)), am_hp (tk I n (aft (rS I 12))) J E) := cr
  simp only [bk_135_0, bk_135_24, bk_135_39, bk_135_42, decide_true, decide_false, Bool.not_true, Bool.not_false, am_cont, Option.bind_some, Option.toList_some, Option.toList_none, List.singleton_append, List.nil_append, cond_true, cond_false, ct, cr2, cg]
