/-! the reference's way; pages -/
theorem m_needed (env : am_E) (d : Nat) (n r b : Nat) (hn : n ≤ 8) (hr : r < 6) (hb : b < n) (own N : Int32) (I : Nat → Nat → Int32) (J : Nat → Nat → Int64) (E : Nat → Nat → Nat) (h0 : I 158 0 = Int32.ofNat n) (hown : ∀ x, x < n → decide (I 158 (46 + r) = Int32.ofNat x) = bt own x) (hrb : bt (I 158 (64 + r)) b = false) (hax : ∀ x, x < n → lowb n (ax (aft (I 158)) (I 158 (64 + r)) own x)) (hR : Rch n (ax (aft (I 158)) (I 158 (64 + r)) own) (bit1 b) N) : am_ev env (d + 4, 244, 0, [some (.ref 156), some (.int (Int32.ofNat r)), some (.int (Int32.ofNat b)), none, none, none, none], [], am_hp I J E) = some (true, some (.int N), am_hp I J E) := by
  generalize hA : ax (aft (I 158)) (I 158 (64 + r)) own = a at hax hR
  have hA2 : ∀ x, a x = if bt own x then 0 else aft (I 158) x &&& (I 158 (64 + r) ^^^ (-1)) := fun x => by rw [← hA]; rfl
  have inner : ∀ (s : Int32), am_ev env (d + 4, 244, 36, [some (.ref 156), some (.int (Int32.ofNat r)), some (.int (Int32.ofNat b)), some (.int (I 158 (64 + r))), some (.int s), some (.int s), some (.int (Int32.ofNat 0))], [], am_hp I J E) = am_ev env (d + 4, 244, 22, [some (.ref 156), some (.int (Int32.ofNat r)), some (.int (Int32.ofNat b)), some (.int (I 158 (64 + r))), some (.int s), some (.int (pas a s n)), some (.int (Int32.ofNat n))], [], am_hp I J E) := by
    intro s
    have hr2 := lp_run (fun x (t : Int32) => am_ev env (d + 4, 244, 36, [some (.ref 156), some (.int (Int32.ofNat r)), some (.int (Int32.ofNat b)), some (.int (I 158 (64 + r))), some (.int s), some (.int t), some (.int (Int32.ofNat x))], [], am_hp I J E)) (fun x t => if bt s x then t ||| a x else t) (fun _ _ => True) n (fun x t hx _ => by
      refine ⟨?_, trivial⟩
      refine (bk_244_36 _ _ _ _ _ _ _ _ _ _ _).trans ?_
      rw [h0, zle_f n x hx (by omega)]
      simp (disch := omega) only [decide_true, decide_false, Bool.not_true, Bool.not_false, am_cont, Option.bind_some, Option.toList_some, Option.toList_none, List.singleton_append, List.nil_append, cond_true, cond_false, m_has, bk_244_54, bi_eq0, zc_72, zc_46, zc_52, zc_38, zc_58, zc_64, zc_28, zc_20, zc_34, zc_4, zc_8, zc_50, zc_48, zc_12, zc_96, zd_1, zd_2, zd_3, zd_8, zd_36, zd_20, zI_in, zI_nat, hown x hx]
      rw [hA2 x]
      by_cases h1 : bt s x = true
      · rw [h1, if_pos rfl]
        by_cases h2 : bt own x = true
        · rw [h2, if_pos rfl]; simp only [decide_true, decide_false, Bool.not_true, Bool.not_false, am_cont, Option.bind_some, Option.toList_some, Option.toList_none, List.singleton_append, List.nil_append, cond_true, cond_false, bk_244_86, zd_1, Int32.or_zero]
        · rw [Bool.not_eq_true] at h2; rw [h2, if_neg (show ¬ (false = true) by simp)]
          simp (disch := omega) only [decide_true, decide_false, Bool.not_true, Bool.not_false, am_cont, Option.bind_some, Option.toList_some, Option.toList_none, List.singleton_append, List.nil_append, cond_true, cond_false, m_afters, bk_244_79, bk_244_86, zd_1]
      · rw [Bool.not_eq_true] at h1; rw [h1, if_neg (show ¬ (false = true) by simp)]; simp only [decide_true, decide_false, Bool.not_true, Bool.not_false, am_cont, Option.bind_some, Option.toList_some, Option.toList_none, List.singleton_append, List.nil_append, cond_true, cond_false, bk_244_86, zd_1]) s trivial n (Nat.le_refl _)
    refine Eq.trans hr2.1 ?_
    refine (bk_244_36 _ _ _ _ _ _ _ _ _ _ _).trans ?_
    rw [h0, zle_t n n (Nat.le_refl _) (by omega)]
    rfl
  have hend : ∀ s, bs (bit1 b) s → bs s N → pas a s n = s → s = N := by
    intro s h2 h3 he
    exact bs_anti h3 (hR.2.2 s h2 (fun x hx hb => by have := pas_has a s n x hx hb; rw [he] at this; exact this))
  have key : ∀ M s (o : Option Value), lowb n s → bs (bit1 b) s → bs s N → n - cn n s ≤ M → am_ev env (d + 4, 244, 22, [some (.ref 156), some (.int (Int32.ofNat r)), some (.int (Int32.ofNat b)), some (.int (I 158 (64 + r))), some (.int s), some (.int (pas a s n)), o], [], am_hp I J E) = some (true, some (.int N), am_hp I J E) := by
    intro M
    induction M with
    | zero =>
      intro s o h1 h2 h3 h4
      refine (bk_244_22 _ _ _ _ _ _ _ _ _ _ _).trans ?_
      by_cases he : pas a s n = s
      · rw [decide_eq_true he, hend s h2 h3 he]; rfl
      · exfalso
        obtain ⟨x, hx, e1, e2⟩ := ne_bit (pas_bs a s n) (pas_low _ _ _ _ h1 hax) (fun e => he e.symm)
        have := cn_lt n (fun j _ h => pas_bs a s n j h) x hx e1 e2
        have := cn_le n (pas a s n)
        omega
    | succ M ih =>
      intro s o h1 h2 h3 h4
      refine (bk_244_22 _ _ _ _ _ _ _ _ _ _ _).trans ?_
      by_cases he : pas a s n = s
      · rw [decide_eq_true he, hend s h2 h3 he]; rfl
      · rw [decide_eq_false he]
        obtain ⟨x, hx, e1, e2⟩ := ne_bit (pas_bs a s n) (pas_low _ _ _ _ h1 hax) (fun e => he e.symm)
        have := cn_lt n (fun j _ h => pas_bs a s n j h) x hx e1 e2
        refine (inner (pas a s n)).trans ?_
        exact ih _ _ (pas_low _ _ _ _ h1 hax) (fun j h => pas_bs a s n j (h2 j h)) (pas_min _ _ _ _ h3 hR.2.1) (by omega)
  have hst : bit1 b &&& (I 158 (64 + r) ^^^ (-1)) = bit1 b := by
    apply bt_ext
    intro k hk
    rw [bt_and, bt_not _ _ hk, bt_one b k (by omega)]
    by_cases e : k = b
    · subst e; rw [hrb]; cases decide (k = k) <;> rfl
    · rw [decide_eq_false e]; rfl
  have hnz : decide (bit1 b = 0) = false := by
    apply decide_eq_false
    intro e
    have := congrArg (fun s => bt s b) e
    simp only [bt_zero, bt_one b b (by omega : b < 32)] at this
    simp at this
  refine (bk_244_0 _ _ _ _ _ _ _).trans ?_
  simp (disch := omega) only [zc_72, zc_46, zc_52, zc_38, zc_58, zc_64, zc_28, zc_20, zc_34, zc_4, zc_8, zc_50, zc_48, zc_12, zc_96, zd_1, zd_2, zd_3, zd_8, zd_36, zd_20, zI_in, zI_nat, decide_true, decide_false, Bool.not_true, Bool.not_false, am_cont, Option.bind_some, Option.toList_some, Option.toList_none, List.singleton_append, List.nil_append, cond_true, cond_false]
  show am_ev env (d + 4, 244, 22, [some (.ref 156), some (.int (Int32.ofNat r)), some (.int (Int32.ofNat b)), some (.int (I 158 (64 + r))), some (.int 0), some (.int (bit1 b &&& (I 158 (64 + r) ^^^ (-1)))), none], [], am_hp I J E) = _
  rw [hst]
  refine (bk_244_22 _ _ _ _ _ _ _ _ _ _ _).trans ?_
  rw [hnz, cond_false]
  refine (inner (bit1 b)).trans ?_
  exact key n (bit1 b) _ (bt_low1 hn hb) (fun k h => h) hR.1 (by omega)
def sump (m : Nat → Int32) (w : Nat → Nat) : Nat → Nat
  | 0 => 0
  | k + 1 => sump m w k + (m (4 + w k)).toNatClampNeg
theorem pagN_rm (m : Nat → Int32) (s : Int32) (x : Nat) (hx : x < 32) (hs : bt s x = true) : ∀ M, M ≤ 32 → pagN m (s &&& (bit1 x ^^^ (-1))) M + (if x < M then (m (4 + x)).toNatClampNeg else 0) = pagN m s M := by
  intro M
  induction M with
  | zero => intro _; rfl
  | succ M ih =>
    intro hM
    have ih := ih (by omega)
    show pagN m (s &&& (bit1 x ^^^ (-1))) M + (if bt (s &&& (bit1 x ^^^ (-1))) M then (m (4 + M)).toNatClampNeg else 0) + _ = pagN m s M + (if bt s M then (m (4 + M)).toNatClampNeg else 0)
    rw [bt_and, bt_not _ _ (by omega), bt_one x M hx]
    by_cases e : M = x
    · subst e
      rw [if_neg (show ¬ M < M by omega)] at ih
      rw [decide_eq_true rfl, hs, if_pos (show M < M + 1 by omega)]
      show _ + 0 + _ = _ + (m (4 + M)).toNatClampNeg
      omega
    · rw [decide_eq_false e, Bool.not_false, Bool.and_true]
      by_cases hl : x < M
      · rw [if_pos hl] at ih; rw [if_pos (show x < M + 1 by omega)]; omega
      · rw [if_neg hl] at ih; rw [if_neg (show ¬ x < M + 1 by omega)]; omega
theorem way_sum {n : Nat} {a : Nat → Int32} {rd own N : Int32} {b : Nat} (m : Nat → Int32) (hn : n ≤ 8) (h : WH n a rd own N b) (p0 : Int32 × Int32) (hp : p0 = (N &&& (own ^^^ (-1)), rd ||| own)) : ∀ k, k ≤ cn n p0.1 → pagN m (wss a n p0 k).1 n + sump m (fun i => wx a n (wss a n p0 i)) k = pagN m p0.1 n := by
  intro k
  induction k with
  | zero => intro _; rfl
  | succ k ih =>
    intro hk
    have ih := ih (by omega)
    obtain ⟨i1, i2, i3⟩ := wss_P hn h p0 hp k (by omega)
    obtain ⟨s1, s2, s3, s4, s5, s6⟩ := WI_step hn h i1 (i3 (by omega))
    have := pagN_rm m (wss a n p0 k).1 (wx a n (wss a n p0 k)) (by omega) ((av_iff a _ _).mp s2).1 n (by omega)
    rw [if_pos s1] at this
    show pagN m ((wss a n p0 k).1 &&& (bit1 (wx a n (wss a n p0 k)) ^^^ (-1))) n + (sump m (fun i => wx a n (wss a n p0 i)) k + (m (4 + wx a n (wss a n p0 k))).toNatClampNeg) = _
    omega
theorem pagN_zero (m : Nat → Int32) (M : Nat) : pagN m 0 M = 0 := by
  induction M with
  | zero => rfl
  | succ M ih => show pagN m 0 M + (if bt 0 M then _ else 0) = 0; rw [ih, bt_zero]; rfl
theorem way_sum_end {n : Nat} {a : Nat → Int32} {rd own N : Int32} {b : Nat} (m : Nat → Int32) (hn : n ≤ 8) (h : WH n a rd own N b) (p0 : Int32 × Int32) (hp : p0 = (N &&& (own ^^^ (-1)), rd ||| own)) : sump m (fun i => wx a n (wss a n p0 i)) (cn n p0.1) = pagN m p0.1 n := by
  have := way_sum m hn h p0 hp (cn n p0.1) (Nat.le_refl _)
  rw [wss_end hn h p0 hp, pagN_zero] at this
  omega
theorem c_pagesOf (env : am_E) (d : Nat) (n x : Nat) (hn : n ≤ 8) (hx : x < n) (I : Nat → Nat → Int32) (J : Nat → Nat → Int64) (E : Nat → Nat → Nat) (h0 : I 5 0 = Int32.ofNat n) : am_ev env (d + 2, 16, 0, [some (.ref 5), some (.int (Int32.ofNat x))], [], am_hp I J E) = some (true, some (.int (I 7 x)), am_hp I J E) := by
  simp (disch := omega) only [bk_16_0, bk_16_5, bk_16_18, lb_d, lb_b, lb_6, lb_d7, lb_b7, lb_l7, Bool.and_true, Bool.and_self, decide_true, decide_false, Bool.not_true, Bool.not_false, am_cont, Option.bind_some, Option.toList_some, Option.toList_none, List.singleton_append, List.nil_append, cond_true, cond_false, c_hasBook env _ (Int32.ofNat x) I J E n hn h0, zI_in, bi_t, zq_1_0, zI_nat]
def MWp (I : Nat → Nat → Int32) (f : Nat → Int32) (k : Nat) : Nat → Nat → Int32 := am_ur (am_ur I 156 (ru (I 156) 26 (Int32.ofNat k))) 167 (cpr (I 167) 0 k f)
theorem MWp_26 (I : Nat → Nat → Int32) (f : Nat → Int32) (k : Nat) : MWp I f k 156 26 = Int32.ofNat k := by unfold MWp; rw [ur_ne _ _ _ _ (by omega), ur_at, ru_eq]
theorem MWp_156 (I : Nat → Nat → Int32) (f : Nat → Int32) (k j : Nat) (h : j ≠ 26) : MWp I f k 156 j = I 156 j := by unfold MWp; rw [ur_ne _ _ _ _ (by omega), ur_at, ru_ne _ _ _ _ h]
theorem MWp_q (I : Nat → Nat → Int32) (f : Nat → Int32) (k q : Nat) (h : q ≠ 156 ∧ q ≠ 167) : MWp I f k q = I q := by unfold MWp; rw [ur_ne _ _ _ _ h.2, ur_ne _ _ _ _ h.1]
theorem MWp_set (I : Nat → Nat → Int32) (f : Nat → Int32) (k : Nat) : am_u (am_u (MWp I f k) 167 k (f k)) 156 26 (Int32.ofNat (k + 1)) = MWp I f (k + 1) := by
  have hcs := cpr_succ (I 167) 0 k f
  rw [Nat.zero_add] at hcs
  unfold MWp
  rw [am_u_r, am_u_r, ur_at, ur_ur, hcs, ur_ne _ 167 _ 156 (by omega), ur_at, ru_ru, ur_comm _ 167 156 _ _ (by omega), ur_ur]
theorem m_wayfind (env : am_E) (d : Nat) (n : Nat) (hn : n ≤ 8) (a : Nat → Int32) (p : Int32 × Int32) (x : Nat) (hx : x < n) (h1 : av a p x = true) (h2 : ∀ y, y < x → av a p y = false) (r b own pg : Int32) (I : Nat → Nat → Int32) (J : Nat → Nat → Int64) (E : Nat → Nat → Nat) (hA : ∀ y, y < n → aft (I 158) y = a y) : am_ev env (d + 4, 246, 170, [some (.ref 156), some (.int r), some (.int b), some (.int p.1), some (.int own), some (.int pg), some (.int p.2), some (.int 0)], [], am_hp I J E) = am_ev env (d + 4, 246, 190, [some (.ref 156), some (.int r), some (.int b), some (.int p.1), some (.int own), some (.int pg), some (.int p.2), some (.int (Int32.ofNat x))], [.int 1], am_hp I J E) := by
  have key : ∀ j i, i + j = x → am_ev env (d + 4, 246, 170, [some (.ref 156), some (.int r), some (.int b), some (.int p.1), some (.int own), some (.int pg), some (.int p.2), some (.int (Int32.ofNat i))], [], am_hp I J E) = am_ev env (d + 4, 246, 190, [some (.ref 156), some (.int r), some (.int b), some (.int p.1), some (.int own), some (.int pg), some (.int p.2), some (.int (Int32.ofNat x))], [.int 1], am_hp I J E) := by
    intro j
    induction j with
    | zero =>
      intro i hi
      have : i = x := by omega
      subst this
      unfold av at h1
      obtain ⟨q1, q2⟩ := and_f h1
      have ha := hA i hx
      refine (bk_246_170 _ _ _ _ _ _ _ _ _ _ _ _).trans ?_
      simp (disch := omega) only [decide_true, decide_false, Bool.not_true, Bool.not_false, am_cont, Option.bind_some, Option.toList_some, Option.toList_none, List.singleton_append, List.nil_append, cond_true, cond_false, m_has, q1, bk_246_176, bi_eq0, m_afters, ha, bk_246_185, m_isWithin, q2]
      rfl
    | succ j ih =>
      intro i hi
      have h3 := h2 i (by omega)
      have ha := hA i (by omega)
      unfold av at h3
      refine (bk_246_170 _ _ _ _ _ _ _ _ _ _ _ _).trans ?_
      simp (disch := omega) only [decide_true, decide_false, Bool.not_true, Bool.not_false, am_cont, Option.bind_some, Option.toList_some, Option.toList_none, List.singleton_append, List.nil_append, cond_true, cond_false, m_has, bk_246_176, bi_eq0]
      cases hq1 : bt p.1 i with
      | false => simp only [decide_true, decide_false, Bool.not_true, Bool.not_false, am_cont, Option.bind_some, Option.toList_some, Option.toList_none, List.singleton_append, List.nil_append, cond_true, cond_false, bk_246_193, zd_1]; exact ih (i + 1) (by omega)
      | true =>
        rw [hq1, Bool.true_and] at h3
        simp (disch := omega) only [decide_true, decide_false, Bool.not_true, Bool.not_false, am_cont, Option.bind_some, Option.toList_some, Option.toList_none, List.singleton_append, List.nil_append, cond_true, cond_false, m_afters, ha, bk_246_185, m_isWithin, h3]
        refine (bk_246_190 _ _ _ _ _ _ _ _ _ _ _ _ _).trans ?_
        rw [show decide (bi false = 0) = true by decide]
        simp only [decide_true, decide_false, Bool.not_true, Bool.not_false, am_cont, Option.bind_some, Option.toList_some, Option.toList_none, List.singleton_append, List.nil_append, cond_true, cond_false, bk_246_193, zd_1]; exact ih (i + 1) (by omega)
  exact key x 0 (by omega)
theorem m_wayloop (env : am_E) (d : Nat) (n r : Nat) (hn : n ≤ 8) (hr : r < 6) (a : Nat → Int32) (rd own N : Int32) (b o hs : Nat) (ho1 : o ≤ 1) (hW : WH n a rd own N b) (p0 : Int32 × Int32) (hp0 : p0 = (N &&& (own ^^^ (-1)), rd ||| own)) (hK : o + cn n p0.1 ≤ 8) (x2 pg : Int32) (I : Nat → Nat → Int32) (J : Nat → Nat → Int64) (E : Nat → Nat → Nat) (hA : ∀ y, y < n → aft (I 158) y = a y) (pace : Nat) (hpa : I 158 (28 + r) = Int32.ofNat pace) (hp1 : 1 ≤ pace ∧ pace ≤ 30) : ∀ j k (oo : Option Value), k + j = cn n p0.1 → am_ev env (d + 4, 246, 163, [some (.ref 156), some (.int (Int32.ofNat r)), some (.int x2), some (.int (wss a n p0 k).1), some (.int own), some (.int pg), some (.int (wss a n p0 k).2), oo], [], am_hp (MWp I (fun i => Int32.ofNat (wr a n p0 o hs i)) (o + k)) J E) = some (true, some (.int ((pg + Int32.ofNat pace - 1) / Int32.ofNat pace)), am_hp (MWp I (fun i => Int32.ofNat (wr a n p0 o hs i)) (o + cn n p0.1)) J E) := by
  have k158 : ∀ k, MWp I (fun i => Int32.ofNat (wr a n p0 o hs i)) k 158 = I 158 := fun k => MWp_q I _ k 158 (by omega)
  intro j
  induction j with
  | zero =>
    intro k oo hk
    have hend := wss_end hn hW p0 hp0
    rw [show k = cn n p0.1 by omega, hend]
    refine (bk_246_163 _ _ _ _ _ _ _ _ _ _ _ _).trans ?_
    have gz : decide (Int32.ofNat pace = 0) = false := (zdq0 pace (by omega)).trans (decide_eq_false (by omega))
    simp (disch := omega) only [zq_0_0, decide_true, decide_false, Bool.not_true, Bool.not_false, am_cont, Option.bind_some, Option.toList_some, Option.toList_none, List.singleton_append, List.nil_append, cond_true, cond_false, zc_72, zc_46, zc_52, zc_38, zc_58, zc_64, zc_28, zc_20, zc_34, zc_4, zc_8, zc_50, zc_48, zc_12, zc_96, zd_1, zd_2, zd_3, zd_8, zd_36, zd_20, zI_in, zI_nat, k158, hpa, gz]
  | succ j ih =>
    intro k oo hk
    obtain ⟨i1, i2, i3⟩ := wss_P hn hW p0 hp0 k (by omega)
    obtain ⟨s1, s2, s3, s4, s5, s6⟩ := WI_step hn hW i1 (i3 (by omega))
    refine (bk_246_163 _ _ _ _ _ _ _ _ _ _ _ _).trans ?_
    rw [decide_eq_false (i3 (by omega)), cond_false]
    have hf := m_wayfind env d n hn a (wss a n p0 k) (wx a n (wss a n p0 k)) s1 s2 s3 (Int32.ofNat r) x2 own pg (MWp I (fun i => Int32.ofNat (wr a n p0 o hs i)) (o + k)) J E (fun y hy => by rw [k158]; exact hA y hy)
    refine Eq.trans hf ?_
    refine (bk_246_190 _ _ _ _ _ _ _ _ _ _ _ _ _).trans ?_
    have hms := MWp_set I (fun i => Int32.ofNat (wr a n p0 o hs i)) (o + k)
    simp only [wr_o a n p0 o hs k ho1] at hms
    simp (disch := omega) only [zq_1_0, decide_true, decide_false, Bool.not_true, Bool.not_false, am_cont, Option.bind_some, Option.toList_some, Option.toList_none, List.singleton_append, List.nil_append, cond_true, cond_false, MWp_26, zI_in, zI_nat, am_u_nr, zd_1, hms]
    exact ih (k + 1) _ (by omega)
