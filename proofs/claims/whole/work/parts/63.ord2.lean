/-! the reference's closures, rings, depth -/
def pas (a : Nat → Int32) (s : Int32) (n : Nat) : Int32 := lp (fun x t => if bt s x then t ||| a x else t) n s
theorem pas_bs (a : Nat → Int32) (s : Int32) (n : Nat) : bs s (pas a s n) := by
  induction n with
  | zero => exact fun k h => h
  | succ n ih =>
    show bs s (if bt s n then pas a s n ||| a n else pas a s n)
    split
    · exact fun k h => bs_or_l _ _ k (ih k h)
    · exact ih
theorem pas_min (a : Nat → Int32) (s T : Int32) (n : Nat) (h : bs s T) (hT : ∀ x, x < n → bt T x = true → bs (a x) T) : bs (pas a s n) T := by
  induction n with
  | zero => exact h
  | succ n ih =>
    have ih := ih (fun x hx => hT x (by omega))
    show bs (if bt s n then pas a s n ||| a n else pas a s n) T
    split
    · rename_i hb; exact bs_or ih (hT n (by omega) (h n hb))
    · exact ih
theorem pas_has (a : Nat → Int32) (s : Int32) (n x : Nat) (hx : x < n) (hb : bt s x = true) : bs (a x) (pas a s n) := by
  induction n with
  | zero => omega
  | succ n ih =>
    show bs (a x) (if bt s n then pas a s n ||| a n else pas a s n)
    by_cases e : x = n
    · subst e; rw [if_pos hb]; exact bs_or_r _ _
    · have := ih (by omega)
      split
      · exact fun k h => bs_or_l _ _ k (this k h)
      · exact this
theorem pas_low (a : Nat → Int32) (s : Int32) (n N : Nat) (hs : lowb N s) (ha : ∀ x, x < n → lowb N (a x)) : lowb N (pas a s n) := by
  induction n with
  | zero => exact hs
  | succ n ih =>
    have ih := ih (fun x hx => ha x (by omega))
    show lowb N (if bt s n then pas a s n ||| a n else pas a s n)
    split
    · intro k hk
      rw [bt_or] at hk
      cases h1 : bt (pas a s n) k with
      | true => exact ih k h1
      | false => rw [h1] at hk; exact ha n (by omega) k hk
    · exact ih
theorem aw_zero (a : Nat → Int32) : aw a 0 = a := by
  funext x; unfold aw; rw [bt_zero]; rfl
theorem m_aheadOf (env : am_E) (d : Nat) (n b : Nat) (f : Int32) (hn : n ≤ 8) (hb : b < n) (I : Nat → Nat → Int32) (J : Nat → Nat → Int64) (E : Nat → Nat → Nat) (h0 : I 158 0 = Int32.ofNat n) (ha : lowa n (aft (I 158))) : am_ev env (d + 4, 221, 0, [some (.ref 156), some (.int (Int32.ofNat b)), some (.int f), none, none, none], [], am_hp I J E) = some (true, some (.int (rq n (aw (aft (I 158)) f) b)), am_hp I J E) := by
  generalize hA : aft (I 158) = a at ha
  have hw : lowa n (aw a f) := aw_low ha f
  have hR := rq_rch hw hb
  have hRl := rq_low (by omega) hw hb
  generalize rq n (aw a f) b = R at hR hRl
  have inner : ∀ (s : Int32), am_ev env (d + 4, 221, 33, [some (.ref 156), some (.int (Int32.ofNat b)), some (.int f), some (.int s), some (.int s), some (.int (Int32.ofNat 0))], [], am_hp I J E) = am_ev env (d + 4, 221, 21, [some (.ref 156), some (.int (Int32.ofNat b)), some (.int f), some (.int s), some (.int (pas (aw a f) s n)), some (.int (Int32.ofNat n))], [], am_hp I J E) := by
    intro s
    have hr := lp_run (fun x (t : Int32) => am_ev env (d + 4, 221, 33, [some (.ref 156), some (.int (Int32.ofNat b)), some (.int f), some (.int s), some (.int t), some (.int (Int32.ofNat x))], [], am_hp I J E)) (fun x t => if bt s x then t ||| aw a f x else t) (fun _ _ => True) n (fun x t hx _ => by
      refine ⟨?_, trivial⟩
      refine (bk_221_33 _ _ _ _ _ _ _ _ _ _).trans ?_
      rw [h0, zle_f n x hx (by omega)]
      simp (disch := omega) only [decide_true, decide_false, Bool.not_true, Bool.not_false, am_cont, Option.bind_some, Option.toList_some, Option.toList_none, List.singleton_append, List.nil_append, cond_true, cond_false, m_has, bk_221_50, bk_221_59, bi_eq0]
      unfold aw
      by_cases h1 : bt s x = true
      · rw [h1, if_pos rfl]
        by_cases h2 : bt f x = true
        · rw [h2, if_pos rfl]; simp only [decide_true, decide_false, Bool.not_true, Bool.not_false, am_cont, Option.bind_some, Option.toList_some, Option.toList_none, List.singleton_append, List.nil_append, cond_true, cond_false, bk_221_73, zd_1, Int32.or_zero]
        · rw [Bool.not_eq_true] at h2; rw [h2, if_neg (by simp)]
          simp (disch := omega) only [decide_true, decide_false, Bool.not_true, Bool.not_false, am_cont, Option.bind_some, Option.toList_some, Option.toList_none, List.singleton_append, List.nil_append, cond_true, cond_false, m_afters, hA, bk_221_70, bk_221_73, zd_1]
      · rw [Bool.not_eq_true] at h1; rw [h1, if_neg (by simp)]; simp only [decide_true, decide_false, Bool.not_true, Bool.not_false, am_cont, Option.bind_some, Option.toList_some, Option.toList_none, List.singleton_append, List.nil_append, cond_true, cond_false, bk_221_73, zd_1]) s trivial n (Nat.le_refl _)
    refine Eq.trans hr.1 ?_
    refine (bk_221_33 _ _ _ _ _ _ _ _ _ _).trans ?_
    rw [h0, zle_t n n (Nat.le_refl _) (by omega)]
    rfl
  have key : ∀ N s (o : Option Value), lowb n s → bs (aw a f b) s → bs s R → n - cn n s ≤ N → am_ev env (d + 4, 221, 21, [some (.ref 156), some (.int (Int32.ofNat b)), some (.int f), some (.int s), some (.int (pas (aw a f) s n)), o], [], am_hp I J E) = some (true, some (.int R), am_hp I J E) := by
    intro N
    induction N with
    | zero =>
      intro s o h1 h2 h3 h4
      refine (bk_221_21 _ _ _ _ _ _ _ _ _ _).trans ?_
      by_cases he : pas (aw a f) s n = s
      · rw [decide_eq_true he]
        have : s = R := bs_anti h3 (hR.2.2 s h2 (fun x hx hb => by have := pas_has (aw a f) s n x hx hb; rw [he] at this; exact this))
        rw [this]; rfl
      · exfalso
        obtain ⟨x, hx, e1, e2⟩ := ne_bit (pas_bs (aw a f) s n) (pas_low _ _ _ _ h1 hw) (fun e => he e.symm)
        have := cn_lt n (fun j _ h => pas_bs (aw a f) s n j h) x hx e1 e2
        have := cn_le n (pas (aw a f) s n)
        omega
    | succ N ih =>
      intro s o h1 h2 h3 h4
      refine (bk_221_21 _ _ _ _ _ _ _ _ _ _).trans ?_
      by_cases he : pas (aw a f) s n = s
      · rw [decide_eq_true he]
        have : s = R := bs_anti h3 (hR.2.2 s h2 (fun x hx hb => by have := pas_has (aw a f) s n x hx hb; rw [he] at this; exact this))
        rw [this]; rfl
      · rw [decide_eq_false he]
        obtain ⟨x, hx, e1, e2⟩ := ne_bit (pas_bs (aw a f) s n) (pas_low _ _ _ _ h1 hw) (fun e => he e.symm)
        have := cn_lt n (fun j _ h => pas_bs (aw a f) s n j h) x hx e1 e2
        refine (inner (pas (aw a f) s n)).trans ?_
        exact ih _ _ (pas_low _ _ _ _ h1 hw) (fun j h => pas_bs (aw a f) s n j (h2 j h)) (pas_min _ _ _ _ h3 hR.2.1) (by omega)
  have start : am_ev env (d + 4, 221, 19, [some (.ref 156), some (.int (Int32.ofNat b)), some (.int f), some (.int 0), none, none], [.int (aw a f b)], am_hp I J E) = some (true, some (.int R), am_hp I J E) := by
    refine (bk_221_19 _ _ _ _ _ _ _ _ _).trans ?_
    refine (bk_221_21 _ _ _ _ _ _ _ _ _ _).trans ?_
    by_cases he : aw a f b = 0
    · rw [decide_eq_true he]
      have : (0 : Int32) = R := bs_anti (bs_zero R) (hR.2.2 0 (by rw [he]; exact fun k h => h) (fun x hx hb => by rw [bt_zero] at hb; cases hb))
      rw [← this]; rfl
    · rw [decide_eq_false he]
      refine (inner (aw a f b)).trans ?_
      exact key n _ _ (hw b hb) (fun k h => h) hR.1 (by omega)
  simp (disch := omega) only [bk_221_0, bk_221_7, decide_true, decide_false, Bool.not_true, Bool.not_false, am_cont, Option.bind_some, Option.toList_some, Option.toList_none, List.singleton_append, List.nil_append, cond_true, cond_false, m_has, bi_eq0]
  unfold aw at start
  by_cases h2 : bt f b = true
  · rw [h2]
    rw [h2, if_pos rfl] at start
    simp only [decide_true, decide_false, Bool.not_true, Bool.not_false, am_cont, Option.bind_some, Option.toList_some, Option.toList_none, List.singleton_append, List.nil_append, cond_true, cond_false]; exact start
  · rw [Bool.not_eq_true] at h2
    rw [h2]
    rw [h2, if_neg (by simp)] at start
    simp (disch := omega) only [decide_true, decide_false, Bool.not_true, Bool.not_false, am_cont, Option.bind_some, Option.toList_some, Option.toList_none, List.singleton_append, List.nil_append, cond_true, cond_false, m_afters, hA]; exact start
theorem m_ringed (env : am_E) (d : Nat) (n : Nat) (f : Int32) (hn : n ≤ 8) (I : Nat → Nat → Int32) (J : Nat → Nat → Int64) (E : Nat → Nat → Nat) (h0 : I 158 0 = Int32.ofNat n) (ha : lowa n (aft (I 158))) : am_ev env (d + 5, 222, 0, [some (.ref 156), some (.int f), none, none], [], am_hp I J E) = some (true, some (.int (accO (fun b => bt (rq n (aw (aft (I 158)) f) b) b) n)), am_hp I J E) := by
  refine (bk_222_0 _ _ _ _ _ _).trans ?_
  have hr := lp_run (fun b (o : Int32) => am_ev env (d + 5, 222, 4, [some (.ref 156), some (.int f), some (.int o), some (.int (Int32.ofNat b))], [], am_hp I J E)) (fun b o => bif bt (rq n (aw (aft (I 158)) f) b) b then o ||| bit1 b else o) (fun _ _ => True) n (fun b o hb _ => by
    refine ⟨?_, trivial⟩
    refine (bk_222_4 _ _ _ _ _ _ _ _).trans ?_
    rw [h0, zle_f n b hb (by omega)]
    simp (disch := omega) only [decide_true, decide_false, Bool.not_true, Bool.not_false, am_cont, Option.bind_some, Option.toList_some, Option.toList_none, List.singleton_append, List.nil_append, cond_true, cond_false, m_aheadOf env d n b f hn hb I J E h0 ha, bk_222_20, m_has, bk_222_24, bi_eq0]
    cases bt (rq n (aw (aft (I 158)) f) b) b <;> simp only [decide_true, decide_false, Bool.not_true, Bool.not_false, am_cont, Option.bind_some, Option.toList_some, Option.toList_none, List.singleton_append, List.nil_append, cond_true, cond_false, bk_222_33, zd_1]) 0 trivial n (Nat.le_refl _)
  refine Eq.trans hr.1 ?_
  refine (bk_222_4 _ _ _ _ _ _ _ _).trans ?_
  rw [h0, zle_t n n (Nat.le_refl _) (by omega)]
  rfl
theorem accO_bt (P : Nat → Bool) (N : Nat) (hN : N ≤ 32) (k : Nat) : bt (accO P N) k = true ↔ (k < N ∧ P k = true) := by
  induction N with
  | zero =>
    show bt 0 k = true ↔ _
    rw [bt_zero]
    exact ⟨fun h => (by cases h), fun h => (by omega)⟩
  | succ N ih =>
    have ih := ih (by omega)
    show bt (bif P N then accO P N ||| bit1 N else accO P N) k = true ↔ _
    cases hP : P N with
    | true =>
      show bt (accO P N ||| bit1 N) k = true ↔ _
      rw [bt_or, bt_one N k (by omega), Bool.or_eq_true, ih]
      constructor
      · rintro (h | h)
        · exact ⟨by omega, h.2⟩
        · have := of_decide_eq_true h; subst this; exact ⟨by omega, hP⟩
      · rintro ⟨h1, h2⟩
        by_cases e : k = N
        · right; exact decide_eq_true e
        · left; exact ⟨by omega, h2⟩
    | false =>
      show bt (accO P N) k = true ↔ _
      rw [ih]
      constructor
      · exact fun h => ⟨by omega, h.2⟩
      · rintro ⟨h1, h2⟩
        by_cases e : k = N
        · subst e; rw [hP] at h2; cases h2
        · exact ⟨by omega, h2⟩
/-- one pass in place, and whether it did anything -/
def ipf (a : Nat → Int32) (b : Nat) (x : Int32 × Bool) : Int32 × Bool := if bt x.1 b = false ∧ (a b &&& (x.1 ^^^ (-1)) = 0) then (x.1 ||| bit1 b, true) else x
theorem ipf_P (a : Nat → Int32) (n : Nat) (hn : n ≤ 31) (s : Int32) (hs : lowb n s) : ∀ N, N ≤ n → bs s (lp (ipf a) N (s, false)).1 ∧ lowb n (lp (ipf a) N (s, false)).1 ∧ (∀ T, bs s T → (∀ b, b < n → bs (a b) T → bt T b = true) → bs (lp (ipf a) N (s, false)).1 T) ∧ ((lp (ipf a) N (s, false)).2 = false → (lp (ipf a) N (s, false)).1 = s ∧ ∀ b, b < N → bs (a b) s → bt s b = true) ∧ ((lp (ipf a) N (s, false)).2 = true → cn n s < cn n (lp (ipf a) N (s, false)).1) := by
  intro N
  induction N with
  | zero => intro _; exact ⟨fun k h => h, hs, fun T h _ => h, fun _ => ⟨rfl, fun b hb => by omega⟩, fun h => by cases h⟩
  | succ N ih =>
    intro hN
    obtain ⟨i1, i2, i3, i4, i5⟩ := ih (by omega)
    show bs s (ipf a N (lp (ipf a) N (s, false))).1 ∧ lowb n (ipf a N (lp (ipf a) N (s, false))).1 ∧ (∀ T, bs s T → (∀ b, b < n → bs (a b) T → bt T b = true) → bs (ipf a N (lp (ipf a) N (s, false))).1 T) ∧ ((ipf a N (lp (ipf a) N (s, false))).2 = false → (ipf a N (lp (ipf a) N (s, false))).1 = s ∧ ∀ b, b < N + 1 → bs (a b) s → bt s b = true) ∧ ((ipf a N (lp (ipf a) N (s, false))).2 = true → cn n s < cn n (ipf a N (lp (ipf a) N (s, false))).1)
    generalize lp (ipf a) N (s, false) = x at i1 i2 i3 i4 i5
    unfold ipf
    by_cases hc : bt x.1 N = false ∧ (a N &&& (x.1 ^^^ (-1)) = 0)
    · rw [if_pos hc]
      have hsub : bs (a N) x.1 := by have := hc.2; rw [bt_sub] at this; exact this
      have hone : bt (x.1 ||| bit1 N) N = true := by rw [bt_or, bt_one N N (by omega), decide_eq_true rfl, Bool.or_true]
      refine ⟨fun k h => bs_or_l _ _ k (i1 k h), ?_, ?_, fun h => (by cases h), ?_⟩
      · intro k hk
        rw [bt_or, bt_one N k (by omega)] at hk
        cases h1 : bt x.1 k with
        | true => exact i2 k h1
        | false => rw [h1, Bool.false_or] at hk; have := of_decide_eq_true hk; omega
      · intro T h1 h2
        have h3 := i3 T h1 h2
        refine bs_or h3 (fun k hk => ?_)
        rw [bt_one N k (by omega)] at hk
        have := of_decide_eq_true hk
        subst this
        exact h2 k (by omega) (fun j hj => h3 j (hsub j hj))
      · intro _
        have h1 : cn n s ≤ cn n x.1 := cn_mono n (fun k _ hk => i1 k hk)
        have h2 := cn_lt n (s := x.1) (t := x.1 ||| bit1 N) (fun k _ hk => bs_or_l _ _ k hk) N (by omega) hc.1 hone
        show cn n s < cn n (x.1 ||| bit1 N)
        omega
    · rw [if_neg hc]
      refine ⟨i1, i2, i3, fun h => ?_, i5⟩
      obtain ⟨j1, j2⟩ := i4 h
      refine ⟨j1, fun b hb hsub => ?_⟩
      by_cases e : b = N
      · subst e
        cases hz : bt s b with
        | true => rfl
        | false =>
          exfalso
          apply hc
          rw [j1]
          exact ⟨hz, by rw [bt_sub]; exact hsub⟩
      · exact j2 b (by omega) hsub
theorem bi_true : bi true = 1 := rfl
theorem m_everOf (env : am_E) (d : Nat) (n r : Nat) (hn : n ≤ 8) (hr : r < 6) (I : Nat → Nat → Int32) (J : Nat → Nat → Int64) (E : Nat → Nat → Nat) (h0 : I 158 0 = Int32.ofNat n) (hl : lowb n (roh (I 158) r)) : am_ev env (d + 4, 217, 0, [some (.ref 156), some (.int (Int32.ofNat r)), none, none, none], [], am_hp I J E) = some (true, some (.int (grs (aft (I 158)) n n (roh (I 158) r))), am_hp I J E) := by
  generalize hA : aft (I 158) = a
  have hG := grs_grw a n (by omega) (roh (I 158) r) hl
  have hpass : ∀ (s : Int32) (o : Option Value), am_ev env (d + 4, 217, 34, [some (.ref 156), some (.int (Int32.ofNat r)), some (.int s), some (.int 1), o], [], am_hp I J E) = am_ev env (d + 4, 217, 34, [some (.ref 156), some (.int (Int32.ofNat r)), some (.int ((lp (ipf a) n (s, false)).1)), some (.int (bi (lp (ipf a) n (s, false)).2)), some (.int (Int32.ofNat n))], [], am_hp I J E) := by
    intro s o
    refine (bk_217_34 _ _ _ _ _ _ _ _ _).trans ?_
    rw [zq_1_0, cond_false]
    have hr := lp_run (fun b (x : Int32 × Bool) => am_ev env (d + 4, 217, 43, [some (.ref 156), some (.int (Int32.ofNat r)), some (.int x.1), some (.int (bi x.2)), some (.int (Int32.ofNat b))], [], am_hp I J E)) (fun b x => ipf a b x) (fun _ _ => True) n (fun b x hb _ => by
      refine ⟨?_, trivial⟩
      refine (bk_217_43 _ _ _ _ _ _ _ _ _).trans ?_
      rw [h0, zle_f n b hb (by omega)]
      simp (disch := omega) only [decide_true, decide_false, Bool.not_true, Bool.not_false, am_cont, Option.bind_some, Option.toList_some, Option.toList_none, List.singleton_append, List.nil_append, cond_true, cond_false, m_has, bk_217_60, m_afters, hA, bk_217_69, m_isWithin, bk_217_73, bi_eq0]
      unfold ipf
      by_cases h1 : bt x.1 b = true
      · rw [h1, if_neg (by simp)]; simp only [decide_true, decide_false, Bool.not_true, Bool.not_false, am_cont, Option.bind_some, Option.toList_some, Option.toList_none, List.singleton_append, List.nil_append, cond_true, cond_false, bk_217_88, zd_1]
      · rw [Bool.not_eq_true] at h1; rw [h1]
        by_cases h2 : a b &&& (x.1 ^^^ (-1)) = 0
        · rw [decide_eq_true h2, if_pos ⟨rfl, h2⟩]; simp only [decide_true, decide_false, Bool.not_true, Bool.not_false, am_cont, Option.bind_some, Option.toList_some, Option.toList_none, List.singleton_append, List.nil_append, cond_true, cond_false, bk_217_88, zd_1]; rfl
        · rw [decide_eq_false h2, if_neg (fun h => h2 h.2)]; simp only [decide_true, decide_false, Bool.not_true, Bool.not_false, am_cont, Option.bind_some, Option.toList_some, Option.toList_none, List.singleton_append, List.nil_append, cond_true, cond_false, bk_217_88, zd_1]) (s, false) trivial n (Nat.le_refl _)
    refine Eq.trans hr.1 ?_
    refine (bk_217_43 _ _ _ _ _ _ _ _ _).trans ?_
    rw [h0, zle_t n n (Nat.le_refl _) (by omega)]
    rfl
  have key : ∀ N s (o : Option Value), lowb n s → bs (roh (I 158) r) s → bs s (grs a n n (roh (I 158) r)) → n - cn n s ≤ N → am_ev env (d + 4, 217, 34, [some (.ref 156), some (.int (Int32.ofNat r)), some (.int s), some (.int 1), o], [], am_hp I J E) = some (true, some (.int (grs a n n (roh (I 158) r))), am_hp I J E) := by
    intro N
    induction N with
    | zero =>
      intro s o h1 h2 h3 h4
      obtain ⟨i1, i2, i3, i4, i5⟩ := ipf_P a n (by omega) s h1 n (Nat.le_refl _)
      refine (hpass s o).trans ?_
      generalize lp (ipf a) n (s, false) = x at i1 i2 i3 i4 i5
      cases hx : x.2 with
      | true => have := i5 hx; have := cn_le n x.1; omega
      | false =>
        obtain ⟨j1, j2⟩ := i4 hx
        refine (bk_217_34 _ _ _ _ _ _ _ _ _).trans ?_
        rw [j1, show s = grs a n n (roh (I 158) r) from bs_anti h3 (hG.2.2 s h2 j2)]
        rfl
    | succ N ih =>
      intro s o h1 h2 h3 h4
      obtain ⟨i1, i2, i3, i4, i5⟩ := ipf_P a n (by omega) s h1 n (Nat.le_refl _)
      refine (hpass s o).trans ?_
      generalize lp (ipf a) n (s, false) = x at i1 i2 i3 i4 i5
      cases hx : x.2 with
      | true =>
        have := i5 hx
        exact ih x.1 _ i2 (fun k h => i1 k (h2 k h)) (i3 _ h3 hG.2.1) (by omega)
      | false =>
        obtain ⟨j1, j2⟩ := i4 hx
        refine (bk_217_34 _ _ _ _ _ _ _ _ _).trans ?_
        rw [j1, show s = grs a n n (roh (I 158) r) from bs_anti h3 (hG.2.2 s h2 j2)]
        rfl
  have fin := key n (roh (I 158) r) none hl (fun k h => h) hG.1 (by omega)
  simp (disch := omega) only [bk_217_0, bk_217_15, decide_true, decide_false, Bool.not_true, Bool.not_false, am_cont, Option.bind_some, Option.toList_some, Option.toList_none, List.singleton_append, List.nil_append, cond_true, cond_false, zc_72, zc_46, zc_52, zc_38, zc_58, zc_64, zc_28, zc_20, zc_34, zc_4, zc_8, zc_50, zc_48, zc_12, zc_96, zd_1, zd_2, zd_3, zd_8, zd_36, zd_20, zI_in, zI_nat, m_isIdle, bi_eq0, bk_217_32]
  unfold roh at fin ⊢
  cases hd : decide (I 158 (46 + r) = -1)
  · rw [hd] at fin
    simp only [decide_true, decide_false, Bool.not_true, Bool.not_false, am_cont, Option.bind_some, Option.toList_some, Option.toList_none, List.singleton_append, List.nil_append, cond_true, cond_false, bk_217_32] at fin ⊢
    exact fin
  · rw [hd] at fin
    simp only [decide_true, decide_false, Bool.not_true, Bool.not_false, am_cont, Option.bind_some, Option.toList_some, Option.toList_none, List.singleton_append, List.nil_append, cond_true, cond_false, bk_217_32] at fin ⊢
    exact fin
