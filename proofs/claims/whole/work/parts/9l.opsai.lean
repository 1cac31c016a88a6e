/-! said: class and reference side by side -/
def sd (g : Nat → Bool) (x : Int32) (e : Nat → Int32) : Nat → Nat → Nat → Int32
  | 0, cnt, _ => e cnt
  | j + 1, cnt, r => bif g r then (bif decide (Int32.ofNat cnt = x) then Int32.ofNat r else sd g x e j (cnt + 1) (r + 1)) else sd g x e j cnt (r + 1)
def ct (g : Nat → Bool) : Nat → Nat
  | 0 => 0
  | k + 1 => ct g k + (if g k = true then 1 else 0)
theorem ct_le (g : Nat → Bool) : ∀ k, ct g k ≤ k := by
  intro k
  induction k with
  | zero => exact Nat.le_refl _
  | succ k ih =>
    unfold ct
    by_cases h : g k = true
    · rw [if_pos h]; omega
    · rw [if_neg h]; omega
theorem ct_congr (g g' : Nat → Bool) : ∀ k, (∀ r, r < k → g r = g' r) → ct g k = ct g' k := by
  intro k
  induction k with
  | zero => intro _; rfl
  | succ k ih =>
    intro h
    unfold ct
    rw [ih (fun r hr => h r (by omega)), h k (by omega)]
theorem ct_more (g : Nat → Bool) (k : Nat) : ∀ j, (∀ r, k ≤ r → g r = false) → ct g (k + j) = ct g k := by
  intro j
  induction j with
  | zero => intro _; rfl
  | succ j ih =>
    intro h
    show ct g (k + j) + (if g (k + j) = true then 1 else 0) = _
    rw [h (k + j) (by omega), if_neg (by decide)]; exact ih h
theorem sd_none (g : Nat → Bool) (x : Int32) (e : Nat → Int32) (hx : ∀ c, c ≤ 6 → ¬ Int32.ofNat c = x) : ∀ j r, r + j ≤ 6 → sd g x e j (ct g r) r = e (ct g (r + j)) := by
  intro j
  induction j with
  | zero => intro r _; rfl
  | succ j ih =>
    intro r hr
    have hc := ct_le g r
    have h1 := ih (r + 1) (by omega)
    have h2 : ct g (r + 1) = ct g r + (if g r = true then 1 else 0) := rfl
    rw [h2, show r + 1 + j = r + (j + 1) by omega] at h1
    show (bif g r then (bif decide (Int32.ofNat (ct g r) = x) then Int32.ofNat r else sd g x e j (ct g r + 1) (r + 1)) else sd g x e j (ct g r) (r + 1)) = _
    rw [decide_eq_false (hx _ (by omega))]
    cases hg : g r
    · rw [hg, if_neg (by decide)] at h1; exact h1
    · rw [hg, if_pos rfl] at h1; exact h1
theorem sd_congr (g g' : Nat → Bool) (x : Int32) (e e' : Nat → Int32) (he : ∀ c, e c = e' c) (k : Nat) (hg : ∀ r, r < k → g r = g' r) : ∀ j cnt r, r + j = k → sd g x e j cnt r = sd g' x e' j cnt r := by
  intro j
  induction j with
  | zero => intro cnt r _; exact he cnt
  | succ j ih =>
    intro cnt r hr
    show (bif g r then (bif decide (Int32.ofNat cnt = x) then Int32.ofNat r else sd g x e j (cnt + 1) (r + 1)) else sd g x e j cnt (r + 1)) = (bif g' r then (bif decide (Int32.ofNat cnt = x) then Int32.ofNat r else sd g' x e' j (cnt + 1) (r + 1)) else sd g' x e' j cnt (r + 1))
    rw [hg r (by omega), ih _ _ (by omega), ih _ _ (by omega)]
theorem pc64 : ∀ x : Fin 64, pc x.1 = ct x.1.testBit 6 := by decide +kernel
theorem pc_BS {k : Nat} {g : Nat → Bool} {x : Nat} (hk : k ≤ 6) (h : BS k g x) : pc x = ct g k := by
  have p64 := p2_64 k hk
  have hx := h.1
  rw [pc64 ⟨x, by omega⟩]
  have := ct_more x.testBit k (6 - k) (fun r hr => Nat.testBit_lt_two_pow (Nat.lt_of_lt_of_le hx (Nat.pow_le_pow_right (by omega) hr)))
  rw [show k + (6 - k) = 6 by omega] at this
  exact this.trans (ct_congr _ _ k h.2)
theorem c_saidLoop (env : am_E) (d : Nat) (k x : Nat) (hk : k ≤ 6) (hx : x < 256) (a : Int32) (I : Nat → Nat → Int32) (J : Nat → Nat → Int64) (E : Nat → Nat → Nat) (h2 : I 5 2 = Int32.ofNat k) : ∀ j cnt r, r + j = k → am_ev env (d + 2, 165, 60, [some (.ref 0), some (.int a), some (.int (Int32.ofNat x)), some (.int (Int32.ofNat cnt)), some (.int (Int32.ofNat r))], [], am_hp I J E) = some (true, some (.int (sd x.testBit a (fun _ => -1) j cnt r)), am_hp I J E) := by
  intro j
  induction j with
  | zero =>
    intro cnt r hr
    refine (bk_165_60 _ _ _ _ _ _ _ _ _).trans ?_
    rw [h2, zle_t k r (by omega) (by omega)]
    rfl
  | succ j ih =>
    intro cnt r hr
    refine (bk_165_60 _ _ _ _ _ _ _ _ _).trans ?_
    rw [h2, show decide (Int32.ofNat k ≤ Int32.ofNat r) = false from zle_f k r (by omega) (by omega)]
    have h1 := ih cnt (r + 1) (by omega)
    have h3 := ih (cnt + 1) (r + 1) (by omega)
    simp only [decide_true, decide_false, Bool.not_true, Bool.not_false, am_cont, Option.bind_some, Option.toList_some, Option.toList_none, List.singleton_append, List.nil_append, cond_true, cond_false, c_isIn env d (Int32.ofNat x) r (by omega), bt_tb x r (by omega) (by omega)]
    refine (bk_165_81 _ _ _ _ _ _ _ _ _ _).trans ?_
    rw [bi_eq0]
    show _ = (some (true, some (.int (bif x.testBit r then (bif decide (Int32.ofNat cnt = a) then Int32.ofNat r else sd x.testBit a (fun _ => -1) j (cnt + 1) (r + 1)) else sd x.testBit a (fun _ => -1) j cnt (r + 1))), am_hp I J E) : Option am_R)
    cases x.testBit r
    · simp only [decide_true, decide_false, Bool.not_true, Bool.not_false, am_cont, Option.bind_some, Option.toList_some, Option.toList_none, List.singleton_append, List.nil_append, cond_true, cond_false, bk_165_95, zd_1]; exact h1
    · cases decide (Int32.ofNat cnt = a)
      · simp only [decide_true, decide_false, Bool.not_true, Bool.not_false, am_cont, Option.bind_some, Option.toList_some, Option.toList_none, List.singleton_append, List.nil_append, cond_true, cond_false, bk_165_95, zd_1]; exact h3
      · rfl
theorem m_saidLoop (env : am_E) (d : Nat) (n k : Nat) (hn : n ≤ 8) (hk : k ≤ 6) (S : Ssn) (hS : S.1 < 40) (hS1 : 1 ≤ S.1) (hw : Wf n S S.1 0 (S.1 - 1)) (a : Int32) (I : Nat → Nat → Int32) (J : Nat → Nat → Int64) (E : Nat → Nat → Nat) (h2 : I 158 2 = Int32.ofNat k) (h71 : I 158 71 = Int32.ofNat (S.1 - 1)) (hd : Nds (fun j => I 158 (72 + j)) S) : ∀ j cnt r, r + j = k → am_ev env (d + 50, 298, 21, [some (.ref 156), some (.int a), some (.int (Int32.ofNat cnt)), some (.int (Int32.ofNat r))], [], am_hp I J E) = some (true, some (.int (sd (fun r => tvl (I 158) S r S.1 (S.1 - 1)) a (fun c => bif decide (a = -1) then Int32.ofNat c else -1) j cnt r)), am_hp I J E) := by
  intro j
  induction j with
  | zero =>
    intro cnt r hr
    refine (bk_298_21 _ _ _ _ _ _ _ _).trans ?_
    rw [h2, zle_t k r (by omega) (by omega)]
    show _ = (some (true, some (.int (bif decide (a = -1) then Int32.ofNat cnt else -1)), am_hp I J E) : Option am_R)
    simp only [decide_true, decide_false, Bool.not_true, Bool.not_false, am_cont, Option.bind_some, Option.toList_some, Option.toList_none, List.singleton_append, List.nil_append, cond_true, cond_false, bk_298_75]
    cases decide (a = -1) <;> rfl
  | succ j ih =>
    intro cnt r hr
    have e297 := m_holds env n r hn (by omega) S (by omega) I J E hd S.1 0 (S.1 - 1) (d + 49) (by omega) (by omega) hw
    have h1 := ih cnt (r + 1) (by omega)
    have h3 := ih (cnt + 1) (r + 1) (by omega)
    refine (bk_298_21 _ _ _ _ _ _ _ _).trans ?_
    rw [h2, show decide (Int32.ofNat k ≤ Int32.ofNat r) = false from zle_f k r (by omega) (by omega), h71, cond_false, am_cont_some e297]
    refine (bk_298_43 _ _ _ _ _ _ _ _ _).trans ?_
    rw [bi_eq0, Bool.not_not]
    show _ = (some (true, some (.int (bif tvl (I 158) S r S.1 (S.1 - 1) then (bif decide (Int32.ofNat cnt = a) then Int32.ofNat r else sd (fun r => tvl (I 158) S r S.1 (S.1 - 1)) a (fun c => bif decide (a = -1) then Int32.ofNat c else -1) j (cnt + 1) (r + 1)) else sd (fun r => tvl (I 158) S r S.1 (S.1 - 1)) a (fun c => bif decide (a = -1) then Int32.ofNat c else -1) j cnt (r + 1))), am_hp I J E) : Option am_R)
    cases tvl (I 158) S r S.1 (S.1 - 1)
    · simp only [decide_true, decide_false, Bool.not_true, Bool.not_false, am_cont, Option.bind_some, Option.toList_some, Option.toList_none, List.singleton_append, List.nil_append, cond_true, cond_false, bk_298_59, zd_1]; exact h1
    · cases decide (Int32.ofNat cnt = a)
      · simp only [decide_true, decide_false, Bool.not_true, Bool.not_false, am_cont, Option.bind_some, Option.toList_some, Option.toList_none, List.singleton_append, List.nil_append, cond_true, cond_false, bk_298_59, zd_1]; exact h3
      · rfl
theorem lfv_agr {n k r : Nat} {m m' : Nat → Int32} (h : Agr n k m m') (hr : r < k) (hk : k ≤ 6) (w : Nat × Nat × Nat) : lfv m w r = lfv m' w r := by
  have a0 := h 0 (by unfold rel; omega)
  have a28 := h (28 + r) (by unfold rel; omega)
  have a46 := h (46 + r) (by unfold rel; omega)
  have a52 := h (52 + r) (by unfold rel; omega)
  have a58 := h (58 + r) (by unfold rel; omega)
  have a64 := h (64 + r) (by unfold rel; omega)
  unfold lfv msv
  rw [a0, a28, a46, a52, a58, a64]
theorem tvl_agr {n k r : Nat} {m m' : Nat → Int32} (h : Agr n k m m') (hr : r < k) (hk : k ≤ 6) (S : Ssn) : ∀ f i, tvl m S r f i = tvl m' S r f i := by
  intro f
  induction f with
  | zero => intro i; rfl
  | succ f ih => intro i; rw [tvl_s, tvl_s, ih, ih, lfv_agr h hr hk]
theorem z_m1le : ∀ c : Fin 8, (-1 : Int32) ≤ Int32.ofNat c.1 := by decide
def PSd (I : Nat → Nat → Int32) (J : Nat → Nat → Int64) (E : Nat → Nat → Nat) (n k : Nat) (I2 : Nat → Nat → Int32) (J2 : Nat → Nat → Int64) (E2 : Nat → Nat → Nat) : Prop := (∃ t h, R1 I2 n k t h) ∧ frX (fun _ _ => False) I I2 ∧ J2 = J ∧ E2 = E
theorem PSd_th {I I1 : Nat → Nat → Int32} {J : Nat → Nat → Int64} {E : Nat → Nat → Nat} {n k t h : Nat} (hR : R1 I n k t h) (hf : ∀ q, q ≠ 22 → I1 q = I q) : PSd I J E n k (am_u I1 156 0 0) J E := by
  refine ⟨⟨t, h, R1_ext I _ n k t h (fun q j hq => ?_) hR⟩, fun q j hq _ => ?_, rfl, rfl⟩
  · unfold KR at hq
    by_cases e : q = 156
    · subst e; rw [am_u_sg, if_neg (by omega), hf 156 (by omega)]
    · rw [am_u_ng _ _ _ _ _ e, hf q (by omega)]
  · unfold C1 at hq
    by_cases e : q = 156
    · subst e; rw [am_u_sg, if_neg (by omega), hf 156 (by omega)]
    · rw [am_u_ng _ _ _ _ _ e, hf q (by omega)]
theorem op_said (env : am_E) (d : Nat) (I : Nat → Nat → Int32) (J : Nat → Nat → Int64) (E : Nat → Nat → Nat) (n k t h : Nat) (hR : R1 I n k t h) (hS : RSe I E n) (a : Int32) : opR3 (fun H => am_ev env (d + 60, 165, 0, [some (.ref 0), some (.int a), none, none, none], [], H)) (fun H => am_ev env (d + 60, 298, 0, [some (.ref 156), some (.int a), none, none], [], H)) I J E (PSd I J E n k) := by
  obtain ⟨hn, hk, ht, hh, e1, e2, e3, f0, f2, g0, g2⟩ := R1_f I n k t h hR
  obtain ⟨r1, r2, r3, r4, r5⟩ := id hR
  obtain ⟨⟨S, hC, hM⟩, -⟩ := hS
  have start := bk_165_0 env (d + 59) a I J E
  rw [hC.1] at start
  rcases hM with ⟨s1, s2, s3⟩ | ⟨s1, s2, s3, s4, s5, s6, s7, s8⟩
  · rw [s2, show decide (Int32.ofNat 0 = (0 : Int32)) = true by decide] at start
    refine ⟨-1, I, J, E, am_u I 156 0 0, J, E, start.trans ?_, (bk_298_0 _ _ _ _ _ _).trans ?_, PSd_th hR (fun _ _ => rfl)⟩
    · simp only [decide_true, decide_false, Bool.not_true, Bool.not_false, am_cont, Option.bind_some, Option.toList_some, Option.toList_none, List.singleton_append, List.nil_append, cond_true, cond_false, bk_165_18]
    · rw [am_u_ng _ _ _ _ _ (by omega), s3]; rfl
  · rw [show decide (Int32.ofNat S.2.1 = (0 : Int32)) = false from (zI_deq S.2.1 0 (by omega) (by omega)).trans (decide_eq_false (by omega))] at start
    have model : ∀ I1 : Nat → Nat → Int32, (∀ q, q ≠ 22 → I1 q = I q) → am_ev env (d + 60, 298, 0, [some (.ref 156), some (.int a), none, none], [], am_hp I1 J E) = some (true, some (.int (sd (fun r => tvl (I 158) S r S.1 (S.1 - 1)) a (fun c => bif decide (a = -1) then Int32.ofNat c else -1) k 0 0)), am_hp (am_u I1 156 0 0) J E) := by
      intro I1 hf
      have i8 : am_u I1 156 0 0 158 = I 158 := by rw [am_u_ng _ _ _ _ _ (by omega), hf 158 (by omega)]
      refine (bk_298_0 _ _ _ _ _ _).trans ?_
      rw [i8, s6]
      have lp := m_saidLoop env (d + 10) n k hn hk S s2 s1 s5 a (am_u I1 156 0 0) J E (by rw [i8]; exact g2) (by rw [i8]; exact s7) (by rw [i8]; exact s8) k 0 0 (by omega)
      rw [i8] at lp
      exact lp
    by_cases ha : (-1 : Int32) ≤ a
    · rw [decide_eq_true ha] at start
      obtain ⟨I1, x, c1, c2, c3⟩ := c_saidSet env (d + 55) n k hn hk S s2 s1 s5 I J E hC f2
      have x64 := p2_64 k hk
      have xl := c3.1
      have c3' : BS k (fun r => tvl (I 158) S r S.1 (S.1 - 1)) x := BS_congr c3 (fun r hr => tvl_agr r3 hr hk S _ _)
      rw [show (bif false then _ else (bif true then am_cont env (d + 59, 66, 0, [some (.ref 18), some (.ref 5), some (.ref 12), none, none, none, none], [], am_hp I J E) (d + 60) 165 44 [some (.ref 0), some (.int a), none, none, none] [] else _) : Option am_R) = am_cont env (d + 59, 66, 0, [some (.ref 18), some (.ref 5), some (.ref 12), none, none, none, none], [], am_hp I J E) (d + 60) 165 44 [some (.ref 0), some (.int a), none, none, none] [] from rfl, am_cont_some c1] at start
      refine ⟨_, I1, J, E, _, J, E, start.trans ?_, model I1 c2, PSd_th hR c2⟩
      refine (bk_165_44 _ _ _ _ _ _ _).trans ?_
      by_cases hm : a = -1
      · rw [decide_eq_true hm]
        simp only [decide_true, decide_false, Bool.not_true, Bool.not_false, am_cont, Option.bind_some, Option.toList_some, Option.toList_none, List.singleton_append, List.nil_append, cond_true, cond_false, c_bitCount env _ x (by omega), bk_165_54]
        have := sd_none (fun r => tvl (I 158) S r S.1 (S.1 - 1)) a (fun c => bif true then Int32.ofNat c else -1) (fun c hc e => by rw [hm] at e; exact absurd e (of_decide_eq_false (zm1 c (by omega)))) k 0 (by omega)
        have this2 : sd (fun r => tvl (I 158) S r S.1 (S.1 - 1)) a (fun c => bif true then Int32.ofNat c else -1) k 0 0 = Int32.ofNat (ct (fun r => tvl (I 158) S r S.1 (S.1 - 1)) (0 + k)) := this
        rw [Nat.zero_add, ← pc_BS hk c3'] at this2
        exact congrArg (fun v => (some (true, some (Value.int v), am_hp I1 J E) : Option am_R)) this2.symm
      · rw [decide_eq_false hm]
        have lp := c_saidLoop env (d + 58) k x hk (by omega) a I1 J E (by rw [c2 5 (by omega)]; exact f2) k 0 0 (by omega)
        refine Eq.trans (Eq.trans ?_ lp) ?_
        · rfl
        · rw [sd_congr x.testBit (fun r => tvl (I 158) S r S.1 (S.1 - 1)) a (fun _ => -1) (fun c => bif false then Int32.ofNat c else -1) (fun _ => rfl) k c3'.2 k 0 0 (by omega)]
    · rw [decide_eq_false ha] at start
      have hm : ¬ a = -1 := fun e => ha (by rw [e]; decide)
      refine ⟨-1, I, J, E, am_u I 156 0 0, J, E, start.trans ?_, (model I (fun _ _ => rfl)).trans ?_, PSd_th hR (fun _ _ => rfl)⟩
      · simp only [decide_true, decide_false, Bool.not_true, Bool.not_false, am_cont, Option.bind_some, Option.toList_some, Option.toList_none, List.singleton_append, List.nil_append, cond_true, cond_false, bk_165_18]
      · have := sd_none (fun r => tvl (I 158) S r S.1 (S.1 - 1)) a (fun c => bif decide (a = -1) then Int32.ofNat c else -1) (fun c hc e => ha (by rw [← e]; exact z_m1le ⟨c, by omega⟩)) k 0 (by omega)
        have this2 : sd (fun r => tvl (I 158) S r S.1 (S.1 - 1)) a (fun c => bif decide (a = -1) then Int32.ofNat c else -1) k 0 0 = (bif decide (a = -1) then Int32.ofNat (ct (fun r => tvl (I 158) S r S.1 (S.1 - 1)) (0 + k)) else -1) := this
        rw [this2, decide_eq_false hm]; rfl
