/-! fits: class and reference side by side -/
theorem cW_le (q : Nat → Bool) (N b : Nat) : cW q N b ≤ cnb q N := by
  induction N with
  | zero => exact Nat.le_refl _
  | succ N ih =>
    show cW q N b + (if (q N && bt (Int32.ofNat N) b) then 1 else 0) ≤ cnb q N + (if q N then 1 else 0)
    cases q N with
    | false => simpa using ih
    | true =>
      cases bt (Int32.ofNat N) b with
      | false => simp; omega
      | true => simpa using ih
def cFx (I : Nat → Nat → Int32) (n : Nat) (q : Nat → Bool) : Nat → Nat → Int32 := if cnb q (2 ^ n) = 0 then am_ur I 117 (trow (I 117) (cW q (2 ^ n))) else am_u (am_u (am_ur I 117 (trow (I 117) (cW q (2 ^ n)))) 0 15 (bv (bbs q (2 ^ n)))) 0 16 (bv (aks (Lf (cnb q (2 ^ n)) (cW q (2 ^ n))) n))
theorem c_countFits (env : am_E) (d : Nat) (n h : Nat) (hn : n ≤ 8) (hh : h ≤ 8) (c : Nat → Nat) (I : Nat → Nat → Int32) (J : Nat → Nat → Int64) (E : Nat → Nat → Nat) (h0 : I 5 0 = Int32.ofNat n) (ht : Tp I (2 * h) c) (q : Nat → Bool) (hq : q = fun x => afw (fpp c (Int32.ofNat x)) h 0) : am_ev env (d + 3, 146, 0, [some (.ref 0), none, none, none], [], am_hp I J E) = some (true, some (.int (Int32.ofNat (cnb q (2 ^ n)))), am_hp (cFx I n q) J E) := by
  obtain ⟨p1, p2⟩ := pow256 n hn
  have hcl := cnb_le q (2 ^ n)
  have k5 : ∀ r, am_ur I 117 r 5 0 = Int32.ofNat n := fun r => by rw [ur_ne _ _ _ _ (by omega)]; exact h0
  have hl := c_count14 env d n h hn hh c I J E h0 ht q hq (2 ^ n) (Nat.le_refl _)
  refine (bk_146_0 _ _ _ _ _).trans ?_
  simp only [decide_true, decide_false, Bool.not_true, Bool.not_false, am_cont, Option.bind_some, Option.toList_some, Option.toList_none, List.singleton_append, List.nil_append, cond_true, cond_false, c_fill117, bk_146_12]
  refine hl.trans ?_
  refine (bk_146_14 _ _ _ _ _ _ _ _).trans ?_
  simp only [decide_true, decide_false, Bool.not_true, Bool.not_false, am_cont, Option.bind_some, Option.toList_some, Option.toList_none, List.singleton_append, List.nil_append, cond_true, cond_false, c_allBooks env _ n hn _ J E (k5 _), bk_146_25]
  rw [zlt_t (2 ^ n - 1) (2 ^ n) (by omega) (by omega)]
  unfold cFx
  by_cases hm : cnb q (2 ^ n) = 0
  · rw [if_pos hm, show decide (Int32.ofNat (cnb q (2 ^ n)) ≤ (0 : Int32)) = true from zle_t _ 0 (by omega) (by omega)]
    simp only [decide_true, decide_false, Bool.not_true, Bool.not_false, am_cont, Option.bind_some, Option.toList_some, Option.toList_none, List.singleton_append, List.nil_append, cond_true, cond_false, bk_146_89]
  · rw [if_neg hm, show decide (Int32.ofNat (cnb q (2 ^ n)) ≤ (0 : Int32)) = false from zle_f _ 0 (by omega) (by omega)]
    have hb := c_bestToAsk env (d + 1) n (cnb q (2 ^ n)) hn (by omega) (cW q (2 ^ n)) (fun b => cW_le q _ b) (I 117) (am_u (am_ur I 117 (trow (I 117) (cW q (2 ^ n)))) 0 15 (bv (bbs q (2 ^ n)))) J E (by rw [am_u_nr _ _ _ _ _ (by omega)]; exact k5 _) (by rw [am_u_nr _ _ _ _ _ (by omega), ur_at])
    simp only [decide_true, decide_false, Bool.not_true, Bool.not_false, am_cont, Option.bind_some, Option.toList_some, Option.toList_none, List.singleton_append, List.nil_append, cond_true, cond_false, hb, bk_146_86, bk_146_89]
theorem m_leftBy (env : am_E) (d : Nat) (n mn b : Nat) (hn : n ≤ 8) (hb : b < 8) (hmn : mn ≤ 256) (q : Nat → Bool) (I : Nat → Nat → Int32) (J : Nat → Nat → Int64) (E : Nat → Nat → Nat) (g0 : I 158 0 = Int32.ofNat n) (h170 : ∀ x, x < 2 ^ n → I 170 x = bi (q x)) (hW : cW q (2 ^ n) b ≤ mn) : am_ev env (d + 2, 256, 0, [some (.ref 156), some (.int (Int32.ofNat b)), some (.int (Int32.ofNat mn)), none, none], [], am_hp I J E) = some (true, some (.int (Int32.ofNat (Lf mn (cW q (2 ^ n)) b))), am_hp I J E) := by
  obtain ⟨p1, p2⟩ := pow256 n hn
  refine (bk_256_0 _ _ _ _ _ _ _).trans ?_
  have key : ∀ x, x ≤ 2 ^ n → am_ev env (d + 2, 256, 5, [some (.ref 156), some (.int (Int32.ofNat b)), some (.int (Int32.ofNat mn)), some (.int 0), some (.int 0)], [], am_hp I J E) = am_ev env (d + 2, 256, 5, [some (.ref 156), some (.int (Int32.ofNat b)), some (.int (Int32.ofNat mn)), some (.int (Int32.ofNat (cW q x b))), some (.int (Int32.ofNat x))], [], am_hp I J E) := by
    intro x
    induction x with
    | zero => intro _; rfl
    | succ x ih =>
      intro hx
      refine (ih (by omega)).trans ?_
      have hc : cW q (x + 1) b = cW q x b + (if (q x && bt (Int32.ofNat x) b) then 1 else 0) := rfl
      refine (bk_256_5 _ _ _ _ _ _ _ _ _).trans ?_
      rw [g0, pow_n n hn, zle_f (2 ^ n) x (by omega) (by omega), hc]
      simp (disch := omega) only [decide_true, decide_false, Bool.not_true, Bool.not_false, am_cont, Option.bind_some, Option.toList_some, Option.toList_none, List.singleton_append, List.nil_append, cond_true, cond_false, zI_in, zI_nat, h170 x (by omega), bi_eq0]
      cases hqx : q x
      · simp only [decide_true, decide_false, Bool.not_true, Bool.not_false, am_cont, Option.bind_some, Option.toList_some, Option.toList_none, List.singleton_append, List.nil_append, cond_true, cond_false, bk_256_40, zd_1, Bool.false_and, Bool.false_eq_true, if_false, Nat.add_zero]
      · simp (disch := omega) only [decide_true, decide_false, Bool.not_true, Bool.not_false, am_cont, Option.bind_some, Option.toList_some, Option.toList_none, List.singleton_append, List.nil_append, cond_true, cond_false, m_has, bk_256_34, bi_eq0, Bool.true_and]
        cases bt (Int32.ofNat x) b
        · simp only [decide_true, decide_false, Bool.not_true, Bool.not_false, am_cont, Option.bind_some, Option.toList_some, Option.toList_none, List.singleton_append, List.nil_append, cond_true, cond_false, bk_256_40, zd_1, Bool.false_eq_true, if_false, Nat.add_zero]
        · simp only [decide_true, decide_false, Bool.not_true, Bool.not_false, am_cont, Option.bind_some, Option.toList_some, Option.toList_none, List.singleton_append, List.nil_append, cond_true, cond_false, bk_256_40, zd_1, if_true]
  refine (key (2 ^ n) (Nat.le_refl _)).trans ?_
  refine (bk_256_5 _ _ _ _ _ _ _ _ _).trans ?_
  rw [g0, pow_n n hn, zle_t (2 ^ n) (2 ^ n) (Nat.le_refl _) (by omega), zI_sub _ _ hW]
  unfold Lf
  by_cases hl : cW q (2 ^ n) b ≤ mn - cW q (2 ^ n) b
  · rw [zle_t _ _ hl (by omega), Nat.max_eq_right hl]; simp only [decide_true, decide_false, Bool.not_true, Bool.not_false, am_cont, Option.bind_some, Option.toList_some, Option.toList_none, List.singleton_append, List.nil_append, cond_true, cond_false, bk_256_60]
  · rw [zle_f _ _ (by omega) (by omega), Nat.max_eq_left (by omega)]; simp only [decide_true, decide_false, Bool.not_true, Bool.not_false, am_cont, Option.bind_some, Option.toList_some, Option.toList_none, List.singleton_append, List.nil_append, cond_true, cond_false, bk_256_60]
def m17 (I : Nat → Nat → Int32) (q : Nat → Bool) (x : Nat) : Nat → Nat → Int32 := am_ur I 170 (cpr (I 170) 0 x (fun j => bi (q j)))
theorem m_fits90 (env : am_E) (d : Nat) (n h : Nat) (hn : n ≤ 8) (hh : h ≤ 8) (c : Nat → Nat) (I : Nat → Nat → Int32) (J : Nat → Nat → Int64) (E : Nat → Nat → Nat) (g0 : I 158 0 = Int32.ofNat n) (ht : ∀ j, j < 2 * h → I 157 j = Int32.ofNat (c j) ∧ c j < 256) (q : Nat → Bool) (hq : q = fun x => afw (fpp c (Int32.ofNat x)) h 0) : ∀ x, x ≤ 2 ^ n → am_ev env (d + 3, 257, 90, [some (.ref 156), some (.int (Int32.ofNat (2 * h))), some (.int 0), some (.int (-1)), some (.int 0)], [], am_hp I J E) = am_ev env (d + 3, 257, 90, [some (.ref 156), some (.int (Int32.ofNat (2 * h))), some (.int (Int32.ofNat (cnb q x))), some (.int (bv (bbs q x))), some (.int (Int32.ofNat x))], [], am_hp (m17 I q x) J E) := by
  obtain ⟨p1, p2⟩ := pow256 n hn
  have hup : ∀ x, am_u (m17 I q x) 170 x (bi (q x)) = m17 I q (x + 1) := by
    intro x
    unfold m17
    rw [am_u_r, ur_ur, ur_at]
    have := cpr_succ (I 170) 0 x (fun j => bi (q j))
    rw [Nat.zero_add] at this; rw [this]
  have hrd : ∀ x, m17 I q (x + 1) 170 x = bi (q x) := by
    intro x
    unfold m17
    rw [ur_at]
    have := cpr_in (I 170) 0 (x + 1) (fun j => bi (q j)) x (by omega)
    rw [Nat.zero_add] at this; exact this
  have k0 : ∀ x, m17 I q x 158 = I 158 := fun x => ur_ne _ _ _ _ (by omega)
  have kt : ∀ x, m17 I q x 157 = I 157 := fun x => ur_ne _ _ _ _ (by omega)
  intro x
  induction x with
  | zero =>
    intro _
    have : m17 I q 0 = I := by unfold m17; rw [cpr_zero]; exact ur_self I 170
    rw [this]; rfl
  | succ x ih =>
    intro hx
    refine (ih (by omega)).trans ?_
    have hfp := m_fitsAll env d h hh c (Int32.ofNat x) (m17 I q x) J E (fun j hj => by rw [kt]; exact ht j hj)
    have hqx : afw (fpp c (Int32.ofNat x)) h 0 = q x := by rw [hq]
    rw [hqx] at hfp
    have hbl := bbs_le q x
    have hcl := cnb_le q x
    have hps := pc_le8 x
    have hps2 := pc_le8 (bbs q x - 1)
    have hcn : cnb q (x + 1) = cnb q x + (if q x then 1 else 0) := rfl
    have hbb : bbs q (x + 1) = bst q x (bbs q x) := rfl
    refine (bk_257_90 _ _ _ _ _ _ _ _ _).trans ?_
    rw [k0, g0, pow_n n hn, zle_f (2 ^ n) x (by omega) (by omega)]
    simp (disch := omega) only [decide_true, decide_false, Bool.not_true, Bool.not_false, am_cont, Option.bind_some, Option.toList_some, Option.toList_none, List.singleton_append, List.nil_append, cond_true, cond_false, hfp, bk_257_116, zI_in, bi_and, Bool.and_self, zI_nat, hup, hrd, bi_eq0, Bool.not_not]
    rw [hbb, hcn]
    by_cases hqt : q x = true
    · rw [hqt, if_pos rfl]
      simp (disch := omega) only [decide_true, decide_false, Bool.not_true, Bool.not_false, am_cont, Option.bind_some, Option.toList_some, Option.toList_none, List.singleton_append, List.nil_append, cond_true, cond_false, bv_m1, zd_1]
      unfold bst
      by_cases hb0 : bbs q x = 0
      · rw [decide_eq_true hb0, if_pos ⟨hqt, Or.inl hb0⟩, bv_s]
        simp only [decide_true, decide_false, Bool.not_true, Bool.not_false, am_cont, Option.bind_some, Option.toList_some, Option.toList_none, List.singleton_append, List.nil_append, cond_true, cond_false, bk_257_150, bk_257_153, zd_1]
      · rw [decide_eq_false hb0]
        have hbv : bv (bbs q x) = Int32.ofNat (bbs q x - 1) := by unfold bv; rw [if_neg hb0]
        simp (disch := omega) only [decide_true, decide_false, Bool.not_true, Bool.not_false, am_cont, Option.bind_some, Option.toList_some, Option.toList_none, List.singleton_append, List.nil_append, cond_true, cond_false, m_bits, bk_257_143, hbv, bk_257_147]
        by_cases hlt : pc x < pc (bbs q x - 1)
        · rw [zle_f (pc (bbs q x - 1)) (pc x) hlt (by omega), if_pos ⟨hqt, Or.inr hlt⟩, bv_s]
          simp only [decide_true, decide_false, Bool.not_true, Bool.not_false, am_cont, Option.bind_some, Option.toList_some, Option.toList_none, List.singleton_append, List.nil_append, cond_true, cond_false, bk_257_150, bk_257_153, zd_1]
        · rw [zle_t (pc (bbs q x - 1)) (pc x) (by omega) (by omega), if_neg (fun h => by rcases h.2 with h | h <;> omega), hbv]
          simp only [decide_true, decide_false, Bool.not_true, Bool.not_false, am_cont, Option.bind_some, Option.toList_some, Option.toList_none, List.singleton_append, List.nil_append, cond_true, cond_false, bk_257_153, zd_1]
    · unfold bst
      rw [if_neg (fun h : q x = true ∧ (bbs q x = 0 ∨ pc x < pc (bbs q x - 1)) => hqt h.1), if_neg hqt]
      rw [Bool.not_eq_true] at hqt
      rw [hqt]
      simp only [decide_true, decide_false, Bool.not_true, Bool.not_false, am_cont, Option.bind_some, Option.toList_some, Option.toList_none, List.singleton_append, List.nil_append, cond_true, cond_false, bk_257_153, zd_1, Nat.add_zero]
theorem m_fits178 (env : am_E) (d : Nat) (n mn : Nat) (hn : n ≤ 8) (hmn : mn ≤ 256) (y x3 : Int32) (q : Nat → Bool) (L : Nat → Nat) (hL : L = Lf mn (cW q (2 ^ n))) (hW : ∀ b, cW q (2 ^ n) b ≤ mn) (I : Nat → Nat → Int32) (J : Nat → Nat → Int64) (E : Nat → Nat → Nat) (g0 : I 158 0 = Int32.ofNat n) (h170 : ∀ x, x < 2 ^ n → I 170 x = bi (q x)) : ∀ b, b ≤ n → am_ev env (d + 3, 257, 178, [some (.ref 156), some (.int y), some (.int (Int32.ofNat mn)), some (.int x3), some (.int 0)], [], am_hp (am_u I 156 32 (-1)) J E) = am_ev env (d + 3, 257, 178, [some (.ref 156), some (.int y), some (.int (Int32.ofNat mn)), some (.int x3), some (.int (Int32.ofNat b))], [], am_hp (am_u I 156 32 (bv (aks L b))) J E) := by
  intro b
  induction b with
  | zero => intro _; rfl
  | succ b ih =>
    intro hb
    refine (ih (by omega)).trans ?_
    have hak := aks_le L b
    have hs : aks L (b + 1) = (if aks L b = 0 ∨ L b < L (aks L b - 1) then b + 1 else aks L b) := rfl
    have hl2 : ∀ c v, c < 8 → am_ev env (d + 2, 256, 0, [some (.ref 156), some (.int (Int32.ofNat c)), some (.int (Int32.ofNat mn)), none, none], [], am_hp (am_u I 156 32 v) J E) = some (true, some (.int (Int32.ofNat (L c))), am_hp (am_u I 156 32 v) J E) := by
      intro c v hc
      rw [hL]
      exact m_leftBy env d n mn c hn hc hmn q _ J E (by rw [am_u_nr _ _ _ _ _ (by omega)]; exact g0) (fun x hx => by rw [am_u_nr _ _ _ _ _ (by omega)]; exact h170 x hx) (hW c)
    have hL256 : ∀ c, L c ≤ 256 := fun c => by rw [hL]; unfold Lf; have := hW c; omega
    have hLb := hL256 b
    have hLk := hL256 (aks L b - 1)
    have g0' : am_u I 156 32 (bv (aks L b)) 158 0 = Int32.ofNat n := by rw [am_u_nr _ _ _ _ _ (by omega)]; exact g0
    refine (bk_257_178 _ _ _ _ _ _ _ _ _).trans ?_
    rw [g0', zle_f n b (by omega) (by omega), am_u_at, bv_m1 _ (by omega)]
    by_cases hb0 : aks L b = 0
    · rw [decide_eq_true hb0]
      rw [if_pos (Or.inl hb0)] at hs
      simp only [decide_true, decide_false, Bool.not_true, Bool.not_false, am_cont, Option.bind_some, Option.toList_some, Option.toList_none, List.singleton_append, List.nil_append, cond_true, cond_false, bk_257_216, bk_257_222, am_u_u, zd_1]
      rw [hs, bv_s]
    · rw [decide_eq_false hb0]
      have hbv : bv (aks L b) = Int32.ofNat (aks L b - 1) := by unfold bv; rw [if_neg hb0]
      simp (disch := omega) only [decide_true, decide_false, Bool.not_true, Bool.not_false, am_cont, Option.bind_some, Option.toList_some, Option.toList_none, List.singleton_append, List.nil_append, cond_true, cond_false, hl2, bk_257_204, am_u_at, hbv, bk_257_213]
      by_cases hlt : L b < L (aks L b - 1)
      · rw [zle_f _ _ hlt (by omega)]
        rw [if_pos (Or.inr hlt)] at hs
        simp only [decide_true, decide_false, Bool.not_true, Bool.not_false, am_cont, Option.bind_some, Option.toList_some, Option.toList_none, List.singleton_append, List.nil_append, cond_true, cond_false, bk_257_216, bk_257_222, am_u_u, zd_1]
        rw [hs, bv_s]
      · rw [zle_t _ _ (by omega) (by omega)]
        rw [if_neg (fun h => by rcases h with h | h <;> omega)] at hs
        simp only [decide_true, decide_false, Bool.not_true, Bool.not_false, am_cont, Option.bind_some, Option.toList_some, Option.toList_none, List.singleton_append, List.nil_append, cond_true, cond_false, bk_257_222, zd_1]
        rw [hs, hbv]
def mFx (I : Nat → Nat → Int32) (n : Nat) (q : Nat → Bool) : Nat → Nat → Int32 := if cnb q (2 ^ n) = 0 then m17 I q (2 ^ n) else am_u (am_u (m17 I q (2 ^ n)) 156 31 (bv (bbs q (2 ^ n)))) 156 32 (bv (aks (Lf (cnb q (2 ^ n)) (cW q (2 ^ n))) n))
theorem m_countFits (env : am_E) (d : Nat) (n h : Nat) (hn : n ≤ 8) (hh : h ≤ 8) (c : Nat → Nat) (I : Nat → Nat → Int32) (J : Nat → Nat → Int64) (E : Nat → Nat → Nat) (g0 : I 158 0 = Int32.ofNat n) (ht : ∀ j, j < 2 * h → I 157 j = Int32.ofNat (c j) ∧ c j < 256) (q : Nat → Bool) (hq : q = fun x => afw (fpp c (Int32.ofNat x)) h 0) : am_ev env (d + 3, 257, 90, [some (.ref 156), some (.int (Int32.ofNat (2 * h))), some (.int 0), some (.int (-1)), some (.int 0)], [], am_hp I J E) = some (true, some (.int (Int32.ofNat (cnb q (2 ^ n)))), am_hp (mFx I n q) J E) := by
  obtain ⟨p1, p2⟩ := pow256 n hn
  have hcl := cnb_le q (2 ^ n)
  refine (m_fits90 env d n h hn hh c I J E g0 ht q hq (2 ^ n) (Nat.le_refl _)).trans ?_
  have k0 : m17 I q (2 ^ n) 158 0 = Int32.ofNat n := by unfold m17; rw [ur_ne _ _ _ _ (by omega)]; exact g0
  have k170 : ∀ x, x < 2 ^ n → m17 I q (2 ^ n) 170 x = bi (q x) := by
    intro x hx
    unfold m17
    rw [ur_at]
    have := cpr_in (I 170) 0 (2 ^ n) (fun j => bi (q j)) x hx
    rw [Nat.zero_add] at this; exact this
  refine (bk_257_90 _ _ _ _ _ _ _ _ _).trans ?_
  rw [k0, pow_n n hn, zle_t (2 ^ n) (2 ^ n) (Nat.le_refl _) (by omega)]
  unfold mFx
  have ed : decide (Int32.ofNat (cnb q (2 ^ n)) = (0 : Int32)) = decide (cnb q (2 ^ n) = 0) := zI_deq _ 0 (by omega) (by omega)
  rw [ed]
  by_cases hm : cnb q (2 ^ n) = 0
  · rw [if_pos hm, decide_eq_true hm, hm]; rfl
  · rw [if_neg hm, decide_eq_false hm]
    have e := m_fits178 env d n (cnb q (2 ^ n)) hn (by omega) (Int32.ofNat (2 * h)) (bv (bbs q (2 ^ n))) q (Lf (cnb q (2 ^ n)) (cW q (2 ^ n))) rfl (fun b => cW_le q _ b) (am_u (m17 I q (2 ^ n)) 156 31 (bv (bbs q (2 ^ n)))) J E (by rw [am_u_nr _ _ _ _ _ (by omega)]; exact k0) (fun x hx => by rw [am_u_nr _ _ _ _ _ (by omega)]; exact k170 x hx) n (Nat.le_refl _)
    refine Eq.trans e ?_
    refine (bk_257_178 _ _ _ _ _ _ _ _ _).trans ?_
    rw [am_u_nr _ _ _ _ _ (by omega), am_u_nr _ _ _ _ _ (by omega), k0, zle_t n n (Nat.le_refl _) (by omega)]
    rfl
/-- nothing changed but X -/
def dfx (X : Nat → Nat → Prop) (I I' : Nat → Nat → Int32) : Prop := ∀ q j, ¬ X q j → I' q j = I q j
theorem dfx_refl (X : Nat → Nat → Prop) (I : Nat → Nat → Int32) : dfx X I I := fun _ _ _ => rfl
theorem dfx_u {X : Nat → Nat → Prop} {I I' : Nat → Nat → Int32} {p k : Nat} (h : dfx X I I') (hx : X p k) (x : Int32) : dfx X I (am_u I' p k x) := by
  intro q j hq
  rw [am_u_d]
  by_cases h1 : q = p
  · rw [if_pos h1]
    by_cases h2 : j = k
    · subst h1; subst h2; exact absurd hx hq
    · rw [if_neg h2]; exact h q j hq
  · rw [if_neg h1]; exact h q j hq
theorem dfx_ur {X : Nat → Nat → Prop} {I I' : Nat → Nat → Int32} {p : Nat} (h : dfx X I I') (hx : ∀ j, X p j) (r : Nat → Int32) : dfx X I (am_ur I' p r) := by
  intro q j hq
  by_cases h1 : q = p
  · subst h1; exact absurd (hx j) hq
  · rw [ur_ne _ _ _ _ h1]; exact h q j hq
theorem dfx_th0 {X : Nat → Nat → Prop} {I I' : Nat → Nat → Int32} (h : dfx X I I') (hx : X 156 0) : dfx X I (th0 I') := by
  rw [← th0_u]; exact dfx_u h hx 0
theorem dfx_R1 {X : Nat → Nat → Prop} {I I' : Nat → Nat → Int32} {n k t h : Nat} (hd : dfx X I I') (hx : ∀ q j, KR q j → ¬ X q j) (hR : R1 I n k t h) : R1 I' n k t h := R1_ext I I' n k t h (fun q j hq => hd q j (hx q j hq)) hR
theorem dfx_fr {X Y : Nat → Nat → Prop} {I I' : Nat → Nat → Int32} (hd : dfx X I I') (hx : ∀ q j, X q j → C1 q j ∨ Y q j) : frX Y I I' := fun q j h1 h2 => hd q j (fun h => (hx q j h).elim h1 h2)
theorem zlt_d (a b : Nat) (ha : a < 2147483648) (hb : b < 2147483648) : decide (Int32.ofNat a < Int32.ofNat b) = decide (a < b) := by
  by_cases h : a < b
  · rw [zlt_t a b h hb, decide_eq_true h]
  · rw [zlt_f a b (by omega) ha, decide_eq_false h]
theorem zle_d (a b : Nat) (ha : a < 2147483648) (hb : b < 2147483648) : decide (Int32.ofNat a ≤ Int32.ofNat b) = decide (a ≤ b) := by
  by_cases h : a ≤ b
  · rw [zle_t a b h hb, decide_eq_true h]
  · rw [zle_f a b (by omega) ha, decide_eq_false h]
def XF (q j : Nat) : Prop := XT q j ∨ (q = 0 ∧ (j = 15 ∨ j = 16)) ∨ (q = 156 ∧ (j = 31 ∨ j = 32))
def XF0 (q j : Nat) : Prop := q = 117 ∨ (q = 0 ∧ (j = 15 ∨ j = 16)) ∨ (q = 2 ∧ j = 0) ∨ (q = 156 ∧ (j = 0 ∨ j = 2 ∨ j = 31 ∨ j = 32)) ∨ q = 170
def PF (I : Nat → Nat → Int32) (n k : Nat) (I2 : Nat → Nat → Int32) : Prop := (∃ t h, R1 I2 n k t h) ∧ RT I2 ∧ RFi I2 ∧ frX XF I I2
theorem PF_of {I I2 : Nat → Nat → Int32} {n k t h : Nat} (hR : R1 I n k t h) (hd : dfx XF0 I I2) (e1 : I2 2 0 = 0) (e2 : I2 156 2 = 0) (e3 : RFi I2) : PF I n k I2 :=
  ⟨⟨t, h, dfx_R1 hd (fun q j hq => by unfold KR at hq; unfold XF0; omega) hR⟩, ⟨0, by omega, e1, e2, fun j hj => absurd hj (Nat.not_lt_zero _)⟩, e3, dfx_fr hd (fun q j hq => by unfold XF0 at hq; unfold C1 XF XT; omega)⟩
theorem op_fits (env : am_E) (d : Nat) (I : Nat → Nat → Int32) (J : Nat → Nat → Int64) (E : Nat → Nat → Nat) (n k t h : Nat) (hR : R1 I n k t h) (hv : RT I) (hf : RFi I) : opR (fun H => am_ev env (d + 20, 145, 0, [some (.ref 0), none], [], H)) (fun H => am_ev env (d + 20, 257, 0, [some (.ref 156), none, none, none, none], [], H)) I J E (PF I n k) := by
  obtain ⟨hn, hk, ht, hh, e1, e2, e3, f0, f2, g0, g2⟩ := R1_f I n k t h hR
  obtain ⟨z, hz, z1, z2, z3⟩ := id hv
  have zin : ∀ I0, I0 156 2 = Int32.ofNat z → am_ev env (d + 20, 257, 0, [some (.ref 156), none, none, none, none], [], am_hp I0 J E) = am_ev env (d + 20, 257, 9, [some (.ref 156), none, none, none, none], [.int (Int32.ofNat z)], am_hp (am_u (th0 I0) 156 2 0) J E) := by
    intro I0 h0
    have e : th0 I0 156 2 = Int32.ofNat z := by rw [th0_at _ _ (by omega)]; exact h0
    simp only [bk_257_0, th0_u, decide_true, decide_false, Bool.not_true, Bool.not_false, am_cont, Option.bind_some, Option.toList_some, Option.toList_none, List.singleton_append, List.nil_append, cond_true, cond_false, bk_174_0, e]
  have none_ : am_ev env (d + 19, 147, 0, [some (.ref 0), none, none], [], am_hp I J E) = some (true, some (.int 0), am_hp I J E) → (∀ I', I' 158 = I 158 → I' 157 = I 157 → am_ev env (d + 20, 257, 9, [some (.ref 156), none, none, none, none], [.int (Int32.ofNat z)], am_hp I' J E) = some (true, some (.int (-1)), am_hp I' J E)) → opR (fun H => am_ev env (d + 20, 145, 0, [some (.ref 0), none], [], H)) (fun H => am_ev env (d + 20, 257, 0, [some (.ref 156), none, none, none, none], [], H)) I J E (PF I n k) := by
    intro hc hm
    refine ⟨-1, am_u I 2 0 0, am_u (th0 (am_u I 2 0 0)) 156 2 0, ?_, ?_, ?_⟩
    · show am_ev env (d + 20, 145, 0, [some (.ref 0), none], [], am_hp I J E) = _
      simp only [bk_145_0, decide_true, decide_false, Bool.not_true, Bool.not_false, am_cont, Option.bind_some, Option.toList_some, Option.toList_none, List.singleton_append, List.nil_append, cond_true, cond_false, hc, bk_145_4, zq_0_0, bk_145_15]
    · refine (zin (am_u I 2 0 0) (by rw [am_u_nr _ _ _ _ _ (by omega)]; exact z2)).trans ?_
      exact hm _ (by rw [am_u_nr _ _ _ _ _ (by omega), th0_158, am_u_nr _ _ _ _ _ (by omega)]) (by rw [am_u_nr _ _ _ _ _ (by omega), th0_ne _ _ (by omega), am_u_nr _ _ _ _ _ (by omega)])
    · refine PF_of hR (dfx_u (dfx_th0 (dfx_u (dfx_refl _ _) (by unfold XF0; omega) 0) (by unfold XF0; omega)) (by unfold XF0; omega) 0) ?_ ?_ ?_
      · rw [am_u_nr _ _ _ _ _ (by omega), th0_ne _ _ (by omega), am_u_at]
      · rw [am_u_at]
      · refine ⟨?_, ?_⟩
        · rw [am_u_nr _ _ _ _ _ (by omega), am_u_d, if_pos rfl, if_neg (by omega), th0_ne _ _ (by omega), th0_at _ _ (by omega), am_u_nr _ _ _ _ _ (by omega), am_u_nr _ _ _ _ _ (by omega)]; exact hf.1
        · rw [am_u_nr _ _ _ _ _ (by omega), am_u_d, if_pos rfl, if_neg (by omega), th0_ne _ _ (by omega), th0_at _ _ (by omega), am_u_nr _ _ _ _ _ (by omega), am_u_nr _ _ _ _ _ (by omega)]; exact hf.2
  have hmod : Int32.ofNat z - Int32.ofNat z / 2 * 2 = Int32.ofNat (z % 2) := zI_mod z 2 (by omega) (by omega)
  have hdiv : Int32.ofNat z / 2 = Int32.ofNat (z / 2) := zI_div z 2 (by omega) (by omega)
  have d1 : decide (Int32.ofNat n < (1 : Int32)) = decide (n < 1) := zlt_d n 1 (by omega) (by omega)
  have d2 : decide (Int32.ofNat z < (2 : Int32)) = decide (z < 2) := zlt_d z 2 (by omega) (by omega)
  have d3 : decide ((16 : Int32) < Int32.ofNat z) = decide (16 < z) := zlt_d 16 z (by omega) (by omega)
  have d4 : decide (Int32.ofNat (z % 2) = (0 : Int32)) = decide (z % 2 = 0) := zI_deq _ 0 (by omega) (by omega)
  have d5 : decide (Int32.ofNat (z / 2) < (1 : Int32)) = decide (z / 2 < 1) := zlt_d _ 1 (by omega) (by omega)
  have d6 : decide ((8 : Int32) < Int32.ofNat (z / 2)) = decide (8 < z / 2) := zlt_d 8 _ (by omega) (by omega)
  have d7 : decide (Int32.ofNat n = (0 : Int32)) = decide (n = 0) := zI_deq _ 0 (by omega) (by omega)
  have h147 := bk_147_0 env (d + 18) I J E
  rw [f0, z1, hmod, d1, d2, d3, d4] at h147
  have h257 : ∀ I', I' 158 = I 158 → am_ev env (d + 20, 257, 9, [some (.ref 156), none, none, none, none], [.int (Int32.ofNat z)], am_hp I' J E) = (bif !decide (z % 2 = 0) then some (true, some (.int (-1)), am_hp I' J E) else bif !(!decide (z / 2 < 1) && !decide (8 < z / 2)) then some (true, some (.int (-1)), am_hp I' J E) else bif !decide (n = 0) then am_ev env (d + 20, 257, 41, [some (.ref 156), some (.int (Int32.ofNat z)), some (.int 0), none, none], [], am_hp I' J E) else some (true, some (.int (-1)), am_hp I' J E)) := by
    intro I' i1
    refine (bk_257_9 _ _ _ _ _ _).trans ?_
    rw [hmod, d4, hdiv]
    simp only [decide_true, decide_false, Bool.not_true, Bool.not_false, am_cont, Option.bind_some, Option.toList_some, Option.toList_none, List.singleton_append, List.nil_append, cond_true, cond_false, m_isIn, d5, d6, bk_257_37, bk_257_25, i1, g0, d7, bi_eq0]
  by_cases hgood : 1 ≤ n ∧ 2 ≤ z ∧ z ≤ 16 ∧ z % 2 = 0
  · obtain ⟨q1, q2, q3, q4⟩ := hgood
    obtain ⟨w, rfl⟩ : ∃ w, z = 2 * w := ⟨z / 2, by omega⟩
    rw [decide_eq_false (by omega : ¬ n < 1), decide_eq_false (by omega : ¬ 2 * w < 2), decide_eq_false (by omega : ¬ 16 < 2 * w), decide_eq_true q4] at h147
    simp only [decide_true, decide_false, Bool.not_true, Bool.not_false, am_cont, Option.bind_some, Option.toList_some, Option.toList_none, List.singleton_append, List.nil_append, cond_true, cond_false] at h147
    have h257' : ∀ I', I' 158 = I 158 → am_ev env (d + 20, 257, 9, [some (.ref 156), none, none, none, none], [.int (Int32.ofNat (2 * w))], am_hp I' J E) = am_ev env (d + 20, 257, 41, [some (.ref 156), some (.int (Int32.ofNat (2 * w))), some (.int 0), none, none], [], am_hp I' J E) := by
      intro I' i1
      refine (h257 I' i1).trans ?_
      rw [decide_eq_true q4, decide_eq_false (by omega : ¬ 2 * w / 2 < 1), decide_eq_false (by omega : ¬ 8 < 2 * w / 2), decide_eq_false (by omega : ¬ n = 0)]
      rfl
    have hcT : Tp I (2 * w) (fun j => (I 3 j).toNatClampNeg) := by
      refine ⟨z1, fun j hj => ?_⟩
      obtain ⟨c, hc, e⟩ := (z3 j hj).2
      dsimp only
      rw [e, zI_nat c (by omega)]
      exact ⟨rfl, hc⟩
    have hmT : ∀ j, j < 2 * w → I 157 j = Int32.ofNat (I 3 j).toNatClampNeg ∧ (I 3 j).toNatClampNeg < 256 := by
      intro j hj
      obtain ⟨c, hc, e⟩ := (z3 j hj).2
      rw [← (z3 j hj).1, e, zI_nat c (by omega)]
      exact ⟨rfl, hc⟩
    generalize hcc : (fun j => (I 3 j).toNatClampNeg) = c at hcT
    replace hmT : ∀ j, j < 2 * w → I 157 j = Int32.ofNat (c j) ∧ c j < 256 := by
      intro j hj
      have := hmT j hj
      rw [← hcc]; exact this
    have hc43 := c_pairs43 env (d + 17) n w hn (by omega) c I J E f0 hcT
    have hm41 := fun I' (i1 : I' 158 = I 158) (i2 : I' 157 = I 157) => m_pairs41 env (d + 18) n w hn (by omega) c I' J E (by rw [i1]; exact g0) (fun j hj => by rw [i2]; exact hmT j hj)
    cases hok : afw (vpp n c) w 0
    · refine none_ ?_ ?_
      · refine h147.trans ?_
        rw [hok] at hc43; exact hc43
      · intro I' i1 i2
        refine (h257' I' i1).trans ?_
        have := hm41 I' i1 i2
        rw [hok] at this; exact this
    · have hcf := c_countFits env (d + 16) n w hn (by omega) c I J E f0 hcT (fun x => afw (fpp c (Int32.ofNat x)) w 0) rfl
      have hmf := fun I' (i1 : I' 158 = I 158) (i2 : I' 157 = I 157) => m_countFits env (d + 17) n w hn (by omega) c I' J E (by rw [i1]; exact g0) (fun j hj => by rw [i2]; exact hmT j hj) (fun x => afw (fpp c (Int32.ofNat x)) w 0) rfl
      rw [hok] at hc43
      generalize (fun x => afw (fpp c (Int32.ofNat x)) w 0) = q at hcf hmf
      have j158 : cFx I n q 158 = I 158 := by
        unfold cFx
        by_cases hm : cnb q (2 ^ n) = 0
        · rw [if_pos hm, ur_ne _ _ _ _ (by omega)]
        · rw [if_neg hm, am_u_nr _ _ _ _ _ (by omega), am_u_nr _ _ _ _ _ (by omega), ur_ne _ _ _ _ (by omega)]
      have j157 : cFx I n q 157 = I 157 := by
        unfold cFx
        by_cases hm : cnb q (2 ^ n) = 0
        · rw [if_pos hm, ur_ne _ _ _ _ (by omega)]
        · rw [if_neg hm, am_u_nr _ _ _ _ _ (by omega), am_u_nr _ _ _ _ _ (by omega), ur_ne _ _ _ _ (by omega)]
      have j156 : cFx I n q 156 = I 156 := by
        unfold cFx
        by_cases hm : cnb q (2 ^ n) = 0
        · rw [if_pos hm, ur_ne _ _ _ _ (by omega)]
        · rw [if_neg hm, am_u_nr _ _ _ _ _ (by omega), am_u_nr _ _ _ _ _ (by omega), ur_ne _ _ _ _ (by omega)]
      refine ⟨Int32.ofNat (cnb q (2 ^ n)), am_u (cFx I n q) 2 0 0, mFx (am_u (th0 (am_u (cFx I n q) 2 0 0)) 156 2 0) n q, ?_, ?_, ?_⟩
      · show am_ev env (d + 20, 145, 0, [some (.ref 0), none], [], am_hp I J E) = _
        have h147b : am_ev env (d + 19, 147, 0, [some (.ref 0), none, none], [], am_hp I J E) = some (true, some (.int 1), am_hp I J E) := h147.trans hc43
        simp only [bk_145_0, decide_true, decide_false, Bool.not_true, Bool.not_false, am_cont, Option.bind_some, Option.toList_some, Option.toList_none, List.singleton_append, List.nil_append, cond_true, cond_false, h147b, bk_145_4, zq_1_0, hcf, bk_145_11, bk_145_15]
      · refine (zin (am_u (cFx I n q) 2 0 0) (by rw [am_u_nr _ _ _ _ _ (by omega), j156]; exact z2)).trans ?_
        have i1 : am_u (th0 (am_u (cFx I n q) 2 0 0)) 156 2 0 158 = I 158 := by rw [am_u_nr _ _ _ _ _ (by omega), th0_158, am_u_nr _ _ _ _ _ (by omega), j158]
        have i2 : am_u (th0 (am_u (cFx I n q) 2 0 0)) 156 2 0 157 = I 157 := by rw [am_u_nr _ _ _ _ _ (by omega), th0_ne _ _ (by omega), am_u_nr _ _ _ _ _ (by omega), j157]
        refine (h257' _ i1).trans ?_
        have := hm41 _ i1 i2
        rw [hok] at this
        refine this.trans ?_
        exact hmf _ i1 i2
      · have dC : dfx XF0 I (cFx I n q) := by
          unfold cFx
          by_cases hm : cnb q (2 ^ n) = 0
          · rw [if_pos hm]; exact dfx_ur (dfx_refl _ _) (fun j => by unfold XF0; omega) _
          · rw [if_neg hm]; exact dfx_u (dfx_u (dfx_ur (dfx_refl _ _) (fun j => by unfold XF0; omega) _) (by unfold XF0; omega) _) (by unfold XF0; omega) _
        have dM := dfx_u (dfx_th0 (dfx_u dC (by unfold XF0; omega : XF0 2 0) 0) (by unfold XF0; omega)) (by unfold XF0; omega : XF0 156 2) 0
        have e20 : am_u (th0 (am_u (cFx I n q) 2 0 0)) 156 2 0 2 0 = 0 := by rw [am_u_nr _ _ _ _ _ (by omega), th0_ne _ _ (by omega), am_u_at]
        have e0 : am_u (th0 (am_u (cFx I n q) 2 0 0)) 156 2 0 0 = cFx I n q 0 := by rw [am_u_nr _ _ _ _ _ (by omega), th0_ne _ _ (by omega), am_u_nr _ _ _ _ _ (by omega)]
        have e156 : ∀ j, j = 31 ∨ j = 32 → am_u (th0 (am_u (cFx I n q) 2 0 0)) 156 2 0 156 j = I 156 j := by
          intro j hj
          rw [am_u_d, if_pos rfl, if_neg (by omega), th0_at _ _ (by omega), am_u_nr _ _ _ _ _ (by omega), j156]
        have e1562 : am_u (th0 (am_u (cFx I n q) 2 0 0)) 156 2 0 156 2 = 0 := am_u_at _ _ _ _
        generalize am_u (th0 (am_u (cFx I n q) 2 0 0)) 156 2 0 = Id at dM e20 e0 e156 e1562
        unfold mFx
        by_cases hm : cnb q (2 ^ n) = 0
        · rw [if_pos hm]
          unfold m17
          refine PF_of hR (dfx_ur dM (fun j => by unfold XF0; omega) _) ?_ ?_ ⟨?_, ?_⟩
          · rw [ur_ne _ _ _ _ (by omega)]; exact e20
          · rw [ur_ne _ _ _ _ (by omega)]; exact e1562
          · rw [ur_ne _ _ _ _ (by omega), ur_ne _ _ _ _ (by omega), e0, e156 31 (by omega)]
            unfold cFx
            rw [if_pos hm, ur_ne _ _ _ _ (by omega)]; exact hf.1
          · rw [ur_ne _ _ _ _ (by omega), ur_ne _ _ _ _ (by omega), e0, e156 32 (by omega)]
            unfold cFx
            rw [if_pos hm, ur_ne _ _ _ _ (by omega)]; exact hf.2
        · rw [if_neg hm]
          unfold m17
          refine PF_of hR (dfx_u (dfx_u (dfx_ur dM (fun j => by unfold XF0; omega) _) (by unfold XF0; omega) _) (by unfold XF0; omega) _) ?_ ?_ ⟨?_, ?_⟩
          · rw [am_u_nr _ _ _ _ _ (by omega), am_u_nr _ _ _ _ _ (by omega), ur_ne _ _ _ _ (by omega)]; exact e20
          · rw [am_u_d, if_pos rfl, if_neg (by omega), am_u_d, if_pos rfl, if_neg (by omega), ur_ne _ _ _ _ (by omega)]; exact e1562
          · rw [am_u_nr _ _ _ _ _ (by omega), am_u_nr _ _ _ _ _ (by omega), ur_ne _ _ _ _ (by omega), e0, am_u_d, if_pos rfl, if_neg (by omega), am_u_at]
            unfold cFx
            rw [if_neg hm, am_u_d, if_pos rfl, if_neg (by omega), am_u_at]
          · rw [am_u_nr _ _ _ _ _ (by omega), am_u_nr _ _ _ _ _ (by omega), ur_ne _ _ _ _ (by omega), e0, am_u_at]
            unfold cFx
            rw [if_neg hm, am_u_at]
  · refine none_ ?_ ?_
    · refine h147.trans ?_
      by_cases q1 : n < 1
      · rw [decide_eq_true q1]; exact bk_147_39 _ _ _ _ _ _
      rw [decide_eq_false q1]
      by_cases q2 : z < 2
      · rw [decide_eq_true q2]; exact bk_147_39 _ _ _ _ _ _
      rw [decide_eq_false q2]
      by_cases q3 : 16 < z
      · rw [decide_eq_true q3]; exact bk_147_39 _ _ _ _ _ _
      rw [decide_eq_false q3, decide_eq_false (by omega : ¬ z % 2 = 0)]
      exact bk_147_39 _ _ _ _ _ _
    · intro I' i1 i2
      refine (h257 I' i1).trans ?_
      by_cases q4 : z % 2 = 0
      · rw [decide_eq_true q4]
        by_cases q5 : z / 2 < 1
        · rw [decide_eq_true q5]; rfl
        rw [decide_eq_false q5]
        by_cases q6 : 8 < z / 2
        · rw [decide_eq_true q6]; rfl
        rw [decide_eq_false q6, decide_eq_true (by omega : n = 0)]
        rfl
      · rw [decide_eq_false q4]; rfl
