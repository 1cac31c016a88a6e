/-! deep -/
theorem accO_zero (P : Nat → Bool) (N : Nat) (hN : N ≤ 32) : accO P N = 0 ↔ ∀ k, k < N → P k = false := by
  constructor
  · intro h k hk
    cases hp : P k with
    | false => rfl
    | true =>
      have := (accO_bt P N hN k).mpr ⟨hk, hp⟩
      rw [h, bt_zero] at this
      cases this
  · intro h
    apply bt_ext
    intro k _
    rw [bt_zero]
    cases hb : bt (accO P N) k with
    | false => rfl
    | true =>
      obtain ⟨h1, h2⟩ := (accO_bt P N hN k).mp hb
      rw [h k h1] at h2; cases h2
/-- in a ring, or behind one, as the reference asks it -/
def blkb (n : Nat) (a : Nat → Int32) (b : Nat) : Bool := !decide ((rq n a b ||| bit1 b) &&& accO (fun c => bt (rq n a c) c) n = 0)
theorem blkb_iff {n : Nat} {a : Nat → Int32} (hn : n ≤ 31) (b : Nat) (hb : b < n) : blkb n a b = true ↔ blk n a b := by
  unfold blkb blk
  constructor
  · intro h
    have h : ¬ ((rq n a b ||| bit1 b) &&& accO (fun c => bt (rq n a c) c) n = 0) := by
      intro e; rw [decide_eq_true e] at h; cases h
    apply Classical.byContradiction
    intro hn2
    apply h
    apply bt_ext
    intro c _
    rw [bt_zero, bt_and]
    cases h1 : bt (rq n a b ||| bit1 b) c with
    | false => rfl
    | true =>
      cases h2 : bt (accO (fun c => bt (rq n a c) c) n) c with
      | false => rfl
      | true =>
        exfalso
        obtain ⟨g1, g2⟩ := (accO_bt _ n (by omega) c).mp h2
        apply hn2
        rw [bt_or, bt_one b c (by omega), Bool.or_eq_true] at h1
        refine ⟨c, g1, ?_, g2⟩
        rcases h1 with h1 | h1
        · exact Or.inr h1
        · exact Or.inl (of_decide_eq_true h1)
  · rintro ⟨c, g1, g2, g3⟩
    have : ¬ ((rq n a b ||| bit1 b) &&& accO (fun c => bt (rq n a c) c) n = 0) := by
      intro e
      have e2 := congrArg (fun s => bt s c) e
      simp only [bt_and, bt_zero] at e2
      rw [(accO_bt (fun c => bt (rq n a c) c) n (by omega) c).mpr ⟨g1, g3⟩, bt_or, bt_one b c (by omega)] at e2
      rcases g2 with rfl | g2
      · rw [decide_eq_true rfl, Bool.or_true] at e2; cases e2
      · rw [g2] at e2; cases e2
    rw [decide_eq_false this]; rfl
theorem m_isBlocked (env : am_E) (d : Nat) (n b : Nat) (hn : n ≤ 8) (hb : b < n) (I : Nat → Nat → Int32) (J : Nat → Nat → Int64) (E : Nat → Nat → Nat) (h0 : I 158 0 = Int32.ofNat n) (ha : lowa n (aft (I 158))) : am_ev env (d + 6, 223, 0, [some (.ref 156), some (.int (Int32.ofNat b))], [], am_hp I J E) = some (true, some (.int (bi (blkb n (aft (I 158)) b))), am_hp I J E) := by
  have h1 := m_aheadOf env (d + 1) n b 0 hn hb I J E h0 ha
  have h2 := m_ringed env d n 0 hn I J E h0 ha
  rw [aw_zero] at h1 h2
  simp only [bk_223_0, bk_223_6, bk_223_15, decide_true, decide_false, Bool.not_true, Bool.not_false, am_cont, Option.bind_some, Option.toList_some, Option.toList_none, List.singleton_append, List.nil_append, cond_true, cond_false, h1, h2]
  unfold blkb
  cases decide ((rq n (aft (I 158)) b ||| bit1 b) &&& accO (fun c => bt (rq n (aft (I 158)) c) c) n = 0) <;> simp only [decide_true, decide_false, Bool.not_true, Bool.not_false, am_cont, Option.bind_some, Option.toList_some, Option.toList_none, List.singleton_append, List.nil_append, cond_true, cond_false, bk_223_24] <;> rfl
theorem opat_ex {n : Nat} {a : Nat → Int32} {y D : Nat} (h : bt (lvl a n D) y = true) : ∃ e, e < D ∧ opat n a y e := by
  induction D with
  | zero => rw [show lvl a n 0 = 0 from rfl, bt_zero] at h; cases h
  | succ D ih =>
    cases hz : bt (lvl a n D) y with
    | true => obtain ⟨e, h1, h2⟩ := ih hz; exact ⟨e, by omega, h2⟩
    | false => exact ⟨D, by omega, h, hz⟩
theorem dpo_eq {n : Nat} {a : Nat → Int32} {b D : Nat} (h : opat n a b D) : ∀ j i, i ≤ D → D < i + j → dpo n a b j i = Int32.ofNat D := by
  intro j
  induction j with
  | zero => intro i h1 h2; omega
  | succ j ih =>
    intro i h1 h2
    unfold dpo
    by_cases e : i = D
    · subst e; rw [h.1]; rfl
    · have : bt (lvl a n (i + 1)) b = false := by
        cases hz : bt (lvl a n (i + 1)) b with
        | false => rfl
        | true => have := lvl_mono a n (i + 1) D (by omega) b hz; rw [h.2] at this; cases this
      rw [this]
      exact ih (i + 1) (by omega) (by omega)
theorem dpo_none {n : Nat} {a : Nat → Int32} {b : Nat} (h : ∀ r, bt (lvl a n r) b = false) : ∀ j i, dpo n a b j i = -1 := by
  intro j
  induction j with
  | zero => intro i; rfl
  | succ j ih => intro i; unfold dpo; rw [h]; exact ih _
theorem dpo_congr {n : Nat} {a a' : Nat → Int32} (h : ∀ b, b < n → a b = a' b) (b : Nat) : ∀ j i, dpo n a b j i = dpo n a' b j i := by
  intro j
  induction j with
  | zero => intro i; rfl
  | succ j ih => intro i; unfold dpo; rw [ih, show lvl a n (i + 1) = lvl a' n (i + 1) from grs_congr h _ _]
theorem m_deepOf (env : am_E) (I : Nat → Nat → Int32) (J : Nat → Nat → Int64) (E : Nat → Nat → Nat) (n : Nat) (hn : n ≤ 8) (h0 : I 158 0 = Int32.ofNat n) (ha : lowa n (aft (I 158))) : ∀ D b d, b < n → D < n → opat n (aft (I 158)) b D → am_ev env (d + D + 4, 253, 0, [some (.ref 156), some (.int (Int32.ofNat b)), none, none, none], [], am_hp I J E) = some (true, some (.int (Int32.ofNat D)), am_hp I J E) := by
  intro D
  induction D using Nat.strongRecOn with
  | _ D ih =>
    intro b d hb hD hop
    generalize hA : aft (I 158) = a at ha ih hop
    refine (bk_253_0 _ _ _ _ _ _).trans ?_
    have hsub := ((lvl_succ a n (by omega) D b).mp hop.1).2
    have key : ∀ j y (acc : Nat) (o : Option Value), y + j = n → acc ≤ D → (∀ y', y' < y → bt (a b) y' = true → ∃ e, opat n a y' e ∧ e + 1 ≤ acc) → (acc = 0 ∨ ∃ y', bt (a b) y' = true ∧ ∃ e, opat n a y' e ∧ acc = e + 1) → am_ev env (d + D + 4, 253, 4, [some (.ref 156), some (.int (Int32.ofNat b)), some (.int (Int32.ofNat acc)), some (.int (Int32.ofNat y)), o], [], am_hp I J E) = some (true, some (.int (Int32.ofNat D)), am_hp I J E) := by
      intro j
      induction j with
      | zero =>
        intro y acc o hy h1 h2 h3
        refine (bk_253_4 _ _ _ _ _ _ _ _ _).trans ?_
        rw [h0, zle_t n y (by omega) (by omega)]
        have : opat n a b acc := by
          refine ⟨(lvl_succ a n (by omega) acc b).mpr ⟨hb, fun z hz => ?_⟩, ?_⟩
          · obtain ⟨e, q1, q2⟩ := h2 z (by have := ha b hb z hz; omega) hz
            exact lvl_mono a n (e + 1) acc q2 z q1.1
          · rcases h3 with rfl | ⟨z, hz, e, q1, rfl⟩
            · exact bt_zero b
            · cases hx : bt (lvl a n (e + 1)) b with
              | false => rfl
              | true =>
                have := ((lvl_succ a n (by omega) e b).mp hx).2 z hz
                rw [q1.2] at this; cases this
        rw [opat_uniq this hop]
        rfl
      | succ j ih2 =>
        intro y acc o hy h1 h2 h3
        refine (bk_253_4 _ _ _ _ _ _ _ _ _).trans ?_
        rw [h0, zle_f n y (by omega) (by omega)]
        simp (disch := omega) only [decide_true, decide_false, Bool.not_true, Bool.not_false, am_cont, Option.bind_some, Option.toList_some, Option.toList_none, List.singleton_append, List.nil_append, cond_true, cond_false, m_afters, hA, bk_253_19, m_has, bk_253_23, bi_eq0]
        cases hby : bt (a b) y with
        | false =>
          simp only [decide_true, decide_false, Bool.not_true, Bool.not_false, am_cont, Option.bind_some, Option.toList_some, Option.toList_none, List.singleton_append, List.nil_append, cond_true, cond_false, bk_253_47, zd_1]
          refine ih2 (y + 1) acc o (by omega) h1 (fun y' hy' hb' => ?_) h3
          by_cases e : y' = y
          · subst e; rw [hby] at hb'; cases hb'
          · exact h2 y' (by omega) hb'
        | true =>
          obtain ⟨e, e1, e2⟩ := opat_ex (hsub y hby)
          have hc := ih e e1 y (d + (D - 1 - e)) (by omega) (by omega) e2
          rw [show d + (D - 1 - e) + e + 4 = d + D + 3 by omega] at hc
          simp only [decide_true, decide_false, Bool.not_true, Bool.not_false, am_cont, Option.bind_some, Option.toList_some, Option.toList_none, List.singleton_append, List.nil_append, cond_true, cond_false, hc, bk_253_34, zd_1]
          by_cases hle : e + 1 ≤ acc
          · rw [zle_t (e + 1) acc hle (by omega)]
            simp only [decide_true, decide_false, Bool.not_true, Bool.not_false, am_cont, Option.bind_some, Option.toList_some, Option.toList_none, List.singleton_append, List.nil_append, cond_true, cond_false, bk_253_47, zd_1]
            refine ih2 (y + 1) acc _ (by omega) h1 (fun y' hy' hb' => ?_) h3
            by_cases e' : y' = y
            · subst e'; exact ⟨e, e2, hle⟩
            · exact h2 y' (by omega) hb'
          · rw [zle_f (e + 1) acc (by omega) (by omega)]
            simp only [decide_true, decide_false, Bool.not_true, Bool.not_false, am_cont, Option.bind_some, Option.toList_some, Option.toList_none, List.singleton_append, List.nil_append, cond_true, cond_false, bk_253_47, zd_1]
            refine ih2 (y + 1) (e + 1) _ (by omega) (by omega) (fun y' hy' hb' => ?_) (Or.inr ⟨y, hby, e, e2, rfl⟩)
            by_cases e' : y' = y
            · subst e'; exact ⟨e, e2, Nat.le_refl _⟩
            · obtain ⟨g, g1, g2⟩ := h2 y' (by omega) hb'; exact ⟨g, g1, by omega⟩
    exact key n 0 0 none (by omega) (by omega) (fun y' h => by omega) (Or.inl rfl)
theorem c_deep1 (env : am_E) (d : Nat) (n b : Nat) (hn : n ≤ 8) (hb : b < n) (I : Nat → Nat → Int32) (J : Nat → Nat → Int64) (E : Nat → Nat → Nat) (h0 : I 5 0 = Int32.ofNat n) : am_ev env (d + 19, 142, 0, [some (.ref 0), some (.int (Int32.ofNat b))], [], am_hp I J E) = some (true, some (.int (dpo n (aft (rS I 12)) b n 0)), am_hp (tk I n (aft (rS I 12))) J E) := by
  have ct := c_takeF env (d + 16) n hn I J E h0
  have cd := c_depthOf env (d + 15) n b hn (by omega) (aft (rS I 12)) (tk I n (aft (rS I 12))) J E (tk_or _ _ _)
  simp (disch := omega) only [bk_142_0, bk_142_11, bk_142_40, bk_142_48, c_hasBook env _ (Int32.ofNat b) I J E n hn h0, zI_in, bi_t, zq_1_0, decide_true, decide_false, Bool.not_true, Bool.not_false, am_cont, Option.bind_some, Option.toList_some, Option.toList_none, List.singleton_append, List.nil_append, cond_true, cond_false, ct, cd]
theorem deep_val {m : Nat → Int32} {n k : Nat} (hl : IvL m n k) (b : Nat) (hb : b < n) : (blkb n (aft m) b = true ∧ dpo n (aft m) b n 0 = -1) ∨ (blkb n (aft m) b = false ∧ ∃ D, D < n ∧ opat n (aft m) b D ∧ dpo n (aft m) b n 0 = Int32.ofNat D) := by
  have hn := hl.1.2
  have ha := low_aft hl
  cases hB : blkb n (aft m) b with
  | true =>
    exact Or.inl ⟨rfl, dpo_none (fun r => blk_never (by omega) ha r b hb ((blkb_iff (by omega) b hb).mp hB)) _ _⟩
  | false =>
    have hnb : ¬ blk n (aft m) b := fun h => by have := (blkb_iff (by omega) b hb).mpr h; rw [hB] at this; cases this
    have hl := unb_n (by omega) ha b hb hnb
    obtain ⟨D, h1, h2⟩ := opat_ex hl
    exact Or.inr ⟨rfl, D, h1, h2, dpo_eq h2 n 0 (by omega) (by omega)⟩
theorem op_deep (env : am_E) (d : Nat) (I : Nat → Nat → Int32) (J : Nat → Nat → Int64) (E : Nat → Nat → Nat) (n k t h : Nat) (hR : R1 I n k t h) (x : Int32) : opR (fun H => am_ev env (d + 20, 142, 0, [some (.ref 0), some (.int x)], [], H)) (fun H => am_ev env (d + 20, 254, 0, [some (.ref 156), some (.int x)], [], H)) I J E (P1 I n k) := by
  obtain ⟨hn, hk, ht, hh, e1, e2, e3, f0, f2, g0, g2⟩ := R1_f I n k t h hR
  obtain ⟨r1, r2, r3, r4, r5⟩ := id hR
  have ha := low_aft r1
  cases hx : am_in x n
  · refine none_op I J E n k t h hR (-1) _ _ ?_ ?_
    · simp only [bk_142_0, bk_142_11, c_hasBook env _ x I J E n hn f0, hx, bi_eq0, decide_true, decide_false, Bool.not_true, Bool.not_false, am_cont, Option.bind_some, Option.toList_some, Option.toList_none, List.singleton_append, List.nil_append, cond_true, cond_false]
    · simp only [bk_254_0, bk_254_10, bk_254_29, bk_254_30, th0_u, m_isBook env _ x (th0 I) J E n (by omega) (by rw [th0_158]; exact g0), hx, bi_eq0, decide_true, decide_false, Bool.not_true, Bool.not_false, am_cont, Option.bind_some, Option.toList_some, Option.toList_none, List.singleton_append, List.nil_append, cond_true, cond_false]
  obtain ⟨b, hb, -, rfl⟩ := zI_cases _ _ hx
  have cd := c_deep1 env (d + 1) n b hn hb I J E f0
  rw [dpo_congr (fun c hc => agr_aft r3 c hc) b] at cd
  have i158 : tk I n (aft (rS I 12)) 158 = I 158 := tk_ne _ _ _ _ (by omega)
  generalize hI1 : tk I n (aft (rS I 12)) = I1 at cd i158
  have mB := fun d => m_isBook env d (Int32.ofNat b) (th0 I1) J E n (by omega) (by rw [th0_158, i158]; exact g0)
  have mK := m_isBlocked env (d + 13) n b hn hb (th0 I1) J E (by rw [th0_158, i158]; exact g0) (by rw [th0_158, i158]; exact ha)
  rw [th0_158, i158] at mK
  refine scr_op I J E n k t h hR I1 (fun q j hq => by rw [← hI1]; exact tk_KR I n _ q j hq) (by rw [← hI1]; exact tk_fr I n _) (dpo n (aft (I 158)) b n 0) _ _ cd ?_
  rcases deep_val r1 b hb with ⟨v1, v2⟩ | ⟨v1, D, v2, v3, v4⟩
  · rw [v2]
    simp only [bk_254_0, bk_254_10, bk_254_18, bk_254_29, bk_254_30, th0_u, mB, hx, mK, v1, bi_eq0, decide_true, decide_false, Bool.not_true, Bool.not_false, am_cont, Option.bind_some, Option.toList_some, Option.toList_none, List.singleton_append, List.nil_append, cond_true, cond_false]
  · rw [v4]
    have md := m_deepOf env (th0 I1) J E n hn (by rw [th0_158, i158]; exact g0) (by rw [th0_158, i158]; exact ha) D b (d + 15 - D) hb v2 (by rw [th0_158, i158]; exact v3)
    rw [show d + 15 - D + D + 4 = d + 19 by omega] at md
    simp only [bk_254_0, bk_254_10, bk_254_18, bk_254_26, bk_254_30, th0_u, mB, hx, mK, v1, md, bi_eq0, decide_true, decide_false, Bool.not_true, Bool.not_false, am_cont, Option.bind_some, Option.toList_some, Option.toList_none, List.singleton_append, List.nil_append, cond_true, cond_false]
