/-! way: class and reference side by side -/
theorem c_waypages (env : am_E) (d : Nat) (n r : Nat) (hn : n ≤ 8) (hr : r < 6) (a : Nat → Int32) (rd own N hv : Int32) (b o hs : Nat) (ho1 : o ≤ 1) (hW : WH n a rd own N b) (hvo : ∀ x, x < n → bt own x = decide (Int32.ofNat x = hv)) (hoh : o = 1 → hv = Int32.ofNat hs ∧ hs < n) (p0 : Int32 × Int32) (hp0 : p0 = (N &&& (own ^^^ (-1)), rd ||| own)) (hK : o + cn n p0.1 ≤ 8) (m : Nat → Int32) (k0 : Nat) (hl : IvL m n k0) (A : Nat) (hA : A ≤ 1000) (pace : Nat) (hp1 : 1 ≤ pace ∧ pace ≤ 30) (I : Nat → Nat → Int32) (J : Nat → Nat → Int64) (E : Nat → Nat → Nat) (h5 : I 5 0 = Int32.ofNat n) (h7 : ∀ x, x < 8 → I 7 x = m (4 + x)) (h11 : I 11 r = Int32.ofNat pace) (h14 : I 14 r = hv) : am_ev env (d + 4, 136, 113, [some (.ref 0), some (.int (Int32.ofNat r)), some (.int (Int32.ofNat b)), some (.ref 12), some (.int (Int32.ofNat A)), some (.int (Int32.ofNat 0))], [], am_hp (WHp I (fun i => Int32.ofNat (wr a n p0 o hs i)) (o + cn n p0.1)) J E) = some (true, some (.int ((Int32.ofNat (A + pagN m p0.1 n) + Int32.ofNat pace - 1) / Int32.ofNat pace)), am_hp (WHp I (fun i => Int32.ofNat (wr a n p0 o hs i)) (o + cn n p0.1)) J E) := by
  generalize hH : WHp I (fun i => Int32.ofNat (wr a n p0 o hs i)) (o + cn n p0.1) = H
  have H4 : H 104 4 = Int32.ofNat (o + cn n p0.1) := by rw [← hH]; exact WHp_4 _ _ _
  have Hq : ∀ q, q ≠ 104 ∧ q ≠ 107 → H q = I q := fun q hq => by rw [← hH]; exact WHp_q _ _ _ q hq
  have H107 : ∀ i, i < o + cn n p0.1 → H 107 i = Int32.ofNat (wr a n p0 o hs i) := by
    intro i hi
    rw [← hH]
    unfold WHp
    rw [ur_at]
    have := cpr_in (I 107) 0 (o + cn n p0.1) (fun i => Int32.ofNat (wr a n p0 o hs i)) i hi
    rw [Nat.zero_add] at this; exact this
  have hsum : ∀ i, i ≤ cn n p0.1 → sump m (fun i => wx a n (wss a n p0 i)) i ≤ 792 := by
    intro i hi
    have h1 := way_sum m hn hW p0 hp0 i hi
    have h2 := pagN_le hl p0.1 n (Nat.le_refl _)
    omega
  have step2 : ∀ j i, i + j = cn n p0.1 → am_ev env (d + 4, 136, 113, [some (.ref 0), some (.int (Int32.ofNat r)), some (.int (Int32.ofNat b)), some (.ref 12), some (.int (Int32.ofNat (A + sump m (fun i => wx a n (wss a n p0 i)) i))), some (.int (Int32.ofNat (o + i)))], [], am_hp H J E) = some (true, some (.int ((Int32.ofNat (A + pagN m p0.1 n) + Int32.ofNat pace - 1) / Int32.ofNat pace)), am_hp H J E) := by
    intro j
    induction j with
    | zero =>
      intro i hi
      have hend := way_sum_end m hn hW p0 hp0
      have gz : decide (Int32.ofNat pace = 0) = false := (zdq0 pace (by omega)).trans (decide_eq_false (by omega))
      have g1 : decide ((1 : Int32) ≤ Int32.ofNat pace) = true := zle_t 1 pace hp1.1 (by omega)
      rw [show i = cn n p0.1 by omega, hend]
      refine (bk_136_113 _ _ _ _ _ _ _ _ _).trans ?_
      rw [H4, zle_t (o + cn n p0.1) (o + cn n p0.1) (Nat.le_refl _) (by omega), Hq 11 (by omega)]
      simp (disch := omega) only [decide_true, decide_false, Bool.not_true, Bool.not_false, am_cont, Option.bind_some, Option.toList_some, Option.toList_none, List.singleton_append, List.nil_append, cond_true, cond_false, zI_in, zI_nat, h11, g1, gz, bk_136_209]
    | succ j ih =>
      intro i hi
      obtain ⟨i1, i2, i3⟩ := wss_P hn hW p0 hp0 i (by omega)
      obtain ⟨s1, s2, s3, s4, s5, s6⟩ := WI_step hn hW i1 (i3 (by omega))
      have hw := H107 (o + i) (by omega)
      rw [wr_o a n p0 o hs i ho1] at hw
      have hne : decide (Int32.ofNat (wx a n (wss a n p0 i)) = hv) = false := by
        rw [← hvo _ s1]; exact (i1.1 _ ((av_iff a _ _).mp s2).1).2
      obtain ⟨y, y1, y2, y3⟩ := hl.2.2.2.1 _ s1
      have h16 := c_pagesOf env (d + 1) n (wx a n (wss a n p0 i)) hn s1 H J E (by rw [Hq 5 (by omega)]; exact h5)
      rw [Hq 7 (by omega), h7 _ (by omega), y3] at h16
      refine (bk_136_113 _ _ _ _ _ _ _ _ _).trans ?_
      rw [H4, zle_f (o + cn n p0.1) (o + i) (by omega) (by omega), Hq 14 (by omega)]
      have e : A + sump m (fun i => wx a n (wss a n p0 i)) i + y = A + sump m (fun i => wx a n (wss a n p0 i)) (i + 1) := by
        show _ = A + (sump m (fun i => wx a n (wss a n p0 i)) i + (m (4 + wx a n (wss a n p0 i))).toNatClampNeg)
        rw [y3, zI_nat y (by omega)]; omega
      have he2 : Int32.ofNat (A + sump m (fun i => wx a n (wss a n p0 i)) i) + Int32.ofNat y = Int32.ofNat (A + sump m (fun i => wx a n (wss a n p0 i)) (i + 1)) := by rw [zI_add, e]
      simp (disch := omega) only [decide_true, decide_false, Bool.not_true, Bool.not_false, am_cont, Option.bind_some, Option.toList_some, Option.toList_none, List.singleton_append, List.nil_append, cond_true, cond_false, zI_in, zI_nat, hw, h14, hne, h16, bk_136_166, bk_136_169, he2, zd_1]
      exact ih (i + 1) (by omega)
  by_cases ho : o = 1
  · obtain ⟨v1, v2⟩ := hoh ho
    have hw := H107 0 (by omega)
    have hw0 : wr a n p0 o hs 0 = hs := by unfold wr; rw [if_pos ho, if_pos rfl]
    rw [hw0] at hw
    refine (bk_136_113 _ _ _ _ _ _ _ _ _).trans ?_
    rw [H4, zle_f (o + cn n p0.1) 0 (by omega) (by omega), Hq 14 (by omega)]
    simp (disch := omega) only [decide_true, decide_false, Bool.not_true, Bool.not_false, am_cont, Option.bind_some, Option.toList_some, Option.toList_none, List.singleton_append, List.nil_append, cond_true, cond_false, zI_in, zI_nat, hw, h14, v1, bk_136_169, zd_1]
    have := step2 (cn n p0.1) 0 (by omega)
    rw [ho] at this
    exact this
  · have := step2 (cn n p0.1) 0 (by omega)
    rw [show o = 0 by omega] at this
    exact this

def XW (q j : Nat) : Prop := (q = 104 ∧ j = 4) ∨ q = 107 ∨ (q = 156 ∧ j = 26) ∨ q = 167
def PW (I : Nat → Nat → Int32) (n k : Nat) (I2 : Nat → Nat → Int32) : Prop := (∃ t h, R1 I2 n k t h) ∧ RW I2 ∧ frX XW I I2
theorem op_way (env : am_E) (d : Nat) (I : Nat → Nat → Int32) (J : Nat → Nat → Int64) (E : Nat → Nat → Nat) (n k t h : Nat) (hR : R1 I n k t h) (hv : RW I) (x w : Int32) : opR (fun H => am_ev env (d + 20, 136, 0, [some (.ref 0), some (.int x), some (.int w), none, none, none], [], H)) (fun H => am_ev env (d + 20, 246, 0, [some (.ref 156), some (.int x), some (.int w), none, none, none, none, none], [], H)) I J E (PW I n k) := by
  obtain ⟨hn, hk, ht, hh, e1, e2, e3, f0, f2, g0, g2⟩ := R1_f I n k t h hR
  obtain ⟨r1, r2, r3, r4, r5⟩ := id hR
  have ha := low_aft r1
  have keep : ∀ I2, (∀ q j, KR q j → I2 q j = I q j) → fr1 I I2 → PW I n k I2 := by
    intro I2 h1 h2
    refine ⟨⟨t, h, R1_ext I I2 n k t h h1 hR⟩, ?_, fun q j hq _ => h2 q j hq⟩
    obtain ⟨z, z0, z1, z2, z3⟩ := hv
    refine ⟨z, z0, (h2 104 4 (by unfold C1; omega)).trans z1, (h2 156 26 (by unfold C1; omega)).trans z2, fun j hj => ?_⟩
    rw [h2 107 j (by unfold C1; omega), h2 167 j (by unfold C1; omega)]; exact z3 j hj
  have th0K : ∀ I1, (∀ q j, KR q j → I1 q j = I q j) → ∀ q j, KR q j → th0 I1 q j = I q j := by
    intro I1 h1 q j hq
    by_cases h2 : q = 156
    · subst h2; rw [th0_at _ _ (by unfold KR at hq; omega)]; exact h1 _ _ hq
    · rw [th0_ne _ _ h2]; exact h1 _ _ hq
  have cR := fun d => c_hasReader env d x I J E k hk f2
  have cB := fun d => c_hasBook env d w I J E n hn f0
  have mR := fun I1 (h1 : I1 158 = I 158) d => m_isReader env d x (th0 I1) J E k (by omega) (by rw [th0_158, h1]; exact g2)
  have mB := fun I1 (h1 : I1 158 = I 158) d => m_isBook env d w (th0 I1) J E n (by omega) (by rw [th0_158, h1]; exact g0)
  cases hx : am_in x k
  · refine ⟨-1, I, th0 I, ?_, ?_, keep _ (th0K I (fun _ _ _ => rfl)) (th0_fr I)⟩
    · simp only [bk_136_0, bk_136_11, bk_136_28, cR, hx, bi_eq0, decide_true, decide_false, Bool.not_true, Bool.not_false, am_cont, Option.bind_some, Option.toList_some, Option.toList_none, List.singleton_append, List.nil_append, cond_true, cond_false]
    · simp only [bk_246_0, bk_246_10, bk_246_33, th0_u, mR I rfl, hx, bi_eq0, decide_true, decide_false, Bool.not_true, Bool.not_false, am_cont, Option.bind_some, Option.toList_some, Option.toList_none, List.singleton_append, List.nil_append, cond_true, cond_false]
  cases hw : am_in w n
  · refine ⟨-1, I, th0 I, ?_, ?_, keep _ (th0K I (fun _ _ _ => rfl)) (th0_fr I)⟩
    · simp only [bk_136_0, bk_136_11, bk_136_25, bk_136_28, cR, cB, hx, hw, bi_eq0, decide_true, decide_false, Bool.not_true, Bool.not_false, am_cont, Option.bind_some, Option.toList_some, Option.toList_none, List.singleton_append, List.nil_append, cond_true, cond_false]
    · simp only [bk_246_0, bk_246_10, bk_246_18, bk_246_33, th0_u, mR I rfl, mB I rfl, hx, hw, bi_eq0, decide_true, decide_false, Bool.not_true, Bool.not_false, am_cont, Option.bind_some, Option.toList_some, Option.toList_none, List.singleton_append, List.nil_append, cond_true, cond_false]
  obtain ⟨r, hr, -, rfl⟩ := zI_cases _ _ hx
  obtain ⟨b, hb, -, rfl⟩ := zI_cases _ _ hw
  have hag : ∀ c, c < n → aft (rS I 12) c = aft (I 158) c := fun c hc => agr_aft r3 c hc
  have ce := c_everOf env (d + 14) n r hn (by omega) I J E f0
  have ev : grs (aft (rS I 12)) n n (roh (rS I 12) r) = grs (aft (I 158)) n n (roh (I 158) r) := by
    rw [grs_congr hag]
    unfold roh
    rw [r3 (46 + r) (by unfold rel; omega), r3 (64 + r) (by unfold rel; omega)]
  rw [ev] at ce
  have hor : Or (tk I n (aft (rS I 12))) n (aft (I 158)) := ⟨(tk_or I n _).1, fun c hc => ((tk_or I n _).2 c hc).trans (hag c hc)⟩
  have iq : ∀ q, q ≠ 104 ∧ q ≠ 105 → tk I n (aft (rS I 12)) q = I q := fun q hq => tk_ne _ _ _ _ hq
  have i104 := fun j hj => tk_104 I n (aft (rS I 12)) j hj
  have iKR := fun q j => tk_KR I n (aft (rS I 12)) q j
  have ifr := tk_fr I n (aft (rS I 12))
  generalize hI0 : tk I n (aft (rS I 12)) = I0 at ce hor iq i104 iKR ifr
  have me0 := fun I1 (h1 : I1 158 = I 158) => m_everOf env (d + 15) n r hn (by omega) (th0 I1) J E (by rw [th0_158, h1]; exact g0) (by rw [th0_158, h1]; exact low_roh hn r2 (by omega))
  have me : ∀ I1, I1 158 = I 158 → am_ev env (d + 15 + 4, 217, 0, [some (.ref 156), some (.int (Int32.ofNat r)), none, none, none], [], am_hp (th0 I1) J E) = some (true, some (.int (grs (aft (I 158)) n n (roh (I 158) r))), am_hp (th0 I1) J E) := by
    intro I1 h1
    have := me0 I1 h1
    rw [th0_158, h1] at this; exact this
  have q17 : I0 17 r = I 158 (64 + r) := by rw [iq 17 (by omega)]; exact (r17 I r (by omega)).trans (r3 _ (by unfold rel; omega))
  have q14 : I0 14 r = I 158 (46 + r) := by rw [iq 14 (by omega)]; exact (r14 I r (by omega)).trans (r3 _ (by unfold rel; omega))
  have q15 : I0 15 r = I 158 (52 + r) := by rw [iq 15 (by omega)]; exact (r15 I r (by omega)).trans (r3 _ (by unfold rel; omega))
  have q16 : I0 16 r = I 158 (58 + r) := by rw [iq 16 (by omega)]; exact (r16 I r (by omega)).trans (r3 _ (by unfold rel; omega))
  have hbe : ∀ (s : Int32) (I' : Nat → Nat → Int32) d, am_ev env (d + 1, 168, 0, [some (.int s), some (.int (Int32.ofNat b))], [], am_hp I' J E) = some (true, some (.int (bi (bt s b))), am_hp I' J E) := fun s I' d => c_isIn env d s b (by omega) I' J E
  cases hG : bt (grs (aft (I 158)) n n (roh (I 158) r)) b with
  | false =>
    refine ⟨-1, I0, th0 I0, ?_, ?_, keep _ (th0K I0 iKR) (fr1_trans ifr (th0_fr I0))⟩
    · simp only [bk_136_0, bk_136_11, bk_136_25, bk_136_35, bk_136_39, cR, cB, hx, hw, ce, hbe, hG, bi_eq0, decide_true, decide_false, Bool.not_true, Bool.not_false, am_cont, Option.bind_some, Option.toList_some, Option.toList_none, List.singleton_append, List.nil_append, cond_true, cond_false]
    · have h1 := iq 158 (by omega)
      simp (disch := omega) only [bk_246_0, bk_246_10, bk_246_18, bk_246_26, bk_246_30, bk_246_33, th0_u, mR I0 h1, mB I0 h1, hx, hw, me I0 h1, m_has, hG, bi_eq0, decide_true, decide_false, Bool.not_true, Bool.not_false, am_cont, Option.bind_some, Option.toList_some, Option.toList_none, List.singleton_append, List.nil_append, cond_true, cond_false]
  | true =>
    have fin0 : ∀ I1, I1 158 = I 158 → am_ev env (d + 20, 246, 30, [some (.ref 156), some (.int (Int32.ofNat r)), some (.int (Int32.ofNat b)), none, none, none, none, none], [.int (bi true)], am_hp (th0 I1) J E) = am_ev env (d + 20, 246, 46, [some (.ref 156), some (.int (Int32.ofNat r)), some (.int (Int32.ofNat b)), none, none, none, none, none], [.int (bi (bt (I 158 (64 + r)) b))], am_hp (am_u (th0 I1) 156 26 0) J E) := by
      intro I1 h1
      refine (bk_246_30 _ _ _ _ _ _ _ _).trans ?_
      have hhr := m_hasRead env (d + 17) r b (by omega) (by omega) (am_u (th0 I1) 156 26 0) J E
      rw [am_u_nr _ _ _ _ _ (by omega), th0_158, h1] at hhr
      rw [show decide (bi true = 0) = false by decide]
      simp only [decide_true, decide_false, Bool.not_true, Bool.not_false, am_cont, Option.bind_some, Option.toList_some, Option.toList_none, List.singleton_append, List.nil_append, cond_true, cond_false, hhr]
    have m30 : ∀ I1, I1 158 = I 158 → am_ev env (d + 20, 246, 0, [some (.ref 156), some (.int (Int32.ofNat r)), some (.int (Int32.ofNat b)), none, none, none, none, none], [], am_hp I1 J E) = am_ev env (d + 20, 246, 46, [some (.ref 156), some (.int (Int32.ofNat r)), some (.int (Int32.ofNat b)), none, none, none, none, none], [.int (bi (bt (I 158 (64 + r)) b))], am_hp (am_u (th0 I1) 156 26 0) J E) := by
      intro I1 h1
      refine Eq.trans ?_ (fin0 I1 h1)
      simp (disch := omega) only [bk_246_0, bk_246_10, bk_246_18, bk_246_26, th0_u, mR I1 h1, mB I1 h1, hx, hw, me I1 h1, m_has, hG, bi_eq0, decide_true, decide_false, Bool.not_true, Bool.not_false, am_cont, Option.bind_some, Option.toList_some, Option.toList_none, List.singleton_append, List.nil_append, cond_true, cond_false]
    have cst : am_ev env (d + 20, 136, 0, [some (.ref 0), some (.int (Int32.ofNat r)), some (.int (Int32.ofNat b)), none, none, none], [], am_hp I J E) = am_ev env (d + 20, 136, 62, [some (.ref 0), some (.int (Int32.ofNat r)), some (.int (Int32.ofNat b)), some (.ref 12), none, none], [.int (bi (bt (I 158 (64 + r)) b))], am_hp I0 J E) := by
      simp (disch := omega) only [bk_136_0, bk_136_11, bk_136_25, bk_136_35, bk_136_39, cR, cB, hx, hw, ce, hbe, hG, bi_eq0, decide_true, decide_false, Bool.not_true, Bool.not_false, am_cont, Option.bind_some, Option.toList_some, Option.toList_none, List.singleton_append, List.nil_append, cond_true, cond_false, zI_in, zI_nat, q17]
    cases hrb : bt (I 158 (64 + r)) b with
    | true =>
      rw [hrb] at cst m30
      refine ⟨0, am_u I0 104 4 0, am_u (th0 (am_u I0 104 4 0)) 156 26 0, cst.trans ?_, (m30 _ (by rw [am_u_nr _ _ _ _ _ (by omega)]; exact iq 158 (by omega))).trans ?_, ⟨t, h, R1_ext I _ n k t h (fun q j hq => ?_) hR⟩, ?_, fun q j hq hX => ?_⟩
      · refine (bk_136_62 _ _ _ _ _ _ _ _).trans ?_
        rw [show decide (bi true = 0) = false by decide]; rfl
      · refine (bk_246_46 _ _ _ _ _ _ _ _).trans ?_
        rw [show decide (bi true = 0) = false by decide]; rfl
      · rw [am_u_d]
        by_cases h1 : q = 156
        · subst h1; rw [if_pos rfl, if_neg (by unfold KR at hq; omega), th0_at _ _ (by unfold KR at hq; omega), am_u_nr _ _ _ _ _ (by omega)]; exact iKR _ _ hq
        · rw [if_neg h1, th0_ne _ _ h1, am_u_nr _ _ _ _ _ (by unfold KR at hq; omega)]; exact iKR _ _ hq
      · refine ⟨0, by omega, ?_, am_u_at _ _ _ _, fun j hj => by omega⟩
        rw [am_u_nr _ _ _ _ _ (by omega), th0_ne _ _ (by omega)]; exact am_u_at _ _ _ _
      · rw [am_u_d]
        by_cases h1 : q = 156
        · subst h1; rw [if_pos rfl, if_neg (by unfold XW at hX; omega), th0_at _ _ (by unfold C1 at hq; omega), am_u_nr _ _ _ _ _ (by omega)]; exact ifr _ _ hq
        · rw [if_neg h1, th0_ne _ _ h1, am_u_d]
          by_cases h2 : q = 104
          · rw [if_pos h2, if_neg (by unfold XW at hX; omega)]; exact ifr _ _ hq
          · rw [if_neg h2]; exact ifr _ _ hq
    | false =>
      rw [hrb] at cst m30
      obtain ⟨j1, ⟨xo, hxo1, hxo⟩, j3, j4⟩ := r2.2.2.2 r (by omega)
      obtain ⟨pace, hpa1, hpa2, hpa⟩ := r1.2.2.2.2.2.2 r hr
      have hexo : ∃ own hs, ((I 158 (46 + r) = -1 ∧ own = 0) ∨ (I 158 (46 + r) = Int32.ofNat hs ∧ hs < n ∧ own = bit1 hs)) ∧ (∀ x, bt own x = true → bt (I 158 (64 + r)) x = false) ∧ roh (I 158) r = I 158 (64 + r) ||| own ∧ ∃ yl, yl ≤ 99 ∧ I 158 (52 + r) = Int32.ofNat yl := by
        rcases j1 with ⟨g1, g3⟩ | ⟨_, c, g1, g3, g4, yl, _, g6, g7⟩
        · refine ⟨0, 0, Or.inl ⟨g1, rfl⟩, fun x hx => (by rw [bt_zero] at hx; cases hx), ?_, 0, by omega, g3⟩
          unfold roh; rw [decide_eq_true g1, Int32.or_zero]; rfl
        · refine ⟨bit1 c, c, Or.inr ⟨g3, g1, rfl⟩, fun x hx => ?_, ?_, yl, g6, g7⟩
          · rw [bt_one c x (by omega)] at hx
            have := of_decide_eq_true hx
            subst this; exact g4
          · unfold roh; rw [decide_eq_false (by rw [g3]; exact fun e => m1_ne c (by omega) e.symm), g3]; rfl
      obtain ⟨own, hs, hvs, howr, hroh, yl, hyl1, hyl⟩ := hexo
      rw [hroh] at hG
      have hown1 : ∀ x, x < n → bt own x = decide (Int32.ofNat x = I 158 (46 + r)) := by
        intro x hx
        rcases hvs with ⟨v1, v2⟩ | ⟨v1, v2, v3⟩
        · rw [v1, v2, bt_zero, decide_eq_false (fun e => m1_ne x (by omega) e.symm)]
        · rw [v1, v3, bt_one hs x (by omega), zI_deq x hs (by omega) (by omega)]
      have hown2 : ∀ x, x < n → decide (I 158 (46 + r) = Int32.ofNat x) = bt own x := by
        intro x hx
        rw [hown1 x hx]
        by_cases e : I 158 (46 + r) = Int32.ofNat x
        · rw [decide_eq_true e, decide_eq_true e.symm]
        · rw [decide_eq_false e, decide_eq_false (fun h => e h.symm)]
      have hlown : lowb n own := by
        rcases hvs with ⟨v1, v2⟩ | ⟨v1, v2, v3⟩
        · intro x hx; rw [v2, bt_zero] at hx; cases hx
        · rw [v3]; exact bt_low1 hn v2
      have hlax : ∀ x, x < n → lowb n (ax (aft (I 158)) (I 158 (64 + r)) own x) := by
        intro x hx c hc
        unfold ax at hc
        split at hc
        · rw [bt_zero] at hc; cases hc
        · rw [bt_and] at hc; exact ha x hx c (and_f hc).1
      have hRch := swps_rch (ax (aft (I 158)) (I 158 (64 + r)) own) n (bit1 b) (bt_low1 hn hb) hlax
      have hW : WH n (aft (I 158)) (I 158 (64 + r)) own (swps (ax (aft (I 158)) (I 158 (64 + r)) own) n n (bit1 b)) b := ⟨ha, j3, hlown, howr, hb, hrb, hRch, hG⟩
      obtain ⟨o, ho1, ho2, ho3, hoK, hfw⟩ := c_findWay env (d + 15) n b hn (aft (I 158)) (I 158 (64 + r)) (I 158 (46 + r)) own hs hown1 hvs hW I0 J E hor
      have hmn0 := fun H (h1 : H 158 = I 158) => m_needed env (d + 15) n r b hn (by omega) hb own (swps (ax (aft (I 158)) (I 158 (64 + r)) own) n n (bit1 b)) H J E (by rw [h1]; exact g0) (by rw [h1]; exact hown2) (by rw [h1]; exact hrb) (by rw [h1]; exact hlax) (by rw [h1]; exact hRch)
      have hNl := (WH_N hn hW).1
      generalize hNN : swps (ax (aft (I 158)) (I 158 (64 + r)) own) n n (bit1 b) = N at hW ho2 ho3 hoK hfw hmn0 hNl
      have hml := fun H (h1 : H 158 = I 158) (pg : Int32) => m_wayloop env (d + 16) n r hn (by omega) (aft (I 158)) (I 158 (64 + r)) own N b o hs ho1 hW (N &&& (own ^^^ (-1)), I 158 (64 + r) ||| own) rfl hoK (Int32.ofNat b) pg H J E (by rw [h1]; exact fun _ _ => rfl) pace (by rw [h1]; exact hpa) ⟨hpa1, hpa2⟩ (cn n (N &&& (own ^^^ (-1)))) 0 none (Nat.zero_add _)
      have h5I : I0 5 0 = Int32.ofNat n := by rw [iq 5 (by omega)]; exact f0
      have hLb := rS_lb I 12
      have h7I : ∀ x, x < 8 → I0 7 x = rS I 12 (4 + x) := fun x hx => by rw [iq 7 (by omega)]; exact hLb.2.1 x hx
      have h11I : I0 11 r = Int32.ofNat pace := by rw [iq 11 (by omega)]; exact (hLb.2.2.2.2 r (by omega)).trans ((r3 _ (by unfold rel; omega)).trans hpa)
      have hcp := c_waypages env (d + 16) n r hn (by omega) (aft (I 158)) (I 158 (64 + r)) own N (I 158 (46 + r)) b o hs ho1 hW hown1 (fun e => ⟨(ho2 e).1, (ho2 e).2.1⟩) (N &&& (own ^^^ (-1)), I 158 (64 + r) ||| own) rfl hoK (rS I 12) k (IvL_agr (agr_symm r3) r1) (xo + yl) (by omega) pace ⟨hpa1, hpa2⟩ I0 J E h5I h7I h11I q14
      rw [pagN_congr (m' := I 158) _ n (fun c hc => r3 (4 + c) (by unfold rel; omega))] at hcp
      have hlow2 : lowb n (N &&& (own ^^^ (-1))) := fun c hc => by rw [bt_and] at hc; exact hNl c (and_f hc).1
      have hmp0 := fun H (h1 : H 158 = I 158) => m_pagesOf env (d + 17) n k (N &&& (own ^^^ (-1))) H J E (by rw [h1]; exact r1) hlow2
      have hmp : ∀ H, H 158 = I 158 → am_ev env (d + 17 + 2, 245, 0, [some (.ref 156), some (.int (N &&& (own ^^^ (-1)))), none, none], [], am_hp H J E) = some (true, some (.int (Int32.ofNat (pagN (I 158) (N &&& (own ^^^ (-1))) n))), am_hp H J E) := by
        intro H h1
        have := hmp0 H h1
        rw [h1] at this; exact this
      -- the class
      have hI1q := fun q hq => WHp_q I0 (fun i => Int32.ofNat (wr (aft (I 158)) n (N &&& (own ^^^ (-1)), I 158 (64 + r) ||| own) o hs i)) (o + cn n (N &&& (own ^^^ (-1)))) q hq
      have hI14 := WHp_4 I0 (fun i => Int32.ofNat (wr (aft (I 158)) n (N &&& (own ^^^ (-1)), I 158 (64 + r) ||| own) o hs i)) (o + cn n (N &&& (own ^^^ (-1))))
      have hI1j := fun j hj => WHp_104 I0 (fun i => Int32.ofNat (wr (aft (I 158)) n (N &&& (own ^^^ (-1)), I 158 (64 + r) ||| own) o hs i)) (o + cn n (N &&& (own ^^^ (-1)))) j hj
      have hI1row : ∀ i, i < o + cn n (N &&& (own ^^^ (-1))) → WHp I0 (fun i => Int32.ofNat (wr (aft (I 158)) n (N &&& (own ^^^ (-1)), I 158 (64 + r) ||| own) o hs i)) (o + cn n (N &&& (own ^^^ (-1)))) 107 i = Int32.ofNat (wr (aft (I 158)) n (N &&& (own ^^^ (-1)), I 158 (64 + r) ||| own) o hs i) := by
        intro i hi
        unfold WHp
        rw [ur_at]
        have := cpr_in (I0 107) 0 (o + cn n (N &&& (own ^^^ (-1)))) (fun i => Int32.ofNat (wr (aft (I 158)) n (N &&& (own ^^^ (-1)), I 158 (64 + r) ||| own) o hs i)) i hi
        rw [Nat.zero_add] at this; exact this
      have hcp2 : am_ev env (d + 16 + 4, 136, 113, [some (.ref 0), some (.int (Int32.ofNat r)), some (.int (Int32.ofNat b)), some (.ref 12), some (.int (Int32.ofNat (xo + yl))), some (.int (Int32.ofNat 0))], [], am_hp (WHp I0 (fun i => Int32.ofNat (wr (aft (I 158)) n (N &&& (own ^^^ (-1)), I 158 (64 + r) ||| own) o hs i)) (o + cn n (N &&& (own ^^^ (-1))))) J E) = some (true, some (.int ((Int32.ofNat (xo + yl + pagN (I 158) (N &&& (own ^^^ (-1))) n) + Int32.ofNat pace - 1) / Int32.ofNat pace)), am_hp (WHp I0 (fun i => Int32.ofNat (wr (aft (I 158)) n (N &&& (own ^^^ (-1)), I 158 (64 + r) ||| own) o hs i)) (o + cn n (N &&& (own ^^^ (-1))))) J E) := hcp
      generalize hI1 : WHp I0 (fun i => Int32.ofNat (wr (aft (I 158)) n (N &&& (own ^^^ (-1)), I 158 (64 + r) ||| own) o hs i)) (o + cn n (N &&& (own ^^^ (-1)))) = I1 at hfw hI1q hI14 hI1j hI1row hcp2
      have j158 : I1 158 = I 158 := (hI1q 158 (by omega)).trans (iq 158 (by omega))
      refine ⟨(Int32.ofNat (xo + yl + pagN (I 158) (N &&& (own ^^^ (-1))) n) + Int32.ofNat pace - 1) / Int32.ofNat pace, I1, MWp (th0 I1) (fun i => Int32.ofNat (wr (aft (I 158)) n (N &&& (own ^^^ (-1)), I 158 (64 + r) ||| own) o hs i)) (o + cn n (N &&& (own ^^^ (-1)))), cst.trans ?_, (m30 I1 j158).trans ?_, ⟨t, h, R1_ext I _ n k t h (fun q j hq => ?_) hR⟩, ?_, fun q j hq hX => ?_⟩
      · refine (bk_136_62 _ _ _ _ _ _ _ _).trans ?_
        rw [show decide (bi false = 0) = true by decide]
        have q16' : I1 16 r = Int32.ofNat xo := by rw [hI1q 16 (by omega), q16]; exact hxo
        have q15' : I1 15 r = Int32.ofNat yl := by rw [hI1q 15 (by omega), q15]; exact hyl
        simp (disch := omega) only [decide_true, decide_false, Bool.not_true, Bool.not_false, am_cont, Option.bind_some, Option.toList_some, Option.toList_none, List.singleton_append, List.nil_append, cond_true, cond_false, zI_in, zI_nat, q17, q14, hfw, bk_136_95, q16', q15']
        rw [zI_add]
        exact hcp2
      · refine (bk_246_46 _ _ _ _ _ _ _ _).trans ?_
        rw [show decide (bi false = 0) = true by decide]
        have h158 : am_u (th0 I1) 156 26 0 158 = I 158 := by rw [am_u_nr _ _ _ _ _ (by omega), th0_158, j158]
        have hne := hmn0 _ h158
        have hmi := m_isIdle env (d + 18) r (by omega) (am_u (th0 I1) 156 26 0) J E
        rw [h158] at hmi
        have hpg := hmp _ h158
        have e81 : am_ev env (d + 20, 246, 63, [some (.ref 156), some (.int (Int32.ofNat r)), some (.int (Int32.ofNat b)), some (.int N), none, none, none, none], [.int (bi (decide (I 158 (46 + r) = -1)))], am_hp (am_u (th0 I1) 156 26 0) J E) = am_ev env (d + 20, 246, 81, [some (.ref 156), some (.int (Int32.ofNat r)), some (.int (Int32.ofNat b)), some (.int N), none, none, none, none], [.int own], am_hp (am_u (th0 I1) 156 26 0) J E) := by
          refine (bk_246_63 _ _ _ _ _ _ _ _ _).trans ?_
          rw [bi_eq0]
          rcases hvs with ⟨v1, v2⟩ | ⟨v1, v2, v3⟩
          · rw [decide_eq_true v1, v2]; rfl
          · rw [decide_eq_false (by rw [v1]; exact fun e => m1_ne hs (by omega) e.symm)]
            simp (disch := omega) only [decide_true, decide_false, Bool.not_true, Bool.not_false, am_cont, Option.bind_some, Option.toList_some, Option.toList_none, List.singleton_append, List.nil_append, cond_true, cond_false, zc_72, zc_46, zc_52, zc_38, zc_58, zc_64, zc_28, zc_20, zc_34, zc_4, zc_8, zc_50, zc_48, zc_12, zc_96, zd_1, zd_2, zd_3, zd_8, zd_36, zd_20, zI_in, zI_nat, h158, v1]
            rw [v3]
        have e112 : am_ev env (d + 20, 246, 112, [some (.ref 156), some (.int (Int32.ofNat r)), some (.int (Int32.ofNat b)), some (.int N), some (.int own), none, none, none], [.int (Int32.ofNat (pagN (I 158) (N &&& (own ^^^ (-1))) n)), .int (Int32.ofNat (xo + yl))], am_hp (am_u (th0 I1) 156 26 0) J E) = am_ev env (d + 20, 246, 156, [some (.ref 156), some (.int (Int32.ofNat r)), some (.int (Int32.ofNat b)), some (.int N), some (.int own), some (.int (Int32.ofNat (xo + yl + pagN (I 158) (N &&& (own ^^^ (-1))) n))), some (.int (I 158 (64 + r) ||| own)), none], [], am_hp (MWp (th0 I1) (fun i => Int32.ofNat (wr (aft (I 158)) n (N &&& (own ^^^ (-1)), I 158 (64 + r) ||| own) o hs i)) (o + 0)) J E) := by
          have hM0 : am_u (th0 I1) 156 26 0 = MWp (th0 I1) (fun i => Int32.ofNat (wr (aft (I 158)) n (N &&& (own ^^^ (-1)), I 158 (64 + r) ||| own) o hs i)) 0 := by
            unfold MWp
            rw [cpr_zero, am_u_r]
            have := ur_self (am_ur (th0 I1) 156 (ru (th0 I1 156) 26 0)) 167
            rw [ur_ne _ _ _ _ (by omega)] at this
            exact this.symm
          refine (bk_246_112 _ _ _ _ _ _ _ _ _ _ _).trans ?_
          rw [h158]
          by_cases ho : o = 1
          · obtain ⟨u1, u2, u3, u4⟩ := ho2 ho
            have hnz : decide (N &&& own = 0) = false := by
              apply decide_eq_false
              intro e
              have := congrArg (fun s => bt s hs) e
              simp only [bt_and, bt_zero] at this
              rw [u4, u3, bt_one hs hs (by omega), decide_eq_true rfl] at this
              cases this
            have hms := MWp_set (th0 I1) (fun i => Int32.ofNat (wr (aft (I 158)) n (N &&& (own ^^^ (-1)), I 158 (64 + r) ||| own) o hs i)) 0
            rw [show wr (aft (I 158)) n (N &&& (own ^^^ (-1)), I 158 (64 + r) ||| own) o hs 0 = hs by unfold wr; rw [if_pos ho, if_pos rfl], ← hM0] at hms
            have hms2 : am_u (am_u (am_u (th0 I1) 156 26 0) 167 0 (Int32.ofNat hs)) 156 26 1 = MWp (th0 I1) (fun i => Int32.ofNat (wr (aft (I 158)) n (N &&& (own ^^^ (-1)), I 158 (64 + r) ||| own) o hs i)) (0 + 1) := hms
            simp (disch := omega) only [zc_72, zc_46, zc_52, zc_38, zc_58, zc_64, zc_28, zc_20, zc_34, zc_4, zc_8, zc_50, zc_48, zc_12, zc_96, zd_1, zd_2, zd_3, zd_8, zd_36, zd_20, zI_in, zI_nat, hnz, decide_true, decide_false, Bool.not_true, Bool.not_false, am_cont, Option.bind_some, Option.toList_some, Option.toList_none, List.singleton_append, List.nil_append, cond_true, cond_false, u1, hms2, zI_add, ho]
          · have ho0 : o = 0 := by omega
            have hz : N &&& own = 0 := by
              apply bt_ext
              intro c _
              rw [bt_and, bt_zero]
              cases hc : bt own c with
              | false => exact Bool.and_false _
              | true => rw [ho3 ho0 c hc]; rfl
            simp (disch := omega) only [zc_72, zc_46, zc_52, zc_38, zc_58, zc_64, zc_28, zc_20, zc_34, zc_4, zc_8, zc_50, zc_48, zc_12, zc_96, zd_1, zd_2, zd_3, zd_8, zd_36, zd_20, zI_in, zI_nat, decide_eq_true hz, decide_true, decide_false, Bool.not_true, Bool.not_false, am_cont, Option.bind_some, Option.toList_some, Option.toList_none, List.singleton_append, List.nil_append, cond_true, cond_false, zI_add]
            rw [hM0, ho0]
        have hmlx := hml (th0 I1) (by rw [th0_158]; exact j158) (Int32.ofNat (xo + yl + pagN (I 158) (N &&& (own ^^^ (-1))) n))
        simp only [decide_true, decide_false, Bool.not_true, Bool.not_false, am_cont, Option.bind_some, Option.toList_some, Option.toList_none, List.singleton_append, List.nil_append, cond_true, cond_false, hne, bk_246_57, hmi]
        refine Eq.trans e81 ?_
        refine (bk_246_81 _ _ _ _ _ _ _ _ _).trans ?_
        rw [h158]
        have hay : Int32.ofNat xo + Int32.ofNat yl = Int32.ofNat (xo + yl) := zI_add xo yl
        simp (disch := omega) only [zc_72, zc_46, zc_52, zc_38, zc_58, zc_64, zc_28, zc_20, zc_34, zc_4, zc_8, zc_50, zc_48, zc_12, zc_96, zd_1, zd_2, zd_3, zd_8, zd_36, zd_20, zI_in, zI_nat, hxo, hyl, hay, decide_true, decide_false, Bool.not_true, Bool.not_false, am_cont, Option.bind_some, Option.toList_some, Option.toList_none, List.singleton_append, List.nil_append, cond_true, cond_false, hpg]
        refine Eq.trans e112 ?_
        refine (bk_246_156 _ _ _ _ _ _ _ _ _ _ _).trans ?_
        exact hmlx
      · by_cases h1 : q = 156
        · subst h1; rw [MWp_156 _ _ _ _ (by unfold KR at hq; omega), th0_at _ _ (by unfold KR at hq; omega), hI1q 156 (by omega)]; exact iKR _ _ hq
        · rw [MWp_q _ _ _ _ ⟨h1, by unfold KR at hq; omega⟩, th0_ne _ _ h1, hI1q q (by unfold KR at hq; omega)]; exact iKR _ _ hq
      · refine ⟨o + cn n (N &&& (own ^^^ (-1))), hoK, ?_, MWp_26 _ _ _, fun j hj => ?_⟩
        · rw [MWp_q _ _ _ _ (by omega), th0_ne _ _ (by omega)]; exact hI14
        · rw [MWp_q _ _ _ 107 (by omega), th0_ne _ _ (by omega), hI1row j hj]
          unfold MWp
          rw [ur_at]
          have := cpr_in (th0 I1 167) 0 (o + cn n (N &&& (own ^^^ (-1)))) (fun i => Int32.ofNat (wr (aft (I 158)) n (N &&& (own ^^^ (-1)), I 158 (64 + r) ||| own) o hs i)) j hj
          rw [Nat.zero_add] at this; exact this.symm
      · by_cases h1 : q = 156
        · subst h1; rw [MWp_156 _ _ _ _ (by unfold XW at hX; omega), th0_at _ _ (by unfold C1 at hq; omega), hI1q 156 (by omega)]; exact ifr _ _ hq
        · rw [MWp_q _ _ _ _ ⟨h1, by unfold XW at hX; omega⟩, th0_ne _ _ h1]
          by_cases h2 : q = 104
          · subst h2; rw [hI1j j (by unfold XW at hX; omega)]; exact ifr _ _ hq
          · rw [hI1q q ⟨h2, by unfold XW at hX; omega⟩]; exact ifr _ _ hq
