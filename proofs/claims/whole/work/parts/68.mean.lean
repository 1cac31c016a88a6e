/-! mean -/
theorem zdq0 (x : Nat) (hx : x < 2147483648) : decide (Int32.ofNat x = 0) = decide (x = 0) := zI_deq x 0 hx (by omega)
theorem c_cd (env : am_E) (d : Nat) (u v : Nat) (hu : u < 100000) (hv : v < 100000) (hv1 : 1 ≤ v) (I : Nat → Nat → Int32) (J : Nat → Nat → Int64) (E : Nat → Nat → Nat) : am_ev env (d + 1, 144, 0, [some (.int (Int32.ofNat u)), some (.int (Int32.ofNat v)), none], [], am_hp I J E) = some (true, some (.int (Int32.ofNat (Nat.gcd u v))), am_hp I J E) := by
  refine (bk_144_0 _ _ _ _ _ _ _).trans ?_
  have hg1 : 1 ≤ Nat.gcd u v := Nat.gcd_pos_of_pos_right u hv1
  have key : ∀ x, Nat.gcd u v ≤ x → x < 100000 → am_ev env (d + 1, 144, 2, [some (.int (Int32.ofNat u)), some (.int (Int32.ofNat v)), some (.int (Int32.ofNat x))], [], am_hp I J E) = some (true, some (.int (Int32.ofNat (Nat.gcd u v))), am_hp I J E) := by
    intro x
    induction x with
    | zero => intro h1; omega
    | succ x ih =>
      intro h1 h2
      refine (bk_144_2 _ _ _ _ _ _ _ _).trans ?_
      by_cases hx : x + 1 ≤ 1
      · rw [show decide (Int32.ofNat (x + 1) ≤ (1 : Int32)) = true from zle_t (x + 1) 1 hx (by omega), show Nat.gcd u v = 1 by omega]
        rfl
      · rw [show decide (Int32.ofNat (x + 1) ≤ (1 : Int32)) = false from zle_f (x + 1) 1 (by omega) (by omega), zI_mod u (x + 1) (by omega) (by omega), zI_mod v (x + 1) (by omega) (by omega)]
        have hm1 : u % (x + 1) < x + 1 := Nat.mod_lt _ (by omega)
        have hm2 : v % (x + 1) < x + 1 := Nat.mod_lt _ (by omega)
        rw [zdq0 (x + 1) (by omega), zdq0 (u % (x + 1)) (by omega), zdq0 (v % (x + 1)) (by omega), decide_eq_false (by omega : ¬ x + 1 = 0)]
        by_cases hd : u % (x + 1) = 0 ∧ v % (x + 1) = 0
        · rw [decide_eq_true hd.1, decide_eq_true hd.2]
          have hdv := Nat.dvd_gcd (Nat.dvd_of_mod_eq_zero hd.1) (Nat.dvd_of_mod_eq_zero hd.2)
          have := Nat.le_of_dvd (by omega) hdv
          rw [show Nat.gcd u v = x + 1 by omega]
          rfl
        · have hne : Nat.gcd u v ≠ x + 1 := by
            intro e
            apply hd
            have a1 := Nat.gcd_dvd_left u v
            have a2 := Nat.gcd_dvd_right u v
            rw [e] at a1 a2
            exact ⟨Nat.mod_eq_zero_of_dvd a1, Nat.mod_eq_zero_of_dvd a2⟩
          have hn : am_ev env (d + 1, 144, 21, [some (.int (Int32.ofNat u)), some (.int (Int32.ofNat v)), some (.int (Int32.ofNat (x + 1)))], [], am_hp I J E) = some (true, some (.int (Int32.ofNat (Nat.gcd u v))), am_hp I J E) := by
            refine (bk_144_21 _ _ _ _ _ _ _ _).trans ?_
            rw [zI_pred (x + 1) (by omega), Nat.add_sub_cancel]
            exact ih (by omega) (by omega)
          by_cases hd1 : u % (x + 1) = 0
          · rw [decide_eq_true hd1, decide_eq_false (fun h => hd ⟨hd1, h⟩)]
            exact hn
          · rw [decide_eq_false hd1]
            exact hn
  exact key v (Nat.gcd_le_right u hv1) hv
theorem m_common (env : am_E) (d : Nat) (u v : Nat) (hu : u < 100000) (hv : v < 100000) (I : Nat → Nat → Int32) (J : Nat → Nat → Int64) (E : Nat → Nat → Nat) : am_ev env (d + 1, 179, 0, [some (.int (Int32.ofNat u)), some (.int (Int32.ofNat v)), none, none, none], [], am_hp I J E) = some (true, some (.int (Int32.ofNat (Nat.gcd u v))), am_hp I J E) := by
  refine (bk_179_0 _ _ _ _ _ _ _).trans ?_
  have key : ∀ N x y (a b : Int32) (o : Option Value), y ≤ N → x < 100000 → y < 100000 → am_ev env (d + 1, 179, 4, [some (.int a), some (.int b), some (.int (Int32.ofNat x)), some (.int (Int32.ofNat y)), o], [], am_hp I J E) = some (true, some (.int (Int32.ofNat (Nat.gcd x y))), am_hp I J E) := by
    intro N
    induction N with
    | zero =>
      intro x y a b o h1 h2 h3
      refine (bk_179_4 _ _ _ _ _ _ _ _ _ _).trans ?_
      have : y = 0 := Nat.le_zero.mp h1
      subst this
      rw [Nat.gcd_zero_right]
      rfl
    | succ N ih =>
      intro x y a b o h1 h2 h3
      refine (bk_179_4 _ _ _ _ _ _ _ _ _ _).trans ?_
      rw [zdq0 y (by omega)]
      by_cases hy : y = 0
      · subst hy; rw [Nat.gcd_zero_right]; rfl
      · have hm : x % y < y := Nat.mod_lt _ (by omega)
        rw [decide_eq_false hy, zI_mod x y (by omega) (by omega)]
        refine (ih y (x % y) a b _ (by omega) h3 (by omega)).trans ?_
        rw [Nat.gcd_comm x y, Nat.gcd_rec y x, Nat.gcd_comm (x % y) y]
  exact key v u v _ _ none (Nat.le_refl _) hu hv
def pagN (m : Nat → Int32) (s : Int32) : Nat → Nat
  | 0 => 0
  | b + 1 => pagN m s b + (if bt s b then (m (4 + b)).toNatClampNeg else 0)
theorem pagN_le {m : Nat → Int32} {n k : Nat} (hl : IvL m n k) (s : Int32) (N : Nat) (hN : N ≤ n) : pagN m s N ≤ 99 * N := by
  induction N with
  | zero => exact Nat.le_refl _
  | succ N ih =>
    have ih := ih (by omega)
    obtain ⟨x, h1, h2, h3⟩ := hl.2.2.2.1 N (by omega)
    unfold pagN
    rw [h3, zI_nat x (by omega)]
    split <;> omega
theorem pagN_hi (m : Nat → Int32) (s : Int32) (n : Nat) (hs : lowb n s) (j : Nat) : pagN m s (n + j) = pagN m s n := by
  induction j with
  | zero => rfl
  | succ j ih =>
    show pagN m s (n + j) + (if bt s (n + j) then (m (4 + (n + j))).toNatClampNeg else 0) = _
    rw [ih]
    cases hb : bt s (n + j) with
    | false => rfl
    | true => have := hs _ hb; omega
theorem pagN_congr {m m' : Nat → Int32} (s : Int32) (N : Nat) (h : ∀ b, b < N → m (4 + b) = m' (4 + b)) : pagN m s N = pagN m' s N := by
  induction N with
  | zero => rfl
  | succ N ih => unfold pagN; rw [ih (fun b hb => h b (by omega)), h N (by omega)]
theorem m_pagesOf (env : am_E) (d : Nat) (n k : Nat) (s : Int32) (I : Nat → Nat → Int32) (J : Nat → Nat → Int64) (E : Nat → Nat → Nat) (hl : IvL (I 158) n k) (hs : lowb n s) : am_ev env (d + 2, 245, 0, [some (.ref 156), some (.int s), none, none], [], am_hp I J E) = some (true, some (.int (Int32.ofNat (pagN (I 158) s n))), am_hp I J E) := by
  have hn := hl.1.2
  refine (bk_245_0 _ _ _ _ _ _).trans ?_
  have hr := lp_run (fun b (c : Int32) => am_ev env (d + 2, 245, 4, [some (.ref 156), some (.int s), some (.int c), some (.int (Int32.ofNat b))], [], am_hp I J E)) (fun b _ => Int32.ofNat (pagN (I 158) s (b + 1))) (fun b c => c = Int32.ofNat (pagN (I 158) s b)) 8 (fun b c hb hP => by
    refine ⟨?_, rfl⟩
    refine (bk_245_4 _ _ _ _ _ _ _ _).trans ?_
    rw [show decide ((8 : Int32) ≤ Int32.ofNat b) = false from zle_f 8 b hb (by omega), hP]
    simp (disch := omega) only [decide_true, decide_false, Bool.not_true, Bool.not_false, am_cont, Option.bind_some, Option.toList_some, Option.toList_none, List.singleton_append, List.nil_append, cond_true, cond_false, m_has, bk_245_15, bi_eq0, zc_72, zc_46, zc_52, zc_38, zc_58, zc_64, zc_28, zc_20, zc_34, zc_4, zc_8, zc_50, zc_48, zc_12, zc_96, zd_1, zd_2, zd_3, zd_8, zd_36, zd_20, zI_in, zI_nat]
    show _ = am_ev env (d + 2, 245, 4, [some (.ref 156), some (.int s), some (.int (Int32.ofNat (pagN (I 158) s b + (if bt s b then (I 158 (4 + b)).toNatClampNeg else 0)))), some (.int (Int32.ofNat (b + 1)))], [], am_hp I J E)
    cases hbt : bt s b with
    | false => simp only [decide_true, decide_false, Bool.not_true, Bool.not_false, am_cont, Option.bind_some, Option.toList_some, Option.toList_none, List.singleton_append, List.nil_append, cond_true, cond_false, bk_245_29, zd_1]; rfl
    | true =>
      obtain ⟨x, h1, h2, h3⟩ := hl.2.2.2.1 b (hs b hbt)
      rw [h3, zI_nat x (by omega)]
      simp only [decide_true, decide_false, Bool.not_true, Bool.not_false, am_cont, Option.bind_some, Option.toList_some, Option.toList_none, List.singleton_append, List.nil_append, cond_true, cond_false, bk_245_29, zd_1, zI_add]
      rfl) 0 rfl 8 (Nat.le_refl _)
  refine Eq.trans hr.1 ?_
  refine (bk_245_4 _ _ _ _ _ _ _ _).trans ?_
  have e8 : pagN (I 158) s 8 = pagN (I 158) s n := by
    have := pagN_hi (I 158) s n hs (8 - n)
    rw [show n + (8 - n) = 8 by omega] at this
    exact this
  rw [show decide ((8 : Int32) ≤ Int32.ofNat 8) = true by decide, hr.2, e8]
  rfl
theorem c_mean72 (env : am_E) (d : Nat) (n k : Nat) (x w s : Int32) (I : Nat → Nat → Int32) (J : Nat → Nat → Int64) (E : Nat → Nat → Nat) (m : Nat → Int32) (hm : IvL m n k) (h0 : I 5 0 = Int32.ofNat n) (h7 : ∀ b, b < 8 → I 7 b = m (4 + b)) : am_ev env (d + 2, 143, 72, [some (.ref 0), some (.int x), some (.int w), some (.int s), some (.int 0), some (.int 0), none], [], am_hp I J E) = am_ev env (d + 2, 143, 72, [some (.ref 0), some (.int x), some (.int w), some (.int s), some (.int (Int32.ofNat (pagN m s n))), some (.int (Int32.ofNat n)), none], [], am_hp I J E) := by
  have hn := hm.1.2
  have hr := lp_run (fun b (c : Int32) => am_ev env (d + 2, 143, 72, [some (.ref 0), some (.int x), some (.int w), some (.int s), some (.int c), some (.int (Int32.ofNat b)), none], [], am_hp I J E)) (fun b _ => Int32.ofNat (pagN m s (b + 1))) (fun b c => c = Int32.ofNat (pagN m s b)) n (fun b c hb hP => by
    refine ⟨?_, rfl⟩
    refine (bk_143_72 _ _ _ _ _ _ _ _ _ _).trans ?_
    rw [h0, zle_f n b hb (by omega), hP]
    simp (disch := omega) only [decide_true, decide_false, Bool.not_true, Bool.not_false, am_cont, Option.bind_some, Option.toList_some, Option.toList_none, List.singleton_append, List.nil_append, cond_true, cond_false, c_isIn, bk_143_93, bi_eq0, zI_in, zI_nat, h7]
    show _ = am_ev env (d + 2, 143, 72, [some (.ref 0), some (.int x), some (.int w), some (.int s), some (.int (Int32.ofNat (pagN m s b + (if bt s b then (m (4 + b)).toNatClampNeg else 0)))), some (.int (Int32.ofNat (b + 1))), none], [], am_hp I J E)
    obtain ⟨y, h1, h2, h3⟩ := hm.2.2.2.1 b hb
    rw [h3, zI_nat y (by omega)]
    cases hbt : bt s b
    · simp only [decide_true, decide_false, Bool.not_true, Bool.not_false, am_cont, Option.bind_some, Option.toList_some, Option.toList_none, List.singleton_append, List.nil_append, cond_true, cond_false, bk_143_114, zd_1]; rfl
    · simp only [decide_true, decide_false, Bool.not_true, Bool.not_false, am_cont, Option.bind_some, Option.toList_some, Option.toList_none, List.singleton_append, List.nil_append, cond_true, cond_false, bk_143_114, zd_1, zI_add]; rfl) 0 rfl n (Nat.le_refl _)
  refine hr.1.trans ?_
  rw [hr.2]
theorem pc_pos (x n : Nat) (hn : n ≤ 8) (b : Nat) (hb : b < n) (h : bt (Int32.ofNat x) b = true) : 1 ≤ pc x := by
  unfold pc
  have : cn 8 0 < cn 8 (Int32.ofNat x) := cn_lt 8 (fun k _ hk => by rw [bt_zero] at hk; cases hk) b (by omega) (bt_zero b) h
  omega
theorem op_mean (env : am_E) (d : Nat) (I : Nat → Nat → Int32) (J : Nat → Nat → Int64) (E : Nat → Nat → Nat) (n k t h : Nat) (hR : R1 I n k t h) (x w : Int32) : opT (fun H => am_ev env (d + 20, 143, 0, [some (.ref 0), some (.int x), some (.int w), none, none, none, none], [], H)) (fun H => am_ev env (d + 20, 263, 0, [some (.ref 156), some (.int x), some (.int w), none], [], H)) I J E (P1 I n k) := by
  obtain ⟨hn, hk, ht, hh, e1, e2, e3, f0, f2, g0, g2⟩ := R1_f I n k t h hR
  obtain ⟨r1, r2, r3, r4, r5⟩ := id hR
  have ha := low_aft r1
  have hag : ∀ b, b < n → aft (rS I 12) b = aft (I 158) b := fun b hb => agr_aft r3 b hb
  have triv : ∀ q j, KR q j → I q j = I q j := fun _ _ _ => rfl
  have trivf : fr1 I I := fun _ _ _ => rfl
  have hmi : ∀ (I' : Nat → Nat → Int32) d, am_ev env (d + 1, 175, 0, [some (.int w), some (.int 0), some (.int 1)], [], am_hp I' J E) = some (true, some (.int (bi (am_in w 2))), am_hp I' J E) := by
    intro I' d
    have := m_isIn env d w 0 (Int32.ofNat 2 - 1) I' J E
    rw [m_upto w 2 (by omega), show (Int32.ofNat 2 - 1) = 1 by decide] at this
    exact this
  cases hx : am_in x n
  · -- no such book
    have mm : ∀ I', I' 158 = I 158 → am_ev env (d + 20, 263, 0, [some (.ref 156), some (.int x), some (.int w), none], [], am_hp I' J E) = some (true, some (.int 0), am_hp (th1 I') J E) := by
      intro I' h1
      simp only [bk_263_0, bk_263_10, bk_263_30, bk_263_34, th0_u, m_isBook env _ x (th0 I') J E n (by omega) (by rw [th0_158, h1]; exact g0), hx, bi_eq0, decide_true, decide_false, Bool.not_true, Bool.not_false, am_cont, Option.bind_some, Option.toList_some, Option.toList_none, List.singleton_append, List.nil_append, cond_true, cond_false, m_refuse]
    refine thr_op I J E n k t h hR I triv trivf 0 _ _ ?_ (mm I rfl)
    simp only [bk_143_0, bk_143_14, bk_143_18, bk_142_0, bk_142_11, c_hasBook env _ x I J E n hn f0, hx, bi_eq0, decide_true, decide_false, Bool.not_true, Bool.not_false, am_cont, Option.bind_some, Option.toList_some, Option.toList_none, List.singleton_append, List.nil_append, cond_true, cond_false]
    cases decide (w < 0) <;> cases decide ((1 : Int32) < w) <;> rfl
  obtain ⟨b, hb, -, rfl⟩ := zI_cases _ _ hx
  have mB := fun I' (h1 : I' 158 = I 158) d => m_isBook env d (Int32.ofNat b) (th0 I') J E n (by omega) (by rw [th0_158, h1]; exact g0)
  have mK0 := fun I' (h1 : I' 158 = I 158) => m_isBlocked env (d + 13) n b hn hb (th0 I') J E (by rw [th0_158, h1]; exact g0) (by rw [th0_158, h1]; exact ha)
  have mK : ∀ I', I' 158 = I 158 → am_ev env (d + 13 + 6, 223, 0, [some (.ref 156), some (.int (Int32.ofNat b))], [], am_hp (th0 I') J E) = some (true, some (.int (bi (blkb n (aft (I 158)) b))), am_hp (th0 I') J E) := by
    intro I' h1
    have := mK0 I' h1
    rw [th0_158, h1] at this
    exact this
  cases hw : am_in w 2
  · have mm : am_ev env (d + 20, 263, 0, [some (.ref 156), some (.int (Int32.ofNat b)), some (.int w), none], [], am_hp I J E) = some (true, some (.int 0), am_hp (th1 I) J E) := by
      simp only [bk_263_0, bk_263_10, bk_263_18, bk_263_27, bk_263_30, bk_263_34, th0_u, mB I rfl, hx, mK I rfl, hmi, hw, bi_eq0, decide_true, decide_false, Bool.not_true, Bool.not_false, am_cont, Option.bind_some, Option.toList_some, Option.toList_none, List.singleton_append, List.nil_append, cond_true, cond_false, m_refuse]
      cases blkb n (aft (I 158)) b <;> rfl
    refine thr_op I J E n k t h hR I triv trivf 0 _ _ ?_ mm
    rcases zI_tri w 2 (by omega) with ⟨_, h2⟩ | ⟨j, hj, rfl⟩
    · have h2' : (decide (w < 0) || decide ((1 : Int32) < w)) = true := by
        rcases or_f h2 with g | g
        · rw [g]; rfl
        · have g : (2 : Int32) ≤ w := of_decide_eq_true g
          have : (1 : Int32) < w := by
            rw [Int32.le_iff_toInt_le] at g
            rw [Int32.lt_iff_toInt_lt]
            have a : (2 : Int32).toInt = 2 := by decide
            have b : (1 : Int32).toInt = 1 := by decide
            omega
          rw [decide_eq_true this, Bool.or_true]
      simp only [bk_143_0, bk_143_18]
      rcases or_f h2' with g | g
      · rw [g]; rfl
      · rw [g]; cases decide (w < 0) <;> rfl
    · rw [zI_in j 2 hj (by omega)] at hw; cases hw
  obtain ⟨j, hj, -, rfl⟩ := zI_cases _ _ hw
  have s1 : decide (Int32.ofNat j < (0 : Int32)) = false := zlt_f j 0 (by omega) (by omega)
  have s2 : decide ((1 : Int32) < Int32.ofNat j) = false := zlt_f 1 j (by omega) (by omega)
  have cd := c_deep1 env d n b hn hb I J E f0
  rw [dpo_congr hag b] at cd
  have i158 : tk I n (aft (rS I 12)) 158 = I 158 := tk_ne _ _ _ _ (by omega)
  have iKR := fun q j => tk_KR I n (aft (rS I 12)) q j
  have ifr := tk_fr I n (aft (rS I 12))
  have irS : rS (tk I n (aft (rS I 12))) 12 = rS I 12 := rS_congr _ _ _ (fun q hq => tk_ne _ _ _ _ (by omega))
  have i5 : tk I n (aft (rS I 12)) 5 = I 5 := tk_ne _ _ _ _ (by omega)
  generalize hI0 : tk I n (aft (rS I 12)) = I0 at cd i158 iKR ifr irS i5
  rcases deep_val r1 b hb with ⟨v1, v2⟩ | ⟨v1, D, v2, v3, v4⟩
  · rw [v2] at cd
    have q1 : decide ((-1 : Int32) = -1) = true := by decide
    refine thr_op I J E n k t h hR I0 iKR ifr 0 _ _ ?_ ?_
    · simp only [bk_143_0, bk_143_14, bk_143_18, s1, s2, cd, q1, decide_true, decide_false, Bool.not_true, Bool.not_false, am_cont, Option.bind_some, Option.toList_some, Option.toList_none, List.singleton_append, List.nil_append, cond_true, cond_false]
    · simp only [bk_263_0, bk_263_10, bk_263_18, bk_263_30, bk_263_34, th0_u, mB I0 i158, hx, mK I0 i158, v1, bi_eq0, decide_true, decide_false, Bool.not_true, Bool.not_false, am_cont, Option.bind_some, Option.toList_some, Option.toList_none, List.singleton_append, List.nil_append, cond_true, cond_false, m_refuse]
  · rw [v4] at cd
    have q1 : decide (Int32.ofNat D = -1) = false := decide_eq_false (fun e => m1_ne D (by omega) e.symm)
    have ct := c_takeF env (d + 17) n hn I0 J E (by rw [i5]; exact f0)
    have hc := c_allBefore env (d + 17) n b hn hb (aft (rS I0 12)) (tk I0 n (aft (rS I0 12))) J E (tk_or _ _ _)
    rw [irS] at ct hc
    rw [rq_congr hag b hb] at hc
    have k158 : tk I0 n (aft (rS I 12)) 158 = I 158 := (tk_ne _ _ _ _ (by omega)).trans i158
    have kKR : ∀ q j, KR q j → tk I0 n (aft (rS I 12)) q j = I q j := fun q j hq => (tk_KR I0 n _ q j hq).trans (iKR q j hq)
    have kfr : fr1 I (tk I0 n (aft (rS I 12))) := fr1_trans ifr (tk_fr I0 n _)
    have kLb := rS_lb (tk I0 n (aft (rS I 12))) 12
    have krS : rS (tk I0 n (aft (rS I 12))) 12 = rS I 12 := (rS_congr _ _ _ (fun q hq => tk_ne _ _ _ _ (by omega))).trans irS
    rw [krS] at kLb
    have k5 : tk I0 n (aft (rS I 12)) 5 0 = Int32.ofNat n := by rw [tk_ne _ _ _ _ (by omega), i5]; exact f0
    generalize tk I0 n (aft (rS I 12)) = I1 at ct hc k158 kKR kfr kLb k5
    have hrl := rq_low (by omega) ha hb
    have hlow : lowb n (rq n (aft (I 158)) b ||| bit1 b) := by
      intro c hc
      rw [bt_or] at hc
      cases h1 : bt (rq n (aft (I 158)) b) c with
      | true => exact hrl c h1
      | false => rw [h1, Bool.false_or] at hc; exact bt_low1 hn hb c hc
    have hbb : bt (rq n (aft (I 158)) b ||| bit1 b) b = true := by rw [bt_or, bt_one b b (by omega), decide_eq_true rfl, Bool.or_true]
    have ma0 := m_aheadOf env (d + 15) n b 0 hn hb (th0 I1) J E (by rw [th0_158, k158]; exact g0) (by rw [th0_158, k158]; exact ha)
    rw [th0_158, k158, aw_zero] at ma0
    have mp := m_pagesOf env (d + 17) n k (rq n (aft (I 158)) b ||| bit1 b) (th0 I1) J E (by rw [th0_158, k158]; exact r1) hlow
    rw [th0_158, k158] at mp
    have c72 := c_mean72 env (d + 18) n k (Int32.ofNat b) (Int32.ofNat j) (rq n (aft (I 158)) b ||| bit1 b) I1 J E (rS I 12) (IvL_agr (agr_symm r3) r1) k5 (fun b hb => kLb.2.1 b hb)
    rw [pagN_congr (m' := I 158) _ n (fun b hb => r3 (4 + b) (by unfold rel; omega))] at c72
    have hple := pagN_le r1 (rq n (aft (I 158)) b ||| bit1 b) n (Nat.le_refl _)
    obtain ⟨y, hy1, hy2, hy3⟩ := low_nat n hn _ hlow
    have e61 : am_ev env (d + 20, 143, 61, [some (.ref 0), some (.int (Int32.ofNat b)), some (.int (Int32.ofNat j)), none, none, none, none], [.int (rq n (aft (I 158)) b)], am_hp I1 J E) = am_ev env (d + 20, 143, 72, [some (.ref 0), some (.int (Int32.ofNat b)), some (.int (Int32.ofNat j)), some (.int (rq n (aft (I 158)) b ||| bit1 b)), some (.int 0), some (.int 0), none], [], am_hp I1 J E) := bk_143_61 _ _ _ _ _ _ _ _
    have m41 : am_ev env (d + 20, 263, 41, [some (.ref 156), some (.int (Int32.ofNat b)), some (.int (Int32.ofNat j)), none], [.int (rq n (aft (I 158)) b)], am_hp (th0 I1) J E) = (bif !(decide (Int32.ofNat j = 0)) then am_cont env (d + 19, 177, 0, [some (.int (rq n (aft (I 158)) b ||| bit1 b)), none, none], [], am_hp (th0 I1) J E) (d + 20) 263 62 [some (.ref 156), some (.int (Int32.ofNat b)), some (.int (Int32.ofNat j)), some (.int (rq n (aft (I 158)) b ||| bit1 b))] [] else am_cont env (d + 19, 245, 0, [some (.ref 156), some (.int (rq n (aft (I 158)) b ||| bit1 b)), none, none], [], am_hp (th0 I1) J E) (d + 20) 263 55 [some (.ref 156), some (.int (Int32.ofNat b)), some (.int (Int32.ofNat j)), some (.int (rq n (aft (I 158)) b ||| bit1 b))] []) := bk_263_41 _ _ _ _ _ _ _ _
    rw [hy3] at mp c72 hple e61 m41 hbb
    generalize hP : pagN (I 158) (Int32.ofNat y) n = Pg at mp c72 hple
    have hpc1 := pc_pos y n hn b hb hbb
    have hpc8 := pc_le8 y
    have hgp : 1 ≤ Nat.gcd Pg (pc y) := Nat.gcd_pos_of_pos_right Pg hpc1
    have hgle : Nat.gcd Pg (pc y) ≤ pc y := Nat.gcd_le_right Pg hpc1
    have gz : decide (Int32.ofNat (Nat.gcd Pg (pc y)) = 0) = false := (zdq0 _ (by omega)).trans (decide_eq_false (by omega))
    have g1 : decide ((1 : Int32) ≤ Int32.ofNat (Nat.gcd Pg (pc y))) = true := zle_t 1 _ hgp (by omega)
    have gj : decide (Int32.ofNat j = 0) = decide (j = 0) := zdq0 j (by omega)
    have gnn : decide (Int32.ofNat n ≤ Int32.ofNat n) = true := zle_t n n (Nat.le_refl _) (by omega)
    refine opT_of I J E n k t h hR I1 kKR kfr (bif decide (j = 0) then Int32.ofNat Pg / Int32.ofNat (Nat.gcd Pg (pc y)) else Int32.ofNat (pc y) / Int32.ofNat (Nat.gcd Pg (pc y))) _ _ ?_ ?_
    · simp only [bk_143_0, bk_143_14, s1, s2, cd, q1, ct, hc, bk_143_53, decide_true, decide_false, Bool.not_true, Bool.not_false, am_cont, Option.bind_some, Option.toList_some, Option.toList_none, List.singleton_append, List.nil_append, cond_true, cond_false]
      rw [e61, c72]
      refine (bk_143_72 _ _ _ _ _ _ _ _ _ _).trans ?_
      rw [k5, gnn]
      simp (disch := omega) only [decide_true, decide_false, Bool.not_true, Bool.not_false, am_cont, Option.bind_some, Option.toList_some, Option.toList_none, List.singleton_append, List.nil_append, cond_true, cond_false, c_bitCount, bk_143_124, c_cd, bk_143_133, g1, gz, gj, bk_143_160]
      cases decide (j = 0) <;> rfl
    · simp only [bk_263_0, bk_263_10, bk_263_18, bk_263_27, th0_u, mB I1 k158, hx, mK I1 k158, v1, hmi, hw, bi_eq0, decide_true, decide_false, Bool.not_true, Bool.not_false, am_cont, Option.bind_some, Option.toList_some, Option.toList_none, List.singleton_append, List.nil_append, cond_true, cond_false, ma0]
      rw [m41, gj]
      cases decide (j = 0)
      · simp (disch := omega) only [decide_true, decide_false, Bool.not_true, Bool.not_false, am_cont, Option.bind_some, Option.toList_some, Option.toList_none, List.singleton_append, List.nil_append, cond_true, cond_false, m_bits, bk_263_62, mp, bk_263_67, bk_263_71, m_common, bk_263_74, gz]
      · simp (disch := omega) only [decide_true, decide_false, Bool.not_true, Bool.not_false, am_cont, Option.bind_some, Option.toList_some, Option.toList_none, List.singleton_append, List.nil_append, cond_true, cond_false, m_bits, mp, bk_263_55, bk_263_62, bk_263_67, bk_263_71, m_common, bk_263_74, gz]
