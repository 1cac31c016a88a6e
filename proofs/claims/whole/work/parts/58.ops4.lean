/-! odds: class and reference side by side -/
def cnb (X : Nat → Bool) : Nat → Nat
  | 0 => 0
  | i + 1 => cnb X i + (if X i then 1 else 0)
theorem cnb_succ (X : Nat → Bool) (i : Nat) : cnb X (i + 1) = cnb X i + (if X i then 1 else 0) := rfl
theorem cnb_le (X : Nat → Bool) (i : Nat) : cnb X i ≤ i := by
  induction i with
  | zero => exact Nat.le_refl _
  | succ i ih => unfold cnb; split <;> omega
theorem cnb_congr (X Y : Nat → Bool) (i : Nat) (h : ∀ j, j < i → X j = Y j) : cnb X i = cnb Y i := by
  induction i with
  | zero => rfl
  | succ i ih => unfold cnb; rw [ih (fun j hj => h j (by omega)), h i (by omega)]
theorem c_odds_lp (env : am_E) (d : Nat) (Nf : Int32 → Int32) (Df : Int32 → Nat → Nat) (hD : ∀ s n, 1 ≤ n → Df s n < n) (hC : ∀ (env : am_E) (p : Nat) (I : Nat → Nat → Int32) (J : Nat → Nat → Int64) (E : Nat → Nat → Nat) (d n : Nat) (x : Int32 × (Nat → Int32)), stq p = true → 1 ≤ n → n ≤ 100 → am_ev env (d + 1, 90, 0, [some (.ref p), some (.int (Int32.ofNat n))], [], am_hp (ch I p x) J E) = some (true, some (.int (Int32.ofNat (Df (Nf x.1) n))), am_hp (ch I p (Nf x.1, x.2)) J E)) (n k r b N y : Nat) (s : Int32) (hr : r < 6) (hb : b < 8) (hN : N ≤ 30) (I : Nat → Nat → Int32) (J : Nat → Nat → Int64) (E : Nat → Nat → Nat) (hv : IvX n k (rS I 12)) (hy : rS I 12 34 = Int32.ofNat y) (hy2 : y ≤ 400) : ∀ i, i ≤ N → ∃ I', (∀ q, (q < 31 ∨ 36 < q) → I' q = I q) ∧ am_ev env (d + 20, 161, 46, [some (.ref 0), some (.int (Int32.ofNat r)), some (.int (Int32.ofNat b)), some (.int (Int32.ofNat N)), some (.int s), some (.ref 5), some (.int (Int32.ofNat 0)), some (.int (Int32.ofNat 0))], [], am_hp I J E) = am_ev env (d + 20, 161, 46, [some (.ref 0), some (.int (Int32.ofNat r)), some (.int (Int32.ofNat b)), some (.int (Int32.ofNat N)), some (.int s), some (.ref 5), some (.int (Int32.ofNat (cnb (fun i => bt ((dwDays Nf Df n k (min 20 (400 - y)) (s + Int32.ofNat i, rS I 12)).2 (64 + r)) b) i))), some (.int (Int32.ofNat i))], [], am_hp I' J E) := by
  intro i
  induction i with
  | zero => intro _; exact ⟨I, fun _ _ => rfl, rfl⟩
  | succ i ih =>
    intro hi
    obtain ⟨I', h1, h2⟩ := ih (by omega)
    have hS : rS I' 12 = rS I 12 := rS_congr I I' 12 (fun q hq => h1 q (by omega))
    have hlb : Lb I' (rS I 12) := by rw [← hS]; exact rS_lb I' 12
    have hcp := c_copy env (d + 18) 31 12 st31 st12 (by omega) I' J E
    rw [hS] at hcp
    have hdd := c_drawDays env (d + 9) Nf Df hD 31 st31 20 n k y (s + Int32.ofNat i) I' J E (fun d n x => hC env 31 I' J E d n x st31) (rS I 12) (by omega) hlb hv hy hy2
    have e20 : (Int32.ofNat 20) = 20 := rfl
    rw [e20] at hdd
    refine ⟨ch I' 31 (dwDays Nf Df n k (min 20 (400 - y)) (s + Int32.ofNat i, rS I 12)), ?_, ?_⟩
    · intro q hq
      unfold ch
      rw [ps_ne _ _ _ _ (by omega), am_u_nr _ _ _ _ _ (by omega)]
      exact h1 q hq
    · refine h2.trans ?_
      refine (bk_161_46 _ _ _ _ _ _ _ _ _ _ _).trans ?_
      rw [show decide (Int32.ofNat N ≤ Int32.ofNat i) = false from zle_f N i (by omega) (by omega)]
      simp only [cnb_succ]
      generalize dwDays Nf Df n k (min 20 (400 - y)) (s + Int32.ofNat i, rS I 12) = X at hdd ⊢
      have e36 : ch I' 31 X 36 r = X.2 (64 + r) := by
        unfold ch; exact ps_get _ 31 X.2 36 r (64 + r) (sx_r 31 r hr) (by omega)
      simp (disch := omega) only [decide_true, decide_false, Bool.not_true, Bool.not_false, am_cont, Option.bind_some, Option.toList_some, Option.toList_none, List.singleton_append, List.nil_append, cond_true, cond_false, hcp, bk_161_69, hdd, bk_161_88, zI_in, zI_nat, e36, bt_has, zd_1]
      have ec : ∀ z : Nat, Int32.ofNat z + (if bt (X.2 (64 + r)) b = true then 1 else 0) = Int32.ofNat (z + (if bt (X.2 (64 + r)) b = true then 1 else 0)) := by
        intro z
        cases bt (X.2 (64 + r)) b
        · simp
        · exact zd_1 z
      rw [ec]
theorem mh_self (I : Nat → Nat → Int32) : mh I (I 156 42, I 158) = I := by
  unfold mh
  rw [ru_self, ur_self, ur_self]
theorem mh_mh (I : Nat → Nat → Int32) (x y : Int32 × (Nat → Int32)) : mh (mh I x) y = mh I y := by
  funext q j
  unfold mh
  simp only [am_ur_d]
  by_cases h : q = 158
  · rw [if_pos h, if_pos h]
  · rw [if_neg h, if_neg h]
    by_cases h2 : q = 156
    · subst h2
      rw [if_pos rfl, if_pos rfl, ur_ne _ _ _ _ (by omega), ur_at]
      unfold ru; split <;> rfl
    · rw [if_neg h2, if_neg h2, if_neg h, if_neg h2]
def mAs (I : Nat → Nat → Int32) : Nat → Nat → Int32 := am_ur (th0 I) 162 (cpr (I 162) 0 36 (fun k => I 158 (34 + k)))
theorem mAs_158 (I : Nat → Nat → Int32) : mAs I 158 = I 158 := by unfold mAs; rw [ur_ne _ _ _ _ (by omega), th0_158]
theorem m_odds_lp (env : am_E) (d : Nat) (Nf : Int32 → Int32) (Df : Int32 → Nat → Nat) (hD : ∀ s n, 1 ≤ n → Df s n < n) (hM : ∀ (env : am_E) (I : Nat → Nat → Int32) (J : Nat → Nat → Int64) (E : Nat → Nat → Nat) (d n : Nat) (x : Int32 × (Nat → Int32)), 1 ≤ n → n ≤ 100 → am_ev env (d + 1, 271, 0, [some (.ref 156), some (.int (Int32.ofNat n))], [], am_hp (mh I x) J E) = some (true, some (.int (Int32.ofNat (Df (Nf x.1) n))), am_hp (mh I (Nf x.1, x.2)) J E)) (n k r b N y : Nat) (s : Int32) (hr : r < 6) (hb : b < 8) (hN : N ≤ 30) (I : Nat → Nat → Int32) (J : Nat → Nat → Int64) (E : Nat → Nat → Nat) (hv : IvX n k (I 158)) (hy : I 158 34 = Int32.ofNat y) (hy2 : y ≤ 400) : ∀ i, i ≤ N → ∃ sd, am_ev env (d + 20, 278, 43, [some (.ref 156), some (.int (Int32.ofNat r)), some (.int (Int32.ofNat b)), some (.int (Int32.ofNat N)), some (.int s), some (.int (Int32.ofNat 0)), some (.int (Int32.ofNat 0))], [], am_hp (mAs I) J E) = am_ev env (d + 20, 278, 43, [some (.ref 156), some (.int (Int32.ofNat r)), some (.int (Int32.ofNat b)), some (.int (Int32.ofNat N)), some (.int s), some (.int (Int32.ofNat (cnb (fun i => bt ((dwDays Nf Df n k (min 20 (400 - y)) (s + Int32.ofNat i, I 158)).2 (64 + r)) b) i))), some (.int (Int32.ofNat i))], [], am_hp (mh (mAs I) (sd, I 158)) J E) := by
  intro i
  induction i with
  | zero =>
    intro _
    refine ⟨mAs I 156 42, ?_⟩
    have := mh_self (mAs I)
    rw [mAs_158] at this
    rw [this]
    rfl
  | succ i ih =>
    intro hi
    obtain ⟨sd, h2⟩ := ih (by omega)
    have hp := m_drawDays env (d + 9) Nf Df hD 20 n k y (s + Int32.ofNat i) (mh (mAs I) (sd, I 158)) J E (fun d n x => hM env (mh (mAs I) (sd, I 158)) J E d n x) (by omega) (by rw [mh_158]; exact hv) (by rw [mh_158]; exact hy) hy2
    have e20 : (Int32.ofNat 20) = 20 := rfl
    rw [e20, mh_158, mh_mh] at hp
    have p2 := dwDays_P Nf Df hD (s + Int32.ofNat i, I 158) hv hy (min 20 (400 - y)) (by omega)
    unfold cnb
    have hp2 : am_ev env (d + 19, 274, 0, [some (.ref 156), some (.int 20), some (.int (s + Int32.ofNat i)), none, none, none], [], am_hp (mh (mAs I) (sd, I 158)) J E) = some (true, some (.int (Int32.ofNat (min 20 (400 - y)))), am_hp (mh (mAs I) (dwDays Nf Df n k (min 20 (400 - y)) (s + Int32.ofNat i, I 158))) J E) := hp
    generalize dwDays Nf Df n k (min 20 (400 - y)) (s + Int32.ofNat i, I 158) = X at hp2 p2 ⊢
    refine ⟨X.1, h2.trans ?_⟩
    refine (bk_278_43 _ _ _ _ _ _ _ _ _ _ _).trans ?_
    rw [show decide (Int32.ofNat N ≤ Int32.ofNat i) = false from zle_f N i (by omega) (by omega)]
    have et : am_ur (mh (mAs I) X) 158 (cpr (mh (mAs I) X 158) 34 36 (fun k => mh (mAs I) X 162 k)) = mh (mAs I) (X.1, I 158) := by
      rw [mh_set, mh_158]
      congr 2
      funext j
      by_cases hj : 34 ≤ j ∧ j < 70
      · have e1 := cpr_in X.2 34 36 (fun k => mh (mAs I) X 162 k) (j - 34) (by omega)
        rw [show 34 + (j - 34) = j by omega] at e1
        rw [e1]
        have e2 : mh (mAs I) X 162 = cpr (I 162) 0 36 (fun k => I 158 (34 + k)) := by
          unfold mh; rw [ur_ne _ _ _ _ (by omega), ur_ne _ _ _ _ (by omega)]; unfold mAs; rw [ur_at]
        rw [e2]
        have e3 := cpr_in (I 162) 0 36 (fun k => I 158 (34 + k)) (j - 34) (by omega)
        rw [Nat.zero_add] at e3
        rw [e3, show 34 + (j - 34) = j by omega]
      · rw [cpr_out _ _ _ _ _ (by omega)]
        exact p2.2.2 j (by omega)
    have hS := m_takeBack env (d + 18) (mh (mAs I) X) J E
    rw [et] at hS
    simp (disch := omega) only [decide_true, decide_false, Bool.not_true, Bool.not_false, am_cont, Option.bind_some, Option.toList_some, Option.toList_none, List.singleton_append, List.nil_append, cond_true, cond_false, hp2, bk_278_60, m_hasRead, mh_158, bk_278_67, bi_eq0]
    cases bt (X.2 (64 + r)) b
    · simp only [decide_true, decide_false, Bool.not_true, Bool.not_false, am_cont, Option.bind_some, Option.toList_some, Option.toList_none, List.singleton_append, List.nil_append, cond_true, cond_false, bk_278_73, hS, bk_278_77, zd_1]
      rfl
    · simp only [decide_true, decide_false, Bool.not_true, Bool.not_false, am_cont, Option.bind_some, Option.toList_some, Option.toList_none, List.singleton_append, List.nil_append, cond_true, cond_false, bk_278_73, hS, bk_278_77, zd_1]
      rfl
theorem zI_130 (x : Int32) : ((decide (x < 1) || !decide (x ≤ 30)) = true ∧ (decide (x < 1) || decide ((30 : Int32) < x)) = true) ∨ ∃ N, 1 ≤ N ∧ N ≤ 30 ∧ x = Int32.ofNat N := by
  rcases zI_160 x with ⟨h1, h2⟩ | ⟨N, h1, h2, rfl⟩
  · left
    by_cases g1 : x < 1
    · rw [decide_eq_true g1]; exact ⟨rfl, rfl⟩
    · rw [decide_eq_false g1] at h1 h2 ⊢
      have h60 : (60 : Int32) < x := of_decide_eq_true (by simpa using h2)
      have h30 : (30 : Int32) < x := by
        rw [Int32.lt_iff_toInt_lt] at h60 ⊢
        have a : (60 : Int32).toInt = 60 := by decide
        have b : (30 : Int32).toInt = 30 := by decide
        omega
      rw [decide_eq_true h30, decide_eq_false (fun h => absurd h30 (Int32.not_lt.mpr h))]
      exact ⟨rfl, rfl⟩
  · by_cases g : N ≤ 30
    · exact Or.inr ⟨N, h1, g, rfl⟩
    · left
      rw [show decide (Int32.ofNat N ≤ (30 : Int32)) = false from zle_f N 30 (by omega) (by omega), show decide ((30 : Int32) < Int32.ofNat N) = true from zlt_t 30 N (by omega) (by omega)]
      exact ⟨by simp, by simp⟩
theorem op_oddsG (env : am_E) (d : Nat) (Nf : Int32 → Int32) (Df : Int32 → Nat → Nat) (hD : ∀ s n, 1 ≤ n → Df s n < n) (hM : ∀ (env : am_E) (I : Nat → Nat → Int32) (J : Nat → Nat → Int64) (E : Nat → Nat → Nat) (d n : Nat) (x : Int32 × (Nat → Int32)), 1 ≤ n → n ≤ 100 → am_ev env (d + 1, 271, 0, [some (.ref 156), some (.int (Int32.ofNat n))], [], am_hp (mh I x) J E) = some (true, some (.int (Int32.ofNat (Df (Nf x.1) n))), am_hp (mh I (Nf x.1, x.2)) J E)) (hC : ∀ (env : am_E) (p : Nat) (I : Nat → Nat → Int32) (J : Nat → Nat → Int64) (E : Nat → Nat → Nat) (d n : Nat) (x : Int32 × (Nat → Int32)), stq p = true → 1 ≤ n → n ≤ 100 → am_ev env (d + 1, 90, 0, [some (.ref p), some (.int (Int32.ofNat n))], [], am_hp (ch I p x) J E) = some (true, some (.int (Int32.ofNat (Df (Nf x.1) n))), am_hp (ch I p (Nf x.1, x.2)) J E)) (I : Nat → Nat → Int32) (J : Nat → Nat → Int64) (E : Nat → Nat → Nat) (n k t h : Nat) (hR : R1 I n k t h) (a x z s : Int32) : opR (fun H => am_ev env (d + 20, 161, 0, [some (.ref 0), some (.int a), some (.int x), some (.int z), some (.int s), none, none, none], [], H)) (fun H => am_ev env (d + 20, 278, 0, [some (.ref 156), some (.int a), some (.int x), some (.int z), some (.int s), none, none], [], H)) I J E (P1 I n k) := by
  obtain ⟨hn, hk, ht, hh, e1, e2, e3, f0, f2, g0, g2⟩ := R1_f I n k t h hR
  obtain ⟨r1, r2, r3, r4, r5⟩ := id hR
  have cR := fun d => c_hasReader env d a I J E k hk f2
  have cB := fun d => c_hasBook env d x I J E n hn f0
  have mR := fun d => m_isReader env d a (th0 I) J E k (by omega) (by rw [th0_158]; exact g2)
  have mB := fun d => m_isBook env d x (th0 I) J E n (by omega) (by rw [th0_158]; exact g0)
  cases ha : am_in a k
  · refine none_op I J E n k t h hR (-1) _ _ ?_ ?_
    · simp only [bk_161_0, bk_161_15, bk_161_24, bk_161_38, bk_161_46, bk_161_69, bk_161_88, cR, ha, bi_eq0, decide_true, decide_false, Bool.not_true, Bool.not_false, am_cont, Option.bind_some, Option.toList_some, Option.toList_none, List.singleton_append, List.nil_append, cond_true, cond_false]
    · simp only [bk_278_0, bk_278_10, bk_278_31, th0_u, mR, ha, bi_eq0, decide_true, decide_false, Bool.not_true, Bool.not_false, am_cont, Option.bind_some, Option.toList_some, Option.toList_none, List.singleton_append, List.nil_append, cond_true, cond_false]
  cases hx : am_in x n
  · refine none_op I J E n k t h hR (-1) _ _ ?_ ?_
    · simp only [bk_161_0, bk_161_15, bk_161_24, bk_161_38, cR, cB, ha, hx, bi_eq0, decide_true, decide_false, Bool.not_true, Bool.not_false, am_cont, Option.bind_some, Option.toList_some, Option.toList_none, List.singleton_append, List.nil_append, cond_true, cond_false]
    · simp only [bk_278_0, bk_278_10, bk_278_18, bk_278_31, th0_u, mR, mB, ha, hx, bi_eq0, decide_true, decide_false, Bool.not_true, Bool.not_false, am_cont, Option.bind_some, Option.toList_some, Option.toList_none, List.singleton_append, List.nil_append, cond_true, cond_false]
  rcases zI_130 z with ⟨h1, h2⟩ | ⟨N, hN1, hN, rfl⟩
  · refine none_op I J E n k t h hR (-1) _ _ ?_ ?_
    · simp only [bk_161_0, bk_161_15, bk_161_24, bk_161_38, cR, cB, ha, hx, bi_eq0, decide_true, decide_false, Bool.not_true, Bool.not_false, am_cont, Option.bind_some, Option.toList_some, Option.toList_none, List.singleton_append, List.nil_append, cond_true, cond_false]
      revert h1
      cases decide (z < 1) <;> cases decide (z ≤ 30) <;> intro h1 <;> first | (exact absurd h1 (by decide)) | rfl
    · simp only [bk_278_0, bk_278_10, bk_278_18, bk_278_28, bk_278_31, th0_u, mR, mB, ha, hx, bi_eq0, m_isIn, decide_true, decide_false, Bool.not_true, Bool.not_false, am_cont, Option.bind_some, Option.toList_some, Option.toList_none, List.singleton_append, List.nil_append, cond_true, cond_false]
      revert h2
      cases decide (z < 1) <;> cases decide ((30 : Int32) < z) <;> intro h2 <;> first | (exact absurd h2 (by decide)) | rfl
  obtain ⟨r, hr, -, rfl⟩ := zI_cases _ _ ha
  obtain ⟨b, hb, -, rfl⟩ := zI_cases _ _ hx
  obtain ⟨y, hy2, hy⟩ := r2.1
  have hy' : rS I 12 34 = Int32.ofNat y := (r3 34 (by unfold rel; omega)).trans hy
  have v1 : IvX n k (rS I 12) := ⟨IvL_agr (agr_symm r3) r1, IvS_agr (agr_symm r3) r2⟩
  obtain ⟨I1, hI1, hc⟩ := c_odds_lp env d Nf Df hD hC n k r b N y s (by omega) (by omega) hN I J E v1 hy' hy2 N (Nat.le_refl _)
  have i158 : I1 158 = I 158 := hI1 158 (by omega)
  obtain ⟨sd, hm⟩ := m_odds_lp env d Nf Df hD hM n k r b N y s (by omega) (by omega) hN I1 J E (by rw [i158]; exact ⟨r1, r2⟩) (by rw [i158]; exact hy) hy2 N (Nat.le_refl _)
  rw [i158] at hm
  have hcn : cnb (fun i => bt ((dwDays Nf Df n k (min 20 (400 - y)) (s + Int32.ofNat i, rS I 12)).2 (64 + r)) b) N = cnb (fun i => bt ((dwDays Nf Df n k (min 20 (400 - y)) (s + Int32.ofNat i, I 158)).2 (64 + r)) b) N := by
    apply cnb_congr
    intro i hi
    have p3 := agx_dwDays Nf Df hD (x := (s + Int32.ofNat i, rS I 12)) (x' := (s + Int32.ofNat i, I 158)) ⟨rfl, r3⟩ v1 hy' (min 20 (400 - y)) (by omega)
    show bt _ b = bt _ b
    rw [p3.2 (64 + r) (by unfold rel; omega)]
  rw [hcn] at hc
  generalize hq : cnb (fun i => bt ((dwDays Nf Df n k (min 20 (400 - y)) (s + Int32.ofNat i, I 158)).2 (64 + r)) b) N = Q at hc hm
  have gN1 : decide (Int32.ofNat N < (1 : Int32)) = false := zlt_f N 1 hN1 (by omega)
  have gN2 : decide (Int32.ofNat N ≤ (30 : Int32)) = true := zle_t N 30 hN (by omega)
  have gN3 : decide ((30 : Int32) < Int32.ofNat N) = false := zlt_f 30 N hN (by omega)
  have gNN : decide (Int32.ofNat N ≤ Int32.ofNat N) = true := zle_t N N (Nat.le_refl _) (by omega)
  refine ⟨Int32.ofNat Q, I1, mh (mAs I1) (sd, I 158), ?_, ?_, ?_, ?_⟩
  · show am_ev env (d + 20, 161, 0, [some (.ref 0), some (.int (Int32.ofNat r)), some (.int (Int32.ofNat b)), some (.int (Int32.ofNat N)), some (.int s), none, none, none], [], am_hp I J E) = _
    simp only [bk_161_0, bk_161_15, bk_161_24, cR, cB, ha, hx, bi_eq0, decide_true, decide_false, Bool.not_true, Bool.not_false, am_cont, Option.bind_some, Option.toList_some, Option.toList_none, List.singleton_append, List.nil_append, cond_true, cond_false, gN1, gN2]
    refine Eq.trans hc ?_
    refine (bk_161_46 _ _ _ _ _ _ _ _ _ _ _).trans ?_
    rw [gNN, cond_true]
  · show am_ev env (d + 20, 278, 0, [some (.ref 156), some (.int (Int32.ofNat r)), some (.int (Int32.ofNat b)), some (.int (Int32.ofNat N)), some (.int s), none, none], [], am_hp I1 J E) = _
    have mR1 := fun d => m_isReader env d (Int32.ofNat r) (th0 I1) J E k (by omega) (by rw [th0_158, i158]; exact g2)
    have mB1 := fun d => m_isBook env d (Int32.ofNat b) (th0 I1) J E n (by omega) (by rw [th0_158, i158]; exact g0)
    have ml := m_lay env (d + 18) (th0 I1) J E
    rw [th0_ne I1 162 (by omega), th0_158] at ml
    have ml2 : am_ev env (d + 18 + 1, 276, 0, [some (.ref 156), none], [], am_hp (th0 I1) J E) = some (true, none, am_hp (mAs I1) J E) := ml
    simp only [bk_278_0, bk_278_10, bk_278_18, bk_278_28, bk_278_37, th0_u, mR1, mB1, ha, hx, bi_eq0, m_isIn, gN1, gN3, ml2, decide_true, decide_false, Bool.not_true, Bool.not_false, am_cont, Option.bind_some, Option.toList_some, Option.toList_none, List.singleton_append, List.nil_append, cond_true, cond_false, Bool.and_self]
    refine Eq.trans hm ?_
    refine (bk_278_43 _ _ _ _ _ _ _ _ _ _ _).trans ?_
    rw [gNN, cond_true]
  · refine ⟨t, h, R1_ext I _ n k t h (fun q j hq => ?_) hR⟩
    unfold mh
    by_cases h1 : q = 158
    · subst h1; rw [ur_at]
    · rw [ur_ne _ _ _ _ h1]
      by_cases h2 : q = 156
      · subst h2
        rw [ur_at, ru_ne _ _ _ _ (by unfold KR at hq; omega)]
        unfold mAs
        rw [ur_ne _ _ _ _ (by omega), th0_at _ _ (by unfold KR at hq; omega), hI1 156 (by omega)]
      · rw [ur_ne _ _ _ _ h2]
        unfold mAs
        rw [ur_ne _ _ _ _ (by unfold KR at hq; omega), th0_ne _ _ h2, hI1 q (by unfold KR at hq; omega)]
  · intro q j hq
    unfold mh
    by_cases h1 : q = 158
    · subst h1; rw [ur_at]
    · rw [ur_ne _ _ _ _ h1]
      by_cases h2 : q = 156
      · subst h2
        rw [ur_at, ru_ne _ _ _ _ (by unfold C1 at hq; omega)]
        unfold mAs
        rw [ur_ne _ _ _ _ (by omega), th0_at _ _ (by unfold C1 at hq; omega), hI1 156 (by omega)]
      · rw [ur_ne _ _ _ _ h2]
        unfold mAs
        rw [ur_ne _ _ _ _ (by unfold C1 at hq; omega), th0_ne _ _ h2, hI1 q (by unfold C1 at hq; omega)]
theorem op_odds (env : am_E) (d : Nat) (I : Nat → Nat → Int32) (J : Nat → Nat → Int64) (E : Nat → Nat → Nat) (n k t h : Nat) (hR : R1 I n k t h) (a x z s : Int32) : opR (fun H => am_ev env (d + 20, 161, 0, [some (.ref 0), some (.int a), some (.int x), some (.int z), some (.int s), none, none, none], [], H)) (fun H => am_ev env (d + 20, 278, 0, [some (.ref 156), some (.int a), some (.int x), some (.int z), some (.int s), none, none], [], H)) I J E (P1 I n k) :=
  op_oddsG env d nx du du_lt (fun env I J E d n x h1 h2 => m_draw env d n h1 h2 I J E x) (fun env p I J E d n x hp h1 h2 => c_draw env d p hp n h1 h2 I J E x) I J E n k t h hR a x z s
