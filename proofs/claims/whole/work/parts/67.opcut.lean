/-! cut: class and reference side by side -/
theorem cut_same (n : Nat) (hn : n ≤ 8) (a : Nat → Int32) (ha : lowa n a) (hself : ∀ b, b < n → bt (a b) b = false) (f : Int32) (hf : ∀ b, b < n → bt f b = true → a b = 0) (u : Nat) (hu : u < 2 ^ n) (hub : ∀ k, bt (Int32.ofNat u) k = (decide (k < n) && !bt f k)) : lc (fun x => qm n a (Int32.ofNat x)) n = mlc (fun x => qm n a (Int32.ofNat x)) u u u := by
  obtain ⟨p1, p2⟩ := pow256 n hn
  have hpc : ∀ x, x < 2 ^ n → pc x = cn n (Int32.ofNat x) := by
    intro x hx
    have hlow := nat_low n x hn hx
    unfold pc
    have : ∀ j, cn (n + j) (Int32.ofNat x) = cn n (Int32.ofNat x) := by
      intro j
      induction j with
      | zero => rfl
      | succ j ih =>
        show cn (n + j) (Int32.ofNat x) + (if bt (Int32.ofNat x) (n + j) then 1 else 0) = _
        rw [ih]
        cases hb : bt (Int32.ofNat x) (n + j) with
        | false => rfl
        | true => have := hlow _ hb; omega
    have h8 := this (8 - n)
    rw [show n + (8 - n) = 8 by omega] at h8
    exact h8
  have qu : qm n a (Int32.ofNat u) = true := by
    rw [qm_iff n hn]
    intro b hb hc
    obtain ⟨y, h1, h2, h3⟩ := rq_cyc (aw_low ha _) hb hc
    unfold aw at h1
    by_cases hbu : bt (Int32.ofNat u) b = true
    · rw [if_pos hbu, bt_zero] at h1; cases h1
    · rw [if_neg hbu] at h1
      have : bt f b = true := by
        have := hub b
        rw [decide_eq_true hb, Bool.true_and] at this
        cases hz : bt f b with
        | true => rfl
        | false => rw [hz] at this; exact absurd this hbu
      rw [hf b hb this, bt_zero] at h1; cases h1
  have suu : sbb u u = true := by rw [sbb_iff]; exact fun k h => h
  obtain ⟨m1, m2, m3⟩ := mlc_P (fun x => qm n a (Int32.ofNat x)) u u u suu qu (fun y h1 h2 => by omega)
  obtain ⟨c1, c2, c3⟩ := lc_P (fun x => qm n a (Int32.ofNat x)) n (2 ^ n) (Nat.le_refl _)
  have clt := lc_lt (fun x => qm n a (Int32.ofNat x)) n (2 ^ n) (Nat.le_refl _)
  show lp _ _ _ = _
  generalize hB : lp (lcs (fun x => qm n a (Int32.ofNat x))) (2 ^ n) (2 ^ n - 1) = B at c1 c2 c3 clt
  generalize hM : mlc (fun x => qm n a (Int32.ofNat x)) u u u = M at m1 m2 m3
  have Mlt : M < 2 ^ n := by
    have hMl : lowb n (Int32.ofNat M) := by
      rw [sbb_iff] at m1
      intro k hk
      have := m1 k hk
      rw [hub] at this
      have := (and_f this).1
      exact of_decide_eq_true this
    have hM256 : M < 256 := by
      rw [← hM]
      have key : ∀ x best, x < 256 → best < 256 → mlc (fun x => qm n a (Int32.ofNat x)) u x best < 256 := by
        intro x
        induction x with
        | zero => intro best h1 h2; show mls _ u 0 best < 256; unfold mls; split <;> omega
        | succ x ih => intro best h1 h2; exact ih _ (by omega) (by unfold mls; split <;> omega)
      exact key u u (by omega) (by omega)
    apply Classical.byContradiction
    intro hge
    obtain ⟨x, hx1, hx2, hx3⟩ := low_nat n hn (Int32.ofNat M) hMl
    have : M = x := by
      have := (zI_eq M x (by omega) (by omega)).mp hx3
      exact this
    omega
  by_cases hn0 : n = 0
  · subst hn0; simp at clt Mlt; omega
  have hfull : pc (2 ^ n - 1) = n := by
    rw [hpc _ (by omega)]
    have hall : ∀ k, k < n → bt (Int32.ofNat (2 ^ n - 1)) k = true := fun k hk => by rw [full_bt n hn]; exact decide_eq_true hk
    have : ∀ N, N ≤ n → cn N (Int32.ofNat (2 ^ n - 1)) = N := by
      intro N
      induction N with
      | zero => intro _; rfl
      | succ N ih => intro hN; show cn N _ + _ = _; rw [ih (by omega), hall N (by omega)]; rfl
    exact this n (Nat.le_refl _)
  -- one without 0 does
  have hsome : ∃ x, x < 2 ^ n ∧ qm n a (Int32.ofNat x) = true ∧ pc x < n := by
    obtain ⟨x, hx1, hx2, hx3⟩ := low_nat n hn (Int32.ofNat (2 ^ n - 1) &&& (bit1 0 ^^^ (-1))) (fun k hk => by
      rw [bt_and, full_bt n hn] at hk
      exact of_decide_eq_true (and_f hk).1)
    have hb : ∀ k, k < 32 → bt (Int32.ofNat x) k = (decide (k < n) && !decide (k = 0)) := by
      intro k hk
      rw [← hx3, bt_and, full_bt n hn, bt_not _ _ hk, bt_one 0 k (by omega)]
    refine ⟨x, hx1, ?_, ?_⟩
    · rw [qm_iff n hn]
      have hnz : ∀ b, b < n → b ≠ 0 → ¬ bt (rq n (aw a (Int32.ofNat x)) b) b = true := by
        intro b hbn hb0 hc
        obtain ⟨y, h1, h2, h3⟩ := rq_cyc (aw_low ha _) hbn hc
        unfold aw at h1
        rw [if_pos (by rw [hb b (by omega), decide_eq_true hbn, decide_eq_false hb0]; rfl), bt_zero] at h1
        cases h1
      intro b hbn hc
      by_cases hb0 : b = 0
      · subst hb0
        obtain ⟨y, h1, h2, h3⟩ := rq_cyc (aw_low ha _) hbn hc
        by_cases hy0 : y = 0
        · subst hy0
          unfold aw at h1
          rw [if_neg (by rw [hb 0 (by omega), decide_eq_true rfl]; simp), hself 0 hbn] at h1
          cases h1
        · exact hnz y h2 hy0 h3
      · exact hnz b hbn hb0 hc
    · rw [hpc x hx1]
      have e : cn n (Int32.ofNat (2 ^ n - 1)) = n := by rw [← hpc _ (by omega)]; exact hfull
      have l : cn n (Int32.ofNat x) < cn n (Int32.ofNat (2 ^ n - 1)) := by
        refine cn_lt n (fun k hk hbk => by rw [full_bt n hn]; exact decide_eq_true hk) 0 (by omega) ?_ ?_
        · rw [hb 0 (by omega), decide_eq_true rfl]; simp
        · rw [full_bt n hn]; exact decide_eq_true (by omega)
      omega
  have hBnf : B ≠ 2 ^ n - 1 := by
    obtain ⟨x, h1, h2, h3⟩ := hsome
    have := c2 x h1 h2
    rintro rfl
    omega
  have hBq : qm n a (Int32.ofNat B) = true := by
    rcases c1 with h | h
    · exact absurd h hBnf
    · exact h.2
  -- B has no forged one
  have hBu : sbb B u = true := by
    rw [sbb_iff]
    intro k hk
    have hkn := nat_low n B hn clt k hk
    rw [hub, decide_eq_true hkn, Bool.true_and]
    cases hfk : bt f k with
    | false => rfl
    | true =>
      exfalso
      obtain ⟨x, hx1, hx2, hx3⟩ := low_nat n hn (Int32.ofNat B &&& (bit1 k ^^^ (-1))) (fun j hj => by
        rw [bt_and] at hj
        exact nat_low n B hn clt j (and_f hj).1)
      have hb : ∀ j, j < 32 → bt (Int32.ofNat x) j = (bt (Int32.ofNat B) j && !decide (j = k)) := by
        intro j hj
        rw [← hx3, bt_and, bt_not _ _ hj, bt_one k j (by omega)]
      have haw : aw a (Int32.ofNat x) = aw a (Int32.ofNat B) ∨ True := Or.inr trivial
      have hqx : qm n a (Int32.ofNat x) = true := by
        have hrq : ∀ b, b < n → rq n (aw a (Int32.ofNat x)) b = rq n (aw a (Int32.ofNat B)) b := by
          intro b hbn
          refine rq_congr (fun c hc => ?_) b hbn
          unfold aw
          rw [hb c (by omega)]
          by_cases e : c = k
          · subst e
            rw [hk, decide_eq_true rfl, hf c hc hfk]; rfl
          · rw [decide_eq_false e, Bool.not_false, Bool.and_true]
        rw [qm_iff n hn] at hBq ⊢
        intro b hbn
        rw [hrq b hbn]
        exact hBq b hbn
      have hle := c2 x hx1 hqx
      rw [hpc B clt, hpc x hx1] at hle
      have hlt : cn n (Int32.ofNat x) < cn n (Int32.ofNat B) := by
        refine cn_lt n (fun j hj hbj => ?_) k hkn ?_ hk
        · rw [hb j (by omega)] at hbj; exact (and_f hbj).1
        · rw [hb k (by omega), decide_eq_true rfl]; simp
      omega
  have hBle : B ≤ u := sbb_le B u (by omega) (by omega) hBu
  have h1 := m3 B hBle hBu hBq
  have h2 := c2 M Mlt m2
  have h3 := c3 M Mlt m2
  rcases h1 with h1 | ⟨h1, h1'⟩
  · omega
  · rcases h3 h1 with h3 | h3
    · omega
    · exact absurd h3 hBnf
def XC (q j : Nat) : Prop := (q = 0 ∧ j = 14) ∨ (q = 156 ∧ j = 30)
def PC (I : Nat → Nat → Int32) (n k : Nat) (I2 : Nat → Nat → Int32) : Prop := (∃ t h, R1 I2 n k t h) ∧ RC I2 ∧ frX XC I I2
theorem lc_congr (q q' : Nat → Bool) (n : Nat) (h : ∀ x, x < 2 ^ n → q x = q' x) : lc q n = lc q' n := by
  unfold lc
  exact lp_congr _ _ _ _ (fun x a hx => by unfold lcs; rw [h x hx])
theorem op_cut (env : am_E) (d : Nat) (I : Nat → Nat → Int32) (J : Nat → Nat → Int64) (E : Nat → Nat → Nat) (n k t h : Nat) (hR : R1 I n k t h) : opR (fun H => am_ev env (d + 20, 140, 0, [some (.ref 0)], [], H)) (fun H => am_ev env (d + 20, 251, 0, [some (.ref 156), none, none, none], [], H)) I J E (PC I n k) := by
  obtain ⟨hn, hk, ht, hh, e1, e2, e3, f0, f2, g0, g2⟩ := R1_f I n k t h hR
  obtain ⟨r1, r2, r3, r4, r5⟩ := id hR
  have ha := low_aft r1
  obtain ⟨p1, p2⟩ := pow256 n hn
  have hag : ∀ b, b < n → aft (rS I 12) b = aft (I 158) b := fun b hb => agr_aft r3 b hb
  have ct := c_takeF env (d + 17) n hn I J E f0
  have cl := c_leastCut env (d + 14) n hn (aft (rS I 12)) (tk I n (aft (rS I 12))) J E (tk_or _ _ _)
  have elc : lc (fun x => qc n (aft (rS I 12)) (Int32.ofNat x)) n = lc (fun x => qm n (aft (I 158)) (Int32.ofNat x)) n := by
    apply lc_congr
    intro x hx
    rw [← qc_qm n hn _ ha _ (nat_low n x hn hx)]
    unfold qc
    rw [grs_congr hag]
  rw [elc] at cl
  obtain ⟨u, hu1, hu2, hu3⟩ := low_nat n hn (Int32.ofNat (2 ^ n - 1) &&& (I 158 35 ^^^ (-1))) (fun k hk => by
    rw [bt_and, full_bt n hn] at hk
    exact of_decide_eq_true (and_f hk).1)
  have hub : ∀ k, bt (Int32.ofNat u) k = (decide (k < n) && !bt (I 158 35) k) := by
    intro k
    rw [← hu3, bt_and, full_bt n hn]
    by_cases hk32 : k < 32
    · rw [bt_not _ _ hk32]
    · rw [decide_eq_false (by omega)]; rfl
  have hsame := cut_same n hn (aft (I 158)) ha (fun b hb => by
    unfold aft
    cases bt (I 158 35) b
    · exact (r1.2.2.2.2.2.1 b hb).2
    · exact bt_zero b) (I 158 35) (fun b hb hf => by unfold aft; rw [hf]; rfl) u hu1 hub
  rw [hsame] at cl
  have i158 : tk I n (aft (rS I 12)) 158 = I 158 := tk_ne _ _ _ _ (by omega)
  have iKR := fun q j => tk_KR I n (aft (rS I 12)) q j
  have ifr := tk_fr I n (aft (rS I 12))
  generalize hI0 : tk I n (aft (rS I 12)) = I0 at ct cl i158 iKR ifr
  have mlp := fun I' (h1 : I' 158 = I 158) => m_cut_lp env (d + 12) n u hn hu2 I' J E (by rw [h1]; exact g0) (by rw [h1]; exact ha) u u hu2 hu2
  have mlp1 := fun I' (h1 : I' 158 = I 158) => (mlp I' h1).1
  have hB := (mlp I rfl).2
  have mlp2 : ∀ I', I' 158 = I 158 → am_ev env (d + 12 + 8, 251, 30, [some (.ref 156), some (.int (Int32.ofNat u)), some (.int (Int32.ofNat u)), some (.int (Int32.ofNat u))], [], am_hp I' J E) = am_ev env (d + 12 + 8, 251, 30, [some (.ref 156), some (.int (Int32.ofNat u)), some (.int (Int32.ofNat (mlc (fun x => qm n (aft (I 158)) (Int32.ofNat x)) u u u))), some (.int (-1))], [], am_hp I' J E) := by
    intro I' h1
    have := mlp1 I' h1
    rw [h1] at this
    exact this
  generalize mlc (fun x => qm n (aft (I 158)) (Int32.ofNat x)) u u u = B at cl hB mlp2
  refine ⟨Int32.ofNat (pc B), am_u I0 0 14 (Int32.ofNat B), am_u (th0 (am_u I0 0 14 (Int32.ofNat B))) 156 30 (Int32.ofNat B), ?_, ?_, ?_, ?_, ?_⟩
  · simp (disch := omega) only [bk_140_0, bk_140_24, bk_140_32, bk_140_42, decide_true, decide_false, Bool.not_true, Bool.not_false, am_cont, Option.bind_some, Option.toList_some, Option.toList_none, List.singleton_append, List.nil_append, cond_true, cond_false, ct, cl, am_u_at, c_bitCount]
  · have j158 : th0 (am_u I0 0 14 (Int32.ofNat B)) 158 = I 158 := by rw [th0_158, am_u_nr _ _ _ _ _ (by omega), i158]
    refine (bk_251_0 _ _ _ _ _).trans ?_
    rw [th0_u, j158, g0, full_n n hn, hu3]
    refine (mlp2 _ j158).trans ?_
    refine (bk_251_30 _ _ _ _ _ _ _ _).trans ?_
    rw [show decide ((-1 : Int32) < 0) = true by decide]
    simp (disch := omega) only [decide_true, decide_false, Bool.not_true, Bool.not_false, am_cont, Option.bind_some, Option.toList_some, Option.toList_none, List.singleton_append, List.nil_append, cond_true, cond_false, m_bits, bk_251_78]
  · refine ⟨t, h, R1_ext I _ n k t h (fun q j hq => ?_) hR⟩
    rw [am_u_d]
    by_cases h1 : q = 156
    · subst h1
      rw [if_pos rfl, if_neg (by unfold KR at hq; omega), th0_at _ _ (by unfold KR at hq; omega), am_u_nr _ _ _ _ _ (by omega)]
      exact iKR _ _ hq
    · rw [if_neg h1, th0_ne _ _ h1, am_u_nr _ _ _ _ _ (by unfold KR at hq; omega)]
      exact iKR _ _ hq
  · show am_u _ 156 30 _ 0 14 = am_u _ 156 30 _ 156 30
    rw [am_u_at, am_u_nr _ _ _ _ _ (by omega), th0_ne _ _ (by omega), am_u_at]
  · intro q j hq hX
    rw [am_u_d]
    by_cases h1 : q = 156
    · subst h1
      rw [if_pos rfl, if_neg (by unfold XC at hX; omega), th0_at _ _ (by unfold C1 at hq; omega), am_u_nr _ _ _ _ _ (by omega)]
      exact ifr _ _ hq
    · rw [if_neg h1, th0_ne _ _ h1, am_u_d]
      by_cases h2 : q = 0
      · rw [if_pos h2, if_neg (by unfold XC at hX; omega)]; exact ifr _ _ hq
      · rw [if_neg h2]; exact ifr _ _ hq
