/-! days, undo: class and reference side by side -/
theorem lDays_lo (k : Nat) (m : Nat → Int32) (n K y : Nat) (hl : IvL m n k) (hi : IvS m n k) (h : m 34 = Int32.ofNat y) (hK : y + K ≤ 400) (j : Nat) (hj : 70 ≤ j) : lDays k K m j = m j := by
  have hk := hl.2.1.2
  have hn := hl.1.2
  have hrd : ∀ (m : Nat → Int32) r, r < 6 → (m (46 + r) = -1 ∨ ∃ b, b < 8 ∧ m (46 + r) = Int32.ofNat b) → lReads m r j = m j := by
    intro m r hr hx
    rcases hx with e | ⟨b, hb, e⟩
    · rw [lReads_idle m r e]; exact rd1_at _ _ _ (by omega) (by omega)
    · rw [lReads_has m r b hb e]
      cases decide (m (52 + r) - pgs m r ≤ 0)
      · exact rd2_at _ _ _ (by omega) (by omega) (by omega)
      · show lLeave _ _ _ j = _
        rw [lLeave_at _ _ _ _ (by omega) (by omega) (by omega), lLearn_at _ _ _ _ (by omega) (by omega)]; exact rd2_at _ _ _ (by omega) (by omega) (by omega)
  have hRd : ∀ (m : Nat → Int32), IvL m n k → IvS m n k → ∀ K, K ≤ k → lRd K m j = m j := by
    intro m hl hi K
    induction K with
    | zero => intro _; rfl
    | succ K ih =>
      intro hK
      have h2 := lRd_inv m n k K hl hi (by omega)
      exact (hrd _ K (by omega) (has_or hn h2 (by omega))).trans (ih (by omega))
  induction K with
  | zero => rfl
  | succ K ih =>
    obtain ⟨i1, i2, i3⟩ := lDays_P m n k y K hl hi h (by omega)
    show lDay k (lDays k K m) j = m j
    unfold lDay
    rw [ru_ne _ _ _ _ (by omega), hRd _ (IvL_low i1 hl) i3 k (Nat.le_refl _)]
    exact ih (by omega)
theorem c_days1 (env : am_E) (d : Nat) (t h n k N y : Nat) (hN1 : 1 ≤ N) (hN : N ≤ 60) (ht : t < 9) (hh : h ≤ 8) (I : Nat → Nat → Int32) (J : Nat → Nat → Int64) (E : Nat → Nat → Nat) (e1 : I 43 1 = Int32.ofNat t) (e2 : I 43 2 = Int32.ofNat h) (hv : IvL (rS I 12) n k) (hi : IvS (rS I 12) n k) (hy : rS I 12 34 = Int32.ofNat y) (hy2 : y ≤ 400) : am_ev env (d + 20, 130, 0, [some (.ref 0), some (.int (Int32.ofNat N))], [], am_hp I J E) = some (true, some (.int (Int32.ofNat (min N (400 - y)))), am_hp (cA I t h (bi (decide (min N (400 - y) = 0))) (lDays k (min N (400 - y)) (rS I 12))) J E) := by
  have hc := c_passDays env (d + 15) 12 st12 N n k y (hd I t) J E (rS I 12) hN (Lb_hd I t) hv hi hy hy2
  rw [hd_ps] at hc
  generalize hK : min N (400 - y) = K at hc ⊢
  have g1 : decide (Int32.ofNat N < (1 : Int32)) = false := zlt_f N 1 hN1 (by omega)
  have g2 : decide (Int32.ofNat N ≤ (60 : Int32)) = true := zle_t N 60 hN (by omega)
  simp only [bk_130_0, bk_130_11, bk_130_27, bk_130_46, bk_130_49, g1, g2, c_hold env _ t ht I J E e1, decide_true, decide_false, Bool.not_true, Bool.not_false, am_cont, Option.bind_some, Option.toList_some, Option.toList_none, List.singleton_append, List.nil_append, cond_true, cond_false, hc]
  have f1 : ∀ m, pS (hd I t) 12 m 43 = I 43 := fun m => by rw [ps_ne _ _ _ _ (by omega)]; exact hd_q I t 43 ht (by omega)
  unfold cA
  by_cases h0 : K = 0
  · subst h0
    have g3 : decide (Int32.ofNat 0 ≤ (0 : Int32)) = true := by decide
    rw [show pS (hd I t) 12 (lDays k 0 (rS I 12)) = hd I t from hd_ps I t]
    simp only [bk_134_0, bk_134_11, bk_130_0, bk_130_11, bk_130_27, bk_130_46, bk_130_49, g3, decide_true, decide_false, Bool.not_true, Bool.not_false, am_cont, Option.bind_some, Option.toList_some, Option.toList_none, List.singleton_append, List.nil_append, cond_true, cond_false, bi_t, zq_1_0]
  · have g3 : decide (Int32.ofNat K ≤ (0 : Int32)) = false := zle_f K 0 (by omega) (by omega)
    have g4 : bi (decide (K = 0)) = 0 := by rw [decide_eq_false h0]; rfl
    rw [g4]
    simp only [bk_134_0, bk_134_11, bk_130_0, bk_130_11, bk_130_27, bk_130_46, bk_130_49, g3, decide_true, decide_false, Bool.not_true, Bool.not_false, am_cont, Option.bind_some, Option.toList_some, Option.toList_none, List.singleton_append, List.nil_append, cond_true, cond_false, zq_0_0, c_keep env _ t h ht hh (pS (hd I t) 12 (lDays k K (rS I 12))) J E (by rw [f1]; exact e1) (by rw [f1]; exact e2)]
theorem c_days0 (env : am_E) (d : Nat) (x : Int32) (I : Nat → Nat → Int32) (J : Nat → Nat → Int64) (E : Nat → Nat → Nat) (h : (decide (x < 1) || !decide (x ≤ 60)) = true) : am_ev env (d + 20, 130, 0, [some (.ref 0), some (.int x)], [], am_hp I J E) = some (true, some (.int (-1)), am_hp I J E) := by
  simp only [bk_130_0, bk_130_11, bk_130_27, bk_130_46, bk_130_49, decide_true, decide_false, Bool.not_true, Bool.not_false, am_cont, Option.bind_some, Option.toList_some, Option.toList_none, List.singleton_append, List.nil_append, cond_true, cond_false]
  revert h
  cases decide (x < 1) <;> cases decide (x ≤ 60) <;> intro h <;> first | (exact absurd h (by decide)) | rfl
theorem m_days1 (env : am_E) (d : Nat) (h n k N y : Nat) (hN1 : 1 ≤ N) (hN : N ≤ 60) (hh : h ≤ 8) (I : Nat → Nat → Int32) (J : Nat → Nat → Int64) (E : Nat → Nat → Nat) (e2 : I 156 24 = Int32.ofNat h) (hv : IvL (I 158) n k) (hi : IvS (I 158) n k) (hy : I 158 34 = Int32.ofNat y) (hy2 : y ≤ 400) : am_ev env (d + 20, 243, 0, [some (.ref 156), some (.int (Int32.ofNat N))], [], am_hp I J E) = some (true, some (.int (Int32.ofNat (min N (400 - y)))), am_hp (mA I h (bi (decide (min N (400 - y) = 0))) (lDays k (min N (400 - y)) (I 158))) J E) := by
  have g1 : decide (Int32.ofNat N < (1 : Int32)) = false := zlt_f N 1 hN1 (by omega)
  have g2 : decide ((60 : Int32) < Int32.ofNat N) = false := zlt_f 60 N hN (by omega)
  have g5 : decide (Int32.ofNat y = (400 : Int32)) = decide (y = 400) := zI_deq y 400 (by omega) (by omega)
  simp only [bk_243_0, bk_243_12, th0_u, m_isIn, g1, g2, Bool.and_self, bi_t, zq_1_0, decide_true, decide_false, Bool.not_true, Bool.not_false, am_cont, Option.bind_some, Option.toList_some, Option.toList_none, List.singleton_append, List.nil_append, cond_true, cond_false, th0_158, hy, g5]
  unfold mA
  by_cases h0 : y = 400
  · rw [decide_eq_true h0, show min N (400 - y) = 0 by omega]; rfl
  · rw [decide_eq_false h0, decide_eq_false (by omega : ¬ min N (400 - y) = 0)]
    have hp := m_passDays env (d + 15) N n k y (mS I h) J E hN (by rw [mS_158]; exact hv) (by rw [mS_158]; exact hi) (by rw [mS_158]; exact hy) hy2
    simp only [m_snapT env _ h hh I J E e2, decide_true, decide_false, Bool.not_true, Bool.not_false, am_cont, Option.bind_some, Option.toList_some, Option.toList_none, List.singleton_append, List.nil_append, cond_true, cond_false, bk_243_0, bk_243_12, bk_243_36, bk_243_41, hp, mS_158, bi_f, zq_0_0]
theorem m_days0 (env : am_E) (d : Nat) (x : Int32) (I : Nat → Nat → Int32) (J : Nat → Nat → Int64) (E : Nat → Nat → Nat) (h : (decide (x < 1) || decide ((60 : Int32) < x)) = true) : am_ev env (d + 20, 243, 0, [some (.ref 156), some (.int x)], [], am_hp I J E) = some (true, some (.int (-1)), am_hp (th0 I) J E) := by
  simp only [bk_243_0, bk_243_12, th0_u, m_isIn, decide_true, decide_false, Bool.not_true, Bool.not_false, am_cont, Option.bind_some, Option.toList_some, Option.toList_none, List.singleton_append, List.nil_append, cond_true, cond_false, bi_eq0]
  revert h
  cases decide (x < 1) <;> cases decide ((60 : Int32) < x) <;> intro h <;> first | (exact absurd h (by decide)) | rfl
theorem zI_160 (x : Int32) : ((decide (x < 1) || !decide (x ≤ 60)) = true ∧ (decide (x < 1) || decide ((60 : Int32) < x)) = true) ∨ ∃ N, 1 ≤ N ∧ N ≤ 60 ∧ x = Int32.ofNat N := by
  by_cases h1 : x < 1
  · rw [decide_eq_true h1]; exact Or.inl ⟨rfl, rfl⟩
  · by_cases h2 : x ≤ 60
    · refine Or.inr ?_
      have h1' := Int32.not_lt.mp h1
      have h0 : (0 : Int32) ≤ x := by
        rw [Int32.le_iff_toInt_le] at h1' ⊢
        have a : (1 : Int32).toInt = 1 := by decide
        have b : (0 : Int32).toInt = 0 := by decide
        omega
      obtain ⟨e, hl⟩ := zI_of x h0
      refine ⟨x.toNatClampNeg, ?_, ?_, e⟩
      · rw [e, Int32.le_iff_toInt_le, zI_toInt _ hl] at h1'
        have a : (1 : Int32).toInt = 1 := by decide
        omega
      · rw [e, Int32.le_iff_toInt_le, zI_toInt _ hl] at h2
        have a : (60 : Int32).toInt = 60 := by decide
        omega
    · rw [decide_eq_false h2, decide_eq_true (Int32.not_le.mp h2)]
      exact Or.inl ⟨by simp, by simp⟩
theorem op_days (env : am_E) (d : Nat) (I : Nat → Nat → Int32) (J : Nat → Nat → Int64) (E : Nat → Nat → Nat) (n k t h : Nat) (hR : R1 I n k t h) (x : Int32) : opR (fun H => am_ev env (d + 20, 130, 0, [some (.ref 0), some (.int x)], [], H)) (fun H => am_ev env (d + 20, 243, 0, [some (.ref 156), some (.int x)], [], H)) I J E (P1 I n k) := by
  obtain ⟨hn, hk, ht, hh, e1, e2, e3, f0, f2, g0, g2⟩ := R1_f I n k t h hR
  obtain ⟨r1, r2, r3, r4, r5⟩ := id hR
  rcases zI_160 x with ⟨h1, h2⟩ | ⟨N, hN1, hN, rfl⟩
  · exact none_op I J E n k t h hR (-1) _ _ (c_days0 env d x I J E h1) (m_days0 env d x I J E h2)
  · obtain ⟨y, hy2, hy⟩ := r2.1
    have hy' : rS I 12 34 = Int32.ofNat y := (r3 34 (by unfold rel; omega)).trans hy
    have v1 := IvL_agr (agr_symm r3) r1
    have v2 := IvS_agr (agr_symm r3) r2
    have hK : y + min N (400 - y) ≤ 400 := by omega
    have p1 := lDays_P (rS I 12) n k y _ v1 v2 hy' hK
    have p2 := lDays_P (I 158) n k y _ r1 r2 hy hK
    refine act_op I J E n k t h hR (Int32.ofNat (min N (400 - y))) (bi (decide (min N (400 - y) = 0))) _ _ p1.1 ?_ (fun _ => agr_lDays r3 v1 v2 y _ hy' hK) (fun _ => p2.2.2) _ _ (c_days1 env d t h n k N y hN1 hN ht hh I J E e1 e2 v1 v2 hy' hy2) ?_
    · intro j hj
      rcases hj with hj | hj
      · exact p2.1 j hj
      · exact lDays_lo k _ n _ y r1 r2 hy hK j hj
    · intro I' i1 i2
      have := m_days1 env d h n k N y hN1 hN hh I' J E (by rw [i2]; exact e3) (by rw [i1]; exact r1) (by rw [i1]; exact r2) (by rw [i1]; exact hy) hy2
      rw [i1] at this; exact this
theorem op_undo (env : am_E) (d : Nat) (I : Nat → Nat → Int32) (J : Nat → Nat → Int64) (E : Nat → Nat → Nat) (n k t h : Nat) (hR : R1 I n k t h) : opR (fun H => am_ev env (d + 20, 132, 0, [some (.ref 0)], [], H)) (fun H => am_ev env (d + 20, 239, 0, [some (.ref 156), none], [], H)) I J E (P1 I n k) := by
  obtain ⟨hn, hk, ht, hh, e1, e2, e3, f0, f2, g0, g2⟩ := R1_f I n k t h hR
  obtain ⟨r1, r2, r3, r4, r5⟩ := id hR
  rcases h with _ | h
  · refine none_op I J E n k t 0 hR (-1) _ _ ?_ (m_undo0 env (d + 19) I J E e3)
    simp only [bk_132_0, bk_132_14, decide_true, decide_false, Bool.not_true, Bool.not_false, am_cont, Option.bind_some, Option.toList_some, Option.toList_none, List.singleton_append, List.nil_append, cond_true, cond_false, c_takeBack0_h env (d + 18) I J E e2]
  · have hlt : (t + 8) % 9 < 9 := Nat.mod_lt _ (by omega)
    have hx0 : (t + 9 - (h + 1) + h) % 9 = (t + 8) % 9 := by congr 1; omega
    obtain ⟨b1, b2⟩ := r5 h (by omega)
    rw [hx0] at b2
    have ubq : ∀ q, q ≠ 43 → ub I t h q = I q := fun q hq => by unfold ub; exact ur_ne _ _ _ _ hq
    have hI1 : ∀ q, 98 < q → pS (ub I t h) 12 (rS (ub I t h) (45 + 6 * ((t + 8) % 9))) q = I q := fun q hq => by rw [ps_ne _ _ _ _ (by omega), ubq q (by omega)]
    have hm := m_undo env (d + 19) h (by omega) (pS (ub I t h) 12 (rS (ub I t h) (45 + 6 * ((t + 8) % 9)))) J E (by rw [hI1 156 (by omega)]; exact e3)
    rw [hI1 158 (by omega), hI1 156 (by omega), hI1 161 (by omega)] at hm
    refine ⟨Int32.ofNat h, _, _, ?_, hm, ?_, ?_⟩
    · simp only [bk_132_0, bk_132_14, decide_true, decide_false, Bool.not_true, Bool.not_false, am_cont, Option.bind_some, Option.toList_some, Option.toList_none, List.singleton_append, List.nil_append, cond_true, cond_false, c_takeBack_h env (d + 17) t h ht (by omega) I J E e1 e2]
    · generalize hI2 : am_ur (am_ur (pS (ub I t h) 12 (rS (ub I t h) (45 + 6 * ((t + 8) % 9)))) 156 (ru (ru (I 156) 0 0) 24 (Int32.ofNat h))) 158 (cpr (I 158) 34 36 (fun k => I 161 (36 * h + k))) = I2
      have k158 : I2 158 = cpr (I 158) 34 36 (fun k => I 161 (36 * h + k)) := by rw [← hI2, ur_at]
      have kq : ∀ q, q < 156 → I2 q = pS (ub I t h) 12 (rS (ub I t h) (45 + 6 * ((t + 8) % 9))) q := by
        intro q hq; rw [← hI2, ur_ne _ _ _ _ (by omega), ur_ne _ _ _ _ (by omega)]
      have k161 : I2 161 = I 161 := by rw [← hI2, ur_ne _ _ _ _ (by omega), ur_ne _ _ _ _ (by omega)]; exact hI1 161 (by omega)
      have k43 : I2 43 = ru (ru (I 43) 1 (Int32.ofNat ((t + 8) % 9))) 2 (Int32.ofNat h) := by
        rw [kq 43 (by omega), ps_ne _ _ _ _ (by omega)]; unfold ub; rw [ur_at]
      have k156 : I2 156 24 = Int32.ofNat h := by rw [← hI2, ur_ne _ _ _ _ (by omega), ur_at, ru_eq]
      have a158 : Agr n k (snp I h) (I2 158) := by
        intro j hj
        have hj70 : j < 70 := by unfold rel at hj; omega
        rw [k158]
        unfold snp
        by_cases g : j < 34
        · rw [if_pos g, cpr_out _ _ _ _ _ (by omega)]
        · rw [if_neg g]
          have := cpr_in (I 158) 34 36 (fun k => I 161 (36 * h + k)) (j - 34) (by omega)
          rw [show 34 + (j - 34) = j by omega] at this
          rw [this]
      have hub : ∀ p, 43 < p → p ≤ 98 → rS (ub I t h) p = rS I p := fun p hp _ => rS_congr _ _ _ (fun q hq => ubq q (by omega))
      have a12 : Agr n k (rS I2 12) (I2 158) := by
        intro j hj
        have hj70 : j < 70 := by unfold rel at hj; omega
        rw [rS_congr (pS (ub I t h) 12 (rS (ub I t h) (45 + 6 * ((t + 8) % 9)))) I2 12 (fun q hq => kq q (by omega)), rS_pS (ub I t h) 12 _ (by omega) (fun j hj => rS_low _ _ _ _ hj) j hj70, hub _ (by omega) (by omega), b2 j hj, a158 j hj]
      refine ⟨(t + 8) % 9, h, IvL_low (m := I 158) (fun j hj => by rw [k158, cpr_out _ _ _ _ _ (by omega)]) r1, IvS_agr a158 b1, a12, ⟨hlt, by omega, by rw [k43, ru_ne _ _ _ _ (by omega), ru_eq], by rw [k43, ru_eq], k156⟩, ?_⟩
      intro i hi
      obtain ⟨c1, c2⟩ := r5 i (by omega)
      have hx : ((t + 8) % 9 + 9 - h + i) % 9 = (t + 9 - (h + 1) + i) % 9 := by omega
      have hlt2 : (t + 9 - (h + 1) + i) % 9 < 9 := Nat.mod_lt _ (by omega)
      have as : Agr n k (snp I i) (snp I2 i) := by
        intro j hj
        unfold snp
        rw [k161, k158]
        by_cases g : j < 34
        · rw [if_pos g, if_pos g, cpr_out _ _ _ _ _ (by omega)]
        · rw [if_neg g, if_neg g]
      refine ⟨IvS_agr as c1, ?_⟩
      rw [hx]
      refine agr_trans ?_ as
      refine agr_trans ?_ c2
      intro j hj
      have hj70 : j < 70 := by unfold rel at hj; omega
      by_cases g : j < 34
      · rw [rS_low I2 _ 12 j g, rS_low I _ 12 j g, rS_congr (pS (ub I t h) 12 (rS (ub I t h) (45 + 6 * ((t + 8) % 9)))) I2 12 (fun q hq => kq q (by omega)), rS_pS (ub I t h) 12 _ (by omega) (fun j hj => rS_low _ _ _ _ hj) j hj70, hub _ (by omega) (by omega)]
        exact rS_low _ _ _ _ g
      · rw [rS_congr I I2 (45 + 6 * ((t + 9 - (h + 1) + i) % 9)) (fun q hq => by rw [kq q (by omega), ps_ne _ _ _ _ (by omega), ubq q (by omega)])]
    · intro q j hq
      by_cases h1 : q = 158
      · subst h1
        rw [ur_at, cpr_out _ _ _ _ _ (by unfold C1 at hq; omega)]
      · rw [ur_ne _ _ _ _ h1]
        by_cases h2 : q = 156
        · subst h2
          rw [ur_at, ru_ne _ _ _ _ (fun e => hq (by unfold C1; omega)), ru_ne _ _ _ _ (fun e => hq (by unfold C1; omega))]
        · rw [ur_ne _ _ _ _ h2, ps_ne _ _ _ _ (by unfold C1 at hq; omega), ubq q (by unfold C1 at hq; omega)]
