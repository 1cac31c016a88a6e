/-! way: class and reference side by side -/
theorem c_waypages (env : am_E) (d : Nat) (n r : Nat) (hn : n ≤ 8) (hr : r < 6) (a : Nat → Int32) (rd own N hv : Int32) (b o hs : Nat) (ho1 : o ≤ 1) (hW : WH n a rd own N b) (hvo : ∀ x, x < n → bt own x = decide (Int32.ofNat x = hv)) (hoh : o = 1 → hv = Int32.ofNat hs ∧ hs < n) (p0 : Int32 × Int32) (hp0 : p0 = (N &&& (own ^^^ (-1)), rd ||| own)) (hK : o + cn n p0.1 ≤ 8) (m : Nat → Int32) (k0 : Nat) (hl : IvL m n k0) (A : Nat) (hA : A ≤ 1000) (pace : Nat) (hp1 : 1 ≤ pace ∧ pace ≤ 30) (I : Nat → Nat → Int32) (J : Nat → Nat → Int64) (E : Nat → Nat → Nat) (h5 : I 5 0 = Int32.ofNat n) (h7 : ∀ x, x < 8 → I 7 x = m (4 + x)) (h11 : I 11 r = Int32.ofNat pace) (h14 : I 14 r = hv) : am_ev env (d + 4, 136, 113, [some (.ref 0), some (.int (Int32.ofNat r)), some (.int (Int32.ofNat b)), some (.ref 12), some (.int (Int32.ofNat A)), some (.int (Int32.ofNat 0))], [], am_hp (WHp I (fun i => Int32.ofNat (wr a n p0 o hs i)) (o + cn n p0.1)) J E) = some (true, some (.int ((Int32.ofNat (A + pagN m p0.1 n) + Int32.ofNat pace - 1) / Int32.ofNat pace)), am_hp (WHp I (fun i => Int32.ofNat (wr a n p0 o hs i)) (o + cn n p0.1)) J E) := by
  generalize hH : WHp I (fun i => Int32.ofNat (wr a n p0 o hs i)) (o + cn n p0.1) = H
  have H4 : H 104 4 = Int32.ofNat (o + cn n p0.1) := by rw [← hH]; exact WHp_4 _ _ _
  have Hq : ∀ q, q ≠ 104 ∧ q ≠ 107 → H q = I q := fun q hq => by rw [← hH]; exact WHp_q _ _ _ q hq
  have H107 : ∀ i, i < o + cn n p0.1 → H 107 i = Int32.ofNat (wr a n p0 o hs i) := by
    intro i hi
    rw [← hH]
    unfold WHp
    rw [ur_at]
    have := cpr_in (I 107) 0 (o + cn n p0.1) (fun i => Int32.ofNat (wr a n p0 o hs i)) i hi
    rw [Nat.zero_add] at this; exact this
  have hsum : ∀ i, i ≤ cn n p0.1 → sump m (fun i => wx a n (wss a n p0 i)) i ≤ 792 := by
    intro i hi
    have h1 := way_sum m hn hW p0 hp0 i hi
    have h2 := pagN_le hl p0.1 n (Nat.le_refl _)
    omega
  have step2 : ∀ j i, i + j = cn n p0.1 → am_ev env (d + 4, 136, 113, [some (.ref 0), some (.int (Int32.ofNat r)), some (.int (Int32.ofNat b)), some (.ref 12), some (.int (Int32.ofNat (A + sump m (fun i => wx a n (wss a n p0 i)) i))), some (.int (Int32.ofNat (o + i)))], [], am_hp H J E) = some (true, some (.int ((Int32.ofNat (A + pagN m p0.1 n) + Int32.ofNat pace - 1) / Int32.ofNat pace)), am_hp H J E) := by
    intro j
    induction j with
    | zero =>
      intro i hi
      have hend := way_sum_end m hn hW p0 hp0
      have gz : decide (Int32.ofNat pace = 0) = false := (zdq0 pace (by omega)).trans (decide_eq_false (by omega))
      have g1 : decide ((1 : Int32) ≤ Int32.ofNat pace) = true := zle_t 1 pace hp1.1 (by omega)
      rw [show i = cn n p0.1 by omega, hend]
      refine (bk_136_113 _ _ _ _ _ _ _ _ _).trans ?_
      rw [H4, zle_t (o + cn n p0.1) (o + cn n p0.1) (Nat.le_refl _) (by omega), Hq 11 (by omega)]
      simp (disch := omega) only [decide_true, decide_false, Bool.not_true, Bool.not_false, am_cont, Option.bind_some, Option.toList_some, Option.toList_none, List.singleton_append, List.nil_append, cond_true, cond_false, zI_in, zI_nat, h11, g1, gz, bk_136_209]
    | succ j ih =>
      intro i hi
      obtain ⟨i1, i2, i3⟩ := wss_P hn hW p0 hp0 i (by omega)
      obtain ⟨s1, s2, s3, s4, s5, s6⟩ := WI_step hn hW i1 (i3 (by omega))
      have hw := H107 (o + i) (by omega)
      rw [wr_o a n p0 o hs i ho1] at hw
      have hne : decide (Int32.ofNat (wx a n (wss a n p0 i)) = hv) = false := by
        rw [← hvo _ s1]; exact (i1.1 _ ((av_iff a _ _).mp s2).1).2
      obtain ⟨y, y1, y2, y3⟩ := hl.2.2.2.1 _ s1
      have h16 := c_pagesOf env (d + 1) n (wx a n (wss a n p0 i)) hn s1 H J E (by rw [Hq 5 (by omega)]; exact h5)
      rw [Hq 7 (by omega), h7 _ (by omega), y3] at h16
      refine (bk_136_113 _ _ _ _ _ _ _ _ _).trans ?_
      rw [H4, zle_f (o + cn n p0.1) (o + i) (by omega) (by omega), Hq 14 (by omega)]
      have e : A + sump m (fun i => wx a n (wss a n p0 i)) i + y = A + sump m (fun i => wx a n (wss a n p0 i)) (i + 1) := by
        show _ = A + (sump m (fun i => wx a n (wss a n p0 i)) i + (m (4 + wx a n (wss a n p0 i))).toNatClampNeg)
        rw [y3, zI_nat y (by omega)]; omega
      simp (disch := omega) only [decide_true, decide_false, Bool.not_true, Bool.not_false, am_cont, Option.bind_some, Option.toList_some, Option.toList_none, List.singleton_append, List.nil_append, cond_true, cond_false, zI_in, zI_nat, hw, h14, hne, h16, bk_136_166, bk_136_169, zI_add, zd_1, e]
      exact ih (i + 1) (by omega)
  by_cases ho : o = 1
  · obtain ⟨v1, v2⟩ := hoh ho
    have hw := H107 0 (by omega)
    have hw0 : wr a n p0 o hs 0 = hs := by unfold wr; rw [if_pos ho, if_pos rfl]
    rw [hw0] at hw
    refine (bk_136_113 _ _ _ _ _ _ _ _ _).trans ?_
    rw [H4, zle_f (o + cn n p0.1) 0 (by omega) (by omega), Hq 14 (by omega)]
    simp (disch := omega) only [decide_true, decide_false, Bool.not_true, Bool.not_false, am_cont, Option.bind_some, Option.toList_some, Option.toList_none, List.singleton_append, List.nil_append, cond_true, cond_false, zI_in, zI_nat, hw, h14, v1, bk_136_169, zd_1]
    have := step2 (cn n p0.1) 0 (by omega)
    rw [ho] at this
    exact this
  · have := step2 (cn n p0.1) 0 (by omega)
    rw [show o = 0 by omega] at this
    exact this
