/-! the way to a BOOK -/
theorem cn_succ (n : Nat) (s : Int32) : cn (n + 1) s = cn n s + (if bt s n then 1 else 0) := rfl
def ax (a : Nat → Int32) (rd own : Int32) (x : Nat) : Int32 := if bt own x then 0 else a x &&& (rd ^^^ (-1))
/-- what may be read next, of what is left -/
def av (a : Nat → Int32) (p : Int32 × Int32) (x : Nat) : Bool := bt p.1 x && decide (a x &&& (p.2 ^^^ (-1)) = 0)
def wx (a : Nat → Int32) (n : Nat) (p : Int32 × Int32) : Nat := (fwd (av a p) n 0).toNatClampNeg
def wst (a : Nat → Int32) (n : Nat) (p : Int32 × Int32) : Int32 × Int32 := (p.1 &&& (bit1 (wx a n p) ^^^ (-1)), p.2 ||| bit1 (wx a n p))
theorem av_iff (a : Nat → Int32) (p : Int32 × Int32) (x : Nat) : av a p x = true ↔ (bt p.1 x = true ∧ bs (a x) p.2) := by
  unfold av
  rw [Bool.and_eq_true, decide_eq_true_iff, bt_sub]
/-- all that the way rests on -/
def WH (n : Nat) (a : Nat → Int32) (rd own N : Int32) (b : Nat) : Prop := lowa n a ∧ lowb n rd ∧ lowb n own ∧ (∀ x, bt own x = true → bt rd x = false) ∧ b < n ∧ bt rd b = false ∧ Rch n (ax a rd own) (bit1 b) N ∧ bt (grs a n n (rd ||| own)) b = true
theorem WH_N {n : Nat} {a : Nat → Int32} {rd own N : Int32} {b : Nat} (hn : n ≤ 8) (h : WH n a rd own N b) : lowb n N ∧ (∀ x, bt N x = true → bt rd x = false) ∧ bt N b = true ∧ (∀ x z, bt N x = true → bt own x = false → bt (a x) z = true → bt rd z = false → bt N z = true) := by
  obtain ⟨h1, h2, h3, h4, h5, h6, h7, h8⟩ := h
  have hax : ∀ x, x < n → lowb n (ax a rd own x) := by
    intro x hx k hk
    unfold ax at hk
    split at hk
    · rw [bt_zero] at hk; cases hk
    · rw [bt_and] at hk; exact h1 x hx k (and_f hk).1
  have hl := Rch_low h7 (by omega) (bt_low1 hn h5) hax
  refine ⟨hl, ?_, ?_, ?_⟩
  · refine Rch_ind h7 (fun x => bt rd x = false) ?_ ?_
    · intro k hk
      rw [bt_one b k (by omega)] at hk
      have := of_decide_eq_true hk
      subst this; exact h6
    · intro x hx _ k hk
      unfold ax at hk
      split at hk
      · rw [bt_zero] at hk; cases hk
      · rw [bt_and] at hk
        obtain ⟨q1, q2⟩ := and_f hk
        rw [bt_not _ _ (bt_lt32 q1)] at q2
        cases hz : bt rd k with
        | false => rfl
        | true => rw [hz] at q2; cases q2
  · exact h7.1 b (by rw [bt_one b b (by omega)]; exact decide_eq_true rfl)
  · intro x z hx ho hz hr
    refine h7.2.1 x (hl x hx) hx z ?_
    unfold ax
    rw [ho, if_neg (by simp), bt_and, hz, bt_not _ _ (bt_lt32 hz), hr]; rfl
/-- on the way: what is left, what is done -/
def WI (n : Nat) (a : Nat → Int32) (rd own N : Int32) (p : Int32 × Int32) : Prop := (∀ x, bt p.1 x = true → bt N x = true ∧ bt own x = false) ∧ (∀ x, x < 32 → bt p.2 x = (bt rd x || bt own x || (bt N x && !bt own x && !bt p.1 x))) ∧ (∀ x, bt N x = true → bt own x = false → bt p.1 x = false → bs (a x) p.2)
theorem WI_0 (n : Nat) (a : Nat → Int32) (rd own N : Int32) : WI n a rd own N (N &&& (own ^^^ (-1)), rd ||| own) := by
  refine ⟨fun x hx => ?_, fun x hx => ?_, fun x h1 h2 h3 => ?_⟩
  · show _ ∧ _
    have hx : bt (N &&& (own ^^^ (-1))) x = true := hx
    rw [bt_and] at hx
    obtain ⟨q1, q2⟩ := and_f hx
    rw [bt_not _ _ (bt_lt32 q1)] at q2
    refine ⟨q1, ?_⟩
    cases hz : bt own x with
    | false => rfl
    | true => rw [hz] at q2; cases q2
  · show bt (rd ||| own) x = (bt rd x || bt own x || (bt N x && !bt own x && !bt (N &&& (own ^^^ (-1))) x))
    rw [bt_or, bt_and, bt_not _ _ hx]
    cases bt rd x <;> cases bt own x <;> cases bt N x <;> rfl
  · exfalso
    have h3 : bt (N &&& (own ^^^ (-1))) x = false := h3
    rw [bt_and, h1, bt_not _ _ (bt_lt32 h1), h2] at h3
    cases h3
theorem WI_prog {n : Nat} {a : Nat → Int32} {rd own N : Int32} {b : Nat} {p : Int32 × Int32} (hn : n ≤ 8) (h : WH n a rd own N b) (hi : WI n a rd own N p) (hne : p.1 ≠ 0) : ∃ x, x < n ∧ av a p x = true := by
  obtain ⟨n1, n2, n3, n4⟩ := WH_N hn h
  obtain ⟨h1, h2, h3, h4, h5, h6, h7, h8⟩ := h
  obtain ⟨i1, i2, i3⟩ := hi
  -- what is not left is closed
  have hb : bt p.1 b = true := by
    cases hz : bt p.1 b with
    | true => rfl
    | false =>
      exfalso
      apply hne
      have hD : bs N (N &&& (p.1 ^^^ (-1))) := by
        refine h7.2.2 _ ?_ ?_
        · intro k hk
          rw [bt_one b k (by omega)] at hk
          have := of_decide_eq_true hk
          subst this
          rw [bt_and, n3, bt_not _ _ (by omega), hz]; rfl
        · intro x hx hxD z hz2
          rw [bt_and] at hxD
          obtain ⟨q1, q2⟩ := and_f hxD
          rw [bt_not _ _ (by omega)] at q2
          have q2 : bt p.1 x = false := by
            cases hq : bt p.1 x with
            | false => rfl
            | true => rw [hq] at q2; cases q2
          have hzN := h7.2.1 x hx q1 z hz2
          unfold ax at hz2
          cases ho : bt own x with
          | true => rw [ho, if_pos rfl, bt_zero] at hz2; cases hz2
          | false =>
            rw [ho, if_neg (by simp), bt_and] at hz2
            have := i3 x q1 ho q2 z (and_f hz2).1
            have hz32 := bt_lt32 hzN
            rw [i2 z hz32, n2 z hzN] at this
            rw [bt_and, hzN, bt_not _ _ hz32]
            cases hoz : bt own z with
            | true =>
              cases hpz : bt p.1 z with
              | false => rfl
              | true => have := (i1 z hpz).2; rw [hoz] at this; cases this
            | false =>
              rw [hoz, hzN] at this
              cases hpz : bt p.1 z with
              | false => rfl
              | true => rw [hpz] at this; cases this
      apply bt_ext
      intro k _
      rw [bt_zero]
      cases hk : bt p.1 k with
      | false => rfl
      | true =>
        have := hD k (i1 k hk).1
        rw [bt_and, bt_not _ _ (bt_lt32 hk), hk] at this
        rw [Bool.and_comm] at this
        cases this
  apply Classical.byContradiction
  intro hno
  have hG := grs_grw a n (by omega) (rd ||| own) (fun k hk => by
    rw [bt_or, Bool.or_eq_true] at hk
    rcases hk with hk | hk
    · exact h2 k hk
    · exact h3 k hk)
  have := hG.2.2 (p.1 ^^^ (-1)) (fun k hk => by
    rw [bt_not _ _ (bt_lt32 hk)]
    cases hz : bt p.1 k with
    | false => rfl
    | true =>
      obtain ⟨q1, q2⟩ := i1 k hz
      rw [bt_or, n2 k q1, q2] at hk
      cases hk) (fun y hy hsub => by
    rw [bt_not _ _ (by omega)]
    cases hz : bt p.1 y with
    | false => rfl
    | true =>
      exfalso
      apply hno
      refine ⟨y, hy, (av_iff a p y).mpr ⟨hz, fun z hz2 => ?_⟩⟩
      have hz32 := bt_lt32 hz2
      have h9 := hsub z hz2
      rw [bt_not _ _ hz32] at h9
      rw [i2 z hz32]
      cases hr : bt rd z with
      | true => rfl
      | false =>
        have hzN := n4 y z (i1 y hz).1 (i1 y hz).2 hz2 hr
        rw [hzN]
        cases bt own z
        · rw [Bool.false_or, Bool.false_or]
          cases hp : bt p.1 z with
          | false => rfl
          | true => rw [hp] at h9; cases h9
        · rfl) b h8
  rw [bt_not _ _ (by omega), hb] at this
  cases this
theorem WI_step {n : Nat} {a : Nat → Int32} {rd own N : Int32} {b : Nat} {p : Int32 × Int32} (hn : n ≤ 8) (h : WH n a rd own N b) (hi : WI n a rd own N p) (hne : p.1 ≠ 0) : wx a n p < n ∧ av a p (wx a n p) = true ∧ (∀ y, y < wx a n p → av a p y = false) ∧ fwd (av a p) n 0 = Int32.ofNat (wx a n p) ∧ WI n a rd own N (wst a n p) ∧ cn n (wst a n p).1 + 1 = cn n p.1 := by
  obtain ⟨x, x1, x2⟩ := WI_prog hn h hi hne
  have hw : ∃ y, wx a n p = y ∧ y < n ∧ av a p y = true ∧ (∀ z, z < y → av a p z = false) ∧ fwd (av a p) n 0 = Int32.ofNat y := by
    unfold wx
    rcases fwd_P (av a p) n 0 with ⟨y, y1, y2, y3, y4, y5⟩ | ⟨y1, y2⟩
    · exact ⟨y, by rw [y5, zI_nat y (by omega)], by omega, y3, fun z hz => y4 z (by omega) hz, y5⟩
    · have := y1 x (by omega) (by omega); rw [x2] at this; cases this
  obtain ⟨y, y0, y1, y2, y3, y4⟩ := hw
  unfold wst
  rw [y0]
  obtain ⟨n1, n2, n3, n4⟩ := WH_N hn h
  obtain ⟨i1, i2, i3⟩ := hi
  obtain ⟨z1, z2⟩ := (av_iff a p y).mp y2
  have b1 : ∀ k, k < 32 → bt (p.1 &&& (bit1 y ^^^ (-1))) k = (bt p.1 k && !decide (k = y)) := by
    intro k hk; rw [bt_and, bt_not _ _ hk, bt_one y k (by omega)]
  have b2 : ∀ k, bt (p.2 ||| bit1 y) k = (bt p.2 k || decide (k = y)) := by
    intro k; rw [bt_or, bt_one y k (by omega)]
  refine ⟨y1, y2, y3, y4, ⟨fun k hk => ?_, fun k hk => ?_, fun k g1 g2 g3 => ?_⟩, ?_⟩
  · have hk : bt (p.1 &&& (bit1 y ^^^ (-1))) k = true := hk
    rw [bt_and] at hk
    exact i1 k (and_f hk).1
  · show bt (p.2 ||| bit1 y) k = (bt rd k || bt own k || (bt N k && !bt own k && !bt (p.1 &&& (bit1 y ^^^ (-1))) k))
    rw [b2, b1 k hk, i2 k hk]
    by_cases e : k = y
    · subst e
      obtain ⟨q1, q2⟩ := i1 k z1
      rw [decide_eq_true rfl, q1, q2, z1]
      cases bt rd k <;> rfl
    · rw [decide_eq_false e]
      cases bt rd k <;> cases bt own k <;> cases bt N k <;> cases bt p.1 k <;> rfl
  · have g3 : bt (p.1 &&& (bit1 y ^^^ (-1))) k = false := g3
    rw [b1 k (bt_lt32 g1)] at g3
    intro z hz
    show bt (p.2 ||| bit1 y) z = true
    rw [b2]
    by_cases e : k = y
    · subst e; rw [z2 z hz]; rfl
    · rw [decide_eq_false e, Bool.not_false, Bool.and_true] at g3
      rw [i3 k g1 g2 g3 z hz]; rfl
  · show cn n (p.1 &&& (bit1 y ^^^ (-1))) + 1 = cn n p.1
    have : ∀ M, M ≤ 32 → cn M (p.1 &&& (bit1 y ^^^ (-1))) + (if y < M then 1 else 0) = cn M p.1 := by
      intro M
      induction M with
      | zero => intro _; rfl
      | succ M ih =>
        intro hM
        have ih := ih (by omega)
        rw [cn_succ, cn_succ, b1 M (by omega)]
        by_cases e : M = y
        · subst e
          rw [decide_eq_true rfl, z1]
          rw [if_neg (show ¬ M < M by omega)] at ih
          rw [if_pos (show M < M + 1 by omega)]
          show cn M (p.1 &&& (bit1 M ^^^ (-1))) + 0 + 1 = cn M p.1 + 1
          omega
        · rw [decide_eq_false e, Bool.not_false, Bool.and_true]
          by_cases hl : y < M
          · rw [if_pos hl] at ih; rw [if_pos (show y < M + 1 by omega)]; omega
          · rw [if_neg hl] at ih; rw [if_neg (show ¬ y < M + 1 by omega)]; omega
    have := this n (by omega)
    rw [if_pos y1] at this
    exact this
def wss (a : Nat → Int32) (n : Nat) (p : Int32 × Int32) (k : Nat) : Int32 × Int32 := lp (fun _ p => wst a n p) k p
theorem wss_P {n : Nat} {a : Nat → Int32} {rd own N : Int32} {b : Nat} (hn : n ≤ 8) (h : WH n a rd own N b) (p0 : Int32 × Int32) (hp : p0 = (N &&& (own ^^^ (-1)), rd ||| own)) : ∀ k, k ≤ cn n p0.1 → WI n a rd own N (wss a n p0 k) ∧ cn n (wss a n p0 k).1 + k = cn n p0.1 ∧ (k < cn n p0.1 → (wss a n p0 k).1 ≠ 0) := by
  intro k
  have nz : ∀ s : Int32, 0 < cn n s → s ≠ 0 := by
    rintro s hs rfl
    have : ∀ M, cn M 0 = 0 := by
      intro M
      induction M with
      | zero => rfl
      | succ M ih => rw [cn_succ, ih, bt_zero]; rfl
    rw [this] at hs; omega
  induction k with
  | zero => intro _; exact ⟨by rw [hp]; exact WI_0 n a rd own N, rfl, fun h => nz _ h⟩
  | succ k ih =>
    intro hk
    obtain ⟨i1, i2, i3⟩ := ih (by omega)
    obtain ⟨s1, s2, s3, s4, s5, s6⟩ := WI_step hn h i1 (i3 (by omega))
    have e : wss a n p0 (k + 1) = wst a n (wss a n p0 k) := rfl
    rw [e]
    refine ⟨s5, by omega, fun hlt => nz _ (by omega)⟩
theorem wss_end {n : Nat} {a : Nat → Int32} {rd own N : Int32} {b : Nat} (hn : n ≤ 8) (h : WH n a rd own N b) (p0 : Int32 × Int32) (hp : p0 = (N &&& (own ^^^ (-1)), rd ||| own)) : (wss a n p0 (cn n p0.1)).1 = 0 := by
  obtain ⟨i1, i2, i3⟩ := wss_P hn h p0 hp (cn n p0.1) (Nat.le_refl _)
  have hc : cn n (wss a n p0 (cn n p0.1)).1 = 0 := by omega
  obtain ⟨n1, -⟩ := WH_N hn h
  apply bt_ext
  intro k _
  rw [bt_zero]
  cases hz : bt (wss a n p0 (cn n p0.1)).1 k with
  | false => rfl
  | true =>
    have hk := n1 k (i1.1 k hz).1
    have : cn n 0 < cn n (wss a n p0 (cn n p0.1)).1 := cn_lt n (fun j _ hj => by rw [bt_zero] at hj; cases hj) k hk (bt_zero k) hz
    omega
/-- the class's open ones are the same -/
theorem way_open {n : Nat} {a : Nat → Int32} {rd own N cw dc : Int32} {b : Nat} {p : Int32 × Int32} (hn : n ≤ 8) (h : WH n a rd own N b) (hi : WI n a rd own N p) (hcw : (cw = own ∧ (∀ x, bt own x = true → bt N x = true)) ∨ (cw = 0 ∧ ∀ x, bt own x = true → bt N x = false)) (hdc : ∀ x, x < 32 → bt dc x = (bt rd x || bt cw x || (bt N x && !bt own x && !bt p.1 x))) (x : Nat) (hx : x < n) : bt (opn a dc n &&& N) x = av a p x := by
  obtain ⟨n1, n2, n3, n4⟩ := WH_N hn h
  obtain ⟨h1, h2, h3, h4, h5, h6, h7, h8⟩ := h
  obtain ⟨i1, i2, i3⟩ := hi
  have hiff : bt (opn a dc n &&& N) x = true ↔ av a p x = true := by
    rw [bt_and, Bool.and_eq_true, opn_bt a dc n (by omega), av_iff]
    constructor
    · rintro ⟨⟨q1, q2, q3⟩, q4⟩
      rw [hdc x (by omega), q4, n2 x q4] at q2
      have hox : bt own x = false := by
        cases ho : bt own x with
        | false => rfl
        | true =>
          rcases hcw with ⟨c1, c2⟩ | ⟨c1, c2⟩
          · rw [c1, ho] at q2; cases q2
          · have := c2 x ho; rw [q4] at this; cases this
      refine ⟨?_, fun z hz => ?_⟩
      · rw [hox] at q2
        cases hp : bt p.1 x with
        | true => rfl
        | false => rw [hp] at q2; cases hc : bt cw x <;> rw [hc] at q2 <;> cases q2
      · have hz32 := bt_lt32 hz
        have := q3 z hz
        rw [hdc z hz32] at this
        rw [i2 z hz32]
        have hc : bt cw z = true → bt own z = true := by
          intro hc
          rcases hcw with ⟨c1, c2⟩ | ⟨c1, c2⟩
          · rw [← c1]; exact hc
          · rw [c1, bt_zero] at hc; cases hc
        cases hr : bt rd z with
        | true => rfl
        | false =>
          rw [hr, Bool.false_or] at this
          cases hcz : bt cw z with
          | true => rw [hc hcz]; rfl
          | false => rw [hcz, Bool.false_or] at this; rw [this]; cases bt own z <;> rfl
    · rintro ⟨q1, q2⟩
      obtain ⟨r1, r2⟩ := i1 x q1
      refine ⟨⟨hx, ?_, fun z hz => ?_⟩, r1⟩
      · rw [hdc x (by omega), n2 x r1, r1, r2, q1]
        rcases hcw with ⟨c1, c2⟩ | ⟨c1, c2⟩
        · rw [c1, r2]; rfl
        · rw [c1, bt_zero]; rfl
      · have hz32 := bt_lt32 hz
        have := q2 z hz
        rw [i2 z hz32] at this
        rw [hdc z hz32]
        cases hr : bt rd z with
        | true => rfl
        | false =>
          rw [hr, Bool.false_or] at this
          cases ho : bt own z with
          | true =>
            have hzN := n4 x z r1 r2 hz hr
            rcases hcw with ⟨c1, c2⟩ | ⟨c1, c2⟩
            · rw [c1, ho]; rfl
            · have := c2 z ho; rw [hzN] at this; cases this
          | false => rw [ho, Bool.false_or] at this; rw [this]; cases bt cw z <;> rfl
  cases h5 : av a p x with
  | true => exact hiff.mpr h5
  | false =>
    cases h6 : bt (opn a dc n &&& N) x with
    | false => rfl
    | true => rw [hiff.mp h6] at h5; cases h5
