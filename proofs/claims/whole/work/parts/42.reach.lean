/-! sets that grow: counts, closures -/
abbrev bs (s t : Int32) : Prop := ∀ k, bt s k = true → bt t k = true
theorem bs_anti {s t : Int32} (h1 : bs s t) (h2 : bs t s) : s = t := by
  apply bt_ext
  intro k _
  cases hs : bt s k with
  | true => exact (h1 k hs).symm
  | false => cases ht : bt t k with
    | true => rw [h2 k ht] at hs; cases hs
    | false => rfl
theorem bs_or_l (s t : Int32) : bs s (s ||| t) := fun k h => by rw [bt_or, h]; rfl
theorem bs_or_r (s t : Int32) : bs t (s ||| t) := fun k h => by rw [bt_or, h]; cases bt s k <;> rfl
theorem bs_or {s t u : Int32} (h1 : bs s u) (h2 : bs t u) : bs (s ||| t) u := fun k h => by
  rw [bt_or] at h
  cases hs : bt s k with
  | true => exact h1 k hs
  | false => rw [hs] at h; exact h2 k h
theorem bs_zero (s : Int32) : bs 0 s := fun k h => by rw [bt_zero] at h; cases h
def cn (n : Nat) (s : Int32) : Nat := match n with
  | 0 => 0
  | n + 1 => cn n s + (if bt s n then 1 else 0)
theorem cn_le (n : Nat) (s : Int32) : cn n s ≤ n := by
  induction n with
  | zero => exact Nat.le_refl _
  | succ n ih => unfold cn; split <;> omega
theorem cn_mono (n : Nat) {s t : Int32} (h : ∀ k, k < n → bt s k = true → bt t k = true) : cn n s ≤ cn n t := by
  induction n with
  | zero => exact Nat.le_refl _
  | succ n ih =>
    have := ih (fun k hk => h k (by omega))
    unfold cn
    cases hs : bt s n with
    | true => rw [h n (by omega) hs]; simp; exact this
    | false => simp; omega
theorem cn_lt (n : Nat) {s t : Int32} (h : ∀ k, k < n → bt s k = true → bt t k = true) (x : Nat) (hx : x < n) (h1 : bt s x = false) (h2 : bt t x = true) : cn n s < cn n t := by
  induction n with
  | zero => omega
  | succ n ih =>
    unfold cn
    by_cases e : x = n
    · subst e
      have := cn_mono x (fun k hk => h k (by omega))
      rw [h1, h2]
      simp
      omega
    · have := ih (fun k hk => h k (by omega)) (by omega)
      cases hs : bt s n with
      | true => rw [h n (by omega) hs]; simp; exact this
      | false => simp; omega
theorem cn_full (n : Nat) {s : Int32} (h : cn n s = n) : ∀ k, k < n → bt s k = true := by
  induction n with
  | zero => intro k hk; omega
  | succ n ih =>
    have h1 := cn_le n s
    unfold cn at h
    cases hs : bt s n with
    | true =>
      rw [hs] at h
      intro k hk
      by_cases e : k = n
      · subst e; exact hs
      · exact ih (by simp at h; omega) k (by omega)
    | false => rw [hs] at h; simp at h; omega
/-- all bits are below n -/
abbrev lowb (n : Nat) (s : Int32) : Prop := ∀ k, bt s k = true → k < n
theorem ne_bit {n : Nat} {s t : Int32} (hst : bs s t) (ht : lowb n t) (hne : s ≠ t) : ∃ x, x < n ∧ bt s x = false ∧ bt t x = true := by
  apply Classical.byContradiction
  intro hn
  apply hne
  apply bs_anti hst
  intro k hk
  cases hs : bt s k with
  | true => rfl
  | false => exact absurd ⟨k, ht k hk, hs, hk⟩ hn
/-- the least set that has s and with x all of a x -/
def Rch (n : Nat) (a : Nat → Int32) (s R : Int32) : Prop := bs s R ∧ (∀ x, x < n → bt R x = true → bs (a x) R) ∧ (∀ T, bs s T → (∀ x, x < n → bt T x = true → bs (a x) T) → bs R T)
theorem Rch_uniq {n : Nat} {a : Nat → Int32} {s R R' : Int32} (h : Rch n a s R) (h' : Rch n a s R') : R = R' :=
  bs_anti (h.2.2 R' h'.1 h'.2.1) (h'.2.2 R h.1 h.2.1)
theorem Rch_low {n : Nat} {a : Nat → Int32} {s R : Int32} (h : Rch n a s R) (hn : n ≤ 31) (hs : lowb n s) (ha : ∀ x, x < n → lowb n (a x)) : lowb n R := by
  have hb := fun k => bt_low n k (by omega : n < 32)
  intro k hk
  have := h.2.2 ((1 : Int32) <<< (Int32.ofNat n &&& 31) - 1) (fun k hk => by rw [hb]; exact decide_eq_true (hs k hk)) (fun x hx _ k hk => by rw [hb]; exact decide_eq_true (ha x hx k hk)) k hk
  rw [hb] at this
  exact of_decide_eq_true this
/-- one sweep, in place -/
def swp (a : Nat → Int32) (n : Nat) (s : Int32) : Int32 := lp (fun x s => if bt s x then s ||| a x else s) n s
theorem swp_bs (a : Nat → Int32) (n : Nat) (s : Int32) : bs s (swp a n s) := by
  induction n with
  | zero => exact fun k h => h
  | succ n ih =>
    show bs s (if bt (swp a n s) n then swp a n s ||| a n else swp a n s)
    split
    · exact fun k h => bs_or_l _ _ k (ih k h)
    · exact ih
theorem swp_min (a : Nat → Int32) (n : Nat) (s T : Int32) (h : bs s T) (hT : ∀ x, x < n → bt T x = true → bs (a x) T) : bs (swp a n s) T := by
  induction n with
  | zero => exact h
  | succ n ih =>
    have ih := ih (fun x hx => hT x (by omega))
    show bs (if bt (swp a n s) n then swp a n s ||| a n else swp a n s) T
    split
    · rename_i hb
      exact bs_or ih (hT n (by omega) (ih n hb))
    · exact ih
theorem swp_step (a : Nat → Int32) (n : Nat) (s : Int32) : bs (swp a n s) (swp a (n + 1) s) := by
  show bs _ (if bt (swp a n s) n then swp a n s ||| a n else swp a n s)
  split
  · exact bs_or_l _ _
  · exact fun k h => h
theorem swp_has (a : Nat → Int32) (n : Nat) (s : Int32) (x : Nat) (hx : x < n) (hb : bt s x = true) : bs (a x) (swp a n s) := by
  induction n with
  | zero => omega
  | succ n ih =>
    by_cases e : x = n
    · subst e
      show bs _ (if bt (swp a x s) x then swp a x s ||| a x else swp a x s)
      rw [swp_bs a x s x hb]
      exact bs_or_r _ _
    · exact fun k h => swp_step a n s k (ih (by omega) k h)
theorem swp_fix (a : Nat → Int32) (n : Nat) (s : Int32) (h : swp a n s = s) : ∀ x, x < n → bt s x = true → bs (a x) s := by
  intro x hx hb
  have := swp_has a n s x hx hb
  rw [h] at this
  exact this
theorem swp_low (a : Nat → Int32) (n N : Nat) (s : Int32) (hs : lowb N s) (ha : ∀ x, x < n → lowb N (a x)) : lowb N (swp a n s) := by
  induction n with
  | zero => exact hs
  | succ n ih =>
    have ih := ih (fun x hx => ha x (by omega))
    show lowb N (if bt (swp a n s) n then swp a n s ||| a n else swp a n s)
    split
    · intro k hk
      rw [bt_or] at hk
      cases h1 : bt (swp a n s) k with
      | true => exact ih k h1
      | false => rw [h1] at hk; exact ha n (by omega) k hk
    · exact ih
def swps (a : Nat → Int32) (n : Nat) (k : Nat) (s : Int32) : Int32 := lp (fun _ s => swp a n s) k s
theorem swps_rch (a : Nat → Int32) (n : Nat) (s : Int32) (hs : lowb n s) (ha : ∀ x, x < n → lowb n (a x)) : Rch n a s (swps a n n s) := by
  have base : ∀ k, bs s (swps a n k s) ∧ lowb n (swps a n k s) ∧ (∀ T, bs s T → (∀ x, x < n → bt T x = true → bs (a x) T) → bs (swps a n k s) T) ∧ (swp a n (swps a n k s) = swps a n k s ∨ k ≤ cn n (swps a n k s)) := by
    intro k
    induction k with
    | zero => exact ⟨fun k h => h, hs, fun T h _ => h, Or.inr (Nat.zero_le _)⟩
    | succ k ih =>
      obtain ⟨i1, i2, i3, i4⟩ := ih
      have e : swps a n (k + 1) s = swp a n (swps a n k s) := rfl
      rw [e]
      refine ⟨fun j h => swp_bs a n _ j (i1 j h), swp_low a n n _ i2 ha, fun T h hT => swp_min a n _ T (i3 T h hT) hT, ?_⟩
      by_cases hf : swp a n (swps a n k s) = swps a n k s
      · exact Or.inl (by rw [hf, hf])
      · refine Or.inr ?_
        rcases i4 with i4 | i4
        · exact absurd i4 hf
        · obtain ⟨x, hx, h1, h2⟩ := ne_bit (swp_bs a n _) (swp_low a n n _ i2 ha) (fun e => hf e.symm)
          have := cn_lt n (fun j _ h => swp_bs a n (swps a n k s) j h) x hx h1 h2
          omega
  obtain ⟨i1, i2, i3, i4⟩ := base n
  refine ⟨i1, ?_, i3⟩
  rcases i4 with i4 | i4
  · exact swp_fix a n _ i4
  · have hfull := cn_full n (Nat.le_antisymm (cn_le n _) i4)
    intro x hx _ k hk
    exact hfull k (ha x hx k hk)
/-- the least set that has s and each b of which all is in it -/
def Grw (n : Nat) (a : Nat → Int32) (s R : Int32) : Prop := bs s R ∧ (∀ b, b < n → bs (a b) R → bt R b = true) ∧ (∀ T, bs s T → (∀ b, b < n → bs (a b) T → bt T b = true) → bs R T)
theorem Grw_uniq {n : Nat} {a : Nat → Int32} {s R R' : Int32} (h : Grw n a s R) (h' : Grw n a s R') : R = R' :=
  bs_anti (h.2.2 R' h'.1 h'.2.1) (h'.2.2 R h.1 h.2.1)
abbrev bit1 (b : Nat) : Int32 := (1 : Int32) <<< (Int32.ofNat b &&& 31)
/-- books outside a set that it opens -/
def opn (a : Nat → Int32) (s : Int32) (n : Nat) : Int32 := lp (fun b o => if bt s b = false ∧ (a b &&& (s ^^^ (-1)) = 0) then o ||| bit1 b else o) n 0
theorem opn_bt (a : Nat → Int32) (s : Int32) (n : Nat) (hn : n ≤ 32) (k : Nat) : (bt (opn a s n) k = true) = (k < n ∧ bt s k = false ∧ bs (a k) s) := by
  apply propext
  induction n with
  | zero =>
    show bt 0 k = true ↔ _
    rw [bt_zero]
    constructor
    · intro h; cases h
    · intro h; omega
  | succ n ih =>
    have ih := ih (by omega)
    show bt (if bt s n = false ∧ (a n &&& (s ^^^ (-1)) = 0) then opn a s n ||| bit1 n else opn a s n) k = true ↔ _
    split
    · rename_i h
      rw [bt_sub] at h
      rw [bt_or, bt_one n k (by omega)]
      by_cases e : k = n
      · subst e
        rw [decide_eq_true (rfl : k = k), Bool.or_true]
        exact ⟨fun _ => ⟨by omega, h.1, h.2⟩, fun _ => rfl⟩
      · rw [decide_eq_false e, Bool.or_false, ih]
        exact ⟨fun h => ⟨by omega, h.2⟩, fun h => ⟨by omega, h.2⟩⟩
    · rename_i h
      rw [bt_sub] at h
      rw [ih]
      constructor
      · exact fun h => ⟨by omega, h.2⟩
      · intro h2
        by_cases e : k = n
        · subst e; exact absurd h2.2 h
        · exact ⟨by omega, h2.2⟩
theorem opn_zero (a : Nat → Int32) (s : Int32) (n : Nat) (hn : n ≤ 32) : (opn a s n = 0) = (∀ k, k < n → bs (a k) s → bt s k = true) := by
  apply propext
  constructor
  · intro h k hk hab
    cases hs : bt s k with
    | true => rfl
    | false =>
      have e := opn_bt a s n hn k
      rw [h, bt_zero] at e
      have : false = true := e.mpr ⟨hk, hs, hab⟩
      cases this
  · intro h
    apply bt_ext
    intro j _
    rw [bt_zero]
    cases hb : bt (opn a s n) j with
    | false => rfl
    | true =>
      rw [opn_bt a s n hn] at hb
      rw [h j hb.1 hb.2.2] at hb
      exact hb.2.1
def gr1 (a : Nat → Int32) (n : Nat) (s : Int32) : Int32 := s ||| opn a s n
def grs (a : Nat → Int32) (n : Nat) (k : Nat) (s : Int32) : Int32 := lp (fun _ s => gr1 a n s) k s
theorem gr1_bs (a : Nat → Int32) (n : Nat) (s : Int32) : bs s (gr1 a n s) := bs_or_l _ _
theorem gr1_low (a : Nat → Int32) (n : Nat) (hn : n ≤ 32) (s : Int32) (hs : lowb n s) : lowb n (gr1 a n s) := by
  intro k hk
  unfold gr1 at hk
  rw [bt_or] at hk
  cases h : bt s k with
  | true => exact hs k h
  | false =>
    rw [h] at hk
    have hk : bt (opn a s n) k = true := hk
    rw [opn_bt a s n hn] at hk
    exact hk.1
theorem gr1_min (a : Nat → Int32) (n : Nat) (hn : n ≤ 32) (s T : Int32) (h : bs s T) (hT : ∀ b, b < n → bs (a b) T → bt T b = true) : bs (gr1 a n s) T := by
  apply bs_or h
  intro k hk
  rw [opn_bt a s n hn] at hk
  exact hT k hk.1 (fun j hj => h j (hk.2.2 j hj))
theorem gr1_fix (a : Nat → Int32) (n : Nat) (hn : n ≤ 32) (s : Int32) (h : opn a s n = 0) : ∀ b, b < n → bs (a b) s → bt s b = true := by
  rw [opn_zero a s n hn] at h
  exact h
theorem gr1_zero (a : Nat → Int32) (n : Nat) (s : Int32) (h : opn a s n = 0) : gr1 a n s = s := by unfold gr1; rw [h]; exact Int32.or_zero
theorem grs_base (a : Nat → Int32) (n : Nat) (hn : n ≤ 32) (s : Int32) (hs : lowb n s) (k : Nat) : bs s (grs a n k s) ∧ lowb n (grs a n k s) ∧ (∀ T, bs s T → (∀ b, b < n → bs (a b) T → bt T b = true) → bs (grs a n k s) T) ∧ (opn a (grs a n k s) n = 0 ∨ k ≤ cn n (grs a n k s)) := by
  induction k with
  | zero => exact ⟨fun k h => h, hs, fun T h _ => h, Or.inr (Nat.zero_le _)⟩
  | succ k ih =>
    obtain ⟨i1, i2, i3, i4⟩ := ih
    have e : grs a n (k + 1) s = gr1 a n (grs a n k s) := rfl
    rw [e]
    refine ⟨fun j h => gr1_bs a n _ j (i1 j h), gr1_low a n hn _ i2, fun T h hT => gr1_min a n hn _ T (i3 T h hT) hT, ?_⟩
    by_cases hf : opn a (grs a n k s) n = 0
    · exact Or.inl (by rw [gr1_zero a n _ hf]; exact hf)
    · refine Or.inr ?_
      rcases i4 with i4 | i4
      · exact absurd i4 hf
      · obtain ⟨x, hx, h1, h2⟩ := ne_bit (gr1_bs a n (grs a n k s)) (gr1_low a n hn _ i2) (fun e => by
          apply hf
          rw [opn_zero a _ n hn]
          intro j hj hab
          cases hs : bt (grs a n k s) j with
          | true => rfl
          | false =>
            have : bt (gr1 a n (grs a n k s)) j = true := bs_or_r _ _ j (by rw [opn_bt a _ n hn]; exact ⟨hj, hs, hab⟩)
            rw [← e, hs] at this
            cases this)
        have := cn_lt n (fun j _ h => gr1_bs a n (grs a n k s) j h) x hx h1 h2
        omega
theorem grs_zero (a : Nat → Int32) (n : Nat) (hn : n ≤ 32) (s : Int32) (hs : lowb n s) : opn a (grs a n n s) n = 0 := by
  obtain ⟨i1, i2, i3, i4⟩ := grs_base a n hn s hs n
  rcases i4 with i4 | i4
  · exact i4
  · have hfull := cn_full n (Nat.le_antisymm (cn_le n _) i4)
    rw [opn_zero a _ n hn]
    exact fun k hk _ => hfull k hk
theorem grs_grw (a : Nat → Int32) (n : Nat) (hn : n ≤ 32) (s : Int32) (hs : lowb n s) : Grw n a s (grs a n n s) := by
  obtain ⟨i1, i2, i3, i4⟩ := grs_base a n hn s hs n
  exact ⟨i1, gr1_fix a n hn _ (grs_zero a n hn s hs), i3⟩
theorem grs_stop (a : Nat → Int32) (n : Nat) (s : Int32) (k j : Nat) (h : opn a (grs a n k s) n = 0) : grs a n (k + j) s = grs a n k s := by
  induction j with
  | zero => rfl
  | succ j ih =>
    show gr1 a n (grs a n (k + j) s) = _
    rw [ih, gr1_zero a n _ h]
