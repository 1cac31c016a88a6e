/-! reaching, rings, depth -/
noncomputable def ofp (P : Nat → Prop) : Nat → Int32
  | 0 => 0
  | n + 1 => @ite _ (P n) (Classical.propDecidable _) (ofp P n ||| bit1 n) (ofp P n)
theorem ofp_bt (P : Nat → Prop) (n : Nat) (hn : n ≤ 32) (k : Nat) : bt (ofp P n) k = true ↔ (k < n ∧ P k) := by
  induction n with
  | zero =>
    show bt 0 k = true ↔ _
    rw [bt_zero]
    constructor
    · intro h; cases h
    · intro h; omega
  | succ n ih =>
    have ih := ih (by omega)
    unfold ofp
    split
    · rename_i h
      rw [bt_or, bt_one n k (by omega)]
      by_cases e : k = n
      · subst e
        rw [decide_eq_true (rfl : k = k), Bool.or_true]
        exact ⟨fun _ => ⟨by omega, h⟩, fun _ => rfl⟩
      · rw [decide_eq_false e, Bool.or_false, ih]
        exact ⟨fun h => ⟨by omega, h.2⟩, fun h => ⟨by omega, h.2⟩⟩
    · rename_i h
      rw [ih]
      constructor
      · exact fun h => ⟨by omega, h.2⟩
      · intro h2
        by_cases e : k = n
        · subst e; exact absurd h2.2 h
        · exact ⟨by omega, h2.2⟩
theorem bt_lt32 {s : Int32} {k : Nat} (h : bt s k = true) : k < 32 := by
  apply Classical.byContradiction
  intro hn
  rw [bt_ge _ _ (by omega)] at h
  cases h
theorem Rch_ind {n : Nat} {a : Nat → Int32} {s R : Int32} (h : Rch n a s R) (P : Nat → Prop) (h0 : ∀ k, bt s k = true → P k) (hs : ∀ x, x < n → P x → ∀ k, bt (a x) k = true → P k) : ∀ k, bt R k = true → P k := by
  intro k hk
  have := h.2.2 (ofp P 32) (fun k hk => (ofp_bt P 32 (by omega) k).mpr ⟨bt_lt32 hk, h0 k hk⟩) (fun x hx hb k hk => (ofp_bt P 32 (by omega) k).mpr ⟨bt_lt32 hk, hs x hx ((ofp_bt P 32 (by omega) x).mp hb).2 k hk⟩) k hk
  exact ((ofp_bt P 32 (by omega) k).mp this).2
theorem Grw_ind {n : Nat} {a : Nat → Int32} {s R : Int32} (hR : lowb 32 R) (h : Grw n a s R) (P : Nat → Prop) (h0 : ∀ k, bt s k = true → P k) (hn : n ≤ 32) (hs : ∀ b, b < n → (∀ k, bt (a b) k = true → P k) → P b) : ∀ k, bt R k = true → P k := by
  intro k hk
  have := h.2.2 (ofp P 32) (fun k hk => (ofp_bt P 32 (by omega) k).mpr ⟨bt_lt32 hk, h0 k hk⟩) (fun x hx hb => (ofp_bt P 32 (by omega) x).mpr ⟨by omega, hs x hx (fun k hk => ((ofp_bt P 32 (by omega) k).mp (hb k hk)).2)⟩) k hk
  exact ((ofp_bt P 32 (by omega) k).mp this).2
/-- all that x is after, over others too -/
def rq (n : Nat) (a : Nat → Int32) (x : Nat) : Int32 := swps a n n (a x)
abbrev lowa (n : Nat) (a : Nat → Int32) : Prop := ∀ x, x < n → lowb n (a x)
theorem rq_rch {n : Nat} {a : Nat → Int32} (ha : lowa n a) {x : Nat} (hx : x < n) : Rch n a (a x) (rq n a x) := swps_rch a n (a x) (ha x hx) ha
theorem rq_low {n : Nat} {a : Nat → Int32} (hn : n ≤ 31) (ha : lowa n a) {x : Nat} (hx : x < n) : lowb n (rq n a x) := Rch_low (rq_rch ha hx) hn (ha x hx) ha
theorem rq_tr {n : Nat} {a : Nat → Int32} (ha : lowa n a) {x y : Nat} (hx : x < n) (hy : y < n) (h : bt (rq n a x) y = true) : bs (rq n a y) (rq n a x) :=
  (rq_rch ha hy).2.2 _ ((rq_rch ha hx).2.1 y hy h) (rq_rch ha hx).2.1
theorem rq_dec {n : Nat} {a : Nat → Int32} (ha : lowa n a) {x : Nat} (hx : x < n) {k : Nat} (h : bt (rq n a x) k = true) : ∃ y, bt (a x) y = true ∧ y < n ∧ (k = y ∨ bt (rq n a y) k = true) := by
  refine Rch_ind (rq_rch ha hx) (fun k => ∃ y, bt (a x) y = true ∧ y < n ∧ (k = y ∨ bt (rq n a y) k = true)) ?_ ?_ k h
  · exact fun k hk => ⟨k, hk, ha x hx k hk, Or.inl rfl⟩
  · rintro z hz ⟨y, h1, h2, h3⟩ k hk
    refine ⟨y, h1, h2, Or.inr ?_⟩
    rcases h3 with rfl | h3
    · exact (rq_rch ha h2).1 k hk
    · exact (rq_rch ha h2).2.1 z hz h3 k hk
theorem rq_cyc {n : Nat} {a : Nat → Int32} (ha : lowa n a) {x : Nat} (hx : x < n) (h : bt (rq n a x) x = true) : ∃ y, bt (a x) y = true ∧ y < n ∧ bt (rq n a y) y = true := by
  obtain ⟨y, h1, h2, h3⟩ := rq_dec ha hx h
  refine ⟨y, h1, h2, ?_⟩
  rcases h3 with rfl | h3
  · exact h
  · exact rq_tr ha h2 hx h3 y ((rq_rch ha hx).1 y h1)
theorem rq_cn {n : Nat} {a : Nat → Int32} (ha : lowa n a) {x y : Nat} (hx : x < n) (hy : y < n) (h : bt (a x) y = true) (hc : ¬ bt (rq n a y) y = true) : cn n (rq n a y) < cn n (rq n a x) := by
  have h1 : bt (rq n a x) y = true := (rq_rch ha hx).1 y h
  refine cn_lt n (fun k _ hk => rq_tr ha hx hy h1 k hk) y hy ?_ h1
  cases hb : bt (rq n a y) y with
  | true => exact absurd hb hc
  | false => rfl
/-- with those of s after none -/
def aw (a : Nat → Int32) (s : Int32) (x : Nat) : Int32 := if bt s x then 0 else a x
theorem aw_low {n : Nat} {a : Nat → Int32} (ha : lowa n a) (s : Int32) : lowa n (aw a s) := by
  intro x hx k hk
  unfold aw at hk
  split at hk
  · rw [bt_zero] at hk; cases hk
  · exact ha x hx k hk
theorem cut_iff {n : Nat} {a : Nat → Int32} (hn : n ≤ 31) (ha : lowa n a) (s : Int32) (hs : lowb n s) : (∀ b, b < n → bt (grs a n n s) b = true) ↔ (∀ b, b < n → ¬ bt (rq n (aw a s) b) b = true) := by
  have hg := grs_grw a n (by omega) s hs
  have hw := aw_low ha s
  constructor
  · intro h b hb
    refine Grw_ind (fun k hk => bt_lt32 hk) hg (fun x => x < n → ¬ bt (rq n (aw a s) x) x = true) ?_ (by omega) ?_ b (h b hb) hb
    · intro k hk hkn hc
      obtain ⟨y, h1, -⟩ := rq_cyc hw hkn hc
      unfold aw at h1
      rw [if_pos hk, bt_zero] at h1
      cases h1
    · intro x hx hP _ hc
      obtain ⟨y, h1, h2, h3⟩ := rq_cyc hw hx hc
      unfold aw at h1
      split at h1
      · rw [bt_zero] at h1; cases h1
      · exact hP y h1 h2 h3
  · intro h
    have key : ∀ N x, x < n → cn n (rq n (aw a s) x) ≤ N → bt (grs a n n s) x = true := by
      intro N
      induction N with
      | zero =>
        intro x hx hN
        cases hsx : bt s x with
        | true => exact hg.1 x hsx
        | false =>
          refine hg.2.1 x hx (fun y hy => ?_)
          have hy2 : bt (aw a s x) y = true := by unfold aw; rw [hsx]; exact hy
          have := rq_cn hw hx (ha x hx y hy) hy2 (h y (ha x hx y hy))
          omega
      | succ N ih =>
        intro x hx hN
        cases hsx : bt s x with
        | true => exact hg.1 x hsx
        | false =>
          refine hg.2.1 x hx (fun y hy => ?_)
          have hy2 : bt (aw a s x) y = true := by unfold aw; rw [hsx]; exact hy
          have := rq_cn hw hx (ha x hx y hy) hy2 (h y (ha x hx y hy))
          exact ih y (ha x hx y hy) (by omega)
    exact fun b hb => key _ b hb (Nat.le_refl _)
/-- what opens within k rounds -/
abbrev lvl (a : Nat → Int32) (n k : Nat) : Int32 := grs a n k 0
theorem lvl_mono (a : Nat → Int32) (n k j : Nat) (h : k ≤ j) : bs (lvl a n k) (lvl a n j) := by
  induction h with
  | refl => exact fun k h => h
  | step _ ih => exact fun k h => gr1_bs a n _ k (ih k h)
theorem lvl_succ0 (a : Nat → Int32) (n : Nat) (hn : n ≤ 32) (k b : Nat) : bt (lvl a n (k + 1)) b = true ↔ (bt (lvl a n k) b = true ∨ (b < n ∧ bs (a b) (lvl a n k))) := by
  show bt (lvl a n k ||| opn a (lvl a n k) n) b = true ↔ _
  rw [bt_or, Bool.or_eq_true, opn_bt a _ n hn]
  constructor
  · rintro (h | h)
    · exact Or.inl h
    · exact Or.inr ⟨h.1, h.2.2⟩
  · rintro (h | h)
    · exact Or.inl h
    · cases hb : bt (lvl a n k) b with
      | true => exact Or.inl rfl
      | false => exact Or.inr ⟨h.1, rfl, h.2⟩
theorem lvl_succ (a : Nat → Int32) (n : Nat) (hn : n ≤ 32) (k b : Nat) : bt (lvl a n (k + 1)) b = true ↔ (b < n ∧ bs (a b) (lvl a n k)) := by
  induction k with
  | zero =>
    rw [lvl_succ0 a n hn]
    constructor
    · rintro (h | h)
      · rw [show lvl a n 0 = 0 from rfl, bt_zero] at h; cases h
      · exact h
    · exact Or.inr
  | succ k ih =>
    rw [lvl_succ0 a n hn (k + 1)]
    constructor
    · rintro (h | h)
      · have h := ih.mp h
        exact ⟨h.1, fun j hj => lvl_mono a n k (k + 1) (by omega) j (h.2 j hj)⟩
      · exact h
    · exact Or.inr
/-- in a ring, or behind one -/
def blk (n : Nat) (a : Nat → Int32) (b : Nat) : Prop := ∃ c, c < n ∧ (c = b ∨ bt (rq n a b) c = true) ∧ bt (rq n a c) c = true
theorem blk_next {n : Nat} {a : Nat → Int32} (ha : lowa n a) {b : Nat} (hb : b < n) (h : blk n a b) : ∃ y, bt (a b) y = true ∧ y < n ∧ blk n a y := by
  obtain ⟨c, h1, h2, h3⟩ := h
  rcases h2 with rfl | h2
  · obtain ⟨y, e1, e2, e3⟩ := rq_cyc ha hb h3
    exact ⟨y, e1, e2, y, e2, Or.inl rfl, e3⟩
  · obtain ⟨y, e1, e2, e3⟩ := rq_dec ha hb h2
    refine ⟨y, e1, e2, c, h1, ?_, h3⟩
    exact e3
theorem blk_never {n : Nat} {a : Nat → Int32} (hn : n ≤ 31) (ha : lowa n a) (k : Nat) : ∀ b, b < n → blk n a b → bt (lvl a n k) b = false := by
  induction k with
  | zero => intro b _ _; exact bt_zero b
  | succ k ih =>
    intro b hb h
    cases hx : bt (lvl a n (k + 1)) b with
    | false => rfl
    | true =>
      obtain ⟨y, e1, e2, e3⟩ := blk_next ha hb h
      have := ((lvl_succ a n (by omega) k b).mp hx).2 y e1
      rw [ih y e2 e3] at this
      cases this
theorem unb_next {n : Nat} {a : Nat → Int32} (ha : lowa n a) {b y : Nat} (hb : b < n) (hy : bt (a b) y = true) (h : ¬ blk n a b) : ¬ blk n a y := by
  rintro ⟨c, h1, h2, h3⟩
  apply h
  refine ⟨c, h1, Or.inr ?_, h3⟩
  have hby := (rq_rch ha hb).1 y hy
  rcases h2 with rfl | h2
  · exact hby
  · exact rq_tr ha hb (ha b hb y hy) hby c h2
theorem unb_lvl {n : Nat} {a : Nat → Int32} (hn : n ≤ 31) (ha : lowa n a) : ∀ N b, b < n → ¬ blk n a b → cn n (rq n a b) ≤ N → bt (lvl a n (N + 1)) b = true := by
  intro N
  induction N with
  | zero =>
    intro b hb h hN
    refine (lvl_succ a n (by omega) 0 b).mpr ⟨hb, fun y hy => ?_⟩
    have hyn := ha b hb y hy
    have hu := unb_next ha hb hy h
    have := rq_cn ha hb hyn hy (fun hc => hu ⟨y, hyn, Or.inl rfl, hc⟩)
    omega
  | succ N ih =>
    intro b hb h hN
    refine (lvl_succ a n (by omega) (N + 1) b).mpr ⟨hb, fun y hy => ?_⟩
    have hyn := ha b hb y hy
    have hu := unb_next ha hb hy h
    have := rq_cn ha hb hyn hy (fun hc => hu ⟨y, hyn, Or.inl rfl, hc⟩)
    exact ih y hyn hu (by omega)
theorem unb_n {n : Nat} {a : Nat → Int32} (hn : n ≤ 31) (ha : lowa n a) (b : Nat) (hb : b < n) (h : ¬ blk n a b) : bt (lvl a n n) b = true := by
  have hc : cn n (rq n a b) < n := by
    apply Nat.lt_of_le_of_ne (cn_le n _)
    intro e
    exact h ⟨b, hb, Or.inl rfl, cn_full n e b hb⟩
  have := unb_lvl hn ha (n - 1) b hb h (by omega)
  rw [show n - 1 + 1 = n by omega] at this
  exact this
/-- b opens in round d -/
def opat (n : Nat) (a : Nat → Int32) (b d : Nat) : Prop := bt (lvl a n (d + 1)) b = true ∧ bt (lvl a n d) b = false
theorem opat_uniq {n : Nat} {a : Nat → Int32} {b d e : Nat} (h : opat n a b d) (h' : opat n a b e) : d = e := by
  rcases Nat.lt_trichotomy d e with hl | he | hl
  · have := lvl_mono a n (d + 1) e (by omega) b h.1
    rw [h'.2] at this; cases this
  · exact he
  · have := lvl_mono a n (e + 1) d (by omega) b h'.1
    rw [h.2] at this; cases this
theorem opat_max {n : Nat} {a : Nat → Int32} (hn : n ≤ 31) (ha : lowa n a) {b : Nat} (hb : b < n) (D : Nat → Nat) (d : Nat) (hD : ∀ y, bt (a b) y = true → opat n a y (D y) ∧ D y + 1 ≤ d) (hd : d = 0 ∨ ∃ y, bt (a b) y = true ∧ d = D y + 1) : opat n a b d := by
  refine ⟨(lvl_succ a n (by omega) d b).mpr ⟨hb, fun y hy => lvl_mono a n (D y + 1) d (hD y hy).2 y (hD y hy).1.1⟩, ?_⟩
  rcases hd with rfl | ⟨y, hy, rfl⟩
  · exact bt_zero b
  · cases hx : bt (lvl a n (D y + 1)) b with
    | false => rfl
    | true =>
      have := ((lvl_succ a n (by omega) (D y) b).mp hx).2 y hy
      rw [(hD y hy).1.2] at this
      cases this
