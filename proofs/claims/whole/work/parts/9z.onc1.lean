/-! AT ONCE, purely: the most readers, the first such way; a cover bounds it -/
def dec1 (c : Nat → Nat) (b : Nat) : Nat → Nat := fun x => if x = b then c x - 1 else c x
def ao_set (t : Nat → Int32) (r : Nat) (v : Int32) : Nat → Int32 := fun q => if q = r then v else t q
theorem ao_set_at (t : Nat → Int32) (r : Nat) (v : Int32) : ao_set t r v r = v := if_pos rfl
theorem ao_set_ne (t : Nat → Int32) (r : Nat) (v : Int32) (q : Nat) (h : q ≠ r) : ao_set t r v q = t q := if_neg h
def ao_st (G : Nat → Nat × (Nat → Int32)) (P : Nat → Bool) (r : Nat) (b : Nat) (a : Nat × (Nat → Int32)) : Nat × (Nat → Int32) := if P b = true ∧ a.1 < (G b).1 + 2 then ((G b).1 + 2, ao_set (G b).2 r (Int32.ofNat b)) else a
def ao_fin (a g : Nat × (Nat → Int32)) (r : Nat) : Nat × (Nat → Int32) := if a.1 < g.1 + 2 then (if a.1 < g.1 + 1 then (g.1, ao_set g.2 r (-1)) else (a.1 - 1, a.2)) else (a.1 - 1, a.2)
def ao_R (W : Nat → Nat → Bool) (n : Nat) : Nat → Nat → (Nat → Nat) → Nat × (Nat → Int32)
  | 0, _, _ => (0, fun _ => -1)
  | j + 1, r, c => ao_fin (lp (ao_st (fun b => ao_R W n j (r + 1) (dec1 c b)) (fun b => W r b && decide (0 < c b)) r) n (0, fun _ => -1)) (ao_R W n j (r + 1) c) r
theorem ao_fold (G : Nat → Nat × (Nat → Int32)) (P : Nat → Bool) (r : Nat) (z : Nat → Int32) : ∀ m, (∀ b, b < m → P b = true → (G b).1 + 2 ≤ (lp (ao_st G P r) m (0, z)).1) ∧ ((lp (ao_st G P r) m (0, z) = (0, z)) ∨ ∃ b, b < m ∧ P b = true ∧ lp (ao_st G P r) m (0, z) = ((G b).1 + 2, ao_set (G b).2 r (Int32.ofNat b)) ∧ ∀ b', b' < b → P b' = true → (G b').1 < (G b).1) := by
  intro m
  induction m with
  | zero => exact ⟨fun b hb => absurd hb (Nat.not_lt_zero _), Or.inl rfl⟩
  | succ m ih =>
    obtain ⟨h1, h2⟩ := ih
    have e : lp (ao_st G P r) (m + 1) (0, z) = ao_st G P r m (lp (ao_st G P r) m (0, z)) := rfl
    generalize lp (ao_st G P r) m (0, z) = a at h1 h2 e
    rw [e]
    unfold ao_st
    by_cases hc : P m = true ∧ a.1 < (G m).1 + 2
    · rw [if_pos hc]
      refine ⟨fun b hb hP => ?_, Or.inr ⟨m, Nat.lt_succ_self m, hc.1, rfl, fun b' hb' hP => ?_⟩⟩
      · by_cases hm : b = m
        · subst hm; exact Nat.le_refl _
        · have := h1 b (by omega) hP
          show (G b).1 + 2 ≤ (G m).1 + 2
          omega
      · have := h1 b' hb' hP
        omega
    · rw [if_neg hc]
      refine ⟨fun b hb hP => ?_, ?_⟩
      · by_cases hm : b = m
        · subst hm
          have : ¬ a.1 < (G b).1 + 2 := fun h => hc ⟨hP, h⟩
          omega
        · exact h1 b (by omega) hP
      · rcases h2 with h2 | ⟨b, hb, h3⟩
        · exact Or.inl h2
        · exact Or.inr ⟨b, by omega, h3⟩
theorem ao_pick (G : Nat → Nat × (Nat → Int32)) (P : Nat → Bool) (r n : Nat) (g : Nat × (Nat → Int32)) (x : Nat × (Nat → Int32)) (hx : x = ao_fin (lp (ao_st G P r) n (0, fun _ => -1)) g r) : (g.1 ≤ x.1 ∧ ∀ b, b < n → P b = true → (G b).1 + 1 ≤ x.1) ∧ ((∃ b, b < n ∧ P b = true ∧ x = ((G b).1 + 1, ao_set (G b).2 r (Int32.ofNat b)) ∧ ∀ b', b' < b → P b' = true → (G b').1 + 1 < x.1) ∨ (x = (g.1, ao_set g.2 r (-1)) ∧ ∀ b, b < n → P b = true → (G b).1 + 1 < x.1)) := by
  obtain ⟨h1, h2⟩ := ao_fold G P r (fun _ => -1) n
  generalize lp (ao_st G P r) n (0, fun _ => -1) = a at h1 h2 hx
  unfold ao_fin at hx
  have e : x = if a.1 < g.1 + 1 then (g.1, ao_set g.2 r (-1)) else (a.1 - 1, a.2) := by
    rw [hx]
    by_cases q : a.1 < g.1 + 2
    · rw [if_pos q]
    · rw [if_neg q, if_neg (by omega)]
  by_cases hc : a.1 < g.1 + 1
  · rw [if_pos hc] at e
    subst e
    refine ⟨⟨Nat.le_refl _, fun b hb hP => ?_⟩, Or.inr ⟨rfl, fun b hb hP => ?_⟩⟩
    · have := h1 b hb hP
      show (G b).1 + 1 ≤ g.1
      omega
    · have := h1 b hb hP
      show (G b).1 + 1 < g.1
      omega
  · rw [if_neg hc] at e
    rcases h2 with h2 | ⟨b, hb, hP, ha, hf⟩
    · rw [h2] at hc
      exact absurd (Nat.succ_pos _) hc
    · subst ha
      subst e
      refine ⟨⟨?_, fun b' hb' hP' => ?_⟩, Or.inl ⟨b, hb, hP, rfl, fun b' hb' hP' => ?_⟩⟩
      · show g.1 ≤ (G b).1 + 2 - 1
        have hc : ¬ (G b).1 + 2 < g.1 + 1 := hc
        omega
      · have := h1 b' hb' hP'
        have this : (G b').1 + 2 ≤ (G b).1 + 2 := this
        show (G b').1 + 1 ≤ (G b).1 + 2 - 1
        omega
      · have := hf b' hb' hP'
        show (G b').1 + 1 < (G b).1 + 2 - 1
        omega
theorem ao_P (W : Nat → Nat → Bool) (r : Nat) (c : Nat → Nat) (b : Nat) : (W r b && decide (0 < c b)) = true ↔ W r b = true ∧ 0 < c b := by
  rw [Bool.and_eq_true, decide_eq_true_iff]
/-- how many from r on, j of them -/
def ao_n (p : Nat → Bool) : Nat → Nat → Nat
  | _, 0 => 0
  | r, j + 1 => (if p r = true then 1 else 0) + ao_n p (r + 1) j
def ao_f (F : Nat → Bool) (c : Nat → Nat) : Nat → Nat
  | 0 => 0
  | b + 1 => ao_f F c b + (if F b = true then c b else 0)
theorem ao_n_le {p p' : Nat → Bool} : ∀ j r, (∀ q, r ≤ q → q < r + j → p q = true → p' q = true) → ao_n p r j ≤ ao_n p' r j := by
  intro j
  induction j with
  | zero => intro r _; exact Nat.le_refl _
  | succ j ih =>
    intro r h
    have h1 := ih (r + 1) (fun q a b => h q (by omega) (by omega))
    have h2 := h r (Nat.le_refl _) (by omega)
    show (if p r = true then 1 else 0) + ao_n p (r + 1) j ≤ (if p' r = true then 1 else 0) + ao_n p' (r + 1) j
    by_cases hp : p r = true
    · rw [if_pos hp, if_pos (h2 hp)]; omega
    · rw [if_neg hp]; omega
theorem ao_n_eq {p p' : Nat → Bool} (j r : Nat) (h : ∀ q, r ≤ q → q < r + j → p q = p' q) : ao_n p r j = ao_n p' r j :=
  Nat.le_antisymm (ao_n_le j r (fun q a b c => by rw [← h q a b]; exact c)) (ao_n_le j r (fun q a b c => by rw [h q a b]; exact c))
theorem ao_n_set {p p' : Nat → Bool} (i : Nat) : ∀ j r, r ≤ i → i < r + j → (∀ q, q ≠ i → p' q = p q) → ao_n p' r j + (if p i = true then 1 else 0) = ao_n p r j + (if p' i = true then 1 else 0) := by
  intro j
  induction j with
  | zero => intro r a b; omega
  | succ j ih =>
    intro r a b h
    show (if p' r = true then 1 else 0) + ao_n p' (r + 1) j + _ = (if p r = true then 1 else 0) + ao_n p (r + 1) j + _
    by_cases hr : r = i
    · subst hr
      rw [ao_n_eq j (r + 1) (fun q x _ => h q (by omega))]; omega
    · rw [h r hr]
      have := ih (r + 1) (by omega) (by omega) h
      omega
theorem ao_n_or {p1 p2 p : Nat → Bool} : ∀ j r, (∀ q, r ≤ q → q < r + j → p1 q = true → p2 q = true → False) → (∀ q, r ≤ q → q < r + j → p1 q = true ∨ p2 q = true → p q = true) → ao_n p1 r j + ao_n p2 r j ≤ ao_n p r j := by
  intro j
  induction j with
  | zero => intro r _ _; exact Nat.le_refl _
  | succ j ih =>
    intro r h1 h2
    have h3 := ih (r + 1) (fun q a b => h1 q (by omega) (by omega)) (fun q a b => h2 q (by omega) (by omega))
    show (if p1 r = true then 1 else 0) + ao_n p1 (r + 1) j + ((if p2 r = true then 1 else 0) + ao_n p2 (r + 1) j) ≤ (if p r = true then 1 else 0) + ao_n p (r + 1) j
    have k1 := h1 r (Nat.le_refl _) (by omega)
    have k2 := h2 r (Nat.le_refl _) (by omega)
    by_cases a1 : p1 r = true
    · rw [if_pos a1, if_neg (fun a2 => k1 a1 a2), if_pos (k2 (Or.inl a1))]; omega
    · rw [if_neg a1]
      by_cases a2 : p2 r = true
      · rw [if_pos a2, if_pos (k2 (Or.inr a2))]; omega
      · rw [if_neg a2]; omega
theorem ao_f_dec (F : Nat → Bool) (c : Nat → Nat) (b : Nat) (hb : 0 < c b) : ∀ N, ao_f F (dec1 c b) N + (if F b = true ∧ b < N then 1 else 0) = ao_f F c N := by
  intro N
  induction N with
  | zero => rw [if_neg (by omega)]; rfl
  | succ N ih =>
    show ao_f F (dec1 c b) N + (if F N = true then dec1 c b N else 0) + _ = ao_f F c N + (if F N = true then c N else 0)
    by_cases hN : N = b
    · subst hN
      rw [if_neg (by omega)] at ih
      have e : dec1 c N N = c N - 1 := if_pos rfl
      by_cases hF : F N = true
      · rw [if_pos hF, if_pos hF, if_pos ⟨hF, Nat.lt_succ_self N⟩, e]; omega
      · rw [if_neg hF, if_neg hF, if_neg (fun x => hF x.1)]; omega
    · have e : dec1 c b N = c N := if_neg hN
      rw [e]
      by_cases hF : F b = true ∧ b < N
      · rw [if_pos hF] at ih
        rw [if_pos (show F b = true ∧ b < N + 1 from ⟨hF.1, by omega⟩)]; omega
      · rw [if_neg hF] at ih
        rw [if_neg (show ¬ (F b = true ∧ b < N + 1) from fun x => hF ⟨x.1, by omega⟩)]; omega
/-- does one want a book outside F -/
def ao_w (W : Nat → Nat → Bool) (F : Nat → Bool) (q : Nat) : Bool := (List.range 8).any (fun b => W q b && !F b)
theorem ao_w_t (W : Nat → Nat → Bool) (F : Nat → Bool) (q b : Nat) (hb : b < 8) (h1 : W q b = true) (h2 : F b = false) : ao_w W F q = true := by
  unfold ao_w
  rw [List.any_eq_true]
  exact ⟨b, List.mem_range.mpr hb, by rw [h1, h2]; rfl⟩
theorem ao_w_f (W : Nat → Nat → Bool) (F : Nat → Bool) (q : Nat) (h : ∀ b, b < 8 → W q b = true → F b = true) : ao_w W F q = false := by
  cases hw : ao_w W F q with
  | false => rfl
  | true =>
    unfold ao_w at hw
    rw [List.any_eq_true] at hw
    obtain ⟨b, hb, hx⟩ := hw
    rw [Bool.and_eq_true] at hx
    have := h b (List.mem_range.mp hb) hx.1
    rw [this] at hx
    exact absurd hx.2 (by decide)
theorem ao_ub (W : Nat → Nat → Bool) (n : Nat) (hn : n ≤ 8) (F : Nat → Bool) : ∀ j r c, (ao_R W n j r c).1 ≤ ao_f F c 8 + ao_n (ao_w W F) r j := by
  intro j
  induction j with
  | zero => intro r c; exact Nat.zero_le _
  | succ j ih =>
    intro r c
    obtain ⟨-, h⟩ := ao_pick (fun b => ao_R W n j (r + 1) (dec1 c b)) (fun b => W r b && decide (0 < c b)) r n (ao_R W n j (r + 1) c) (ao_R W n (j + 1) r c) rfl
    have e : ao_n (ao_w W F) r (j + 1) = (if ao_w W F r = true then 1 else 0) + ao_n (ao_w W F) (r + 1) j := rfl
    rw [e]
    rcases h with ⟨b, hb, hP, hx, -⟩ | ⟨hx, -⟩
    · rw [hx]
      obtain ⟨w1, w2⟩ := (ao_P W r c b).mp hP
      have h1 := ih (r + 1) (dec1 c b)
      have h2 := ao_f_dec F c b w2 8
      show (ao_R W n j (r + 1) (dec1 c b)).1 + 1 ≤ _
      cases hF : F b with
      | true => rw [if_pos ⟨hF, by omega⟩] at h2; omega
      | false =>
        rw [if_neg (fun x => by rw [hF] at x; exact absurd x.1 (by decide))] at h2
        rw [if_pos (ao_w_t W F r b (by omega) w1 hF)]; omega
    · rw [hx]
      have h1 := ih (r + 1) c
      show (ao_R W n j (r + 1) c).1 ≤ _
      omega
def ao_at (t : Nat → Int32) (b : Nat) (q : Nat) : Bool := decide (t q = Int32.ofNat b)
def ao_sd (t : Nat → Int32) (q : Nat) : Bool := !decide (t q = -1)
theorem ao_lb (W : Nat → Nat → Bool) (n : Nat) (hn : n ≤ 8) (hW : ∀ q b, W q b = true → b < n) (t : Nat → Int32) : ∀ j r c, (∀ q, r ≤ q → q < r + j → t q = -1 ∨ ∃ b, b < 8 ∧ t q = Int32.ofNat b ∧ W q b = true) → (∀ b, b < 8 → ao_n (ao_at t b) r j ≤ c b) → ao_n (ao_sd t) r j ≤ (ao_R W n j r c).1 := by
  intro j
  induction j with
  | zero => intro r c _ _; exact Nat.le_refl _
  | succ j ih =>
    intro r c h1 h2
    obtain ⟨⟨p1, p2⟩, -⟩ := ao_pick (fun b => ao_R W n j (r + 1) (dec1 c b)) (fun b => W r b && decide (0 < c b)) r n (ao_R W n j (r + 1) c) (ao_R W n (j + 1) r c) rfl
    have e : ao_n (ao_sd t) r (j + 1) = (if ao_sd t r = true then 1 else 0) + ao_n (ao_sd t) (r + 1) j := rfl
    have e2 : ∀ b, ao_n (ao_at t b) r (j + 1) = (if ao_at t b r = true then 1 else 0) + ao_n (ao_at t b) (r + 1) j := fun _ => rfl
    rw [e]
    rcases h1 r (Nat.le_refl _) (by omega) with hr | ⟨b, hb, hr, hw⟩
    · have hs : ao_sd t r = false := by unfold ao_sd; rw [hr]; rfl
      rw [hs, if_neg (by decide)]
      have := ih (r + 1) c (fun q a b => h1 q (by omega) (by omega)) (fun b hb => by
        have := h2 b hb
        rw [e2] at this; omega)
      omega
    · have h3 := h2 b hb
      have ha : ao_at t b r = true := decide_eq_true hr
      rw [e2, if_pos ha] at h3
      have h4 := ih (r + 1) (dec1 c b) (fun q a b => h1 q (by omega) (by omega)) (fun x hx => by
        have := h2 x hx
        rw [e2] at this
        by_cases hxb : x = b
        · subst hxb
          rw [if_pos ha] at this
          show _ ≤ (if x = x then c x - 1 else c x)
          rw [if_pos rfl]; omega
        · show _ ≤ (if x = b then c x - 1 else c x)
          rw [if_neg hxb]; omega)
      have h5 := p2 b (hW r b hw) ((ao_P W r c b).mpr ⟨hw, by omega⟩)
      have h5 : (ao_R W n j (r + 1) (dec1 c b)).1 + 1 ≤ (ao_R W n (j + 1) r c).1 := h5
      by_cases hs : ao_sd t r = true
      · rw [if_pos hs]; omega
      · rw [if_neg hs]; omega
