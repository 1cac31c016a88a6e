/-! AT ONCE: how many from one on -/
theorem ao_n_set2 {p p' : Nat → Bool} (i j r : Nat) (h1 : r ≤ i) (h2 : i < r + j) (h : ∀ q, q < r + j → q ≠ i → p' q = p q) : ao_n p' r j + (if p i = true then 1 else 0) = ao_n p r j + (if p' i = true then 1 else 0) := by
  have e := ao_n_set (p := p) (p' := fun q => if q < r + j then p' q else p q) i j r h1 h2 (fun q hq => by
    show (if q < r + j then p' q else p q) = p q
    by_cases x : q < r + j
    · rw [if_pos x]; exact h q x hq
    · rw [if_neg x])
  have e1 : ao_n (fun q => if q < r + j then p' q else p q) r j = ao_n p' r j := ao_n_eq j r (fun q _ b => if_pos b)
  have e2 : (if i < r + j then p' i else p i) = p' i := if_pos h2
  rw [e1, e2] at e
  exact e
theorem ao_n_skip (p : Nat → Bool) (k : Nat) : ∀ f0, f0 ≤ k → (∀ q, q < f0 → p q = false) → ao_n p 0 k = ao_n p f0 (k - f0) := by
  intro f0
  induction f0 with
  | zero => intro _ _; rfl
  | succ f0 ih =>
    intro h1 h2
    rw [ih (by omega) (fun q hq => h2 q (by omega))]
    obtain ⟨j, hj⟩ : ∃ j, k - f0 = j + 1 := ⟨k - f0 - 1, by omega⟩
    rw [hj, show k - (f0 + 1) = j by omega]
    show (if p f0 = true then 1 else 0) + ao_n p (f0 + 1) j = _
    rw [h2 f0 (by omega), if_neg (by decide)]; omega
def ao_in (t : Nat → Int32) (F : Nat → Bool) : Nat → Nat → Bool
  | 0, _ => false
  | N + 1, q => ao_in t F N q || (F N && ao_at t N q)
theorem ao_in_t (t : Nat → Int32) (F : Nat → Bool) (q : Nat) : ∀ N, ao_in t F N q = true → ∃ b, b < N ∧ F b = true ∧ t q = Int32.ofNat b := by
  intro N
  induction N with
  | zero => intro h; exact absurd (show false = true from h) (by decide)
  | succ N ih =>
    intro h
    have h : (ao_in t F N q || (F N && ao_at t N q)) = true := h
    rw [Bool.or_eq_true, Bool.and_eq_true] at h
    rcases h with h | ⟨h1, h2⟩
    · obtain ⟨b, hb, h3⟩ := ih h
      exact ⟨b, by omega, h3⟩
    · exact ⟨N, Nat.lt_succ_self N, h1, of_decide_eq_true h2⟩
theorem ao_f_in (t : Nat → Int32) (F : Nat → Bool) (r j : Nat) : ∀ N, N ≤ 8 → ao_f F (fun b => ao_n (ao_at t b) r j) N ≤ ao_n (ao_in t F N) r j := by
  intro N
  induction N with
  | zero => intro _; exact Nat.zero_le _
  | succ N ih =>
    intro hN
    have h1 := ih (by omega)
    have e : ao_f F (fun b => ao_n (ao_at t b) r j) (N + 1) = ao_f F (fun b => ao_n (ao_at t b) r j) N + (if F N = true then ao_n (ao_at t N) r j else 0) := rfl
    have ei : ∀ q, ao_in t F (N + 1) q = (ao_in t F N q || (F N && ao_at t N q)) := fun _ => rfl
    rw [e]
    by_cases hF : F N = true
    · rw [if_pos hF]
      have := ao_n_or (p1 := ao_in t F N) (p2 := ao_at t N) (p := ao_in t F (N + 1)) j r (fun q _ _ a1 a2 => by
        obtain ⟨b, hb, -, h3⟩ := ao_in_t t F q N a1
        have h4 : t q = Int32.ofNat N := of_decide_eq_true a2
        rw [h3] at h4
        have := (zI_eq b N (by omega) (by omega)).mp h4
        omega) (fun q _ _ a => by
        rw [ei, hF, Bool.true_and, Bool.or_eq_true]; exact a)
      omega
    · rw [if_neg hF]
      have := ao_n_le (p := ao_in t F N) (p' := ao_in t F (N + 1)) j r (fun q _ _ a => by rw [ei, a, Bool.true_or])
      omega
theorem ao_f_le (F : Nat → Bool) (c u : Nat → Nat) : ∀ N, (∀ b, b < N → F b = true → c b ≤ u b) → ao_f F c N ≤ ao_f F u N := by
  intro N
  induction N with
  | zero => intro _; exact Nat.le_refl _
  | succ N ih =>
    intro h
    have h1 := ih (fun b hb => h b (by omega))
    show ao_f F c N + (if F N = true then c N else 0) ≤ ao_f F u N + (if F N = true then u N else 0)
    by_cases hF : F N = true
    · have := h N (Nat.lt_succ_self N) hF
      rw [if_pos hF, if_pos hF]; omega
    · rw [if_neg hF, if_neg hF]; omega
/-- the seats given so far are as many as there can be -/
def KI (W : Nat → Nat → Bool) (c : Nat → Nat) (k f0 r : Nat) (t : Nat → Int32) (u : Nat → Nat) (m : Nat) : Prop := ∃ F, Cl W c k t u F ∧ (∀ q, q < k → t q = -1 ∨ (f0 ≤ q ∧ q < r ∧ ∃ b, b < 8 ∧ t q = Int32.ofNat b ∧ W q b = true)) ∧ (∀ b, b < 8 → u b = ao_n (ao_at t b) 0 k ∧ u b ≤ c b) ∧ (∀ q, f0 ≤ q → q < r → t q = -1 → ∀ b, b < 8 → W q b = true → F b = true) ∧ m = ao_n (ao_sd t) f0 (k - f0)
theorem nat_ne (b : Nat) (hb : b < 8) : ¬ Int32.ofNat b = -1 := fun h => (zI_ne b (by omega)).mp h
theorem KI_fail {W : Nat → Nat → Bool} {c : Nat → Nat} {k f0 r : Nat} {t : Nat → Int32} {u : Nat → Nat} {m : Nat} {S' : Nat → Bool} (h : KI W c k f0 r t u m) (hl : Fl W c k t u (fun _ => false) S') (hw : ∀ b, b < 8 → W r b = true → S' b = true) : KI W c k f0 (r + 1) t u m := by
  obtain ⟨F, ⟨a1, a2⟩, b, c1, e, g⟩ := h
  refine ⟨fun x => F x || S' x, ⟨fun x hx hF => ?_, fun q hq x hx ht hF y hy w => ?_⟩, fun q hq => ?_, c1, fun q h1 h2 h3 x hx w => ?_, g⟩
  · have hF : (F x || S' x) = true := hF
    rw [Bool.or_eq_true] at hF
    rcases hF with hF | hF
    · exact a1 x hx hF
    · exact (hl.2 x hx hF rfl).1
  · have hF : (F x || S' x) = true := hF
    rw [Bool.or_eq_true] at hF
    show (F y || S' y) = true
    rw [Bool.or_eq_true]
    rcases hF with hF | hF
    · exact Or.inl (a2 q hq x hx ht hF y hy w)
    · exact Or.inr ((hl.2 x hx hF rfl).2 q hq ht y hy w)
  · rcases b q hq with h | ⟨h1, h2, h3⟩
    · exact Or.inl h
    · exact Or.inr ⟨h1, by omega, h3⟩
  · show (F x || S' x) = true
    rw [Bool.or_eq_true]
    by_cases hq : q = r
    · subst hq; exact Or.inr (hw x hx w)
    · exact Or.inl (e q h1 (by omega) h3 x hx w)
theorem KI_succ {W : Nat → Nat → Bool} {c : Nat → Nat} {k f0 r : Nat} {t t' : Nat → Int32} {u u' : Nat → Nat} {m : Nat} {S : Nat → Bool} (hr : r < k) (hf : f0 ≤ r) (h : KI W c k f0 r t u m) (hs : Sc W c k t u r S t' u') : KI W c k f0 (r + 1) t' u' (m + 1) := by
  obtain ⟨F, ⟨a1, a2⟩, b, c1, e, g⟩ := h
  obtain ⟨z, hz, hu, rfl, ⟨b1, hb1, s1, s2, s3, s4⟩, hm, hc⟩ := hs
  have hC : Cl W c k t u F := ⟨a1, a2⟩
  have htr : t r = -1 := by
    rcases b r hr with h | ⟨h1, h2, -⟩
    · exact h
    · omega
  have hiu : ∀ x, u x ≤ inc1 u z x := fun x => by
    unfold inc1
    by_cases hx : x = z
    · rw [if_pos hx]; omega
    · rw [if_neg hx]; exact Nat.le_refl _
  refine ⟨F, ⟨fun x hx hF => Nat.le_trans (a1 x hx hF) (hiu x), fun q hq x hx ht hF y hy w => ?_⟩, fun q hq => ?_, fun x hx => ?_, fun q h1 h2 h3 x hx w => ?_, ?_⟩
  · by_cases hqr : q = r
    · subst hqr
      rw [s1] at ht
      have := (zI_eq b1 x (by omega) (by omega)).mp ht
      subst this
      rw [s4 F hC] at hF; exact absurd hF (by decide)
    · by_cases hmv : t' q = t q
      · rw [hmv] at ht; exact a2 q hq x hx ht hF y hy w
      · obtain ⟨b2, x2, k1, k2, k3, k4, k5, k6, k7, k8⟩ := hm q hq hqr hmv
        rw [k6] at ht
        have := (zI_eq x2 x (by omega) (by omega)).mp ht
        subst this
        rw [k8 F hC] at hF; exact absurd hF (by decide)
  · by_cases hqr : q = r
    · subst hqr; exact Or.inr ⟨hf, Nat.lt_succ_self _, b1, hb1, s1, s2⟩
    · by_cases hmv : t' q = t q
      · rw [hmv]
        rcases b q hq with h | ⟨h1, h2, h3⟩
        · exact Or.inl h
        · exact Or.inr ⟨h1, by omega, h3⟩
      · obtain ⟨b2, x2, k1, k2, k3, k4, k5, k6, k7, k8⟩ := hm q hq hqr hmv
        rcases b q hq with h | ⟨h1, h2, h3⟩
        · rw [k3] at h; exact absurd h (nat_ne b2 k1)
        · exact Or.inr ⟨h1, by omega, x2, k2, k6, k7⟩
  · have h1 := hc x hx
    have h2 : ao_at t x r = false := decide_eq_false (fun h => by rw [htr] at h; exact nat_ne x hx h.symm)
    rw [h2, if_neg (by decide)] at h1
    obtain ⟨h3, h4⟩ := c1 x hx
    unfold inc1
    by_cases hxz : x = z
    · rw [if_pos hxz] at h1 ⊢
      subst hxz
      exact ⟨by omega, by omega⟩
    · rw [if_neg hxz] at h1 ⊢
      exact ⟨by omega, h4⟩
  · by_cases hqr : q = r
    · subst hqr; rw [s1] at h3; exact absurd h3 (nat_ne b1 hb1)
    · by_cases hmv : t' q = t q
      · rw [hmv] at h3; exact e q h1 (by omega) h3 x hx w
      · obtain ⟨b2, x2, k1, k2, k3, k4, k5, k6, k7, k8⟩ := hm q (by omega) hqr hmv
        rw [k6] at h3; exact absurd h3 (nat_ne x2 k2)
  · have h1 := ao_n_set2 (p := ao_sd t) (p' := ao_sd t') r (k - f0) f0 hf (by omega) (fun q hq hqr => by
      by_cases hmv : t' q = t q
      · unfold ao_sd; rw [hmv]
      · obtain ⟨b2, x2, k1, k2, k3, k4, k5, k6, k7, k8⟩ := hm q (by omega) hqr hmv
        unfold ao_sd
        rw [k3, k6, decide_eq_false (nat_ne b2 k1), decide_eq_false (nat_ne x2 k2)])
    have h2 : ao_sd t r = false := by unfold ao_sd; rw [htr]; rfl
    have h3 : ao_sd t' r = true := by unfold ao_sd; rw [s1, decide_eq_false (nat_ne b1 hb1)]; rfl
    rw [h2, h3, if_neg (by decide), if_pos rfl] at h1
    omega
theorem KI_end {W : Nat → Nat → Bool} {c : Nat → Nat} {k f0 n : Nat} {t : Nat → Int32} {u : Nat → Nat} {m : Nat} (hn : n ≤ 8) (hf : f0 ≤ k) (hW : ∀ q b, W q b = true → b < n) (h : KI W c k f0 k t u m) : m = (ao_R W n (k - f0) f0 c).1 := by
  obtain ⟨F, ⟨a1, a2⟩, b, c1, e, g⟩ := h
  have hlow : ∀ q, q < f0 → t q = -1 := fun q hq => by
    rcases b q (by omega) with h | ⟨h1, -⟩
    · exact h
    · omega
  apply Nat.le_antisymm
  · rw [g]
    refine ao_lb W n hn hW t (k - f0) f0 c (fun q h1 h2 => ?_) (fun x hx => ?_)
    · rcases b q (by omega) with h | ⟨-, -, h⟩
      · exact Or.inl h
      · exact Or.inr h
    · rw [← ao_n_skip (ao_at t x) k f0 hf (fun q hq => decide_eq_false (fun h => by rw [hlow q hq] at h; exact nat_ne x hx h.symm)), ← (c1 x hx).1]
      exact (c1 x hx).2
  · have h1 := ao_ub W n hn F (k - f0) f0 c
    have h2 : ao_f F c 8 ≤ ao_f F (fun x => ao_n (ao_at t x) 0 k) 8 := ao_f_le F c _ 8 (fun x hx hF => by
      show c x ≤ ao_n (ao_at t x) 0 k
      rw [← (c1 x hx).1]; exact a1 x hx hF)
    have h3 := ao_f_in t F 0 k 8 (Nat.le_refl _)
    have h4 := ao_n_skip (ao_in t F 8) k f0 hf (fun q hq => by
      cases hx : ao_in t F 8 q with
      | false => rfl
      | true =>
        obtain ⟨x, y1, -, y2⟩ := ao_in_t t F q 8 hx
        rw [hlow q hq] at y2; exact absurd y2.symm (nat_ne x y1))
    have h5 := ao_n_or (p1 := ao_in t F 8) (p2 := ao_w W F) (p := ao_sd t) (k - f0) f0 (fun q y1 y2 x1 x2 => by
      obtain ⟨x, z1, z2, z3⟩ := ao_in_t t F q 8 x1
      rw [ao_w_f W F q (a2 q (by omega) x z1 z3 z2)] at x2
      exact absurd x2 (by decide)) (fun q y1 y2 x1 => by
      rcases x1 with x1 | x1
      · obtain ⟨x, z1, z2, z3⟩ := ao_in_t t F q 8 x1
        unfold ao_sd; rw [z3, decide_eq_false (nat_ne x z1)]; rfl
      · unfold ao_sd
        by_cases hq : t q = -1
        · rw [ao_w_f W F q (e q y1 (by omega) hq)] at x1
          exact absurd x1 (by decide)
        · rw [decide_eq_false hq]; rfl)
    omega
