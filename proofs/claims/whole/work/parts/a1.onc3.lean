/-! AT ONCE: one is seated, another leaves -/
theorem aoat_ne (t : Nat → Int32) (r b x : Nat) (hb : b < 8) (hx : x < 8) (h : t r = Int32.ofNat b) : ao_at t x r = decide (x = b) := by
  unfold ao_at
  rw [h]
  exact decide_eq_decide.mpr ⟨fun e => ((zI_eq b x (by omega) (by omega)).mp e).symm, fun e => by rw [e]⟩
theorem aoat_set (t : Nat → Int32) (r b k : Nat) (hr : r < k) (hb : b < 8) (x : Nat) (hx : x < 8) : ao_n (ao_at (ao_set t r (Int32.ofNat b)) x) 0 k + (if ao_at t x r = true then 1 else 0) = ao_n (ao_at t x) 0 k + (if x = b then 1 else 0) := by
  have h := ao_n_set (p := ao_at t x) (p' := ao_at (ao_set t r (Int32.ofNat b)) x) r k 0 (by omega) (by omega) (fun q hq => by unfold ao_at; rw [ao_set_ne _ _ _ _ hq])
  rw [aoat_ne (ao_set t r (Int32.ofNat b)) r b x hb hx (ao_set_at _ _ _)] at h
  rw [h]
  by_cases e : x = b
  · rw [if_pos e, if_pos (decide_eq_true e)]
  · rw [if_neg e, decide_eq_false e, if_neg (by decide)]
theorem Sc_now {W : Nat → Nat → Bool} {c : Nat → Nat} {k : Nat} {t : Nat → Int32} {u : Nat → Nat} {S : Nat → Bool} (r b : Nat) (hr : r < k) (hb : b < 8) (hw : W r b = true) (hS : S b = false) (hu : u b < c b) : Sc W c k t u r S (ao_set t r (Int32.ofNat b)) (inc1 u b) := by
  refine ⟨b, hb, hu, rfl, ⟨b, hb, ao_set_at _ _ _, hw, hS, fun F hF => ?_⟩, fun q _ hq hne => absurd (ao_set_ne _ _ _ _ hq) hne, fun x hx => aoat_set t r b k hr hb x hx⟩
  cases h : F b with
  | false => rfl
  | true => exact absurd (hF.1 b hb h) (by omega)
theorem Sc_leave {W : Nat → Nat → Bool} {c : Nat → Nat} {k : Nat} {t t1 : Nat → Int32} {u u1 : Nat → Nat} {S S1 : Nat → Bool} (r q b : Nat) (hr : r < k) (hq : q < k) (hb : b < 8) (hw : W r b = true) (hS : S b = false) (hSS : ∀ x, S x = true → S1 x = true) (ht : t r = -1 ∨ ∃ b, b < 8 ∧ t r = Int32.ofNat b ∧ S b = true) (htq : t q = Int32.ofNat b) (h : Sc W c k t u q S1 t1 u1) : Sc W c k t u r S (ao_set t1 r (Int32.ofNat b)) u1 := by
  obtain ⟨z, hz, hu, hu1, ⟨b1, hb1, g1, g2, g3, g4⟩, hm, hc⟩ := h
  have hqr : q ≠ r := by
    intro e
    subst e
    rcases ht with ht | ⟨b0, hb0, ht, hs⟩
    · rw [ht] at htq
      have := zI_ne b (by omega)
      exact this.mp htq.symm
    · rw [ht] at htq
      have e := (zI_eq b0 b (by omega) (by omega)).mp htq
      subst e
      rw [hs] at hS; exact absurd hS (by decide)
  have hfS : ∀ x, S1 x = false → S x = false := fun x hx => by
    cases e : S x with
    | false => rfl
    | true => rw [hSS x e] at hx; exact absurd hx (by decide)
  have hN : Nc W c k t u b := fun F hF => by
    cases e : F b with
    | false => rfl
    | true =>
      have := hF.2 q hq b hb htq e b1 hb1 g2
      rw [g4 F hF] at this; exact absurd this (by decide)
  have htr : t1 r = t r := by
    by_cases e : t1 r = t r
    · exact e
    · obtain ⟨b2, x, hb2, -, e2, e3, -⟩ := hm r hr (fun h => hqr h.symm) e
      rcases ht with ht | ⟨b0, hb0, ht, hs⟩
      · rw [ht] at e2
        exact absurd e2.symm (fun h => (zI_ne b2 (by omega)).mp h)
      · rw [ht] at e2
        have e4 := (zI_eq b0 b2 (by omega) (by omega)).mp e2
        subst e4
        rw [hSS _ hs] at e3; exact absurd e3 (by decide)
  refine ⟨z, hz, hu, hu1, ⟨b, hb, ao_set_at _ _ _, hw, hS, hN⟩, fun p hp hpr hne => ?_, fun x hx => ?_⟩
  · rw [ao_set_ne _ _ _ _ hpr] at hne ⊢
    by_cases hpq : p = q
    · subst hpq
      exact ⟨b, b1, hb, hb1, htq, hS, hN, g1, g2, g4⟩
    · obtain ⟨b2, x, k1, k2, k3, k4, k5⟩ := hm p hp hpq hne
      exact ⟨b2, x, k1, k2, k3, hfS _ k4, k5⟩
  · have h1 := aoat_set t1 r b k hr hb x hx
    have h2 := hc x hx
    rw [aoat_ne t q b x hb hx htq] at h2
    have h3 : ao_at t1 x r = ao_at t x r := by unfold ao_at; rw [htr]
    rw [h3] at h1
    by_cases e : x = b
    · rw [decide_eq_true e, if_pos rfl] at h2
      rw [if_pos e] at h1
      omega
    · rw [decide_eq_false e, if_neg (by decide)] at h2
      rw [if_neg e] at h1
      omega
theorem Vw_seen {I : Nat → Nat → Int32} {W : Nat → Nat → Bool} {c : Nat → Nat} {k : Nat} {t : Nat → Int32} {u : Nat → Nat} {S : Nat → Bool} (h : Vw I W c k t u S) (b : Nat) (hb : b < 8) : Vw (am_u I 109 6 ((I 109 6) ||| (1 <<< (Int32.ofNat b &&& 31)))) W c k t u (ao_ad S b) := by
  obtain ⟨h1, h2, h3, h4, h5, h6⟩ := h
  have e : ∀ q, q ≠ 109 → am_u I 109 6 ((I 109 6) ||| (1 <<< (Int32.ofNat b &&& 31))) q = I q := fun q hq => am_u_nr _ _ _ _ _ hq
  refine ⟨?_, ?_, ?_, ?_, ?_, fun x hx => ?_⟩
  · rw [am_u_sg, if_neg (by omega)]; exact h1
  · rw [e 111 (by omega)]; exact h2
  · rw [e 112 (by omega)]; exact h3
  · rw [e 113 (by omega)]; exact h4
  · rw [e 114 (by omega)]; exact h5
  · rw [am_u_at, bt_or, bt_one b x (by omega), h6 x hx]; rfl
theorem Vw_set {I : Nat → Nat → Int32} {W : Nat → Nat → Bool} {c : Nat → Nat} {k : Nat} {t : Nat → Int32} {u : Nat → Nat} {S : Nat → Bool} (h : Vw I W c k t u S) (r : Nat) (v : Int32) : Vw (am_u I 113 r v) W c k (ao_set t r v) u S := by
  obtain ⟨h1, h2, h3, h4, h5, h6⟩ := h
  have e : ∀ q, q ≠ 113 → am_u I 113 r v q = I q := fun q hq => am_u_nr _ _ _ _ _ hq
  refine ⟨?_, ?_, ?_, fun q hq => ?_, ?_, ?_⟩
  · rw [e 109 (by omega)]; exact h1
  · rw [e 111 (by omega)]; exact h2
  · rw [e 112 (by omega)]; exact h3
  · rw [am_u_sg]; unfold ao_set; rw [h4 q hq]
  · rw [e 114 (by omega)]; exact h5
  · rw [e 109 (by omega)]; exact h6
theorem Vw_use {I : Nat → Nat → Int32} {W : Nat → Nat → Bool} {c : Nat → Nat} {k : Nat} {t : Nat → Int32} {u : Nat → Nat} {S : Nat → Bool} (h : Vw I W c k t u S) (b : Nat) (hb : b < 8) (hu : u b < 1000) : Vw (am_u I 114 b (I 114 b + 1)) W c k t (inc1 u b) S := by
  obtain ⟨h1, h2, h3, h4, h5, h6⟩ := h
  have e : ∀ q, q ≠ 114 → am_u I 114 b (I 114 b + 1) q = I q := fun q hq => am_u_nr _ _ _ _ _ hq
  refine ⟨?_, ?_, ?_, ?_, fun x hx => ?_, ?_⟩
  · rw [e 109 (by omega)]; exact h1
  · rw [e 111 (by omega)]; exact h2
  · rw [e 112 (by omega)]; exact h3
  · rw [e 113 (by omega)]; exact h4
  · rw [am_u_sg]
    unfold inc1
    by_cases q : x = b
    · rw [if_pos q, if_pos q, q, (h5 b hb).1, zI_succ]; exact ⟨rfl, by omega⟩
    · rw [if_neg q, if_neg q]; exact h5 x hx
  · rw [e 109 (by omega)]; exact h6
