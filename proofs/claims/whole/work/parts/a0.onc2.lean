/-! AT ONCE: the class seats one -/
/-- closed: full, and who has one of it wants nothing else -/
def Cl (W : Nat → Nat → Bool) (c : Nat → Nat) (k : Nat) (t : Nat → Int32) (u : Nat → Nat) (F : Nat → Bool) : Prop := (∀ b, b < 8 → F b = true → c b ≤ u b) ∧ ∀ q, q < k → ∀ b, b < 8 → t q = Int32.ofNat b → F b = true → ∀ x, x < 8 → W q x = true → F x = true
def Nc (W : Nat → Nat → Bool) (c : Nat → Nat) (k : Nat) (t : Nat → Int32) (u : Nat → Nat) (b : Nat) : Prop := ∀ F, Cl W c k t u F → F b = false
def Fl (W : Nat → Nat → Bool) (c : Nat → Nat) (k : Nat) (t : Nat → Int32) (u : Nat → Nat) (S S' : Nat → Bool) : Prop := (∀ b, S b = true → S' b = true) ∧ ∀ b, b < 8 → S' b = true → S b = false → c b ≤ u b ∧ ∀ q, q < k → t q = Int32.ofNat b → ∀ x, x < 8 → W q x = true → S' x = true
def inc1 (u : Nat → Nat) (b : Nat) : Nat → Nat := fun x => if x = b then u x + 1 else u x
def Sc (W : Nat → Nat → Bool) (c : Nat → Nat) (k : Nat) (t : Nat → Int32) (u : Nat → Nat) (r : Nat) (S : Nat → Bool) (t' : Nat → Int32) (u' : Nat → Nat) : Prop := ∃ z, z < 8 ∧ u z < c z ∧ u' = inc1 u z ∧ (∃ b, b < 8 ∧ t' r = Int32.ofNat b ∧ W r b = true ∧ S b = false ∧ Nc W c k t u b) ∧ (∀ q, q < k → q ≠ r → t' q ≠ t q → ∃ b x, b < 8 ∧ x < 8 ∧ t q = Int32.ofNat b ∧ S b = false ∧ Nc W c k t u b ∧ t' q = Int32.ofNat x ∧ W q x = true ∧ Nc W c k t u x) ∧ ∀ b, b < 8 → ao_n (ao_at t' b) 0 k + (if ao_at t b r = true then 1 else 0) = ao_n (ao_at t b) 0 k + (if b = z then 1 else 0)
theorem Fl_refl (W : Nat → Nat → Bool) (c : Nat → Nat) (k : Nat) (t : Nat → Int32) (u : Nat → Nat) (S : Nat → Bool) : Fl W c k t u S S := ⟨fun _ h => h, fun b _ h1 h2 => by rw [h1] at h2; exact absurd h2 (by decide)⟩
theorem Fl_tr {W : Nat → Nat → Bool} {c : Nat → Nat} {k : Nat} {t : Nat → Int32} {u : Nat → Nat} {S S1 S2 : Nat → Bool} (h1 : Fl W c k t u S S1) (h2 : Fl W c k t u S1 S2) : Fl W c k t u S S2 := by
  refine ⟨fun b h => h2.1 b (h1.1 b h), fun b hb x y => ?_⟩
  cases hs : S1 b with
  | true =>
    obtain ⟨p, q⟩ := h1.2 b hb hs y
    exact ⟨p, fun i hi e z hz w => h2.1 z (q i hi e z hz w)⟩
  | false => exact h2.2 b hb x hs
/-- the seen ones and b -/
def ao_ad (S : Nat → Bool) (b : Nat) : Nat → Bool := fun x => S x || decide (x = b)
def ao_k (S : Nat → Bool) : Nat := ao_n S 0 8
theorem ao_n_top (p : Nat → Bool) : ∀ j r, ao_n p r j ≤ j := by
  intro j
  induction j with
  | zero => intro r; exact Nat.le_refl _
  | succ j ih =>
    intro r
    have := ih (r + 1)
    show (if p r = true then 1 else 0) + ao_n p (r + 1) j ≤ j + 1
    by_cases h : p r = true
    · rw [if_pos h]; omega
    · rw [if_neg h]; omega
theorem ao_n_full (p : Nat → Bool) : ∀ j r, (∀ q, r ≤ q → q < r + j → p q = true) ∨ ao_n p r j < j := by
  intro j
  induction j with
  | zero => intro r; exact Or.inl (fun q a b => by omega)
  | succ j ih =>
    intro r
    have e : ao_n p r (j + 1) = (if p r = true then 1 else 0) + ao_n p (r + 1) j := rfl
    have ht := ao_n_top p j (r + 1)
    by_cases h : p r = true
    · rw [if_pos h] at e
      rcases ih (r + 1) with h1 | h1
      · refine Or.inl (fun q a b => ?_)
        by_cases hq : q = r
        · rw [hq]; exact h
        · exact h1 q (by omega) (by omega)
      · right; omega
    · rw [if_neg h] at e
      right; omega
theorem ao_k_add (S : Nat → Bool) (b : Nat) (hb : b < 8) (h : S b = false) : ao_k (ao_ad S b) = ao_k S + 1 := by
  have := ao_n_set (p := S) (p' := ao_ad S b) b 8 0 (by omega) (by omega) (fun q hq => by unfold ao_ad; rw [decide_eq_false hq, Bool.or_false])
  have e : ao_ad S b b = true := by unfold ao_ad; rw [decide_eq_true rfl, Bool.or_true]
  rw [h, e, if_neg (by decide), if_pos rfl] at this
  exact this
theorem ao_k_le {S S' : Nat → Bool} (h : ∀ b, S b = true → S' b = true) : ao_k S ≤ ao_k S' := ao_n_le 8 0 (fun q _ _ => h q)
/-- the class's rows are these -/
def Vw (I : Nat → Nat → Int32) (W : Nat → Nat → Bool) (c : Nat → Nat) (k : Nat) (t : Nat → Int32) (u : Nat → Nat) (S : Nat → Bool) : Prop := I 109 1 = Int32.ofNat k ∧ (∀ q, q < k → ∀ b, b < 8 → bt (I 111 q) b = W q b) ∧ (∀ b, b < 8 → ((∃ q, W q b = true) → I 112 b = Int32.ofNat (c b)) ∧ c b ≤ 1000) ∧ (∀ q, q < k → I 113 q = t q) ∧ (∀ b, b < 8 → I 114 b = Int32.ofNat (u b) ∧ u b ≤ 1000) ∧ ∀ b, b < 8 → bt (I 109 6) b = S b
def FS (I I' : Nat → Nat → Int32) : Prop := (∀ q, q ≠ 109 → q ≠ 113 → q ≠ 114 → I' q = I q) ∧ ∀ j, j ≠ 6 → I' 109 j = I 109 j
theorem FS_refl (I : Nat → Nat → Int32) : FS I I := ⟨fun _ _ _ _ => rfl, fun _ _ => rfl⟩
theorem FS_tr {I I1 I2 : Nat → Nat → Int32} (h1 : FS I I1) (h2 : FS I1 I2) : FS I I2 := ⟨fun q a b c => (h2.1 q a b c).trans (h1.1 q a b c), fun j a => (h2.2 j a).trans (h1.2 j a)⟩
theorem FS_u {I : Nat → Nat → Int32} (p j : Nat) (v : Int32) (h : (p = 109 ∧ j = 6) ∨ p = 113 ∨ p = 114) : FS I (am_u I p j v) := by
  refine ⟨fun q a b c => am_u_nr _ _ _ _ _ (by omega), fun i hi => ?_⟩
  rcases h with ⟨h1, h2⟩ | h
  · subst h1; subst h2; rw [am_u_sg, if_neg hi]
  · rw [am_u_nr _ _ _ _ _ (by omega)]
/-- what a call of seat gives -/
def SR (r : Nat) (I : Nat → Nat → Int32) (J : Nat → Nat → Int64) (E : Nat → Nat → Nat) (W : Nat → Nat → Bool) (c : Nat → Nat) (k : Nat) (t : Nat → Int32) (u : Nat → Nat) (S : Nat → Bool) (x : Option am_R) : Prop := (∃ I' S', x = some (true, some (.int 0), am_hp I' J E) ∧ FS I I' ∧ Vw I' W c k t u S' ∧ Fl W c k t u S S' ∧ ∀ b, b < 8 → W r b = true → S' b = true) ∨ ∃ I' t' u' S', x = some (true, some (.int 1), am_hp I' J E) ∧ FS I I' ∧ Vw I' W c k t' u' S' ∧ Sc W c k t u r S t' u'
