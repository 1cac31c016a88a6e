/-! words, and the tokens of a text -/
def pk (B : Nat) : List Nat → Nat
  | [] => 0
  | x :: w => pk B w * B + x
def gl (w : List Nat) : Prop := ∀ x, x ∈ w → 1 ≤ x ∧ x ≤ 26
def gw (w : List Nat) : Prop := gl w ∧ 1 ≤ w.length ∧ w.length ≤ 7
theorem gl_tl {x : Nat} {w : List Nat} (h : gl (x :: w)) : gl w := fun y hy => h y (List.mem_cons_of_mem x hy)
theorem gl_hd {x : Nat} {w : List Nat} (h : gl (x :: w)) : 1 ≤ x ∧ x ≤ 26 := h x (List.mem_cons_self ..)
theorem wpk_lt (B : Nat) (hB : 27 ≤ B) : ∀ w, gl w → pk B w < B ^ w.length := by
  intro w
  induction w with
  | nil => intro _; exact Nat.one_pos
  | cons x w ih =>
    intro h
    have h1 := ih (gl_tl h)
    have h2 := gl_hd h
    show pk B w * B + x < B ^ (w.length + 1)
    rw [Nat.pow_succ]
    have : (pk B w + 1) * B ≤ B ^ w.length * B := Nat.mul_le_mul_right B h1
    rw [Nat.add_mul] at this
    omega
theorem pk_inj (B : Nat) (hB : 27 ≤ B) : ∀ w w', gl w → gl w' → pk B w = pk B w' → w = w' := by
  intro w
  induction w with
  | nil =>
    intro w' _ h' e
    cases w' with
    | nil => rfl
    | cons y v =>
      have := gl_hd h'
      have e : 0 = pk B v * B + y := e
      omega
  | cons x w ih =>
    intro w' h h' e
    cases w' with
    | nil =>
      have := gl_hd h
      have e : pk B w * B + x = 0 := e
      omega
    | cons y v =>
      have h1 := gl_hd h
      have h2 := gl_hd h'
      have e : pk B w * B + x = pk B v * B + y := e
      have e1 := congrArg (· % B) e
      simp only [Nat.mul_add_mod', Nat.mod_eq_of_lt (by omega : x < B), Nat.mod_eq_of_lt (by omega : y < B)] at e1
      subst e1
      have e2 := Nat.eq_of_mul_eq_mul_right (by omega : 0 < B) (Nat.add_right_cancel e)
      rw [ih v (gl_tl h) (gl_tl h') e2]
theorem zL_toInt (a : Nat) (h : a < 9223372036854775808) : (Int64.ofNat a).toInt = a := Int64.toInt_ofNat_of_lt h
theorem zL_eq (a b : Nat) (ha : a < 9223372036854775808) (hb : b < 9223372036854775808) : (Int64.ofNat a = Int64.ofNat b) = (a = b) := by
  apply propext
  constructor
  · intro h
    have h := congrArg Int64.toInt h
    rw [zL_toInt a ha, zL_toInt b hb] at h
    exact Int.ofNat.inj h
  · intro h; rw [h]
theorem pk_big (B : Nat) (hB : 27 ≤ B) (hB2 : B ≤ 32) (w : List Nat) (h : gw w) : pk B w < 34359738368 := by
  have h1 := wpk_lt B hB w h.1
  have h2 : B ^ w.length ≤ 32 ^ w.length := Nat.pow_le_pow_left hB2 _
  have h3 : 32 ^ w.length ≤ 32 ^ 7 := Nat.pow_le_pow_right (by omega) h.2.2
  have h4 : (32 : Nat) ^ 7 = 34359738368 := by decide
  omega
theorem pkq (B : Nat) (hB : 27 ≤ B) (hB2 : B ≤ 32) (w w' : List Nat) (h : gw w) (h' : gw w') : (Int64.ofNat (pk B w) = Int64.ofNat (pk B w')) = (w = w') := by
  have b1 := pk_big B hB hB2 w h
  have b2 := pk_big B hB hB2 w' h'
  rw [zL_eq _ _ (by omega) (by omega)]
  apply propext
  exact ⟨fun e => pk_inj B hB w w' h.1 h'.1 e, fun e => by rw [e]⟩
/-- the words that have a meaning, their letters from the last -/
def kws : List (List Nat) := [[11, 15, 15, 2], [18, 5, 20, 6, 1], [18, 5, 4, 1, 5, 18], [5, 14, 9, 6], [19, 4, 14, 5, 12], [19, 14, 18, 21, 20, 5, 18], [19, 12, 12, 5, 20], [5, 7, 18, 15, 6], [4, 14, 5, 13], [14, 18, 21, 2], [25, 21, 2], [25, 1, 4], [18, 15], [4, 14, 1], [20, 15, 14], [5, 12, 4, 9], [4, 5, 14, 9, 6], [5, 14, 15, 4], [19, 1, 8], [4, 1, 5, 18], [5, 3, 1, 16], [20, 6, 5, 12], [19, 5, 23, 15], [18, 5, 2, 13, 21, 14]]
theorem kws_len : kws.length = 24 := rfl
theorem kws_good : ∀ w, w ∈ kws → gw w := by
  have h : (kws.all fun w => (w.all fun x => Nat.ble 1 x && Nat.ble x 26) && (Nat.ble 1 w.length && Nat.ble w.length 7)) = true := by decide +kernel
  intro w hw
  have h1 := List.all_eq_true.mp h w hw
  obtain ⟨h2, h3⟩ := and_f h1
  obtain ⟨h4, h5⟩ := and_f h3
  refine ⟨fun x hx => ?_, Nat.le_of_ble_eq_true h4, Nat.le_of_ble_eq_true h5⟩
  obtain ⟨h6, h7⟩ := and_f (List.all_eq_true.mp h2 x hx)
  exact ⟨Nat.le_of_ble_eq_true h6, Nat.le_of_ble_eq_true h7⟩
theorem kws_32 : am_pk = kws.map (fun w => Int64.ofNat (pk 32 w)) := by decide +kernel
def kfind (w : List Nat) : List (List Nat) → Nat → Nat
  | [], _ => 0
  | v :: t, i => if v = w then i else kfind w t (i + 1)
/-- 0: none; k + 1: the word k -/
def kwi (w : List Nat) : Nat := kfind w kws 1
theorem am_find_k (w : List Nat) (hw : gw w) : ∀ (l : List (List Nat)) (i : Nat), (∀ v, v ∈ l → gw v) → am_find (Int64.ofNat (pk 32 w)) (l.map (fun w => Int64.ofNat (pk 32 w))) i = kfind w l i := by
  intro l
  induction l with
  | nil => intro i _; rfl
  | cons v t ih =>
    intro i h
    show (bif decide (Int64.ofNat (pk 32 v) = Int64.ofNat (pk 32 w)) then i else am_find _ (t.map _) (i + 1)) = if v = w then i else kfind w t (i + 1)
    rw [decide_eq_decide.mpr (by rw [pkq 32 (by omega) (by omega) v w (h v (List.mem_cons_self ..)) hw]), ih (i + 1) (fun v hv => h v (List.mem_cons_of_mem _ hv))]
    by_cases e : v = w
    · rw [decide_eq_true e, if_pos e]; rfl
    · rw [decide_eq_false e, if_neg e]; rfl
theorem wordOf_k (w : List Nat) (hw : gw w) : am_wordOf (Int64.ofNat (pk 32 w)) = kwi w := by
  unfold am_wordOf kwi
  rw [kws_32]
  exact am_find_k w hw kws 1 kws_good
theorem kfind_r (w : List Nat) : ∀ (l : List (List Nat)) (i : Nat), kfind w l i = 0 ∨ (i ≤ kfind w l i ∧ kfind w l i < i + l.length) := by
  intro l
  induction l with
  | nil => intro i; exact Or.inl rfl
  | cons v t ih =>
    intro i
    show (if v = w then i else kfind w t (i + 1)) = 0 ∨ (i ≤ (if v = w then i else kfind w t (i + 1)) ∧ (if v = w then i else kfind w t (i + 1)) < i + (t.length + 1))
    by_cases e : v = w
    · rw [if_pos e]; right; omega
    · rw [if_neg e]
      rcases ih (i + 1) with h | h
      · exact Or.inl h
      · right; omega
theorem kwi_lt (w : List Nat) : kwi w < 25 := by
  rcases kfind_r w kws 1 with h | h
  · unfold kwi; omega
  · rw [kws_len] at h; unfold kwi; omega
theorem kwi_iff (w : List Nat) (k : Nat) (hk : k < 24) : (kwi w = k + 1) = (w = kws.getD k []) := by
  have hnd : (List.range 24).all (fun k => Nat.beq (kwi (kws.getD k [])) (k + 1)) = true := by decide +kernel
  have h1 : kwi (kws.getD k []) = k + 1 := Nat.eq_of_beq_eq_true (List.all_eq_true.mp hnd k (List.mem_range.mpr hk))
  apply propext
  constructor
  · intro h
    have gen : ∀ (l : List (List Nat)) (i : Nat), 1 ≤ i → kfind w l i ≠ 0 → l.getD (kfind w l i - i) [] = w := by
      intro l
      induction l with
      | nil => intro i _ h; exact absurd rfl h
      | cons v t ih =>
        intro i hi h
        have hd : kfind w (v :: t) i = if v = w then i else kfind w t (i + 1) := rfl
        by_cases e : v = w
        · rw [hd, if_pos e, Nat.sub_self]; exact e
        · rw [hd, if_neg e] at h ⊢
          rcases kfind_r w t (i + 1) with q | q
          · exact absurd q h
          · have := ih (i + 1) (by omega) h
            rw [show kfind w t (i + 1) - i = (kfind w t (i + 1) - (i + 1)) + 1 by omega]
            exact this
    have := gen kws 1 (by omega) (by unfold kwi at h; omega)
    unfold kwi at h
    rw [h, Nat.add_sub_cancel] at this
    exact this.symm
  · intro h; rw [h]; exact h1
theorem kws_g (k : Nat) (hk : k < 24) : gw (kws.getD k []) := by
  have : kws.getD k [] ∈ kws := by
    rw [List.getD_eq_getElem?_getD, List.getElem?_eq_getElem (by rw [kws_len]; exact hk)]
    exact List.getElem_mem _
  exact kws_good _ this
def isl (x : Nat) : Bool := decide (97 ≤ x) && decide (x ≤ 122)
def isd (x : Nat) : Bool := decide (48 ≤ x) && decide (x ≤ 57)
def isa (x : Nat) : Bool := isl x || isd x
def isb (x : Nat) : Bool := decide (x = 32) || decide (x = 10)
def iss (x : Nat) : Bool := decide (x = 59) || (decide (x = 60) || (decide (x = 61) || (decide (x = 62) || (decide (x = 40) || decide (x = 41)))))
theorem isl_iff (x : Nat) : isl x = true ↔ 97 ≤ x ∧ x ≤ 122 := by unfold isl; rw [Bool.and_eq_true, decide_eq_true_iff, decide_eq_true_iff]
theorem isd_iff (x : Nat) : isd x = true ↔ 48 ≤ x ∧ x ≤ 57 := by unfold isd; rw [Bool.and_eq_true, decide_eq_true_iff, decide_eq_true_iff]
theorem iss_iff (x : Nat) : iss x = true ↔ (x = 59 ∨ x = 60 ∨ x = 61 ∨ x = 62 ∨ x = 40 ∨ x = 41) := by unfold iss; simp only [Bool.or_eq_true, decide_eq_true_iff]
theorem isl_ndg {x : Nat} (h : isl x = true) : isd x = false := by
  cases e : isd x with
  | false => rfl
  | true => have := (isl_iff x).mp h; have := (isd_iff x).mp e; omega
def skp (c : Nat → Nat) : Nat → Nat → Nat
  | 0, p => p
  | f + 1, p => bif isb (c p) then skp c f (p + 1) else p
/-- how long a run of letters and digits is -/
def rnl (c : Nat → Nat) : Nat → Nat → Nat
  | 0, _ => 0
  | f + 1, p => bif isa (c p) then rnl c f (p + 1) + 1 else 0
def ltr (c : Nat → Nat) (a : Nat) : Nat → List Nat
  | 0 => []
  | i + 1 => (c (a + i) - 96) :: ltr c a i
def nmv (c : Nat → Nat) (a : Nat) : Nat → Nat
  | 0 => 0
  | i + 1 => nmv c a i * 10 + (c (a + i) - 48)
def nlt (c : Nat → Nat) (a : Nat) : Nat → Nat
  | 0 => 0
  | i + 1 => nlt c a i + (if isl (c (a + i)) then 1 else 0)
def ndg (c : Nat → Nat) (a : Nat) : Nat → Nat
  | 0 => 0
  | i + 1 => ndg c a i + (if isl (c (a + i)) then 0 else 1)
theorem nlt_ndg (c : Nat → Nat) (a i : Nat) : nlt c a i + ndg c a i = i := by
  induction i with
  | zero => rfl
  | succ i ih =>
    show nlt c a i + (if isl (c (a + i)) then 1 else 0) + (ndg c a i + (if isl (c (a + i)) then 0 else 1)) = i + 1
    cases isl (c (a + i)) <;> simp <;> omega
/-- kind (0 the end, 1 none, 2 a word, 3 a number, 4 a sign), letters, number or sign -/
abbrev Tk : Type := Nat × List Nat × Nat
/-- a token, where it begins, what comes behind it -/
abbrev Cu : Type := Tk × Nat × Nat
def tkr (c : Nat → Nat) (a i : Nat) : Tk := if ndg c a i = 0 ∧ nlt c a i ≤ 7 then (2, ltr c a i, 0) else if nlt c a i = 0 ∧ ndg c a i ≤ 3 then (3, [], nmv c a i) else (1, [], 0)
def lxq (c : Nat → Nat) (z lim q : Nat) : Cu := if z ≤ q ∨ lim ≤ q then ((if z ≤ lim then 0 else 1, [], 0), min z lim, q) else if isa (c q) = true then (tkr c q (rnl c (z - q) q), q, q + rnl c (z - q) q) else ((if iss (c q) = true then 4 else 1, [], c q), q, q + 1)
def lx (c : Nat → Nat) (z lim p : Nat) : Cu := lxq c z lim (skp c (z - p) p)
theorem skp_ge (c : Nat → Nat) : ∀ f p, p ≤ skp c f p ∧ skp c f p ≤ p + f := by
  intro f
  induction f with
  | zero => intro p; exact ⟨Nat.le_refl _, Nat.le_refl _⟩
  | succ f ih =>
    intro p
    show p ≤ (bif isb (c p) then skp c f (p + 1) else p) ∧ (bif isb (c p) then skp c f (p + 1) else p) ≤ p + (f + 1)
    have := ih (p + 1)
    cases isb (c p)
    · exact ⟨Nat.le_refl _, by show p ≤ _; omega⟩
    · show p ≤ skp c f (p + 1) ∧ skp c f (p + 1) ≤ p + (f + 1); omega
theorem rnl_le (c : Nat → Nat) : ∀ f p, rnl c f p ≤ f := by
  intro f
  induction f with
  | zero => intro p; exact Nat.le_refl _
  | succ f ih =>
    intro p
    show (bif isa (c p) then rnl c f (p + 1) + 1 else 0) ≤ f + 1
    have := ih (p + 1)
    cases isa (c p)
    · show 0 ≤ f + 1; omega
    · show rnl c f (p + 1) + 1 ≤ f + 1; omega
theorem rnl_all (c : Nat → Nat) : ∀ f p j, j < rnl c f p → isa (c (p + j)) = true := by
  intro f
  induction f with
  | zero => intro p j h; exact absurd h (Nat.not_lt_zero _)
  | succ f ih =>
    intro p j h
    cases e : isa (c p) with
    | false =>
      have : rnl c (f + 1) p = 0 := by show (bif isa (c p) then _ else 0) = 0; rw [e]; rfl
      omega
    | true =>
      have h2 : rnl c (f + 1) p = rnl c f (p + 1) + 1 := by show (bif isa (c p) then rnl c f (p + 1) + 1 else 0) = _; rw [e]; rfl
      cases j with
      | zero => exact e
      | succ j =>
        have := ih (p + 1) j (by omega)
        rw [show p + (j + 1) = p + 1 + j by omega]; exact this
theorem nd0 (c : Nat → Nat) (a : Nat) : ∀ i, ndg c a i = 0 → ∀ j, j < i → isl (c (a + j)) = true := by
  intro i
  induction i with
  | zero => intro _ j hj; exact absurd hj (Nat.not_lt_zero _)
  | succ i ih =>
    intro h j hj
    have h : ndg c a i + (if isl (c (a + i)) then 0 else 1) = 0 := h
    by_cases e : j = i
    · subst e
      cases q : isl (c (a + j)) with
      | true => rfl
      | false => rw [q] at h; simp at h
    · exact ih (by omega) j (by omega)
theorem ltr_g (c : Nat → Nat) (a : Nat) : ∀ i, (∀ j, j < i → isl (c (a + j)) = true) → gl (ltr c a i) := by
  intro i
  induction i with
  | zero => intro _ x hx; cases hx
  | succ i ih =>
    intro h x hx
    rcases List.mem_cons.mp hx with e | e
    · have := (isl_iff _).mp (h i (by omega)); omega
    · exact ih (fun j hj => h j (by omega)) x e
theorem ltr_len (c : Nat → Nat) (a : Nat) : ∀ i, (ltr c a i).length = i := by
  intro i
  induction i with
  | zero => rfl
  | succ i ih => show (ltr c a i).length + 1 = i + 1; rw [ih]
/-- what is so of every token -/
theorem lxq_good (c : Nat → Nat) (z lim q : Nat) (hq : q ≤ z) : ((lxq c z lim q).1.1 = 2 → gw (lxq c z lim q).1.2.1) ∧ ((lxq c z lim q).1.1 = 3 → (lxq c z lim q).1.2.2 ≤ 999) ∧ ((lxq c z lim q).1.1 = 4 → iss (lxq c z lim q).1.2.2 = true) ∧ (lxq c z lim q).1.1 ≤ 4 ∧ (lxq c z lim q).2.1 ≤ lim ∧ (lxq c z lim q).2.2 ≤ z ∧ (2 ≤ (lxq c z lim q).1.1 → (lxq c z lim q).2.1 < lim ∧ (lxq c z lim q).2.1 = q ∧ q < (lxq c z lim q).2.2) ∧ q ≤ (lxq c z lim q).2.2 ∧ min q lim ≤ (lxq c z lim q).2.1 := by
  unfold lxq
  by_cases h : z ≤ q ∨ lim ≤ q
  · rw [if_pos h]
    by_cases h2 : z ≤ lim
    · simp only [if_pos h2]; refine ⟨?_, ?_, ?_, ?_, ?_, ?_, ?_, ?_, ?_⟩ <;> first | trivial | omega | (intro _; omega) | (intro _; refine ⟨?_, ?_, ?_⟩ <;> first | trivial | omega) | (refine ⟨?_, ?_⟩ <;> omega) | (intro _; refine ⟨?_, ?_⟩ <;> omega)
    · simp only [if_neg h2]; refine ⟨?_, ?_, ?_, ?_, ?_, ?_, ?_, ?_, ?_⟩ <;> first | trivial | omega | (intro _; omega) | (intro _; refine ⟨?_, ?_, ?_⟩ <;> first | trivial | omega) | (refine ⟨?_, ?_⟩ <;> omega) | (intro _; refine ⟨?_, ?_⟩ <;> omega)
  · rw [if_neg h]
    by_cases ha : isa (c q) = true
    · rw [if_pos ha]
      have hr := rnl_le c (z - q) q
      have hr1 : 1 ≤ rnl c (z - q) q := by
        obtain ⟨f, hf⟩ : ∃ f, z - q = f + 1 := ⟨z - q - 1, by omega⟩
        rw [hf]
        show 1 ≤ (bif isa (c q) then rnl c f (q + 1) + 1 else 0)
        rw [ha]; show 1 ≤ rnl c f (q + 1) + 1; omega
      have hall := rnl_all c (z - q) q
      generalize rnl c (z - q) q = i at hr hr1 hall
      have hnn := nlt_ndg c q i
      unfold tkr
      by_cases h1 : ndg c q i = 0 ∧ nlt c q i ≤ 7
      · simp only [if_pos h1]
        have hg := ltr_g c q i (nd0 c q i h1.1)
        have hl := ltr_len c q i
        refine ⟨fun _ => ⟨hg, by omega, by omega⟩, ?_, ?_, ?_, ?_, ?_, ?_, ?_, ?_⟩ <;> first | trivial | omega | (intro _; omega) | (intro _; refine ⟨?_, ?_, ?_⟩ <;> first | trivial | omega) | (refine ⟨?_, ?_⟩ <;> omega) | (intro _; refine ⟨?_, ?_⟩ <;> omega)
      · simp only [if_neg h1]
        by_cases h2 : nlt c q i = 0 ∧ ndg c q i ≤ 3
        · simp only [if_pos h2]
          have hnv : ∀ i, (∀ j, j < i → isa (c (q + j)) = true) → nlt c q i = 0 → nmv c q i < 10 ^ i := by
            intro i
            induction i with
            | zero => intro _ _; exact Nat.one_pos
            | succ i ih =>
              intro hall h
              have h : nlt c q i + (if isl (c (q + i)) then 1 else 0) = 0 := h
              have h0 := ih (fun j hj => hall j (by omega)) (by omega)
              have hi := hall i (by omega)
              show nmv c q i * 10 + (c (q + i) - 48) < 10 ^ (i + 1)
              rw [Nat.pow_succ]
              unfold isa at hi
              cases e : isl (c (q + i)) with
              | true => rw [e] at h; simp at h
              | false =>
                rw [e] at hi
                have := (isd_iff _).mp hi
                omega
          have h3 := hnv i hall h2.1
          have h4 : 10 ^ i ≤ 10 ^ 3 := Nat.pow_le_pow_right (by omega) (by omega)
          have h5 : (10 : Nat) ^ 3 = 1000 := by decide
          refine ⟨?_, fun _ => by omega, ?_, ?_, ?_, ?_, ?_, ?_, ?_⟩ <;> first | trivial | omega | (intro _; omega) | (intro _; refine ⟨?_, ?_, ?_⟩ <;> first | trivial | omega) | (refine ⟨?_, ?_⟩ <;> omega) | (intro _; refine ⟨?_, ?_⟩ <;> omega)
        · simp only [if_neg h2]
          refine ⟨?_, ?_, ?_, ?_, ?_, ?_, ?_, ?_, ?_⟩ <;> first | trivial | omega | (intro _; omega) | (intro _; refine ⟨?_, ?_, ?_⟩ <;> first | trivial | omega) | (refine ⟨?_, ?_⟩ <;> omega) | (intro _; refine ⟨?_, ?_⟩ <;> omega)
    · rw [if_neg ha]
      by_cases h1 : iss (c q) = true
      · simp only [if_pos h1]
        refine ⟨?_, ?_, fun _ => h1, ?_, ?_, ?_, ?_, ?_, ?_⟩ <;> first | trivial | omega | (intro _; omega) | (intro _; refine ⟨?_, ?_, ?_⟩ <;> first | trivial | omega) | (refine ⟨?_, ?_⟩ <;> omega) | (intro _; refine ⟨?_, ?_⟩ <;> omega)
      · simp only [if_neg h1]
        refine ⟨?_, ?_, ?_, ?_, ?_, ?_, ?_, ?_, ?_⟩ <;> first | trivial | omega | (intro _; omega) | (intro _; refine ⟨?_, ?_, ?_⟩ <;> first | trivial | omega) | (refine ⟨?_, ?_⟩ <;> omega) | (intro _; refine ⟨?_, ?_⟩ <;> omega)
theorem lx_good (c : Nat → Nat) (z lim p : Nat) (hp : p ≤ z) : ((lx c z lim p).1.1 = 2 → gw (lx c z lim p).1.2.1) ∧ ((lx c z lim p).1.1 = 3 → (lx c z lim p).1.2.2 ≤ 999) ∧ ((lx c z lim p).1.1 = 4 → iss (lx c z lim p).1.2.2 = true) ∧ (lx c z lim p).1.1 ≤ 4 ∧ (lx c z lim p).2.1 ≤ lim ∧ (lx c z lim p).2.2 ≤ z ∧ (2 ≤ (lx c z lim p).1.1 → (lx c z lim p).2.1 < lim ∧ p ≤ (lx c z lim p).2.1 ∧ (lx c z lim p).2.1 < (lx c z lim p).2.2) ∧ p ≤ (lx c z lim p).2.2 ∧ min p lim ≤ (lx c z lim p).2.1 := by
  unfold lx
  have hs := skp_ge c (z - p) p
  obtain ⟨g1, g2, g3, g4, g5, g6, g7, g8, g9⟩ := lxq_good c z lim (skp c (z - p) p) (by omega)
  refine ⟨g1, g2, g3, g4, g5, g6, fun h => ?_, by omega, by omega⟩
  obtain ⟨a1, a2, a3⟩ := g7 h
  exact ⟨a1, by omega, by omega⟩
