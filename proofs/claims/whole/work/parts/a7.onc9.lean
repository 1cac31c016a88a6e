/-! AT ONCE: lendFrom of the reference -/
def GR (r : Nat) (I I' : Nat → Nat → Int32) : Prop := (∀ q, q ≠ 156 → q ≠ 171 → q ≠ 172 → q ≠ 173 → I' q = I q) ∧ (∀ j, j ≠ 37 → I' 156 j = I 156 j) ∧ (∀ b, I' 173 b = I 173 b) ∧ ∀ q, q < r → I' 171 q = I 171 q
def AR (k r mm Lo : Nat) (X : Nat × (Nat → Int32)) (I I' : Nat → Nat → Int32) : Prop := (mm + X.1 < Lo ∧ I' 156 37 = I 156 37 ∧ ∀ q, q < k → I' 172 q = I 172 q) ∨ (Lo ≤ mm + X.1 ∧ I' 156 37 = Int32.ofNat (mm + X.1) ∧ ∀ q, q < k → I' 172 q = if q < r then I 171 q else X.2 q)
theorem GR_refl (r : Nat) (I : Nat → Nat → Int32) : GR r I I := ⟨fun _ _ _ _ _ => rfl, fun _ _ => rfl, fun _ => rfl, fun _ _ => rfl⟩
theorem GR_tr {r : Nat} {I I1 I2 : Nat → Nat → Int32} (h1 : GR r I I1) (h2 : GR r I1 I2) : GR r I I2 := ⟨fun q a b c e => (h2.1 q a b c e).trans (h1.1 q a b c e), fun j a => (h2.2.1 j a).trans (h1.2.1 j a), fun b => (h2.2.2.1 b).trans (h1.2.2.1 b), fun q a => (h2.2.2.2 q a).trans (h1.2.2.2 q a)⟩
theorem GR_mono {r : Nat} {I I1 : Nat → Nat → Int32} (h1 : GR (r + 1) I I1) : GR r I I1 := ⟨h1.1, h1.2.1, h1.2.2.1, fun q a => h1.2.2.2 q (by omega)⟩
theorem ao_cm2 : ∀ g, g < 8 → ∀ t, t < 8 → decide (Int32.ofNat g - 1 < Int32.ofNat t) = decide (g ≤ t) := by decide
theorem m_lent35 (env : am_E) (d : Nat) (x1 x2 : Int32) (J : Nat → Nat → Int64) (E : Nat → Nat → Nat) : ∀ i x I, x + i = 6 → ∃ I', am_ev env (d + 1, 260, 35, [some (.ref 156), some (.int x1), some (.int x2), some (.int (Int32.ofNat x))], [], am_hp I J E) = some (true, none, am_hp I' J E) ∧ (∀ q, q ≠ 172 → I' q = I q) ∧ ∀ y, y < 6 → I' 172 y = if y < x then I 172 y else I 171 y := by
  intro i
  induction i with
  | zero =>
    intro x I hx
    have hx : x = 6 := hx
    refine ⟨I, (bk_260_35 _ _ _ _ _ _ _ _).trans ?_, fun _ _ => rfl, fun y hy => by rw [if_pos (by omega)]⟩
    rw [show decide ((6 : Int32) ≤ Int32.ofNat x) = true from zle_t 6 x (by omega) (by omega)]
    rfl
  | succ i ih =>
    intro x I hx
    have head := bk_260_35 env d x1 x2 (Int32.ofNat x) I J E
    rw [show decide ((6 : Int32) ≤ Int32.ofNat x) = false from zle_f 6 x (by omega) (by omega), zI_in x 6 (by omega) (by omega), zI_nat x (by omega), zd_1] at head
    simp only [decide_true, decide_false, Bool.not_true, Bool.not_false, am_cont, Option.bind_some, Option.toList_some, Option.toList_none, List.singleton_append, List.nil_append, cond_true, cond_false] at head
    obtain ⟨I', h1, h2, h3⟩ := ih (x + 1) (am_u I 172 x (I 171 x)) (by omega)
    refine ⟨I', head.trans h1, fun q hq => (h2 q hq).trans (am_u_nr _ _ _ _ _ hq), fun y hy => ?_⟩
    rw [h3 y hy, am_u_sg, am_u_nr _ _ _ _ 171 (by omega)]
    by_cases e : y = x
    · rw [if_pos (by omega), if_pos e, if_neg (by omega), e]
    · by_cases e2 : y < x
      · rw [if_pos (by omega), if_neg e, if_pos e2]
      · rw [if_neg (by omega), if_neg e2]
/-- what is found behind BOOKS below b -/
def LB (k r mm Lo Lo1 : Nat) (W : Nat → Nat → Bool) (n j : Nat) (c : Nat → Nat) (b : Nat) (I I1 : Nat → Nat → Int32) : Prop := (Lo1 = Lo ∧ (∀ x, x < b → (W r x && decide (0 < c x)) = true → mm + 1 + (ao_R W n j (r + 1) (dec1 c x)).1 < Lo) ∧ I1 156 37 = I 156 37 ∧ ∀ q, q < k → I1 172 q = I 172 q) ∨ ∃ b0, Lo1 = mm + 1 + (ao_R W n j (r + 1) (dec1 c b0)).1 + 1 ∧ b0 < b ∧ (W r b0 && decide (0 < c b0)) = true ∧ Lo ≤ mm + 1 + (ao_R W n j (r + 1) (dec1 c b0)).1 ∧ I1 156 37 = Int32.ofNat (mm + 1 + (ao_R W n j (r + 1) (dec1 c b0)).1) ∧ (∀ q, q < k → I1 172 q = if q < r then I 171 q else ao_set (ao_R W n j (r + 1) (dec1 c b0)).2 r (Int32.ofNat b0) q) ∧ (∀ x, x < b → (W r x && decide (0 < c x)) = true → (ao_R W n j (r + 1) (dec1 c x)).1 ≤ (ao_R W n j (r + 1) (dec1 c b0)).1) ∧ ∀ x, x < b0 → (W r x && decide (0 < c x)) = true → (ao_R W n j (r + 1) (dec1 c x)).1 < (ao_R W n j (r + 1) (dec1 c b0)).1
theorem LB_skip {k r mm Lo Lo1 : Nat} {W : Nat → Nat → Bool} {n j : Nat} {c : Nat → Nat} {b : Nat} {I I1 : Nat → Nat → Int32} (h : LB k r mm Lo Lo1 W n j c b I I1) (hP : (W r b && decide (0 < c b)) = false) : LB k r mm Lo Lo1 W n j c (b + 1) I I1 := by
  have hx : ∀ x, x < b + 1 → (W r x && decide (0 < c x)) = true → x < b := fun x h1 h2 => by
    by_cases e : x = b
    · subst e; rw [hP] at h2; exact absurd h2 (by decide)
    · omega
  rcases h with ⟨h0, h1, h2⟩ | ⟨b0, g0, g1, g2, g3, g4, g5, g6, g7⟩
  · exact Or.inl ⟨h0, fun x a p => h1 x (hx x a p) p, h2⟩
  · exact Or.inr ⟨b0, g0, by omega, g2, g3, g4, g5, fun x a p => g6 x (hx x a p) p, g7⟩
/-- the rows in front of r and the one of r -/
theorem AR_row {r : Nat} {I I1 I2 : Nat → Nat → Int32} {v : Int32} {g : Nat → Int32} (e1 : ∀ q, q < r → I1 171 q = I 171 q) (e2 : I1 171 r = v) (q : Nat) (h : I2 172 q = if q < r + 1 then I1 171 q else g q) : I2 172 q = if q < r then I 171 q else ao_set g r v q := by
  rw [h]
  by_cases a : q < r
  · rw [if_pos (by omega), if_pos a, e1 q a]
  · rw [if_neg a]
    by_cases b : q = r
    · rw [if_pos (by omega), b, e2, ao_set_at]
    · rw [if_neg (by omega), ao_set_ne _ _ _ _ b]
theorem LB_step {k r mm Lo Lo1 : Nat} {W : Nat → Nat → Bool} {n j : Nat} {c : Nat → Nat} {b : Nat} {I I1 I2 I3 : Nat → Nat → Int32} (h : LB k r mm Lo Lo1 W n j c b I I1) (hP : (W r b && decide (0 < c b)) = true) (e37 : I2 156 37 = I1 156 37) (e172 : I2 172 = I1 172) (e171 : ∀ q, q < r → I2 171 q = I 171 q) (er : I2 171 r = Int32.ofNat b) (hA : AR k (r + 1) (mm + 1) Lo1 (ao_R W n j (r + 1) (dec1 c b)) I2 I3) (h37 : I1 156 37 = Int32.ofNat Lo1 - 1) (hL : Lo1 ≤ 7) (hm : mm + 1 + j ≤ 6) : ∃ Lo2, LB k r mm Lo Lo2 W n j c (b + 1) I I3 ∧ Lo2 ≤ 7 ∧ I3 156 37 = Int32.ofNat Lo2 - 1 := by
  have hx : ∀ x, x < b + 1 → x = b ∨ x < b := fun x a => by omega
  have hg := ao_R_le W n j (r + 1) (dec1 c b)
  have sub : ∀ t, Int32.ofNat t = Int32.ofNat (t + 1) - 1 := fun t => (zI_sub (t + 1) 1 (by omega)).symm
  rcases h with ⟨h0, h1, h2, h3⟩ | ⟨b0, g0, g1, g2, g3, g4, g5, g6, g7⟩
  · rcases hA with ⟨a1, a2, a3⟩ | ⟨a1, a2, a3⟩
    · refine ⟨Lo1, Or.inl ⟨h0, fun x a p => ?_, a2.trans (e37.trans h2), fun q hq => ?_⟩, hL, a2.trans (e37.trans h37)⟩
      · rcases hx x a with e | e
        · subst e; omega
        · exact h1 x e p
      · rw [a3 q hq, e172]; exact h3 q hq
    · refine ⟨mm + 1 + (ao_R W n j (r + 1) (dec1 c b)).1 + 1, Or.inr ⟨b, rfl, by omega, hP, by omega, a2, fun q hq => AR_row e171 er q (a3 q hq), fun x a p => ?_, fun x a p => ?_⟩, by omega, a2.trans (sub _)⟩
      · rcases hx x a with e | e
        · subst e; exact Nat.le_refl _
        · have := h1 x e p
          omega
      · have := h1 x a p
        omega
  · rcases hA with ⟨a1, a2, a3⟩ | ⟨a1, a2, a3⟩
    · refine ⟨Lo1, Or.inr ⟨b0, g0, by omega, g2, g3, (a2.trans (e37.trans g4)), fun q hq => ?_, fun x a p => ?_, g7⟩, hL, a2.trans (e37.trans h37)⟩
      · rw [a3 q hq, e172]; exact g5 q hq
      · rcases hx x a with e | e
        · subst e; omega
        · exact g6 x e p
    · refine ⟨mm + 1 + (ao_R W n j (r + 1) (dec1 c b)).1 + 1, Or.inr ⟨b, rfl, by omega, hP, by omega, a2, fun q hq => AR_row e171 er q (a3 q hq), fun x a p => ?_, fun x a p => ?_⟩, by omega, a2.trans (sub _)⟩
      · rcases hx x a with e | e
        · subst e; exact Nat.le_refl _
        · have := g6 x e p
          omega
      · have := g6 x a p
        omega
theorem LB_end {k r mm Lo Lo1 : Nat} {W : Nat → Nat → Bool} {n j : Nat} {c : Nat → Nat} {I I1 I2 I3 : Nat → Nat → Int32} (h : LB k r mm Lo Lo1 W n j c n I I1) (e37 : I2 156 37 = I1 156 37) (e172 : I2 172 = I1 172) (e171 : ∀ q, q < r → I2 171 q = I 171 q) (er : I2 171 r = -1) (hA : AR k (r + 1) mm Lo1 (ao_R W n j (r + 1) c) I2 I3) : AR k r mm Lo (ao_R W n (j + 1) r c) I I3 := by
  obtain ⟨⟨p1, p2⟩, p3⟩ := ao_pick (fun b => ao_R W n j (r + 1) (dec1 c b)) (fun b => W r b && decide (0 < c b)) r n (ao_R W n j (r + 1) c) (ao_R W n (j + 1) r c) rfl
  generalize ao_R W n (j + 1) r c = X at p1 p2 p3
  have p2 : ∀ b, b < n → (W r b && decide (0 < c b)) = true → (ao_R W n j (r + 1) (dec1 c b)).1 + 1 ≤ X.1 := p2
  rcases h with ⟨h0, h1, h2, h3⟩ | ⟨b0, g0, g1, g2, g3, g4, g5, g6, g7⟩
  · have hle : X.1 = (ao_R W n j (r + 1) c).1 ∨ mm + X.1 < Lo := by
      rcases p3 with ⟨b, q1, q2, q3, -⟩ | ⟨q1, -⟩
      · right
        have := h1 b q1 q2
        rw [q3]
        show mm + ((ao_R W n j (r + 1) (dec1 c b)).1 + 1) < Lo
        omega
      · left; rw [q1]
    rcases hA with ⟨a1, a2, a3⟩ | ⟨a1, a2, a3⟩
    · exact Or.inl ⟨by omega, a2.trans (e37.trans h2), fun q hq => by rw [a3 q hq, e172]; exact h3 q hq⟩
    · rcases p3 with ⟨b, q1, q2, q3, -⟩ | ⟨q1, -⟩
      · have e1 := h1 b q1 q2
        have e2 : X.1 = (ao_R W n j (r + 1) (dec1 c b)).1 + 1 := by rw [q3]
        omega
      · have e2 : X.1 = (ao_R W n j (r + 1) c).1 := by rw [q1]
        refine Or.inr ⟨by omega, by rw [e2]; exact a2, fun q hq => ?_⟩
        rw [q1]
        exact AR_row e171 er q (a3 q hq)
  · have e0 := p2 b0 g1 g2
    rcases hA with ⟨a1, a2, a3⟩ | ⟨a1, a2, a3⟩
    · rcases p3 with ⟨b, q1, q2, q3, q4⟩ | ⟨q1, q4⟩
      · have e2 : X.1 = (ao_R W n j (r + 1) (dec1 c b)).1 + 1 := by rw [q3]
        have e3 := g6 b q1 q2
        have e4 : b = b0 := by
          by_cases x1 : b < b0
          · have := g7 b x1 q2
            omega
          · by_cases x2 : b0 < b
            · have := q4 b0 x2 g2
              have this : (ao_R W n j (r + 1) (dec1 c b0)).1 + 1 < X.1 := this
              omega
            · omega
        subst e4
        refine Or.inr ⟨by omega, ?_, fun q hq => ?_⟩
        · rw [a2, e37, g4, e2, show mm + ((ao_R W n j (r + 1) (dec1 c b)).1 + 1) = mm + 1 + (ao_R W n j (r + 1) (dec1 c b)).1 by omega]
        · rw [a3 q hq, e172, g5 q hq, q3]
      · have e2 : X.1 = (ao_R W n j (r + 1) c).1 := by rw [q1]
        have e3 := q4 b0 g1 g2
        have e3 : (ao_R W n j (r + 1) (dec1 c b0)).1 + 1 < X.1 := e3
        omega
    · rcases p3 with ⟨b, q1, q2, q3, -⟩ | ⟨q1, -⟩
      · have e2 : X.1 = (ao_R W n j (r + 1) (dec1 c b)).1 + 1 := by rw [q3]
        have e3 := g6 b q1 q2
        omega
      · have e2 : X.1 = (ao_R W n j (r + 1) c).1 := by rw [q1]
        refine Or.inr ⟨by omega, by rw [e2]; exact a2, fun q hq => ?_⟩
        rw [q1]
        exact AR_row e171 er q (a3 q hq)
