/-! AT ONCE: leastFor of the class -/
def FL (I I' : Nat → Nat → Int32) : Prop := (∀ q, q ≠ 109 → q ≠ 112 → q ≠ 113 → q ≠ 114 → I' q = I q) ∧ ∀ j, j ≠ 6 → I' 109 j = I 109 j
theorem FL_refl (I : Nat → Nat → Int32) : FL I I := ⟨fun _ _ _ _ _ => rfl, fun _ _ => rfl⟩
theorem FL_tr {I I1 I2 : Nat → Nat → Int32} (h1 : FL I I1) (h2 : FL I1 I2) : FL I I2 := ⟨fun q a b c e => (h2.1 q a b c e).trans (h1.1 q a b c e), fun j a => (h2.2 j a).trans (h1.2 j a)⟩
theorem FL_u (I : Nat → Nat → Int32) (j : Nat) (v : Int32) : FL I (am_u I 112 j v) := ⟨fun q _ b _ _ => am_u_nr _ _ _ _ _ b, fun i _ => by rw [am_u_nr _ _ _ _ _ (by omega)]⟩
theorem FL_FS {I I' : Nat → Nat → Int32} (h : FS I I') : FL I I' := ⟨fun q a _ c e => h.1 q a c e, h.2⟩
theorem VB_set {I : Nat → Nat → Int32} {W : Nat → Nat → Bool} {c c' : Nat → Nat} {k : Nat} (h : VB I W c k) (b : Nat) (v : Nat) (hc : c' b = v) (hv : v ≤ 1000) (hne : ∀ x, x ≠ b → c' x = c x) : VB (am_u I 112 b (Int32.ofNat v)) W c' k := by
  obtain ⟨h1, h2, h3⟩ := h
  refine ⟨?_, ?_, fun x hx => ?_⟩
  · rw [am_u_nr _ _ _ _ _ (by omega)]; exact h1
  · rw [am_u_nr _ _ _ _ _ (by omega)]; exact h2
  · rw [am_u_sg]
    by_cases e : x = b
    · rw [if_pos e, e, hc]; exact ⟨fun _ => rfl, hv⟩
    · rw [if_neg e, hne x e]; exact h3 x hx
theorem ao_cmp : ∀ g, g < 7 → ∀ t, t < 7 → decide (Int32.ofNat g < Int32.ofNat t - 1) = decide (g + 1 < t) := by decide
theorem ao_R_le (W : Nat → Nat → Bool) (n : Nat) : ∀ j r c, (ao_R W n j r c).1 ≤ j := by
  intro j
  induction j with
  | zero => intro r c; exact Nat.le_refl _
  | succ j ih =>
    intro r c
    obtain ⟨-, h⟩ := ao_pick (fun b => ao_R W n j (r + 1) (dec1 c b)) (fun b => W r b && decide (0 < c b)) r n (ao_R W n j (r + 1) c) (ao_R W n (j + 1) r c) rfl
    rcases h with ⟨b, -, -, hx, -⟩ | ⟨hx, -⟩
    · rw [hx]
      have := ih (r + 1) (dec1 c b)
      show (ao_R W n j (r + 1) (dec1 c b)).1 + 1 ≤ j + 1
      omega
    · rw [hx]
      have := ih (r + 1) c
      show (ao_R W n j (r + 1) c).1 ≤ j + 1
      omega
theorem c_least (env : am_E) (d : Nat) (W : Nat → Nat → Bool) (c : Nat → Nat) (k r j n : Nat) (hk : k ≤ 6) (hn : n ≤ 8) (hr : r + (j + 1) = k) (hW : ∀ q b, W q b = true → b < n) (I : Nat → Nat → Int32) (J : Nat → Nat → Int64) (E : Nat → Nat → Nat) (hV : VB I W c k) : ∃ v I', am_ev env (d + 21, 3, 0, [some (.ref 109), some (.int (Int32.ofNat r)), some (.int (Int32.ofNat (ao_R W n (j + 1) r c).1 - 1)), none], [], am_hp I J E) = some (true, some (.int v), am_hp I' J E) ∧ FL I I' ∧ ((∃ b, b < 8 ∧ v = Int32.ofNat b ∧ VB I' W (dec1 c b) k ∧ ao_R W n (j + 1) r c = ((ao_R W n j (r + 1) (dec1 c b)).1 + 1, ao_set (ao_R W n j (r + 1) (dec1 c b)).2 r (Int32.ofNat b))) ∨ (v = -1 ∧ VB I' W c k ∧ ao_R W n (j + 1) r c = ((ao_R W n j (r + 1) c).1, ao_set (ao_R W n j (r + 1) c).2 r (-1)))) := by
  obtain ⟨⟨-, p2⟩, p3⟩ := ao_pick (fun b => ao_R W n j (r + 1) (dec1 c b)) (fun b => W r b && decide (0 < c b)) r n (ao_R W n j (r + 1) c) (ao_R W n (j + 1) r c) rfl
  have hX := ao_R_le W n (j + 1) r c
  generalize ao_R W n (j + 1) r c = X at p2 p3 hX
  have loop : ∀ i b I1, b + i = 8 → FL I I1 → VB I1 W c k → (∀ b', b' < b → (W r b' && decide (0 < c b')) = true → (ao_R W n j (r + 1) (dec1 c b')).1 + 1 < X.1) → ∃ v I', am_ev env (d + 21, 3, 2, [some (.ref 109), some (.int (Int32.ofNat r)), some (.int (Int32.ofNat X.1 - 1)), some (.int (Int32.ofNat b))], [], am_hp I1 J E) = some (true, some (.int v), am_hp I' J E) ∧ FL I I' ∧ ((∃ b, b < 8 ∧ v = Int32.ofNat b ∧ VB I' W (dec1 c b) k ∧ X = ((ao_R W n j (r + 1) (dec1 c b)).1 + 1, ao_set (ao_R W n j (r + 1) (dec1 c b)).2 r (Int32.ofNat b))) ∨ (v = -1 ∧ VB I' W c k ∧ X = ((ao_R W n j (r + 1) c).1, ao_set (ao_R W n j (r + 1) c).2 r (-1)))) := by
    intro i
    induction i with
    | zero =>
      intro b I1 hb hF hB hl
      have hb : b = 8 := hb
      refine ⟨-1, I1, (bk_3_2 _ _ _ _ _ _ _ _).trans ?_, hF, Or.inr ⟨rfl, hB, ?_⟩⟩
      · rw [show decide ((8 : Int32) ≤ Int32.ofNat b) = true from zle_t 8 b (by omega) (by omega)]
        rfl
      · rcases p3 with ⟨b0, g1, g2, g3, -⟩ | ⟨g1, -⟩
        · have h1 := hl b0 (by omega) g2
          rw [g3] at h1
          have h1 : (ao_R W n j (r + 1) (dec1 c b0)).1 + 1 < (ao_R W n j (r + 1) (dec1 c b0)).1 + 1 := h1
          omega
        · exact g1
    | succ i ih =>
      intro b I1 hb hF hB hl
      have head := bk_3_2 env (d + 20) (Int32.ofNat r) (Int32.ofNat X.1 - 1) (Int32.ofNat b) I1 J E
      have hi := c_isIn env (d + 19) (I1 111 r) b (by omega) I1 J E
      rw [hB.2.1 r (by omega) b (by omega)] at hi
      rw [show decide ((8 : Int32) ≤ Int32.ofNat b) = false from zle_f 8 b (by omega) (by omega), zI_in r 6 (by omega) (by omega), zI_nat r (by omega)] at head
      simp only [decide_true, decide_false, Bool.not_true, Bool.not_false, am_cont, Option.bind_some, Option.toList_some, Option.toList_none, List.singleton_append, List.nil_append, cond_true, cond_false, hi] at head
      have s18 := bk_3_18 env (d + 20) (Int32.ofNat r) (Int32.ofNat X.1 - 1) (Int32.ofNat b) (bi (W r b)) I1 J E
      rw [bi_eq0, zI_in b 8 (by omega) (by omega), zI_nat b (by omega)] at s18
      have skip : (W r b && decide (0 < c b)) = false → ∀ b', b' < b + 1 → (W r b' && decide (0 < c b')) = true → (ao_R W n j (r + 1) (dec1 c b')).1 + 1 < X.1 := fun hP b' h1 h2 => by
        by_cases e : b' = b
        · subst e; rw [hP] at h2; exact absurd h2 (by decide)
        · exact hl b' (by omega) h2
      cases hw : W r b with
      | false =>
        rw [hw] at s18 head
        simp only [decide_true, decide_false, Bool.not_true, Bool.not_false, am_cont, Option.bind_some, Option.toList_some, Option.toList_none, List.singleton_append, List.nil_append, cond_true, cond_false, bk_3_63, zd_1] at s18
        rw [head, s18]
        exact ih (b + 1) I1 (by omega) hF hB (skip (by rw [hw]; rfl))
      | true =>
        rw [hw] at s18 head
        have hcb := hB.2.2 b (by omega)
        have e112 := hcb.1 ⟨r, hw⟩
        rw [e112, show decide (Int32.ofNat (c b) ≤ 0) = decide (c b ≤ 0) from zle_d (c b) 0 (by omega) (by omega)] at s18
        by_cases h0 : c b ≤ 0
        · rw [decide_eq_true h0] at s18
          simp only [decide_true, decide_false, Bool.not_true, Bool.not_false, am_cont, Option.bind_some, Option.toList_some, Option.toList_none, List.singleton_append, List.nil_append, cond_true, cond_false, bk_3_63, zd_1] at s18
          rw [head, s18]
          exact ih (b + 1) I1 (by omega) hF hB (skip (by rw [hw, decide_eq_false (by omega)]; rfl))
        · rw [decide_eq_false h0, show Int32.ofNat (c b) - 1 = Int32.ofNat (c b - 1) from zI_sub (c b) 1 (by omega)] at s18
          have hP : (W r b && decide (0 < c b)) = true := by rw [hw, decide_eq_true (by omega)]; rfl
          have hB2 : VB (am_u I1 112 b (Int32.ofNat (c b - 1))) W (dec1 c b) k := VB_set hB b (c b - 1) (if_pos rfl) (by omega) (fun x hx => if_neg hx)
          have hF2 : FL I (am_u I1 112 b (Int32.ofNat (c b - 1))) := FL_tr hF (FL_u _ _ _)
          have hbk : am_u I1 112 b (Int32.ofNat (c b - 1)) 112 b = Int32.ofNat (c b - 1) := am_u_at _ _ _ _
          generalize am_u I1 112 b (Int32.ofNat (c b - 1)) = I2 at s18 hB2 hF2 hbk
          obtain ⟨I3, m1, m2⟩ := c_most env d W (dec1 c b) k (r + 1) n hk hn (by omega) hW I2 J E hB2
          rw [show k - (r + 1) = j by omega] at m1
          have hB3 := VB_FS hB2 m2
          have hF3 := FL_tr hF2 (FL_FS m2)
          have hbk3 : I3 112 b = Int32.ofNat (c b - 1) := by rw [m2.1 112 (by omega) (by omega) (by omega)]; exact hbk
          have s47 := bk_3_47 env (d + 20) (Int32.ofNat r) (Int32.ofNat X.1 - 1) (Int32.ofNat b) (Int32.ofNat (ao_R W n j (r + 1) (dec1 c b)).1) I3 J E
          have hGl := ao_R_le W n j (r + 1) (dec1 c b)
          have hG1 := p2 b (hW r b hw) hP
          have hG1 : (ao_R W n j (r + 1) (dec1 c b)).1 + 1 ≤ X.1 := hG1
          rw [ao_cmp _ (by omega) _ (by omega), zI_in b 8 (by omega) (by omega), zI_nat b (by omega), hbk3, zd_1, show c b - 1 + 1 = c b by omega] at s47
          simp only [decide_true, decide_false, Bool.not_true, Bool.not_false, am_cont, Option.bind_some, Option.toList_some, Option.toList_none, List.singleton_append, List.nil_append, cond_true, cond_false, zd_1, m1] at s18
          by_cases hlt : (ao_R W n j (r + 1) (dec1 c b)).1 + 1 < X.1
          · rw [decide_eq_true hlt] at s47
            simp only [decide_true, decide_false, Bool.not_true, Bool.not_false, am_cont, Option.bind_some, Option.toList_some, Option.toList_none, List.singleton_append, List.nil_append, cond_true, cond_false, bk_3_63, zd_1] at s47
            rw [head, s18, s47]
            refine ih (b + 1) _ (by omega) (FL_tr hF3 (FL_u _ _ _)) (VB_set hB3 b (c b) rfl hcb.2 (fun x hx => (if_neg hx).symm)) (fun b' h1 h2 => ?_)
            by_cases e : b' = b
            · subst e; exact hlt
            · exact hl b' (by omega) h2
          · rw [decide_eq_false hlt] at s47
            refine ⟨Int32.ofNat b, I3, head.trans (s18.trans s47), hF3, Or.inl ⟨b, by omega, rfl, hB3, ?_⟩⟩
            rcases p3 with ⟨b0, g1, g2, g3, g4⟩ | ⟨g1, g4⟩
            · have h1 : b0 = b := by
                by_cases x1 : b0 < b
                · have := hl b0 x1 g2
                  rw [g3] at this
                  have this : (ao_R W n j (r + 1) (dec1 c b0)).1 + 1 < (ao_R W n j (r + 1) (dec1 c b0)).1 + 1 := this
                  omega
                · by_cases x2 : b < b0
                  · exact absurd (g4 b x2 hP) hlt
                  · omega
              subst h1; exact g3
            · exact absurd (g4 b (hW r b hw) hP) hlt
  obtain ⟨v, I', h1, h2⟩ := loop 8 0 I (by omega) (FL_refl I) hV (fun b' hb => absurd hb (Nat.not_lt_zero _))
  exact ⟨v, I', (bk_3_0 _ _ _ _ _ _ _).trans h1, h2⟩
