/-! reading texts: what class and reference share -/
def lbq (p : Nat) : Bool := Nat.beq p 5 || Nat.beq p 24 || Nat.beq p 119 || Nat.beq p 138
theorem lbq_c (p : Nat) (hp : lbq p = true) : p = 5 ∨ p = 24 ∨ p = 119 ∨ p = 138 := by
  unfold lbq at hp
  rcases or_f hp with hp | hp
  · rcases or_f hp with hp | hp
    · rcases or_f hp with hp | hp
      · have := Nat.eq_of_beq_eq_true hp; omega
      · have := Nat.eq_of_beq_eq_true hp; omega
    · have := Nat.eq_of_beq_eq_true hp; omega
  · have := Nat.eq_of_beq_eq_true hp; omega
theorem ly_lt (p : Nat) (hp : lbq p = true) : p < 179 := by have := lbq_c p hp; omega
theorem ly_d (p : Nat) (hp : lbq p = true) : decide (p < 179) = true := by rcases lbq_c p hp with rfl | rfl | rfl | rfl <;> decide +kernel
theorem ly_b (p : Nat) (hp : lbq p = true) : Nat.beq (am_K p).1 2 = true := by rcases lbq_c p hp with rfl | rfl | rfl | rfl <;> decide +kernel
theorem ly_5 (p : Nat) (hp : lbq p = true) : am_SR p 5 = p + 1 := by rcases lbq_c p hp with rfl | rfl | rfl | rfl <;> decide +kernel
theorem ly_6 (p : Nat) (hp : lbq p = true) : am_SR p 6 = p + 2 := by rcases lbq_c p hp with rfl | rfl | rfl | rfl <;> decide +kernel
theorem ly_7 (p : Nat) (hp : lbq p = true) : am_SR p 7 = p + 3 := by rcases lbq_c p hp with rfl | rfl | rfl | rfl <;> decide +kernel
theorem ly_8 (p : Nat) (hp : lbq p = true) : am_SR p 8 = p + 4 := by rcases lbq_c p hp with rfl | rfl | rfl | rfl <;> decide +kernel
theorem ly_9 (p : Nat) (hp : lbq p = true) : am_SR p 9 = p + 5 := by rcases lbq_c p hp with rfl | rfl | rfl | rfl <;> decide +kernel
theorem ly_10 (p : Nat) (hp : lbq p = true) : am_SR p 10 = p + 6 := by rcases lbq_c p hp with rfl | rfl | rfl | rfl <;> decide +kernel
theorem ly_d1 (p : Nat) (hp : lbq p = true) : decide (p + 1 < 179) = true := by rcases lbq_c p hp with rfl | rfl | rfl | rfl <;> decide +kernel
theorem ly_b1 (p : Nat) (hp : lbq p = true) : Nat.beq (am_K (p + 1)).1 101 = true := by rcases lbq_c p hp with rfl | rfl | rfl | rfl <;> decide +kernel
theorem ly_l1 (p : Nat) (hp : lbq p = true) : (am_K (p + 1)).2 = 8 := by rcases lbq_c p hp with rfl | rfl | rfl | rfl <;> decide +kernel
theorem ly_t1 (p : Nat) (hp : lbq p = true) : Nat.ble 8 (am_K (p + 1)).2 = true := by rcases lbq_c p hp with rfl | rfl | rfl | rfl <;> decide +kernel
theorem ly_d2 (p : Nat) (hp : lbq p = true) : decide (p + 2 < 179) = true := by rcases lbq_c p hp with rfl | rfl | rfl | rfl <;> decide +kernel
theorem ly_b2 (p : Nat) (hp : lbq p = true) : Nat.beq (am_K (p + 2)).1 100 = true := by rcases lbq_c p hp with rfl | rfl | rfl | rfl <;> decide +kernel
theorem ly_l2 (p : Nat) (hp : lbq p = true) : (am_K (p + 2)).2 = 8 := by rcases lbq_c p hp with rfl | rfl | rfl | rfl <;> decide +kernel
theorem ly_t2 (p : Nat) (hp : lbq p = true) : Nat.ble 8 (am_K (p + 2)).2 = true := by rcases lbq_c p hp with rfl | rfl | rfl | rfl <;> decide +kernel
theorem ly_d3 (p : Nat) (hp : lbq p = true) : decide (p + 3 < 179) = true := by rcases lbq_c p hp with rfl | rfl | rfl | rfl <;> decide +kernel
theorem ly_b3 (p : Nat) (hp : lbq p = true) : Nat.beq (am_K (p + 3)).1 100 = true := by rcases lbq_c p hp with rfl | rfl | rfl | rfl <;> decide +kernel
theorem ly_l3 (p : Nat) (hp : lbq p = true) : (am_K (p + 3)).2 = 8 := by rcases lbq_c p hp with rfl | rfl | rfl | rfl <;> decide +kernel
theorem ly_t3 (p : Nat) (hp : lbq p = true) : Nat.ble 8 (am_K (p + 3)).2 = true := by rcases lbq_c p hp with rfl | rfl | rfl | rfl <;> decide +kernel
theorem ly_d4 (p : Nat) (hp : lbq p = true) : decide (p + 4 < 179) = true := by rcases lbq_c p hp with rfl | rfl | rfl | rfl <;> decide +kernel
theorem ly_b4 (p : Nat) (hp : lbq p = true) : Nat.beq (am_K (p + 4)).1 100 = true := by rcases lbq_c p hp with rfl | rfl | rfl | rfl <;> decide +kernel
theorem ly_l4 (p : Nat) (hp : lbq p = true) : (am_K (p + 4)).2 = 8 := by rcases lbq_c p hp with rfl | rfl | rfl | rfl <;> decide +kernel
theorem ly_t4 (p : Nat) (hp : lbq p = true) : Nat.ble 8 (am_K (p + 4)).2 = true := by rcases lbq_c p hp with rfl | rfl | rfl | rfl <;> decide +kernel
theorem ly_d5 (p : Nat) (hp : lbq p = true) : decide (p + 5 < 179) = true := by rcases lbq_c p hp with rfl | rfl | rfl | rfl <;> decide +kernel
theorem ly_b5 (p : Nat) (hp : lbq p = true) : Nat.beq (am_K (p + 5)).1 101 = true := by rcases lbq_c p hp with rfl | rfl | rfl | rfl <;> decide +kernel
theorem ly_l5 (p : Nat) (hp : lbq p = true) : (am_K (p + 5)).2 = 6 := by rcases lbq_c p hp with rfl | rfl | rfl | rfl <;> decide +kernel
theorem ly_t5 (p : Nat) (hp : lbq p = true) : Nat.ble 6 (am_K (p + 5)).2 = true := by rcases lbq_c p hp with rfl | rfl | rfl | rfl <;> decide +kernel
theorem ly_d6 (p : Nat) (hp : lbq p = true) : decide (p + 6 < 179) = true := by rcases lbq_c p hp with rfl | rfl | rfl | rfl <;> decide +kernel
theorem ly_b6 (p : Nat) (hp : lbq p = true) : Nat.beq (am_K (p + 6)).1 100 = true := by rcases lbq_c p hp with rfl | rfl | rfl | rfl <;> decide +kernel
theorem ly_l6 (p : Nat) (hp : lbq p = true) : (am_K (p + 6)).2 = 6 := by rcases lbq_c p hp with rfl | rfl | rfl | rfl <;> decide +kernel
theorem ly_t6 (p : Nat) (hp : lbq p = true) : Nat.ble 6 (am_K (p + 6)).2 = true := by rcases lbq_c p hp with rfl | rfl | rfl | rfl <;> decide +kernel
theorem lgq (a b : Int64) : decide (lg_cmp a b = 0) = decide (a = b) := decide_eq_decide.mpr (lg_cmp_eq a b)
def fd (T : Nat → List Nat) (w : List Nat) : Nat → Nat → Nat
  | 0, _ => 0
  | f + 1, i => if T i = w then i + 1 else fd T w f (i + 1)
def fdx (T : Nat → List Nat) (w : List Nat) (n : Nat) : Nat := fd T w n 0
theorem fd_r (T : Nat → List Nat) (w : List Nat) : ∀ f i, fd T w f i = 0 ∨ (i < fd T w f i ∧ fd T w f i ≤ i + f ∧ T (fd T w f i - 1) = w) := by
  intro f
  induction f with
  | zero => intro i; exact Or.inl rfl
  | succ f ih =>
    intro i
    show (if T i = w then i + 1 else fd T w f (i + 1)) = 0 ∨ (i < (if T i = w then i + 1 else fd T w f (i + 1)) ∧ (if T i = w then i + 1 else fd T w f (i + 1)) ≤ i + (f + 1) ∧ T ((if T i = w then i + 1 else fd T w f (i + 1)) - 1) = w)
    by_cases h : T i = w
    · rw [if_pos h]; right; exact ⟨by omega, by omega, by rw [Nat.add_sub_cancel]; exact h⟩
    · rw [if_neg h]
      rcases ih (i + 1) with q | ⟨q1, q2, q3⟩
      · exact Or.inl q
      · exact Or.inr ⟨by omega, by omega, q3⟩
theorem fdx_le (T : Nat → List Nat) (w : List Nat) (n : Nat) : fdx T w n ≤ n := by
  rcases fd_r T w n 0 with h | h
  · unfold fdx; omega
  · unfold fdx; omega
theorem fd_congr (T T' : Nat → List Nat) (w : List Nat) : ∀ f i, (∀ j, i ≤ j → j < i + f → T j = T' j) → fd T w f i = fd T' w f i := by
  intro f
  induction f with
  | zero => intro i _; rfl
  | succ f ih =>
    intro i h
    show (if T i = w then i + 1 else fd T w f (i + 1)) = (if T' i = w then i + 1 else fd T' w f (i + 1))
    rw [h i (Nat.le_refl _) (by omega), ih (i + 1) (fun j h1 h2 => h j (by omega) (by omega))]
theorem c_bookCalled (env : am_E) (d : Nat) (p : Nat) (hp : lbq p = true) (n : Nat) (hn : n ≤ 8) (T : Nat → List Nat) (w : List Nat) (hw : gw w) (hT : ∀ b, b < n → gw (T b)) (I : Nat → Nat → Int32) (J : Nat → Nat → Int64) (E : Nat → Nat → Nat) (h0 : I p 0 = Int32.ofNat n) (hJ : ∀ b, b < n → J (p + 1) b = Int64.ofNat (pk 32 (T b))) : am_ev env (d + 1, 27, 0, [some (.ref p), some (.long (Int64.ofNat (pk 32 w))), none, none], [], am_hp I J E) = some (true, some (.int (bv (fdx T w n))), am_hp I J E) := by
  refine (bk_27_0 _ _ _ _ _ _ _).trans ?_
  have key : ∀ f i, i + f = n → am_ev env (d + 1, 27, 2, [some (.ref p), some (.long (Int64.ofNat (pk 32 w))), none, some (.int (Int32.ofNat i))], [], am_hp I J E) = some (true, some (.int (bv (fd T w f i))), am_hp I J E) := by
    intro f
    induction f with
    | zero =>
      intro i hi
      refine (bk_27_2 _ _ _ _ _ _ _ _).trans ?_
      rw [ly_d p hp, ly_b p hp, h0, zle_t n i (by omega) (by omega)]
      rfl
    | succ f ih =>
      intro i hi
      refine (bk_27_2 _ _ _ _ _ _ _ _).trans ?_
      rw [ly_d p hp, ly_b p hp, h0, zle_f n i (by omega) (by omega), ly_5 p hp, ly_d1 p hp, ly_b1 p hp, ly_l1 p hp, zI_in i 8 (by omega) (by omega), zI_nat i (by omega), hJ i (by omega), lgq, decide_eq_decide.mpr (by rw [pkq 32 (by omega) (by omega) (T i) w (hT i (by omega)) hw])]
      rw [show fd T w (f + 1) i = (if T i = w then i + 1 else fd T w f (i + 1)) from rfl]
      by_cases h : T i = w
      · rw [decide_eq_true h, if_pos h, bv_s]; rfl
      · rw [decide_eq_false h, if_neg h]
        simp only [decide_true, decide_false, Bool.not_true, Bool.not_false, am_cont, Option.bind_some, Option.toList_some, Option.toList_none, List.singleton_append, List.nil_append, cond_true, cond_false, Bool.and_self, zd_1]
        exact ih (i + 1) (by omega)
  exact key n 0 (by omega)
theorem c_readerCalled (env : am_E) (d : Nat) (p : Nat) (hp : lbq p = true) (n : Nat) (hn : n ≤ 6) (T : Nat → List Nat) (w : List Nat) (hw : gw w) (hT : ∀ b, b < n → gw (T b)) (I : Nat → Nat → Int32) (J : Nat → Nat → Int64) (E : Nat → Nat → Nat) (h0 : I p 2 = Int32.ofNat n) (hJ : ∀ b, b < n → J (p + 5) b = Int64.ofNat (pk 32 (T b))) : am_ev env (d + 1, 28, 0, [some (.ref p), some (.long (Int64.ofNat (pk 32 w))), none, none], [], am_hp I J E) = some (true, some (.int (bv (fdx T w n))), am_hp I J E) := by
  refine (bk_28_0 _ _ _ _ _ _ _).trans ?_
  have key : ∀ f i, i + f = n → am_ev env (d + 1, 28, 2, [some (.ref p), some (.long (Int64.ofNat (pk 32 w))), none, some (.int (Int32.ofNat i))], [], am_hp I J E) = some (true, some (.int (bv (fd T w f i))), am_hp I J E) := by
    intro f
    induction f with
    | zero =>
      intro i hi
      refine (bk_28_2 _ _ _ _ _ _ _ _).trans ?_
      rw [ly_d p hp, ly_b p hp, h0, zle_t n i (by omega) (by omega)]
      rfl
    | succ f ih =>
      intro i hi
      refine (bk_28_2 _ _ _ _ _ _ _ _).trans ?_
      rw [ly_d p hp, ly_b p hp, h0, zle_f n i (by omega) (by omega), ly_9 p hp, ly_d5 p hp, ly_b5 p hp, ly_l5 p hp, zI_in i 6 (by omega) (by omega), zI_nat i (by omega), hJ i (by omega), lgq, decide_eq_decide.mpr (by rw [pkq 32 (by omega) (by omega) (T i) w (hT i (by omega)) hw])]
      rw [show fd T w (f + 1) i = (if T i = w then i + 1 else fd T w f (i + 1)) from rfl]
      by_cases h : T i = w
      · rw [decide_eq_true h, if_pos h, bv_s]; rfl
      · rw [decide_eq_false h, if_neg h]
        simp only [decide_true, decide_false, Bool.not_true, Bool.not_false, am_cont, Option.bind_some, Option.toList_some, Option.toList_none, List.singleton_append, List.nil_append, cond_true, cond_false, Bool.and_self, zd_1]
        exact ih (i + 1) (by omega)
  exact key n 0 (by omega)
theorem m_findIn (env : am_E) (d : Nat) (q base n L : Nat) (hq : decide (q < 179) = true) (hk : Nat.beq (am_K q).1 101 = true) (hl : (am_K q).2 = L) (hb : base + n ≤ L) (hL : L ≤ 1000) (x y : Int32) (hx : x = Int32.ofNat base) (hy : y = Int32.ofNat n) (T : Nat → List Nat) (w : List Nat) (hw : gw w) (hT : ∀ b, b < n → gw (T b)) (I : Nat → Nat → Int32) (J : Nat → Nat → Int64) (E : Nat → Nat → Nat) (hJ : ∀ b, b < n → J q (base + b) = Int64.ofNat (pk 27 (T b))) : am_ev env (d + 1, 195, 0, [some (.ref q), some (.int x), some (.int y), some (.long (Int64.ofNat (pk 27 w))), none, none], [], am_hp I J E) = some (true, some (.int (bv (fdx T w n))), am_hp I J E) := by
  subst hx
  subst hy
  refine (bk_195_0 _ _ _ _ _ _ _ _ _).trans ?_
  have key : ∀ f i, i + f = n → am_ev env (d + 1, 195, 3, [some (.ref q), some (.int (Int32.ofNat base)), some (.int (Int32.ofNat n)), some (.long (Int64.ofNat (pk 27 w))), none, some (.int (Int32.ofNat i))], [], am_hp I J E) = some (true, some (.int (bv (fd T w f i))), am_hp I J E) := by
    intro f
    induction f with
    | zero =>
      intro i hi
      refine (bk_195_3 _ _ _ _ _ _ _ _ _ _).trans ?_
      rw [zle_t n i (by omega) (by omega)]
      rfl
    | succ f ih =>
      intro i hi
      refine (bk_195_3 _ _ _ _ _ _ _ _ _ _).trans ?_
      rw [zle_f n i (by omega) (by omega), hq, hk, hl, zI_add, zI_in (base + i) L (by omega) (by omega), zI_nat (base + i) (by omega), hJ i (by omega), lgq, decide_eq_decide.mpr (by rw [pkq 27 (by omega) (by omega) (T i) w (hT i (by omega)) hw])]
      rw [show fd T w (f + 1) i = (if T i = w then i + 1 else fd T w f (i + 1)) from rfl]
      by_cases h : T i = w
      · rw [decide_eq_true h, if_pos h, bv_s]; rfl
      · rw [decide_eq_false h, if_neg h]
        simp only [decide_true, decide_false, Bool.not_true, Bool.not_false, am_cont, Option.bind_some, Option.toList_some, Option.toList_none, List.singleton_append, List.nil_append, cond_true, cond_false, Bool.and_self, zd_1]
        exact ih (i + 1) (by omega)
  exact key n 0 (by omega)
def tg (u : Cu) : Prop := (u.1.1 = 2 → gw u.1.2.1) ∧ (u.1.1 = 3 → u.1.2.2 ≤ 999) ∧ (u.1.1 = 4 → iss u.1.2.2 = true) ∧ u.1.1 ≤ 4
def FX (X : Nat → Prop) (I : Nat → Nat → Int32) (J : Nat → Nat → Int64) (E : Nat → Nat → Nat) (I' : Nat → Nat → Int32) (J' : Nat → Nat → Int64) (E' : Nat → Nat → Nat) : Prop := (∀ q, ¬ X q → I' q = I q) ∧ (∀ q, ¬ X q → J' q = J q) ∧ ∀ q, ¬ X q → E' q = E q
theorem FX_refl (X : Nat → Prop) (I : Nat → Nat → Int32) (J : Nat → Nat → Int64) (E : Nat → Nat → Nat) : FX X I J E I J E := ⟨fun _ _ => rfl, fun _ _ => rfl, fun _ _ => rfl⟩
theorem FX_tr {X : Nat → Prop} {I I1 I2 : Nat → Nat → Int32} {J J1 J2 : Nat → Nat → Int64} {E E1 E2 : Nat → Nat → Nat} (h1 : FX X I J E I1 J1 E1) (h2 : FX X I1 J1 E1 I2 J2 E2) : FX X I J E I2 J2 E2 := ⟨fun q hq => (h2.1 q hq).trans (h1.1 q hq), fun q hq => (h2.2.1 q hq).trans (h1.2.1 q hq), fun q hq => (h2.2.2 q hq).trans (h1.2.2 q hq)⟩
theorem FX_mono {X Y : Nat → Prop} {I I1 : Nat → Nat → Int32} {J J1 : Nat → Nat → Int64} {E E1 : Nat → Nat → Nat} (h : FX X I J E I1 J1 E1) (hxy : ∀ q, X q → Y q) : FX Y I J E I1 J1 E1 := ⟨fun q hq => h.1 q (fun z => hq (hxy q z)), fun q hq => h.2.1 q (fun z => hq (hxy q z)), fun q hq => h.2.2 q (fun z => hq (hxy q z))⟩
/-- the class's Text is at a token of a text of z bytes c, of which lim are read at most -/
def CS (I : Nat → Nat → Int32) (J : Nat → Nat → Int64) (E : Nat → Nat → Nat) (z : Nat) (c : Nat → Nat) (lim : Nat) (u : Cu) : Prop := CU (I 1) (J 1) (E 1) u ∧ I 1 7 = Int32.ofNat lim ∧ Tp I z c ∧ u.2.2 ≤ z ∧ tg u
theorem CS_fx {X : Nat → Prop} {I I1 : Nat → Nat → Int32} {J J1 : Nat → Nat → Int64} {E E1 : Nat → Nat → Nat} {z : Nat} {c : Nat → Nat} {lim : Nat} {u : Cu} (h : CS I J E z c lim u) (hf : FX X I J E I1 J1 E1) (h1 : ¬ X 1) (h2 : ¬ X 2) (h3 : ¬ X 3) : CS I1 J1 E1 z c lim u := by
  obtain ⟨a1, a2, a3, a4, a5⟩ := h
  refine ⟨by rw [hf.1 1 h1, hf.2.1 1 h1, hf.2.2 1 h1]; exact a1, by rw [hf.1 1 h1]; exact a2, ⟨by rw [hf.1 2 h2]; exact a3.1, fun j hj => by rw [hf.1 3 h3]; exact a3.2 j hj⟩, a4, a5⟩
theorem tg_lx (c : Nat → Nat) (z lim p : Nat) (hp : p ≤ z) : tg (lx c z lim p) := by
  obtain ⟨g1, g2, g3, g4, -⟩ := lx_good c z lim p hp
  exact ⟨g1, g2, g3, g4⟩
theorem lx_le (c : Nat → Nat) (z lim p : Nat) (hp : p ≤ z) : (lx c z lim p).2.2 ≤ z := (lx_good c z lim p hp).2.2.2.2.2.1
theorem c_nx0 (env : am_E) (d : Nat) (z lim p : Nat) (hz : z ≤ 940) (hlim : lim ≤ 1000) (hp : p ≤ z) (c : Nat → Nat) (I : Nat → Nat → Int32) (J : Nat → Nat → Int64) (E : Nat → Nat → Nat) (h9 : I 1 9 = Int32.ofNat p) (h7 : I 1 7 = Int32.ofNat lim) (ht : Tp I z c) : ∃ I' J' E', am_ev env (d + 3, 103, 0, [some (.ref 1), none], [], am_hp I J E) = some (true, none, am_hp I' J' E') ∧ CS I' J' E' z c lim (lx c z lim p) ∧ FX (fun q => q = 1) I J E I' J' E' ∧ I' 1 3 = I 1 3 ∧ I' 1 4 = I 1 4 := by
  obtain ⟨r', s', e', k1, k2, k3, k4, k5⟩ := c_next env d z lim p hz hp hlim c I J E ht (I 1) (J 1) (E 1) h9 h7
  rw [ur_self, ur_self, ur_self] at k1
  refine ⟨am_ur I 1 r', am_ur J 1 s', am_ur E 1 e', k1, ⟨by rw [ur_at, ur_at, ur_at]; exact k2, by rw [ur_at, k5]; exact h7, Tp_ur ht 1 (by omega) (by omega) r', lx_le c z lim p hp, tg_lx c z lim p hp⟩, ⟨fun q hq => ur_ne _ _ _ _ hq, fun q hq => ur_ne _ _ _ _ hq, fun q hq => ur_ne _ _ _ _ hq⟩, by rw [ur_at]; exact k3, by rw [ur_at]; exact k4⟩
theorem c_nx (env : am_E) (d : Nat) (z lim : Nat) (hz : z ≤ 940) (hlim : lim ≤ 1000) (c : Nat → Nat) (u : Cu) (I : Nat → Nat → Int32) (J : Nat → Nat → Int64) (E : Nat → Nat → Nat) (h : CS I J E z c lim u) : ∃ I' J' E', am_ev env (d + 3, 103, 0, [some (.ref 1), none], [], am_hp I J E) = some (true, none, am_hp I' J' E') ∧ CS I' J' E' z c lim (lx c z lim u.2.2) ∧ FX (fun q => q = 1) I J E I' J' E' ∧ I' 1 3 = I 1 3 ∧ I' 1 4 = I 1 4 := by
  obtain ⟨a1, a2, a3, a4, a5⟩ := h
  exact c_nx0 env d z lim u.2.2 hz hlim a4 c I J E a1.2.2.2.2.2 a2 a3
def stp (I : Nat → Nat → Int32) (k : Int32) : Nat → Nat → Int32 := am_ur I 1 (ru (ru (I 1) 3 k) 4 (I 1 8))
theorem c_stop (env : am_E) (d : Nat) (k : Int32) (I : Nat → Nat → Int32) (J : Nat → Nat → Int64) (E : Nat → Nat → Nat) : am_ev env (d + 1, 105, 0, [some (.ref 1), some (.int k)], [], am_hp I J E) = some (true, some (.int 0), am_hp (stp I k) J E) := by
  refine (bk_105_0 _ _ _ _ _ _).trans ?_
  have e : am_u (am_u I 1 3 k) 1 4 ((am_u I 1 3 k) 1 8) = stp I k := by
    unfold stp
    rw [am_u_r I 1 3 k, am_u_g32, ur_at, ru_ne _ _ _ _ (by omega)]
  rw [e]
theorem stp_fx (I : Nat → Nat → Int32) (J : Nat → Nat → Int64) (E : Nat → Nat → Nat) (k : Int32) : FX (fun q => q = 1) I J E (stp I k) J E := ⟨fun q hq => ur_ne _ _ _ _ hq, fun _ _ => rfl, fun _ _ => rfl⟩
theorem stp_3 (I : Nat → Nat → Int32) (k : Int32) : stp I k 1 3 = k := by unfold stp; rw [ur_at, ru_ne _ _ _ _ (by omega), ru_eq]
theorem stp_4 (I : Nat → Nat → Int32) (k : Int32) : stp I k 1 4 = I 1 8 := by unfold stp; rw [ur_at, ru_eq]
/-- 0: a number of these; else the kind of the fault -/
def pn (u : Cu) (a b : Nat) : Nat := if u.1.1 = 3 then (if a ≤ u.1.2.2 ∧ u.1.2.2 ≤ b then 0 else 2) else 1
theorem c_num (env : am_E) (d : Nat) (z lim : Nat) (c : Nat → Nat) (u : Cu) (a b : Nat) (ha : a ≤ 1000) (hb : b ≤ 1000) (x y : Int32) (hx : x = Int32.ofNat a) (hy : y = Int32.ofNat b) (I : Nat → Nat → Int32) (J : Nat → Nat → Int64) (E : Nat → Nat → Nat) (h : CS I J E z c lim u) : am_ev env (d + 2, 107, 0, [some (.ref 1), some (.int x), some (.int y)], [], am_hp I J E) = (if pn u a b = 0 then some (true, some (.int (Int32.ofNat u.1.2.2)), am_hp I J E) else some (true, some (.int (-1)), am_hp (stp I (Int32.ofNat (pn u a b))) J E)) := by
  obtain ⟨⟨a1, a2, a3, a4, a5, a6⟩, -, -, -, g1, g2, g3, g4⟩ := h
  subst hx
  subst hy
  refine (bk_107_0 _ _ _ _ _ _ _).trans ?_
  unfold pn
  have hk : decide (I 1 0 = 4) = decide (u.1.1 = 3) := by
    rw [a1]
    unfold ckd
    by_cases h3 : u.1.1 = 3
    · rw [if_neg (by omega), if_pos h3, decide_eq_true h3]; rfl
    · rw [decide_eq_false h3]
      by_cases h2 : u.1.1 = 2
      · rw [if_pos h2]
        by_cases hw : kwi u.1.2.1 = 0
        · rw [if_pos hw]; rfl
        · rw [if_neg hw]; rfl
      · rw [if_neg h2, if_neg h3]
        by_cases h4 : u.1.1 = 4
        · rw [if_pos h4]
          have := (iss_iff _).mp (g3 h4)
          exact (zI_deq _ 4 (by omega) (by omega)).trans (decide_eq_false (by omega))
        · rw [if_neg h4]
          exact (zI_deq _ 4 (by omega) (by omega)).trans (decide_eq_false (by omega))
  rw [hk]
  by_cases h3 : u.1.1 = 3
  · have hv := g2 h3
    rw [decide_eq_true h3, if_pos h3, a4 h3, zlt_d _ a (by omega) (by omega), zle_d _ b (by omega) (by omega)]
    by_cases q : a ≤ u.1.2.2 ∧ u.1.2.2 ≤ b
    · rw [if_pos q, decide_eq_false (by omega : ¬ u.1.2.2 < a), decide_eq_true q.2, if_pos rfl]; rfl
    · rw [if_neg q, if_neg (by omega)]
      have s32 : am_ev env (d + 2, 107, 32, [some (.ref 1), some (.int (Int32.ofNat a)), some (.int (Int32.ofNat b))], [], am_hp I J E) = some (true, some (.int (-1)), am_hp (stp I 2) J E) := by
        simp only [bk_107_32, decide_true, decide_false, Bool.not_true, Bool.not_false, am_cont, Option.bind_some, Option.toList_some, Option.toList_none, List.singleton_append, List.nil_append, cond_true, cond_false, c_stop, bk_107_37]
      by_cases q1 : u.1.2.2 < a
      · rw [decide_eq_true q1]; exact s32
      · rw [decide_eq_false q1, decide_eq_false (by omega : ¬ u.1.2.2 ≤ b)]; exact s32
  · rw [decide_eq_false h3, if_neg h3, if_neg (by omega)]
    simp only [decide_true, decide_false, Bool.not_true, Bool.not_false, am_cont, Option.bind_some, Option.toList_some, Option.toList_none, List.singleton_append, List.nil_append, cond_true, cond_false, c_stop, bk_107_13]
    rfl
/-- the token is a name -/
def isn (u : Cu) : Bool := decide (u.1.1 = 2) && decide (kwi u.1.2.1 = 0)
theorem c_kind3 {I : Nat → Nat → Int32} {J : Nat → Nat → Int64} {E : Nat → Nat → Nat} {z : Nat} {c : Nat → Nat} {lim : Nat} {u : Cu} (h : CS I J E z c lim u) : decide (I 1 0 = 3) = isn u := by
  obtain ⟨⟨a1, -⟩, -, -, -, g1, g2, g3, g4⟩ := h
  rw [a1]
  unfold ckd isn
  by_cases h2 : u.1.1 = 2
  · rw [if_pos h2, decide_eq_true h2]
    by_cases hw : kwi u.1.2.1 = 0
    · rw [if_pos hw, decide_eq_true hw]; rfl
    · rw [if_neg hw, decide_eq_false hw]; rfl
  · rw [if_neg h2, decide_eq_false h2]
    by_cases h3 : u.1.1 = 3
    · rw [if_pos h3]; rfl
    · rw [if_neg h3]
      by_cases h4 : u.1.1 = 4
      · rw [if_pos h4]
        have := (iss_iff _).mp (g3 h4)
        exact (zI_deq _ 3 (by omega) (by omega)).trans (decide_eq_false (by omega))
      · rw [if_neg h4]
        exact (zI_deq _ 3 (by omega) (by omega)).trans (decide_eq_false (by omega))
theorem isn_f {u : Cu} (h : isn u = true) : u.1.1 = 2 ∧ kwi u.1.2.1 = 0 := by
  unfold isn at h
  obtain ⟨h1, h2⟩ := and_f h
  exact ⟨of_decide_eq_true h1, of_decide_eq_true h2⟩
/-- the token is this sign -/
def isg (u : Cu) (x : Nat) : Bool := decide (u.1.1 = 4) && decide (u.1.2.2 = x)
theorem c_kindS {I : Nat → Nat → Int32} {J : Nat → Nat → Int64} {E : Nat → Nat → Nat} {z : Nat} {c : Nat → Nat} {lim : Nat} {u : Cu} (h : CS I J E z c lim u) (x : Nat) (hx : 5 ≤ x) (hx2 : x ≤ 1000) : decide (I 1 0 = Int32.ofNat x) = isg u x := by
  obtain ⟨⟨a1, -⟩, -, -, -, g1, g2, g3, g4⟩ := h
  rw [a1]
  unfold ckd isg
  by_cases h2 : u.1.1 = 2
  · rw [if_pos h2, decide_eq_false (by omega : ¬ u.1.1 = 4)]
    by_cases hw : kwi u.1.2.1 = 0
    · rw [if_pos hw]; exact (zI_deq 3 x (by omega) (by omega)).trans (decide_eq_false (by omega))
    · rw [if_neg hw]; exact (zI_deq 2 x (by omega) (by omega)).trans (decide_eq_false (by omega))
  · rw [if_neg h2]
    by_cases h3 : u.1.1 = 3
    · rw [if_pos h3, decide_eq_false (by omega : ¬ u.1.1 = 4)]; exact (zI_deq 4 x (by omega) (by omega)).trans (decide_eq_false (by omega))
    · rw [if_neg h3]
      by_cases h4 : u.1.1 = 4
      · rw [if_pos h4, decide_eq_true h4]
        have := (iss_iff _).mp (g3 h4)
        exact zI_deq _ x (by omega) (by omega)
      · rw [if_neg h4, decide_eq_false h4]
        exact (zI_deq _ x (by omega) (by omega)).trans (decide_eq_false (by omega))
theorem c_kind0 {I : Nat → Nat → Int32} {J : Nat → Nat → Int64} {E : Nat → Nat → Nat} {z : Nat} {c : Nat → Nat} {lim : Nat} {u : Cu} (h : CS I J E z c lim u) : decide (I 1 0 = 0) = decide (u.1.1 = 0) := by
  obtain ⟨⟨a1, -⟩, -, -, -, g1, g2, g3, g4⟩ := h
  rw [a1]
  unfold ckd
  by_cases h2 : u.1.1 = 2
  · rw [if_pos h2, decide_eq_false (by omega : ¬ u.1.1 = 0)]
    by_cases hw : kwi u.1.2.1 = 0
    · rw [if_pos hw]; rfl
    · rw [if_neg hw]; rfl
  · rw [if_neg h2]
    by_cases h3 : u.1.1 = 3
    · rw [if_pos h3, decide_eq_false (by omega : ¬ u.1.1 = 0)]; rfl
    · rw [if_neg h3]
      by_cases h4 : u.1.1 = 4
      · rw [if_pos h4, decide_eq_false (by omega : ¬ u.1.1 = 0)]
        have := (iss_iff _).mp (g3 h4)
        exact (zI_deq _ 0 (by omega) (by omega)).trans (decide_eq_false (by omega))
      · rw [if_neg h4]
        exact zI_deq _ 0 (by omega) (by omega)
/-- which word of a meaning the token is: 0 none, k + 1 -/
def kw (u : Cu) : Nat := cwd u.1
theorem kw_lt (u : Cu) : kw u < 25 := by
  unfold kw cwd
  by_cases h : u.1.1 = 2
  · rw [if_pos h]; exact kwi_lt _
  · rw [if_neg h]; omega
theorem c_word {I : Nat → Nat → Int32} {J : Nat → Nat → Int64} {E : Nat → Nat → Nat} {z : Nat} {c : Nat → Nat} {lim : Nat} {u : Cu} (h : CS I J E z c lim u) : E 1 1 = kw u := h.1.2.1
theorem c_at {I : Nat → Nat → Int32} {J : Nat → Nat → Int64} {E : Nat → Nat → Nat} {z : Nat} {c : Nat → Nat} {lim : Nat} {u : Cu} (h : CS I J E z c lim u) : I 1 8 = Int32.ofNat u.2.1 := h.1.2.2.2.2.1
theorem c_name {I : Nat → Nat → Int32} {J : Nat → Nat → Int64} {E : Nat → Nat → Nat} {z : Nat} {c : Nat → Nat} {lim : Nat} {u : Cu} (h : CS I J E z c lim u) (hn : isn u = true) : J 1 2 = Int64.ofNat (pk 32 u.1.2.1) ∧ gw u.1.2.1 := ⟨h.1.2.2.1 (isn_f hn).1, h.2.2.2.2.1 (isn_f hn).1⟩
