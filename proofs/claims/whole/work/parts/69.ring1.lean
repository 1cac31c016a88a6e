/-! steps to a BOOK -/
def anyb : Nat → (Nat → Bool) → Bool
  | 0, _ => false
  | n + 1, P => anyb n P || P n
theorem anyb_iff (n : Nat) (P : Nat → Bool) : anyb n P = true ↔ ∃ y, y < n ∧ P y = true := by
  induction n with
  | zero => exact ⟨fun h => (by cases h), fun ⟨y, hy, _⟩ => (by omega)⟩
  | succ n ih =>
    show (anyb n P || P n) = true ↔ _
    rw [Bool.or_eq_true, ih]
    constructor
    · rintro (⟨y, h1, h2⟩ | h)
      · exact ⟨y, by omega, h2⟩
      · exact ⟨n, by omega, h⟩
    · rintro ⟨y, h1, h2⟩
      by_cases e : y = n
      · subst e; exact Or.inr h2
      · exact Or.inl ⟨y, by omega, h2⟩
/-- from b one comes to g in at most d steps -/
def lvb (n : Nat) (a : Nat → Int32) (g : Nat) : Nat → Nat → Bool
  | 0, b => decide (b = g)
  | d + 1, b => lvb n a g d b || anyb n (fun y => bt (a b) y && lvb n a g d y)
theorem lvb_succ (n : Nat) (a : Nat → Int32) (g d b : Nat) : lvb n a g (d + 1) b = true ↔ (lvb n a g d b = true ∨ ∃ y, y < n ∧ bt (a b) y = true ∧ lvb n a g d y = true) := by
  show (lvb n a g d b || anyb n (fun y => bt (a b) y && lvb n a g d y)) = true ↔ _
  rw [Bool.or_eq_true, anyb_iff]
  constructor
  · rintro (h | ⟨y, h1, h2⟩)
    · exact Or.inl h
    · exact Or.inr ⟨y, h1, (and_f h2).1, (and_f h2).2⟩
  · rintro (h | ⟨y, h1, h2, h3⟩)
    · exact Or.inl h
    · exact Or.inr ⟨y, h1, by rw [h2, h3]; rfl⟩
theorem lvb_mono (n : Nat) (a : Nat → Int32) (g d e b : Nat) (h : d ≤ e) (hb : lvb n a g d b = true) : lvb n a g e b = true := by
  induction h with
  | refl => exact hb
  | step _ ih => exact (lvb_succ n a g _ b).mpr (Or.inl ih)
theorem lvb_stab1 (n : Nat) (a : Nat → Int32) (g d : Nat) (h : ∀ b, b < n → lvb n a g (d + 1) b = true → lvb n a g d b = true) : ∀ b, b < n → lvb n a g (d + 2) b = true → lvb n a g (d + 1) b = true := by
  intro b hb h2
  rcases (lvb_succ n a g (d + 1) b).mp h2 with h3 | ⟨y, h3, h4, h5⟩
  · exact h3
  · exact (lvb_succ n a g d b).mpr (Or.inr ⟨y, h3, h4, h y h3 h5⟩)
theorem lvb_cn (n : Nat) (hn : n ≤ 31) (a : Nat → Int32) (g : Nat) (hg : g < n) : ∀ d, (∀ b, b < n → lvb n a g (d + 1) b = true → lvb n a g d b = true) ∨ d + 1 ≤ cn n (accO (lvb n a g d) n) := by
  intro d
  induction d with
  | zero =>
    right
    have : cn n 0 < cn n (accO (lvb n a g 0) n) := cn_lt n (fun k _ hk => by rw [bt_zero] at hk; cases hk) g hg (bt_zero g) ((accO_bt _ n (by omega) g).mpr ⟨hg, decide_eq_true rfl⟩)
    omega
  | succ d ih =>
    rcases ih with ih | ih
    · exact Or.inl (lvb_stab1 n a g d ih)
    · by_cases hs : ∀ b, b < n → lvb n a g (d + 1) b = true → lvb n a g d b = true
      · exact Or.inl (lvb_stab1 n a g d hs)
      · right
        obtain ⟨b, hb⟩ := Classical.not_forall.mp hs
        obtain ⟨h1, hb⟩ := Classical.not_imp.mp hb
        obtain ⟨h2, h3⟩ := Classical.not_imp.mp hb
        rw [Bool.not_eq_true] at h3
        have hf : bt (accO (lvb n a g d) n) b = false := by
          cases hz : bt (accO (lvb n a g d) n) b with
          | false => rfl
          | true => have := ((accO_bt _ n (by omega) b).mp hz).2; rw [h3] at this; cases this
        have := cn_lt n (s := accO (lvb n a g d) n) (t := accO (lvb n a g (d + 1)) n) (fun k hk hbk => (accO_bt _ n (by omega) k).mpr ⟨hk, lvb_mono n a g d (d + 1) k (by omega) ((accO_bt _ n (by omega) k).mp hbk).2⟩) b h1 hf ((accO_bt _ n (by omega) b).mpr ⟨h1, h2⟩)
        omega
theorem lvb_top (n : Nat) (hn : n ≤ 31) (a : Nat → Int32) (g : Nat) (hg : g < n) (e b : Nat) (hb : b < n) (h : lvb n a g e b = true) : lvb n a g (n - 1) b = true := by
  have hst : ∀ b, b < n → lvb n a g (n - 1 + 1) b = true → lvb n a g (n - 1) b = true := by
    rcases lvb_cn n hn a g hg (n - 1) with h | h
    · exact h
    · intro b hb _
      have := cn_full n (s := accO (lvb n a g (n - 1)) n) (Nat.le_antisymm (cn_le n _) (by omega)) b hb
      exact ((accO_bt _ n (by omega) b).mp this).2
  by_cases hle : e ≤ n - 1
  · exact lvb_mono n a g e (n - 1) b hle h
  · have key : ∀ j b, b < n → lvb n a g (n - 1 + j) b = true → lvb n a g (n - 1) b = true := by
      intro j
      induction j with
      | zero => intro b _ h; exact h
      | succ j ih =>
        intro b hb h
        rcases (lvb_succ n a g (n - 1 + j) b).mp h with h1 | ⟨y, h1, h2, h3⟩
        · exact ih b hb h1
        · exact hst b hb ((lvb_succ n a g (n - 1) b).mpr (Or.inr ⟨y, h1, h2, ih y h1 h3⟩))
    exact key (e - (n - 1)) b hb (by rw [show n - 1 + (e - (n - 1)) = e by omega]; exact h)
/-- b is just e steps away -/
def exl (n : Nat) (a : Nat → Int32) (g e b : Nat) : Prop := lvb n a g e b = true ∧ ∀ f, f < e → lvb n a g f b = false
theorem exl_ex (n : Nat) (a : Nat → Int32) (g d b : Nat) (h : lvb n a g d b = true) : ∃ e, e ≤ d ∧ exl n a g e b := by
  induction d with
  | zero => exact ⟨0, Nat.le_refl _, h, fun f hf => by omega⟩
  | succ d ih =>
    cases hz : lvb n a g d b with
    | true => obtain ⟨e, h1, h2⟩ := ih hz; exact ⟨e, by omega, h2⟩
    | false =>
      refine ⟨d + 1, Nat.le_refl _, h, fun f hf => ?_⟩
      cases hy : lvb n a g f b with
      | false => rfl
      | true => have := lvb_mono n a g f d b (by omega) hy; rw [hz] at this; cases this
theorem exl_uniq {n : Nat} {a : Nat → Int32} {g e e' b : Nat} (h : exl n a g e b) (h' : exl n a g e' b) : e = e' := by
  rcases Nat.lt_trichotomy e e' with hl | he | hl
  · have := h'.2 e hl; rw [h.1] at this; cases this
  · exact he
  · have := h.2 e' hl; rw [h'.1] at this; cases this
theorem exl_lt (n : Nat) (hn : n ≤ 31) (a : Nat → Int32) (g : Nat) (hg : g < n) (e b : Nat) (hb : b < n) (h : exl n a g e b) : e < n := by
  apply Classical.byContradiction
  intro hc
  have := lvb_top n hn a g hg e b hb h.1
  rw [h.2 (n - 1) (by omega)] at this
  cases this
/-- the row of steps, at stage d -/
def SV (n : Nat) (a : Nat → Int32) (g d : Nat) (r : Nat → Int32) (b : Nat) : Prop := (∃ e, e ≤ d ∧ exl n a g e b ∧ r b = Int32.ofNat e) ∨ (lvb n a g d b = false ∧ r b = -1)
/-- the first that has P, of j from i on -/
def fwd (P : Nat → Bool) : Nat → Nat → Int32
  | 0, _ => -1
  | j + 1, i => bif P i then Int32.ofNat i else fwd P j (i + 1)
theorem fwd_P (P : Nat → Bool) : ∀ j i, (∃ x, i ≤ x ∧ x < i + j ∧ P x = true ∧ (∀ y, i ≤ y → y < x → P y = false) ∧ fwd P j i = Int32.ofNat x) ∨ ((∀ x, i ≤ x → x < i + j → P x = false) ∧ fwd P j i = -1) := by
  intro j
  induction j with
  | zero => intro i; exact Or.inr ⟨fun x h1 h2 => by omega, rfl⟩
  | succ j ih =>
    intro i
    unfold fwd
    cases hp : P i with
    | true => exact Or.inl ⟨i, Nat.le_refl _, by omega, hp, fun y h1 h2 => by omega, rfl⟩
    | false =>
      rcases ih (i + 1) with ⟨x, h1, h2, h3, h4, h5⟩ | ⟨h1, h2⟩
      · refine Or.inl ⟨x, by omega, by omega, h3, fun y g1 g2 => ?_, h5⟩
        by_cases e : y = i
        · subst e; exact hp
        · exact h4 y (by omega) g2
      · refine Or.inr ⟨fun x g1 g2 => ?_, h2⟩
        by_cases e : x = i
        · subst e; exact hp
        · exact h1 x (by omega) (by omega)
theorem fwd_congr (P Q : Nat → Bool) : ∀ j i, (∀ x, i ≤ x → x < i + j → P x = Q x) → fwd P j i = fwd Q j i := by
  intro j
  induction j with
  | zero => intro i _; rfl
  | succ j ih =>
    intro i h
    unfold fwd
    rw [h i (Nat.le_refl _) (by omega), ih (i + 1) (fun x h1 h2 => h x (by omega) (by omega))]
theorem c_firstWith (env : am_E) (d : Nat) (n : Nat) (hn : n ≤ 8) (s v : Int32) (I : Nat → Nat → Int32) (J : Nat → Nat → Int64) (E : Nat → Nat → Nat) (h0 : I 104 0 = Int32.ofNat n) : am_ev env (d + 2, 45, 0, [some (.ref 104), some (.int s), some (.int v), none], [], am_hp I J E) = some (true, some (.int (fwd (fun b => bt s b && decide (I 106 b = v)) n 0)), am_hp I J E) := by
  refine (bk_45_0 _ _ _ _ _ _ _).trans ?_
  have key : ∀ j i, i + j = n → am_ev env (d + 2, 45, 2, [some (.ref 104), some (.int s), some (.int v), some (.int (Int32.ofNat i))], [], am_hp I J E) = some (true, some (.int (fwd (fun b => bt s b && decide (I 106 b = v)) j i)), am_hp I J E) := by
    intro j
    induction j with
    | zero =>
      intro i hi
      refine (bk_45_2 _ _ _ _ _ _ _ _).trans ?_
      rw [h0, zle_t n i (by omega) (by omega)]
      rfl
    | succ j ih =>
      intro i hi
      refine (bk_45_2 _ _ _ _ _ _ _ _).trans ?_
      rw [h0, zle_f n i (by omega) (by omega)]
      simp (disch := omega) only [decide_true, decide_false, Bool.not_true, Bool.not_false, am_cont, Option.bind_some, Option.toList_some, Option.toList_none, List.singleton_append, List.nil_append, cond_true, cond_false, c_isIn, bk_45_15, bi_eq0, zI_in, zI_nat]
      unfold fwd
      cases bt s i
      · simp only [decide_true, decide_false, Bool.not_true, Bool.not_false, am_cont, Option.bind_some, Option.toList_some, Option.toList_none, List.singleton_append, List.nil_append, cond_true, cond_false, bk_45_30, zd_1, Bool.false_and]; exact ih (i + 1) (by omega)
      · cases decide (I 106 i = v)
        · simp only [decide_true, decide_false, Bool.not_true, Bool.not_false, am_cont, Option.bind_some, Option.toList_some, Option.toList_none, List.singleton_append, List.nil_append, cond_true, cond_false, bk_45_30, zd_1, Bool.and_false]; exact ih (i + 1) (by omega)
        · simp only [decide_true, decide_false, Bool.not_true, Bool.not_false, am_cont, Option.bind_some, Option.toList_some, Option.toList_none, List.singleton_append, List.nil_append, cond_true, cond_false, Bool.and_self]
  exact key n 0 (by omega)
/-- who has stepped: a first one there is just when P is of one -/
theorem fwd_m1 (P : Nat → Bool) (n : Nat) (hn : n ≤ 8) : decide (fwd P n 0 = -1) = !anyb n P := by
  rcases fwd_P P n 0 with ⟨x, h1, h2, h3, h4, h5⟩ | ⟨h1, h2⟩
  · rw [h5, decide_eq_false (fun e => m1_ne x (by omega) e.symm), (anyb_iff n P).mpr ⟨x, by omega, h3⟩]; rfl
  · rw [h2, decide_eq_true rfl]
    cases hz : anyb n P with
    | false => rfl
    | true =>
      obtain ⟨y, g1, g2⟩ := (anyb_iff n P).mp hz
      rw [h1 y (by omega) (by omega)] at g2; cases g2
theorem c_countSteps (env : am_E) (d : Nat) (n g : Nat) (hn : n ≤ 8) (hg : g < n) (a : Nat → Int32) (I : Nat → Nat → Int32) (J : Nat → Nat → Int64) (E : Nat → Nat → Nat) (ho : Or I n a) : ∃ r, am_ev env (d + 3, 43, 0, [some (.ref 104), some (.int (Int32.ofNat g)), none, none], [], am_hp I J E) = some (true, none, am_hp (am_ur I 106 r) J E) ∧ ∀ b, b < n → SV n a g (n - 1) r b := by
  have e104 : ∀ r, am_ur I 106 r 104 0 = Int32.ofNat n := fun r => by rw [ur_ne _ _ _ _ (by omega)]; exact ho.1
  have e105 : ∀ r b, b < n → am_ur I 106 r 105 b = a b := fun r b hb => by rw [ur_ne _ _ _ _ (by omega)]; exact ho.2 b hb
  have z1 : am_ev env (d + 3, 43, 0, [some (.ref 104), some (.int (Int32.ofNat g)), none, none], [], am_hp I J E) = am_ev env (d + 3, 43, 34, [some (.ref 104), some (.int (Int32.ofNat g)), some (.int 1), none], [], am_hp (am_ur I 106 (cpr (I 106) 0 n (fun b => bif decide (b = g) then 0 else -1))) J E) := by
    refine (bk_43_0 _ _ _ _ _ _).trans ?_
    have hz := zcopy (fun b I => am_ev env (d + 3, 43, 2, [some (.ref 104), some (.int (Int32.ofNat g)), some (.int (Int32.ofNat b)), none], [], am_hp I J E)) I 106 0 (fun b => bif decide (b = g) then 0 else -1) n (fun b hb => by
      refine (bk_43_2 _ _ _ _ _ _ _).trans ?_
      rw [e104, zle_f n b hb (by omega), zI_deq b g (by omega) (by omega)]
      cases decide (b = g) <;> simp (disch := omega) only [decide_true, decide_false, Bool.not_true, Bool.not_false, am_cont, Option.bind_some, Option.toList_some, Option.toList_none, List.singleton_append, List.nil_append, cond_true, cond_false, bk_43_25, zI_in, zI_nat, am_u_r, ur_ur, ur_at, zd_1, Nat.zero_add])
    refine Eq.trans hz ?_
    refine (bk_43_2 _ _ _ _ _ _ _).trans ?_
    rw [e104, zle_t n n (Nat.le_refl _) (by omega)]
    rfl
  have sv0 : ∀ b, b < n → SV n a g 0 (cpr (I 106) 0 n (fun b => bif decide (b = g) then 0 else -1)) b := by
    intro b hb
    have := cpr_in (I 106) 0 n (fun b => bif decide (b = g) then (0 : Int32) else -1) b hb
    rw [Nat.zero_add] at this
    by_cases e : b = g
    · left
      refine ⟨0, Nat.le_refl _, ⟨decide_eq_true e, fun f hf => by omega⟩, ?_⟩
      rw [this, decide_eq_true e]; rfl
    · right
      refine ⟨decide_eq_false e, ?_⟩
      rw [this, decide_eq_false e]; rfl
  -- one stage
  have stage : ∀ dd, 1 ≤ dd → dd < n → ∀ r, (∀ b, b < n → SV n a g (dd - 1) r b) → ∀ j y r', y + j = n → (∀ b, b < y → SV n a g dd r' b) → (∀ b, y ≤ b → b < n → r' b = r b) → (∀ b, b < n → ∀ e, e < dd → (r' b = Int32.ofNat e ↔ r b = Int32.ofNat e)) → ∃ r2 z, am_ev env (d + 3, 43, 44, [some (.ref 104), some (.int (Int32.ofNat g)), some (.int (Int32.ofNat dd)), some (.int (Int32.ofNat y))], [], am_hp (am_ur I 106 r') J E) = am_ev env (d + 3, 43, 34, [some (.ref 104), some (.int (Int32.ofNat g)), some (.int (Int32.ofNat (dd + 1))), some (.int z)], [], am_hp (am_ur I 106 r2) J E) ∧ ∀ b, b < n → SV n a g dd r2 b := by
    intro dd hd1 hdn r hr j
    induction j with
    | zero =>
      intro y r' hy h1 h2 h3
      refine ⟨r', Int32.ofNat y, ?_, fun b hb => h1 b (by omega)⟩
      refine (bk_43_44 _ _ _ _ _ _ _ _).trans ?_
      rw [e104, zle_t n y (by omega) (by omega), zd_1]
      rfl
    | succ j ih =>
      intro y r' hy h1 h2 h3
      have hyn : y < n := by omega
      have hdm : Int32.ofNat dd - 1 = Int32.ofNat (dd - 1) := zI_sub dd 1 hd1
      have hfw := c_firstWith env d n hn (a y) (Int32.ofNat (dd - 1)) (am_ur I 106 r') J E (e104 r')
      rw [ur_at] at hfw
      have estep : ∀ r2, am_ev env (d + 3, 43, 86, [some (.ref 104), some (.int (Int32.ofNat g)), some (.int (Int32.ofNat dd)), some (.int (Int32.ofNat y))], [], am_hp (am_ur I 106 r2) J E) = am_ev env (d + 3, 43, 44, [some (.ref 104), some (.int (Int32.ofNat g)), some (.int (Int32.ofNat dd)), some (.int (Int32.ofNat (y + 1)))], [], am_hp (am_ur I 106 r2) J E) := by
        intro r2
        refine (bk_43_86 _ _ _ _ _ _ _ _).trans ?_
        rw [zd_1]
      have h44 := bk_43_44 env (d + 2) (Int32.ofNat g) (Int32.ofNat dd) (Int32.ofNat y) (am_ur I 106 r') J E
      have hry : r' y = r y := h2 y (Nat.le_refl _) hyn
      rcases hr y hyn with ⟨e, q1, q2, q3⟩ | ⟨q1, q2⟩
      · -- has its steps
        have hne : decide (r' y = -1) = false := decide_eq_false (by rw [hry, q3]; exact fun e' => m1_ne e (by omega) e'.symm)
        obtain ⟨r2, z, k1, k2⟩ := ih (y + 1) r' (by omega) (fun b hb => by
          by_cases eb : b = y
          · subst eb; exact Or.inl ⟨e, by omega, q2, by rw [hry]; exact q3⟩
          · exact h1 b (by omega)) (fun b g1 g2 => h2 b (by omega) g2) h3
        refine ⟨r2, z, ?_, k2⟩
        refine h44.trans ?_
        rw [e104, zle_f n y hyn (by omega)]
        simp (disch := omega) only [decide_true, decide_false, Bool.not_true, Bool.not_false, am_cont, Option.bind_some, Option.toList_some, Option.toList_none, List.singleton_append, List.nil_append, cond_true, cond_false, zI_in, zI_nat, ur_at, hne]
        exact (estep r').trans k1
      · have hne : decide (r' y = -1) = true := decide_eq_true (by rw [hry]; exact q2)
        have hany : anyb n (fun b => bt (a y) b && decide (r' b = Int32.ofNat (dd - 1))) = lvb n a g dd y := by
          have hiff : anyb n (fun b => bt (a y) b && decide (r' b = Int32.ofNat (dd - 1))) = true ↔ lvb n a g dd y = true := by
            rw [anyb_iff]
            constructor
            · rintro ⟨z, g1, g2⟩
              obtain ⟨g3, g4⟩ := and_f g2
              have g4 := (h3 z g1 (dd - 1) (by omega)).mp (of_decide_eq_true g4)
              rcases hr z g1 with ⟨e, t1, t2, t3⟩ | ⟨t1, t2⟩
              · rw [t3, zI_eq e (dd - 1) (by omega) (by omega)] at g4
                subst g4
                have := (lvb_succ n a g (dd - 1) y).mpr (Or.inr ⟨z, g1, g3, t2.1⟩)
                rw [show dd - 1 + 1 = dd by omega] at this
                exact this
              · rw [t2] at g4; exact absurd g4 (m1_ne _ (by omega))
            · intro hl
              rw [show dd = dd - 1 + 1 by omega] at hl
              rcases (lvb_succ n a g (dd - 1) y).mp hl with t | ⟨z, t1, t2, t3⟩
              · rw [q1] at t; cases t
              · refine ⟨z, t1, ?_⟩
                rcases hr z t1 with ⟨e, u1, u2, u3⟩ | ⟨u1, u2⟩
                · have he : e = dd - 1 := by
                    apply Classical.byContradiction
                    intro hne
                    have : lvb n a g (dd - 1) y = true := by
                      have := (lvb_succ n a g (dd - 2) y).mpr (Or.inr ⟨z, t1, t2, lvb_mono n a g e (dd - 2) z (by omega) u2.1⟩)
                      rw [show dd - 2 + 1 = dd - 1 by omega] at this
                      exact this
                    rw [q1] at this; cases this
                  subst he
                  have := (h3 z t1 (dd - 1) (by omega)).mpr u3
                  show (bt (a y) z && decide (r' z = Int32.ofNat (dd - 1))) = true
                  rw [t2, decide_eq_true this]; rfl
                · rw [u1] at t3; cases t3
          cases h5 : lvb n a g dd y with
          | true => exact hiff.mpr h5
          | false =>
            cases h6 : anyb n (fun b => bt (a y) b && decide (r' b = Int32.ofNat (dd - 1))) with
            | false => rfl
            | true => rw [hiff.mp h6] at h5; cases h5
        have hm1 := fwd_m1 (fun b => bt (a y) b && decide (r' b = Int32.ofNat (dd - 1))) n hn
        rw [hany] at hm1
        cases hl : lvb n a g dd y with
        | false =>
          rw [hl] at hm1
          obtain ⟨r2, z, k1, k2⟩ := ih (y + 1) r' (by omega) (fun b hb => by
            by_cases eb : b = y
            · subst eb; exact Or.inr ⟨hl, by rw [hry]; exact q2⟩
            · exact h1 b (by omega)) (fun b g1 g2 => h2 b (by omega) g2) h3
          refine ⟨r2, z, ?_, k2⟩
          refine h44.trans ?_
          rw [e104, zle_f n y hyn (by omega)]
          simp (disch := omega) only [decide_true, decide_false, Bool.not_true, Bool.not_false, am_cont, Option.bind_some, Option.toList_some, Option.toList_none, List.singleton_append, List.nil_append, cond_true, cond_false, zI_in, zI_nat, ur_at, hne, e105, hdm, hfw, bk_43_75, hm1]
          exact (estep r').trans k1
        | true =>
          rw [hl] at hm1
          obtain ⟨r2, z, k1, k2⟩ := ih (y + 1) (ru r' y (Int32.ofNat dd)) (by omega) (fun b hb => by
            by_cases eb : b = y
            · subst eb
              refine Or.inl ⟨dd, Nat.le_refl _, ⟨hl, fun f hf => ?_⟩, ru_eq _ _ _⟩
              cases hz : lvb n a g f b with
              | false => rfl
              | true => have := lvb_mono n a g f (dd - 1) b (by omega) hz; rw [q1] at this; cases this
            · have := h1 b (by omega)
              unfold SV at this ⊢
              rw [ru_ne _ _ _ _ eb]; exact this) (fun b g1 g2 => by rw [ru_ne _ _ _ _ (by omega)]; exact h2 b (by omega) g2) (fun b hb e he => by
            by_cases eb : b = y
            · subst eb
              rw [ru_eq]
              constructor
              · intro e5; rw [zI_eq dd e (by omega) (by omega)] at e5; omega
              · intro e5; rw [q2] at e5; exact absurd e5 (m1_ne _ (by omega))
            · rw [ru_ne _ _ _ _ eb]; exact h3 b hb e he)
          refine ⟨r2, z, ?_, k2⟩
          refine h44.trans ?_
          rw [e104, zle_f n y hyn (by omega)]
          simp (disch := omega) only [decide_true, decide_false, Bool.not_true, Bool.not_false, am_cont, Option.bind_some, Option.toList_some, Option.toList_none, List.singleton_append, List.nil_append, cond_true, cond_false, zI_in, zI_nat, ur_at, hne, e105, hdm, hfw, bk_43_75, hm1, am_u_r, ur_ur]
          exact (estep _).trans k1
  have outer : ∀ j dd (o : Option Value) r, dd + j = n → 1 ≤ dd → (∀ b, b < n → SV n a g (dd - 1) r b) → ∃ r2, am_ev env (d + 3, 43, 34, [some (.ref 104), some (.int (Int32.ofNat g)), some (.int (Int32.ofNat dd)), o], [], am_hp (am_ur I 106 r) J E) = some (true, none, am_hp (am_ur I 106 r2) J E) ∧ ∀ b, b < n → SV n a g (n - 1) r2 b := by
    intro j
    induction j with
    | zero =>
      intro dd o r hd h1 h2
      refine ⟨r, ?_, by rw [show n - 1 = dd - 1 by omega]; exact h2⟩
      refine (bk_43_34 _ _ _ _ _ _ _ _).trans ?_
      rw [e104, zle_t n dd (by omega) (by omega)]
      rfl
    | succ j ih =>
      intro dd o r hd h1 h2
      obtain ⟨r2, z, k1, k2⟩ := stage dd h1 (by omega) r h2 n 0 r (by omega) (fun b hb => by omega) (fun _ _ _ => rfl) (fun _ _ _ _ => Iff.rfl)
      obtain ⟨r3, l1, l2⟩ := ih (dd + 1) (some (.int z)) r2 (by omega) (by omega) (by rw [Nat.add_sub_cancel]; exact k2)
      refine ⟨r3, ?_, l2⟩
      refine (bk_43_34 _ _ _ _ _ _ _ _).trans ?_
      rw [e104, zle_f n dd (by omega) (by omega), cond_false]
      exact k1.trans l1
  obtain ⟨r, h1, h2⟩ := outer (n - 1) 1 none _ (by omega) (by omega) sv0
  exact ⟨r, z1.trans h1, h2⟩
