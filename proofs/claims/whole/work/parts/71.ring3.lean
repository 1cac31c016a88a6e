/-! the reference's ring; both side by side -/
def tu (t : Nat → Nat) (b v : Nat) : Nat → Nat := fun i => if i = b then v else t i
def rx (a : Nat → Int32) (b y : Nat) (t : Nat → Nat) : Nat → Nat := if bt (a b) y then tu t b (min (t b) (t y + 1)) else t
def rxp (a : Nat → Int32) (n : Nat) (t : Nat → Nat) : Nat → Nat := lp (fun b t => lp (fun y t => rx a b y t) n t) n t
def trow (m : Nat → Int32) (t : Nat → Nat) : Nat → Int32 := cpr m 0 8 (fun i => Int32.ofNat (t i))
theorem trow_at (m : Nat → Int32) (t : Nat → Nat) (b : Nat) (hb : b < 8) : trow m t b = Int32.ofNat (t b) := by
  have := cpr_in m 0 8 (fun i => Int32.ofNat (t i)) b hb
  rw [Nat.zero_add] at this; exact this
theorem trow_set (m : Nat → Int32) (t : Nat → Nat) (b v : Nat) (hb : b < 8) : ru (trow m t) b (Int32.ofNat v) = trow m (tu t b v) := by
  funext j
  by_cases h : j < 8
  · rw [trow_at m _ j h]
    unfold tu
    by_cases e : j = b
    · subst e; rw [ru_eq, if_pos rfl]
    · rw [ru_ne _ _ _ _ e, if_neg e, trow_at m t j h]
  · rw [ru_ne _ _ _ _ (by omega)]
    unfold trow
    rw [cpr_out _ _ _ _ _ (by omega), cpr_out _ _ _ _ _ (by omega)]
/-- what is told of the row of steps -/
def UP (n : Nat) (a : Nat → Int32) (g : Nat) (t : Nat → Nat) : Prop := ∀ b, b < 8 → t b ≤ 100000 ∧ (b < n → t b = 100000 ∨ ∃ e, t b = e + 1 ∧ ∃ y, y < n ∧ bt (a b) y = true ∧ lvb n a g e y = true)
theorem rx_P {n : Nat} {a : Nat → Int32} {g b y : Nat} {t : Nat → Nat} (hn : n ≤ 8) (hb : b < n) (hy : y < n) (h : UP n a g t) : UP n a g (rx a b y t) ∧ (∀ c, rx a b y t c ≤ t c) ∧ (bt (a b) y = true → rx a b y t b ≤ t y + 1) := by
  unfold rx
  cases hby : bt (a b) y with
  | false => exact ⟨h, fun c => Nat.le_refl _, fun h => by cases h⟩
  | true =>
    rw [if_pos rfl]
    refine ⟨fun c hc => ?_, fun c => ?_, fun _ => ?_⟩
    · unfold tu
      by_cases e : c = b
      · subst e
        rw [if_pos rfl]
        obtain ⟨h1, h2⟩ := h c hc
        obtain ⟨g1, g2⟩ := h y (by omega)
        refine ⟨by omega, fun _ => ?_⟩
        by_cases hle : t c ≤ t y + 1
        · rw [Nat.min_eq_left hle]; exact h2 hb
        · rw [Nat.min_eq_right (by omega)]
          rcases g2 hy with g3 | ⟨e1, g3, z, z1, z2, z3⟩
          · omega
          · right
            exact ⟨t y, rfl, y, hy, hby, by rw [g3]; exact (lvb_succ n a g e1 y).mpr (Or.inr ⟨z, z1, z2, z3⟩)⟩
      · rw [if_neg e]; exact h c hc
    · unfold tu
      by_cases e : c = b
      · subst e; rw [if_pos rfl]; exact Nat.min_le_left _ _
      · rw [if_neg e]; exact Nat.le_refl _
    · unfold tu
      rw [if_pos rfl]; exact Nat.min_le_right _ _
theorem rxi_P {n : Nat} {a : Nat → Int32} {g b : Nat} {t : Nat → Nat} (hn : n ≤ 8) (hb : b < n) (h : UP n a g t) : ∀ N, N ≤ n → UP n a g (lp (fun y t => rx a b y t) N t) ∧ (∀ c, lp (fun y t => rx a b y t) N t c ≤ t c) ∧ (∀ y, y < N → bt (a b) y = true → lp (fun y t => rx a b y t) N t b ≤ t y + 1) := by
  intro N
  induction N with
  | zero => intro _; exact ⟨h, fun c => Nat.le_refl _, fun y hy => by omega⟩
  | succ N ih =>
    intro hN
    obtain ⟨i1, i2, i3⟩ := ih (by omega)
    obtain ⟨j1, j2, j3⟩ := rx_P hn hb (by omega : N < n) i1
    refine ⟨j1, fun c => Nat.le_trans (j2 c) (i2 c), fun y hy hby => ?_⟩
    by_cases e : y = N
    · subst e
      have := j3 hby
      have := i2 y
      show rx a b y _ b ≤ _
      omega
    · have := i3 y (by omega) hby
      have := j2 b
      show rx a b N _ b ≤ _
      omega
theorem rxp_P {n : Nat} {a : Nat → Int32} {g : Nat} {t : Nat → Nat} (hn : n ≤ 8) (h : UP n a g t) : UP n a g (rxp a n t) ∧ (∀ c, rxp a n t c ≤ t c) ∧ (∀ b y, b < n → y < n → bt (a b) y = true → rxp a n t b ≤ t y + 1) := by
  have key : ∀ N, N ≤ n → UP n a g (lp (fun b t => lp (fun y t => rx a b y t) n t) N t) ∧ (∀ c, lp (fun b t => lp (fun y t => rx a b y t) n t) N t c ≤ t c) ∧ (∀ b y, b < N → y < n → bt (a b) y = true → lp (fun b t => lp (fun y t => rx a b y t) n t) N t b ≤ t y + 1) := by
    intro N
    induction N with
    | zero => intro _; exact ⟨h, fun c => Nat.le_refl _, fun b y hb => by omega⟩
    | succ N ih =>
      intro hN
      obtain ⟨i1, i2, i3⟩ := ih (by omega)
      obtain ⟨j1, j2, j3⟩ := rxi_P hn (by omega : N < n) i1 n (Nat.le_refl _)
      refine ⟨j1, fun c => Nat.le_trans (j2 c) (i2 c), fun b y hb hy hby => ?_⟩
      by_cases e : b = N
      · subst e
        have := j3 y hy hby
        have := i2 y
        show lp (fun y t => rx a b y t) n _ b ≤ _
        omega
      · have := i3 b y (by omega) hy hby
        have := j2 b
        show lp (fun y t => rx a N y t) n _ b ≤ _
        omega
  exact key n (Nat.le_refl _)
def LO (n : Nat) (a : Nat → Int32) (g R : Nat) (t : Nat → Nat) : Prop := ∀ b e y, b < n → e ≤ R → y < n → bt (a b) y = true → lvb n a g e y = true → t b ≤ e + 1
theorem LO_step {n : Nat} {a : Nat → Int32} {g R : Nat} {t : Nat → Nat} (hn : n ≤ 8) (h : UP n a g t) (hl : LO n a g R t) : LO n a g (R + 1) (rxp a n t) := by
  obtain ⟨-, p2, p3⟩ := rxp_P hn h
  intro b e y hb he hy hby hlv
  obtain ⟨e0, q1, q2⟩ := exl_ex n a g e y hlv
  rcases e0 with _ | e1
  · have := hl b 0 y hb (by omega) hy hby q2.1
    have := p2 b
    omega
  · obtain ⟨z, z1, z2, z3⟩ := exl_next q2
    have := hl y e1 z hy (by omega) z1 z2 z3.1
    have := p3 b y hb hy hby
    omega
def rxs (a : Nat → Int32) (n : Nat) (t : Nat → Nat) : Nat → Nat := lp (fun _ t => rxp a n t) 8 t
def t0 (a : Nat → Int32) (g : Nat) : Nat → Nat := fun b => if bt (a b) g then 1 else 100000
theorem rxs_P {n : Nat} {a : Nat → Int32} {g : Nat} (hn : n ≤ 8) (hg : g < n) : ∀ b, b < n → (∃ f, f ≤ 8 ∧ PMf n a g f b ∧ rxs a n (t0 a g) b = f) ∨ ((∀ e y, y < n → bt (a b) y = true → lvb n a g e y = false) ∧ rxs a n (t0 a g) b = 100000) := by
  have h0 : UP n a g (t0 a g) := by
    intro b hb
    unfold t0
    cases hb2 : bt (a b) g with
    | true => exact ⟨by simp, fun _ => Or.inr ⟨0, by simp, g, hg, hb2, decide_eq_true rfl⟩⟩
    | false => exact ⟨by simp, fun _ => Or.inl (by simp)⟩
  have l0 : LO n a g 0 (t0 a g) := by
    intro b e y hb he hy hby hlv
    have e0 : e = 0 := by omega
    subst e0
    have := of_decide_eq_true hlv
    subst this
    unfold t0
    rw [if_pos hby]; omega
  have key : ∀ K, UP n a g (lp (fun _ t => rxp a n t) K (t0 a g)) ∧ LO n a g K (lp (fun _ t => rxp a n t) K (t0 a g)) := by
    intro K
    induction K with
    | zero => exact ⟨h0, l0⟩
    | succ K ih => exact ⟨(rxp_P hn ih.1).1, LO_step hn ih.1 ih.2⟩
  obtain ⟨u, l⟩ := key 8
  have u : UP n a g (rxs a n (t0 a g)) := u
  have l : LO n a g 8 (rxs a n (t0 a g)) := l
  generalize rxs a n (t0 a g) = t at u l
  intro b hb
  have lo : ∀ e y, y < n → bt (a b) y = true → lvb n a g e y = true → t b ≤ e + 1 ∧ t b ≤ 8 := by
    intro e y hy hby hlv
    have h1 := lvb_top n (by omega) a g hg e y hy hlv
    have h2 := l b (n - 1) y hb (by omega) hy hby h1
    by_cases he : e ≤ 8
    · exact ⟨l b e y hb he hy hby hlv, by omega⟩
    · exact ⟨by omega, by omega⟩
  obtain ⟨u1, u2⟩ := u b (by omega)
  rcases u2 hb with h | ⟨e, h1, y, y1, y2, y3⟩
  · right
    refine ⟨fun e y hy hby => ?_, h⟩
    cases hz : lvb n a g e y with
    | false => rfl
    | true => have := (lo e y hy hby hz).2; omega
  · left
    refine ⟨e + 1, ?_, ⟨by omega, ⟨y, y1, y2, y3⟩, fun f hf z hz hbz => ?_⟩, h1⟩
    · have := (lo e y y1 y2 y3).2; omega
    · cases hq : lvb n a g f z with
      | false => rfl
      | true => have := (lo f z hz hbz hq).1; omega
theorem rxp_8 {n : Nat} {a : Nat → Int32} {t : Nat → Nat} (h : ∀ b, t b ≤ 100000) : ∀ b, rxp a n t b ≤ 100000 := by
  have h1 : ∀ b y (t : Nat → Nat), (∀ c, t c ≤ 100000) → ∀ c, rx a b y t c ≤ 100000 := by
    intro b y t ht c
    unfold rx
    split
    · unfold tu
      split
      · have := ht b; omega
      · exact ht c
    · exact ht c
  have h2 : ∀ b N (t : Nat → Nat), (∀ c, t c ≤ 100000) → ∀ c, lp (fun y t => rx a b y t) N t c ≤ 100000 := by
    intro b N t ht
    induction N with
    | zero => exact ht
    | succ N ih => exact h1 b N _ ih
  have h3 : ∀ N (t : Nat → Nat), (∀ c, t c ≤ 100000) → ∀ c, lp (fun b t => lp (fun y t => rx a b y t) n t) N t c ≤ 100000 := by
    intro N t ht
    induction N with
    | zero => exact ht
    | succ N ih => exact h2 N n _ ih
  exact h3 n t h
theorem m_layFar (env : am_E) (d : Nat) (n g : Nat) (hn : n ≤ 8) (hg : g < n) (I : Nat → Nat → Int32) (J : Nat → Nat → Int64) (E : Nat → Nat → Nat) (h0 : I 158 0 = Int32.ofNat n) : am_ev env (d + 4, 248, 0, [some (.ref 156), some (.int (Int32.ofNat g)), none, none, none], [], am_hp I J E) = some (true, none, am_hp (am_ur I 168 (trow (I 168) (rxs (aft (I 158)) n (t0 (aft (I 158)) g)))) J E) := by
  generalize hA : aft (I 158) = a
  have j158 : ∀ r, am_ur I 168 r 158 = I 158 := fun r => ur_ne _ _ _ _ (by omega)
  have hafs := fun r b (hb : b < 8) => m_afters env d b hb (am_ur I 168 r) J E
  have haf : ∀ r b, b < 8 → am_ev env (d + 3, 212, 0, [some (.ref 156), some (.int (Int32.ofNat b))], [], am_hp (am_ur I 168 r) J E) = some (true, some (.int (a b)), am_hp (am_ur I 168 r) J E) := by
    intro r b hb
    have := hafs r b hb
    rw [j158, hA] at this
    exact this
  have hz : am_ev env (d + 4, 248, 0, [some (.ref 156), some (.int (Int32.ofNat g)), none, none, none], [], am_hp I J E) = am_ev env (d + 4, 248, 41, [some (.ref 156), some (.int (Int32.ofNat g)), some (.int 0), none, none], [], am_hp (am_ur I 168 (trow (I 168) (t0 a g))) J E) := by
    refine (bk_248_0 _ _ _ _ _ _).trans ?_
    have hz := zcopy (fun b I => am_ev env (d + 4, 248, 2, [some (.ref 156), some (.int (Int32.ofNat g)), some (.int (Int32.ofNat b)), none, none], [], am_hp I J E)) I 168 0 (fun b => Int32.ofNat (t0 a g b)) 8 (fun b hb => by
      refine (bk_248_2 _ _ _ _ _ _ _).trans ?_
      rw [show decide ((8 : Int32) ≤ Int32.ofNat b) = false from zle_f 8 b hb (by omega)]
      simp (disch := omega) only [decide_true, decide_false, Bool.not_true, Bool.not_false, am_cont, Option.bind_some, Option.toList_some, Option.toList_none, List.singleton_append, List.nil_append, cond_true, cond_false, haf _ b hb, bk_248_18, m_has, bk_248_22, bi_eq0]
      unfold t0
      cases bt (a b) g <;> simp (disch := omega) only [decide_true, decide_false, Bool.not_true, Bool.not_false, am_cont, Option.bind_some, Option.toList_some, Option.toList_none, List.singleton_append, List.nil_append, cond_true, cond_false, bk_248_32, zI_in, zI_nat, am_u_r, ur_ur, ur_at, zd_1, Nat.zero_add] <;> rfl)
    refine Eq.trans hz ?_
    refine (bk_248_2 _ _ _ _ _ _ _).trans ?_
    rw [show decide ((8 : Int32) ≤ Int32.ofNat 8) = true by decide]
    rfl
  have inner : ∀ (x2 : Int32) b t, b < n → (∀ c, t c ≤ 100000) → (am_ev env (d + 4, 248, 62, [some (.ref 156), some (.int (Int32.ofNat g)), some (.int x2), some (.int (Int32.ofNat b)), some (.int (Int32.ofNat 0))], [], am_hp (am_ur I 168 (trow (I 168) t)) J E) = am_ev env (d + 4, 248, 49, [some (.ref 156), some (.int (Int32.ofNat g)), some (.int x2), some (.int (Int32.ofNat (b + 1))), some (.int (Int32.ofNat n))], [], am_hp (am_ur I 168 (trow (I 168) (lp (fun y t => rx a b y t) n t))) J E)) ∧ ∀ c, lp (fun y t => rx a b y t) n t c ≤ 100000 := by
    intro x2 b t hb ht
    have hr := lp_run (fun y (t : Nat → Nat) => am_ev env (d + 4, 248, 62, [some (.ref 156), some (.int (Int32.ofNat g)), some (.int x2), some (.int (Int32.ofNat b)), some (.int (Int32.ofNat y))], [], am_hp (am_ur I 168 (trow (I 168) t)) J E)) (fun y t => rx a b y t) (fun _ t => ∀ c, t c ≤ 100000) n (fun y t hy hP => by
      refine ⟨?_, ?_⟩
      · refine (bk_248_62 _ _ _ _ _ _ _ _ _).trans ?_
        rw [j158, h0, zle_f n y hy (by omega)]
        simp (disch := omega) only [decide_true, decide_false, Bool.not_true, Bool.not_false, am_cont, Option.bind_some, Option.toList_some, Option.toList_none, List.singleton_append, List.nil_append, cond_true, cond_false, haf _ b (by omega), bk_248_78, m_has, bk_248_83, bi_eq0]
        unfold rx
        have hb1 := hP b
        have hy1 := hP y
        cases bt (a b) y with
        | false => simp only [decide_true, decide_false, Bool.not_true, Bool.not_false, am_cont, Option.bind_some, Option.toList_some, Option.toList_none, List.singleton_append, List.nil_append, cond_true, cond_false, bk_248_110, zd_1]; rfl
        | true =>
          have hls : (bif decide (Int32.ofNat (t y + 1) ≤ Int32.ofNat (t b)) then Int32.ofNat (t y + 1) else Int32.ofNat (t b)) = Int32.ofNat (min (t b) (t y + 1)) := lst_nat (t b) (t y + 1) (by omega) (by omega)
          simp (disch := omega) only [decide_true, decide_false, Bool.not_true, Bool.not_false, am_cont, Option.bind_some, Option.toList_some, Option.toList_none, List.singleton_append, List.nil_append, cond_true, cond_false, zI_in, zI_nat, ur_at, trow_at, zd_1, m_least, hls, bk_248_109, am_u_r, ur_ur, trow_set, bk_248_110]
          rfl
      · intro c
        unfold rx
        split
        · unfold tu; split
          · have := hP b; omega
          · exact hP c
        · exact hP c) t ht n (Nat.le_refl _)
    refine ⟨hr.1.trans ?_, hr.2⟩
    refine (bk_248_62 _ _ _ _ _ _ _ _ _).trans ?_
    rw [j158, h0, zle_t n n (Nat.le_refl _) (by omega), zd_1]
    rfl
  have mid : ∀ (x2 : Int32) j b (o : Option Value) t, b + j = n → (∀ c, t c ≤ 100000) → ∃ (o2 o3 : Option Value), am_ev env (d + 4, 248, 49, [some (.ref 156), some (.int (Int32.ofNat g)), some (.int x2), some (.int (Int32.ofNat b)), o], [], am_hp (am_ur I 168 (trow (I 168) (lp (fun b t => lp (fun y t => rx a b y t) n t) b t))) J E) = am_ev env (d + 4, 248, 41, [some (.ref 156), some (.int (Int32.ofNat g)), some (.int (x2 + 1)), o2, o3], [], am_hp (am_ur I 168 (trow (I 168) (rxp a n t))) J E) := by
    intro x2 j
    induction j with
    | zero =>
      intro b o t hb ht
      refine ⟨some (.int (Int32.ofNat b)), o, (bk_248_49 _ _ _ _ _ _ _ _ _).trans ?_⟩
      rw [j158, h0, zle_t n b (by omega) (by omega), show b = n by omega]
      rfl
    | succ j ih =>
      intro b o t hb ht
      have hle : ∀ c, lp (fun b t => lp (fun y t => rx a b y t) n t) b t c ≤ 100000 := by
        have : ∀ N, N ≤ n → ∀ c, lp (fun b t => lp (fun y t => rx a b y t) n t) N t c ≤ 100000 := by
          intro N
          induction N with
          | zero => intro _; exact ht
          | succ N ih2 => intro hN; exact (inner x2 N _ (by omega) (ih2 (by omega))).2
        exact this b (by omega)
      obtain ⟨o2, o3, h3⟩ := ih (b + 1) (some (.int (Int32.ofNat n))) t (by omega) ht
      refine ⟨o2, o3, (bk_248_49 _ _ _ _ _ _ _ _ _).trans ?_⟩
      rw [j158, h0, zle_f n b (by omega) (by omega), cond_false]
      exact (inner x2 b _ (by omega) hle).1.trans h3
  have outer : ∀ j i (o3 o4 : Option Value) t, i + j = 8 → (∀ c, t c ≤ 100000) → am_ev env (d + 4, 248, 41, [some (.ref 156), some (.int (Int32.ofNat g)), some (.int (Int32.ofNat i)), o3, o4], [], am_hp (am_ur I 168 (trow (I 168) t)) J E) = some (true, none, am_hp (am_ur I 168 (trow (I 168) (lp (fun _ t => rxp a n t) j t))) J E) := by
    intro j
    induction j with
    | zero =>
      intro i o3 o4 t hi ht
      refine (bk_248_41 _ _ _ _ _ _ _ _ _).trans ?_
      rw [show decide ((8 : Int32) ≤ Int32.ofNat i) = true from zle_t 8 i (by omega) (by omega)]
      rfl
    | succ j ih =>
      intro i o3 o4 t hi ht
      refine (bk_248_41 _ _ _ _ _ _ _ _ _).trans ?_
      rw [show decide ((8 : Int32) ≤ Int32.ofNat i) = false from zle_f 8 i (by omega) (by omega), cond_false]
      obtain ⟨o5, o6, h3⟩ := mid (Int32.ofNat i) n 0 o4 t (by omega) ht
      refine Eq.trans h3 ?_
      rw [zd_1, ih (i + 1) o5 o6 (rxp a n t) (by omega) (rxp_8 ht)]
      rw [lp_front (fun t => rxp a n t) j t]
  refine hz.trans ?_
  exact outer 8 0 none none (t0 a g) (by omega) (fun c => by unfold t0; split <;> omega)
