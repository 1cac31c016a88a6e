/-! ring -/
theorem SV_top {n : Nat} {a : Nat → Int32} {g : Nat} {r : Nat → Int32} (hn : n ≤ 8) (hg : g < n) (h : ∀ b, b < n → SV n a g (n - 1) r b) (b : Nat) (hb : b < n) (e : Nat) (he : e < 100) : r b = Int32.ofNat e ↔ exl n a g e b := by
  rcases h b hb with ⟨f, q1, q2, q3⟩ | ⟨q1, q2⟩
  · rw [q3, zI_eq f e (by omega) (by omega)]
    exact ⟨fun h => h ▸ q2, fun h => exl_uniq q2 h⟩
  · rw [q2]
    constructor
    · intro h; exact absurd h (m1_ne e (by omega))
    · intro h
      have := lvb_top n (by omega) a g hg e b hb h.1
      rw [q1] at this; cases this
theorem exl_next {n : Nat} {a : Nat → Int32} {g f b : Nat} (h : exl n a g (f + 1) b) : ∃ y, y < n ∧ bt (a b) y = true ∧ exl n a g f y := by
  rcases (lvb_succ n a g f b).mp h.1 with h1 | ⟨y, h1, h2, h3⟩
  · rw [h.2 f (by omega)] at h1; cases h1
  · refine ⟨y, h1, h2, h3, fun e he => ?_⟩
    cases hz : lvb n a g e y with
    | false => rfl
    | true =>
      have := (lvb_succ n a g e b).mpr (Or.inr ⟨y, h1, h2, hz⟩)
      rw [h.2 (e + 1) (by omega)] at this; cases this
/-- f is the least number of steps, one at least -/
def PMf (n : Nat) (a : Nat → Int32) (g f b : Nat) : Prop := 1 ≤ f ∧ (∃ y, y < n ∧ bt (a b) y = true ∧ lvb n a g (f - 1) y = true) ∧ ∀ e, e + 1 < f → ∀ y, y < n → bt (a b) y = true → lvb n a g e y = false
theorem PMf_exl {n : Nat} {a : Nat → Int32} {g f b : Nat} (hbg : b ≠ g) (hf : 1 ≤ f) : PMf n a g f b ↔ exl n a g f b := by
  constructor
  · rintro ⟨h1, ⟨y, h2, h3, h4⟩, h5⟩
    refine ⟨?_, fun e he => ?_⟩
    · have := (lvb_succ n a g (f - 1) b).mpr (Or.inr ⟨y, h2, h3, h4⟩)
      rw [show f - 1 + 1 = f by omega] at this; exact this
    · cases hz : lvb n a g e b with
      | false => rfl
      | true =>
        obtain ⟨e0, q1, q2⟩ := exl_ex n a g e b hz
        rcases e0 with _ | e1
        · exact absurd (of_decide_eq_true q2.1) hbg
        · obtain ⟨z, z1, z2, z3⟩ := exl_next q2
          have := h5 e1 (by omega) z z1 z2
          rw [z3.1] at this; cases this
  · intro h
    refine ⟨hf, ?_, fun e he y hy hb => ?_⟩
    · have h' : exl n a g (f - 1 + 1) b := by rw [show f - 1 + 1 = f by omega]; exact h
      obtain ⟨y, y1, y2, y3⟩ := exl_next h'
      exact ⟨y, y1, y2, y3.1⟩
    · cases hz : lvb n a g e y with
      | false => rfl
      | true =>
        have := (lvb_succ n a g e b).mpr (Or.inr ⟨y, hy, hb, hz⟩)
        rw [h.2 (e + 1) he] at this; cases this
theorem PMf_uniq {n : Nat} {a : Nat → Int32} {g f f' b : Nat} (h : PMf n a g f b) (h' : PMf n a g f' b) : f = f' := by
  obtain ⟨a1, ⟨y, y1, y2, y3⟩, a3⟩ := h
  obtain ⟨b1, ⟨z, z1, z2, z3⟩, b3⟩ := h'
  rcases Nat.lt_trichotomy f f' with hl | he | hl
  · have := b3 (f - 1) (by omega) y y1 y2; rw [y3] at this; cases this
  · exact he
  · have := a3 (f' - 1) (by omega) z z1 z2; rw [z3] at this; cases this
theorem c_leastSteps (env : am_E) (d : Nat) (n : Nat) (hn : n ≤ 8) (s : Int32) (I : Nat → Nat → Int32) (J : Nat → Nat → Int64) (E : Nat → Nat → Nat) (h0 : I 104 0 = Int32.ofNat n) : am_ev env (d + 3, 44, 0, [some (.ref 104), some (.int s), none], [], am_hp I J E) = some (true, some (.int (fwd (fun i => anyb n (fun x => bt s x && decide (I 106 x = Int32.ofNat i))) n 0)), am_hp I J E) := by
  refine (bk_44_0 _ _ _ _ _ _).trans ?_
  have key : ∀ j i, i + j = n → am_ev env (d + 3, 44, 2, [some (.ref 104), some (.int s), some (.int (Int32.ofNat i))], [], am_hp I J E) = some (true, some (.int (fwd (fun i => anyb n (fun x => bt s x && decide (I 106 x = Int32.ofNat i))) j i)), am_hp I J E) := by
    intro j
    induction j with
    | zero =>
      intro i hi
      refine (bk_44_2 _ _ _ _ _ _ _).trans ?_
      rw [h0, zle_t n i (by omega) (by omega)]
      rfl
    | succ j ih =>
      intro i hi
      refine (bk_44_2 _ _ _ _ _ _ _).trans ?_
      rw [h0, zle_f n i (by omega) (by omega)]
      simp only [decide_true, decide_false, Bool.not_true, Bool.not_false, am_cont, Option.bind_some, Option.toList_some, Option.toList_none, List.singleton_append, List.nil_append, cond_true, cond_false, c_firstWith env d n hn s (Int32.ofNat i) I J E h0, bk_44_16, fwd_m1 _ n hn]
      unfold fwd
      cases anyb n (fun x => bt s x && decide (I 106 x = Int32.ofNat i))
      · simp only [decide_true, decide_false, Bool.not_true, Bool.not_false, am_cont, Option.bind_some, Option.toList_some, Option.toList_none, List.singleton_append, List.nil_append, cond_true, cond_false, zd_1]; exact ih (i + 1) (by omega)
      · simp only [decide_true, decide_false, Bool.not_true, Bool.not_false, am_cont, Option.bind_some, Option.toList_some, Option.toList_none, List.singleton_append, List.nil_append, cond_true, cond_false]
  exact key n 0 (by omega)
/-- the ring's BOOKS, one by one -/
def rsq (n : Nat) (a : Nat → Int32) (r : Nat → Int32) (g L : Nat) : Nat → Nat
  | 0 => g
  | k + 1 => (fwd (fun x => bt (a (rsq n a r g L k)) x && decide (r x = Int32.ofNat (L - k))) n 0).toNatClampNeg
theorem rsq_P {n : Nat} {a : Nat → Int32} {g L : Nat} {r : Nat → Int32} (hn : n ≤ 8) (hg : g < n) (hL : L < n) (h : ∀ b, b < n → SV n a g (n - 1) r b) (h0 : ∃ x, x < n ∧ bt (a g) x = true ∧ exl n a g L x) : ∀ k, k ≤ L → rsq n a r g L k < n ∧ (1 ≤ k → exl n a g (L + 1 - k) (rsq n a r g L k)) ∧ (k < L ∨ k = 0 → k ≤ L → (k < L ∨ L = k) → (∃ x, x < n ∧ bt (a (rsq n a r g L k)) x = true ∧ exl n a g (L - k) x)) := by
  intro k
  induction k with
  | zero => intro _; exact ⟨hg, fun h => by omega, fun _ _ _ => h0⟩
  | succ k ih =>
    intro hk
    obtain ⟨i1, i2, i3⟩ := ih (by omega)
    obtain ⟨x, x1, x2, x3⟩ := i3 (by omega) (by omega) (by omega)
    have hP : (∃ y, y < n ∧ bt (a (rsq n a r g L k)) y = true ∧ exl n a g (L - k) y ∧ rsq n a r g L (k + 1) = y) := by
      rcases fwd_P (fun x => bt (a (rsq n a r g L k)) x && decide (r x = Int32.ofNat (L - k))) n 0 with ⟨y, y1, y2, y3, y4, y5⟩ | ⟨y1, y2⟩
      · obtain ⟨z1, z2⟩ := and_f y3
        refine ⟨y, by omega, z1, (SV_top hn hg h y (by omega) (L - k) (by omega)).mp (of_decide_eq_true z2), ?_⟩
        show (fwd _ n 0).toNatClampNeg = y
        rw [y5, zI_nat y (by omega)]
      · have := y1 x (by omega) (by omega)
        rw [x2, decide_eq_true ((SV_top hn hg h x x1 (L - k) (by omega)).mpr x3)] at this
        cases this
    obtain ⟨y, y1, y2, y3, y4⟩ := hP
    rw [y4]
    refine ⟨y1, fun _ => by rw [show L + 1 - (k + 1) = L - k by omega]; exact y3, fun _ _ h5 => ?_⟩
    have hlt : k + 1 < L ∨ k + 1 = L := by omega
    have : L - k = L - (k + 1) + 1 := by omega
    rw [this] at y3
    exact exl_next y3
/-- a search that goes on to the first -/
theorem rsq_succ {n : Nat} {a : Nat → Int32} {g L : Nat} {r : Nat → Int32} (hn : n ≤ 8) (hg : g < n) (hL : L < n) (h : ∀ b, b < n → SV n a g (n - 1) r b) (h0 : ∃ x, x < n ∧ bt (a g) x = true ∧ exl n a g L x) (k : Nat) (hk : k < L) : fwd (fun x => bt (a (rsq n a r g L k)) x && decide (r x = Int32.ofNat (L - k))) n 0 = Int32.ofNat (rsq n a r g L (k + 1)) := by
  obtain ⟨i1, i2, i3⟩ := rsq_P hn hg hL h h0 k (by omega)
  obtain ⟨x, x1, x2, x3⟩ := i3 (by omega) (by omega) (by omega)
  show _ = Int32.ofNat (fwd _ n 0).toNatClampNeg
  rcases fwd_P (fun x => bt (a (rsq n a r g L k)) x && decide (r x = Int32.ofNat (L - k))) n 0 with ⟨y, y1, y2, y3, y4, y5⟩ | ⟨y1, y2⟩
  · rw [y5, zI_nat y (by omega)]
  · have := y1 x (by omega) (by omega)
    rw [x2, decide_eq_true ((SV_top hn hg h x x1 (L - k) (by omega)).mpr x3)] at this
    cases this
def RHp (I : Nat → Nat → Int32) (f : Nat → Int32) (k : Nat) : Nat → Nat → Int32 := am_ur (am_ur I 104 (ru (I 104) 6 (Int32.ofNat k))) 108 (cpr (I 108) 0 k f)
theorem c_findRing (env : am_E) (d : Nat) (n g : Nat) (hn : n ≤ 8) (hg : g < n) (a : Nat → Int32) (ha : lowa n a) (I : Nat → Nat → Int32) (J : Nat → Nat → Int64) (E : Nat → Nat → Nat) (ho : Or I n a) : ∃ r, (∀ b, b < n → SV n a g (n - 1) r b) ∧ ((∃ L, L < n ∧ (∃ x, x < n ∧ bt (a g) x = true ∧ exl n a g L x) ∧ (∀ e, e < L → ∀ x, x < n → bt (a g) x = true → lvb n a g e x = false) ∧ am_ev env (d + 4, 42, 0, [some (.ref 104), some (.int (Int32.ofNat g)), none, none, none], [], am_hp I J E) = some (true, some (.int 1), am_hp (RHp (am_ur I 106 r) (fun i => Int32.ofNat (rsq n a r g L i)) (L + 1)) J E)) ∨ ((∀ e x, x < n → bt (a g) x = true → lvb n a g e x = false) ∧ am_ev env (d + 4, 42, 0, [some (.ref 104), some (.int (Int32.ofNat g)), none, none, none], [], am_hp I J E) = some (true, some (.int 0), am_hp (am_ur I 106 r) J E))) := by
  obtain ⟨r, h1, h2⟩ := c_countSteps env d n g hn hg a I J E ho
  refine ⟨r, h2, ?_⟩
  have e104 : am_ur I 106 r 104 0 = Int32.ofNat n := by rw [ur_ne _ _ _ _ (by omega)]; exact ho.1
  have e105 : am_ur I 106 r 105 g = a g := by rw [ur_ne _ _ _ _ (by omega)]; exact ho.2 g hg
  have hls := c_leastSteps env d n hn (a g) (am_ur I 106 r) J E e104
  rw [ur_at] at hls
  have start : am_ev env (d + 4, 42, 0, [some (.ref 104), some (.int (Int32.ofNat g)), none, none, none], [], am_hp I J E) = am_ev env (d + 4, 42, 15, [some (.ref 104), some (.int (Int32.ofNat g)), none, none, none], [.int (fwd (fun i => anyb n (fun x => bt (a g) x && decide (r x = Int32.ofNat i))) n 0)], am_hp (am_ur I 106 r) J E) := by
    simp (disch := omega) only [bk_42_0, bk_42_5, decide_true, decide_false, Bool.not_true, Bool.not_false, am_cont, Option.bind_some, Option.toList_some, Option.toList_none, List.singleton_append, List.nil_append, cond_true, cond_false, h1, zI_in, zI_nat, e105, hls]
  rcases fwd_P (fun i => anyb n (fun x => bt (a g) x && decide (r x = Int32.ofNat i))) n 0 with ⟨L, l1, l2, l3, l4, l5⟩ | ⟨l1, l2⟩
  · left
    obtain ⟨x, x1, x2⟩ := (anyb_iff n _).mp l3
    obtain ⟨x3, x4⟩ := and_f x2
    have hx : ∃ x, x < n ∧ bt (a g) x = true ∧ exl n a g L x := ⟨x, x1, x3, (SV_top hn hg h2 x x1 L (by omega)).mp (of_decide_eq_true x4)⟩
    have hmin : ∀ e, e < L → ∀ x, x < n → bt (a g) x = true → lvb n a g e x = false := by
      intro e he x hx1 hx2
      cases hz : lvb n a g e x with
      | false => rfl
      | true =>
        obtain ⟨f, q1, q2⟩ := exl_ex n a g e x hz
        have := l4 f (by omega) (by omega)
        rw [(anyb_iff n _).mpr ⟨x, hx1, by rw [hx2, decide_eq_true ((SV_top hn hg h2 x hx1 f (by omega)).mpr q2)]; rfl⟩] at this
        cases this
    refine ⟨L, by omega, hx, hmin, start.trans ?_⟩
    refine (bk_42_15 _ _ _ _ _ _ _).trans ?_
    rw [l5, decide_eq_false (fun e => m1_ne L (by omega) e.symm)]
    have key : ∀ j k, k + j = L → am_ev env (d + 4, 42, 40, [some (.ref 104), some (.int (Int32.ofNat g)), some (.int (Int32.ofNat L)), some (.int (Int32.ofNat (rsq n a r g L k))), some (.int (Int32.ofNat j))], [], am_hp (RHp (am_ur I 106 r) (fun i => Int32.ofNat (rsq n a r g L i)) (k + 1)) J E) = some (true, some (.int 1), am_hp (RHp (am_ur I 106 r) (fun i => Int32.ofNat (rsq n a r g L i)) (L + 1)) J E) := by
      intro j
      induction j with
      | zero =>
        intro k hk
        refine (bk_42_40 _ _ _ _ _ _ _ _ _).trans ?_
        rw [show decide (Int32.ofNat 0 ≤ (0 : Int32)) = true by decide, show k = L by omega]
        simp only [decide_true, decide_false, Bool.not_true, Bool.not_false, am_cont, Option.bind_some, Option.toList_some, Option.toList_none, List.singleton_append, List.nil_append, cond_true, cond_false, bk_42_100]
      | succ j ih =>
        intro k hk
        obtain ⟨i1, i2, i3⟩ := rsq_P hn hg (by omega) h2 hx k (by omega)
        have hs := rsq_succ hn hg (by omega) h2 hx k (by omega)
        have f104 : RHp (am_ur I 106 r) (fun i => Int32.ofNat (rsq n a r g L i)) (k + 1) 104 0 = Int32.ofNat n := by
          unfold RHp; rw [ur_ne _ _ _ _ (by omega), ur_at, ru_ne _ _ _ _ (by omega)]; exact e104
        have f6 : RHp (am_ur I 106 r) (fun i => Int32.ofNat (rsq n a r g L i)) (k + 1) 104 6 = Int32.ofNat (k + 1) := by
          unfold RHp; rw [ur_ne _ _ _ _ (by omega), ur_at, ru_eq]
        have f105 : ∀ b, b < n → RHp (am_ur I 106 r) (fun i => Int32.ofNat (rsq n a r g L i)) (k + 1) 105 b = a b := by
          intro b hb; unfold RHp; rw [ur_ne _ _ _ _ (by omega), ur_ne _ _ _ _ (by omega), ur_ne _ _ _ _ (by omega)]; exact ho.2 b hb
        have f106 : RHp (am_ur I 106 r) (fun i => Int32.ofNat (rsq n a r g L i)) (k + 1) 106 = r := by
          unfold RHp; rw [ur_ne _ _ _ _ (by omega), ur_ne _ _ _ _ (by omega), ur_at]
        have hset : am_u (am_u (RHp (am_ur I 106 r) (fun i => Int32.ofNat (rsq n a r g L i)) (k + 1)) 108 (k + 1) (Int32.ofNat (rsq n a r g L (k + 1)))) 104 6 (Int32.ofNat (k + 2)) = RHp (am_ur I 106 r) (fun i => Int32.ofNat (rsq n a r g L i)) (k + 1 + 1) := by
          have hcs := cpr_succ (am_ur I 106 r 108) 0 (k + 1) (fun i => Int32.ofNat (rsq n a r g L i))
          rw [Nat.zero_add] at hcs
          unfold RHp
          rw [am_u_r, am_u_r, ur_at, ur_ur, hcs, ur_ne _ 108 _ 104 (by omega), ur_at, ru_ru, ur_comm _ 108 104 _ _ (by omega), ur_ur]
        have hfw := c_firstWith env (d + 1) n hn (a (rsq n a r g L k)) (Int32.ofNat (j + 1)) (RHp (am_ur I 106 r) (fun i => Int32.ofNat (rsq n a r g L i)) (k + 1)) J E f104
        rw [f106, show j + 1 = L - k by omega, hs] at hfw
        refine (bk_42_40 _ _ _ _ _ _ _ _ _).trans ?_
        rw [show decide (Int32.ofNat (j + 1) ≤ (0 : Int32)) = false from zle_f (j + 1) 0 (by omega) (by omega), f6, show decide ((8 : Int32) ≤ Int32.ofNat (k + 1)) = false from zle_f 8 (k + 1) (by omega) (by omega)]
        have hi2 := (rsq_P hn hg (by omega) h2 hx (k + 1) (by omega)).1
        have hm1 : decide (Int32.ofNat (rsq n a r g L (k + 1)) = -1) = false := decide_eq_false (fun e => m1_ne _ (by omega) e.symm)
        have hp : Int32.ofNat (j + 1) + (-1) = Int32.ofNat j := by rw [zI_pred (j + 1) (by omega), Nat.add_sub_cancel]
        rw [show L - k = j + 1 by omega] at hfw
        simp (disch := omega) only [decide_true, decide_false, Bool.not_true, Bool.not_false, am_cont, Option.bind_some, Option.toList_some, Option.toList_none, List.singleton_append, List.nil_append, cond_true, cond_false, zI_in, zI_nat, f105 _ i1, hfw, bk_42_66, hm1, f6, am_u_nr, zd_1, hset, hp]
        exact ih (k + 1) (by omega)
    have hset0 : am_u (am_u (am_ur I 106 r) 108 0 (Int32.ofNat g)) 104 6 1 = RHp (am_ur I 106 r) (fun i => Int32.ofNat (rsq n a r g L i)) (0 + 1) := by
      have hcs := cpr_succ (am_ur I 106 r 108) 0 0 (fun i => Int32.ofNat (rsq n a r g L i))
      rw [cpr_zero, Nat.zero_add] at hcs
      unfold RHp
      rw [am_u_r, am_u_r, ← hcs, ur_ne _ 108 _ 104 (by omega), ur_comm _ 108 104 _ _ (by omega)]
      rfl
    rw [hset0]
    exact key L 0 (by omega)
  · right
    refine ⟨fun e x hx1 hx2 => ?_, start.trans ?_⟩
    · cases hz : lvb n a g e x with
      | false => rfl
      | true =>
        obtain ⟨f, q1, q2⟩ := exl_ex n a g e x hz
        have hf := exl_lt n (by omega) a g hg f x hx1 q2
        have := l1 f (by omega) (by omega)
        rw [(anyb_iff n _).mpr ⟨x, hx1, by rw [hx2, decide_eq_true ((SV_top hn hg h2 x hx1 f (by omega)).mpr q2)]; rfl⟩] at this
        cases this
    · refine (bk_42_15 _ _ _ _ _ _ _).trans ?_
      rw [l2]
      rfl
