/-! what is always so -/
def rel (n k j : Nat) : Prop := j < 4 ∨ (4 ≤ j ∧ j < 4 + n) ∨ (12 ≤ j ∧ j < 12 + n) ∨ (20 ≤ j ∧ j < 20 + n) ∨ (28 ≤ j ∧ j < 28 + k) ∨ (34 ≤ j ∧ j < 38 + n) ∨ (46 ≤ j ∧ j < 70)
/-- two rows agree, but for BOOKS and READERS that there aren't -/
def Agr (n k : Nat) (m m' : Nat → Int32) : Prop := ∀ j, rel n k j → m j = m' j
theorem agr_refl (n k : Nat) (m : Nat → Int32) : Agr n k m m := fun _ _ => rfl
theorem agr_symm {n k : Nat} {m m' : Nat → Int32} (h : Agr n k m m') : Agr n k m' m := fun j hj => (h j hj).symm
theorem agr_trans {n k : Nat} {m m' m'' : Nat → Int32} (h : Agr n k m m') (h' : Agr n k m' m'') : Agr n k m m'' := fun j hj => (h j hj).trans (h' j hj)
theorem agr_ru {n k : Nat} {m m' : Nat → Int32} (h : Agr n k m m') (j : Nat) (x y : Int32) (e : x = y) : Agr n k (ru m j x) (ru m' j y) := by
  subst e
  intro i hi
  unfold ru
  split
  · rfl
  · exact h i hi
theorem agr_aft {n k : Nat} {m m' : Nat → Int32} (h : Agr n k m m') (b : Nat) (hb : b < n) : aft m b = aft m' b := by
  unfold aft; rw [h 35 (by unfold rel; omega), h (20 + b) (by unfold rel; omega)]
theorem agr_fitq {n k : Nat} {m m' : Nat → Int32} (h : Agr n k m m') (r b : Nat) (hr : r < 6) (hb : b < n) : fitq m r b = fitq m' r b := by
  unfold fitq; rw [agr_aft h b hb, h (64 + r) (by unfold rel; omega)]
theorem agr_wLend {n k : Nat} {m m' : Nat → Int32} (h : Agr n k m m') (r b : Nat) (hr : r < 6) (hb : b < n) : wLend m r b = wLend m' r b := by
  unfold wLend; rw [agr_fitq h r b hr hb, h (46 + r) (by unfold rel; omega), h (64 + r) (by unfold rel; omega), h (38 + b) (by unfold rel; omega)]
theorem agr_cwLend {n k : Nat} {m m' : Nat → Int32} (h : Agr n k m m') (r b : Nat) (hr : r < 6) (hb : b < n) : cwLend m r b = cwLend m' r b := by
  unfold cwLend; rw [agr_fitq h r b hr hb, h (46 + r) (by unfold rel; omega), h (64 + r) (by unfold rel; omega), h (38 + b) (by unfold rel; omega)]
theorem agr_wTell {n k : Nat} {m m' : Nat → Int32} (h : Agr n k m m') (r b q : Nat) (hr : r < 6) (hq : q < 6) (hb : b < n) : wTell m r b q = wTell m' r b q := by
  unfold wTell; rw [agr_fitq h q b hq hb, h (46 + q) (by unfold rel; omega), h (64 + r) (by unfold rel; omega), h (64 + q) (by unfold rel; omega)]
theorem agr_wForge {n k : Nat} {m m' : Nat → Int32} (h : Agr n k m m') (b : Nat) (hb : b < n) : wForge m b = wForge m' b := by
  unfold wForge; rw [h 35 (by unfold rel; omega), h (20 + b) (by unfold rel; omega)]
theorem agr_lLeave {n k : Nat} {m m' : Nat → Int32} (h : Agr n k m m') (r b : Nat) (hb : b < n) : Agr n k (lLeave m r b) (lLeave m' r b) := by
  unfold lLeave
  exact agr_ru (agr_ru (agr_ru h _ _ _ (by rw [h (38 + b) (by unfold rel; omega)])) _ _ _ rfl) _ _ _ rfl
theorem agr_lLearn {n k : Nat} {m m' : Nat → Int32} (h : Agr n k m m') (r b : Nat) (hr : r < 6) : Agr n k (lLearn m r b) (lLearn m' r b) := by
  unfold lLearn
  exact agr_ru (agr_ru h _ _ _ (by rw [h (64 + r) (by unfold rel; omega)])) _ _ _ (by rw [h 36 (by unfold rel; omega)])
theorem agr_lLend {n k : Nat} {m m' : Nat → Int32} (h : Agr n k m m') (r b : Nat) (hb : b < n) : Agr n k (lLend m r b) (lLend m' r b) := by
  unfold lLend
  exact agr_ru (agr_ru (agr_ru h _ _ _ (by rw [h (38 + b) (by unfold rel; omega)])) _ _ _ rfl) _ _ _ (h (4 + b) (by unfold rel; omega))
theorem agr_lBack {n k : Nat} {m m' : Nat → Int32} (h : Agr n k m m') (r b : Nat) (hr : r < 6) (hb : b < n) : Agr n k (lBack m r b) (lBack m' r b) := by
  unfold lBack
  exact agr_ru (agr_lLeave h r b hb) _ _ _ (by rw [h (58 + r) (by unfold rel; omega), h 3 (by unfold rel; omega)])
theorem agr_lForge {n k : Nat} {m m' : Nat → Int32} (h : Agr n k m m') (b : Nat) : Agr n k (lForge m b) (lForge m' b) := by
  unfold lForge
  exact agr_ru h _ _ _ (by rw [h 35 (by unfold rel; omega)])
theorem agr_lBurn {n k : Nat} {m m' : Nat → Int32} (h : Agr n k m m') (b : Nat) (hb : b < n) : Agr n k (lBurn m b) (lBurn m' b) := by
  unfold lBurn
  exact agr_ru h _ _ _ (by rw [h (38 + b) (by unfold rel; omega)])
theorem agr_lBuy {n k : Nat} {m m' : Nat → Int32} (h : Agr n k m m') (b : Nat) (hb : b < n) : Agr n k (lBuy m b) (lBuy m' b) := by
  unfold lBuy
  exact agr_ru h _ _ _ (by rw [h (38 + b) (by unfold rel; omega)])
/-- how many have b, of the first r readers -/
def ocn (m : Nat → Int32) (b : Nat) : Nat → Nat
  | 0 => 0
  | r + 1 => ocn m b r + (if m (46 + r) = Int32.ofNat b then 1 else 0)
abbrev oc (m : Nat → Int32) (b : Nat) : Nat := ocn m b 6
theorem ocn_congr (m m' : Nat → Int32) (b N : Nat) (h : ∀ r, r < N → m (46 + r) = m' (46 + r)) : ocn m b N = ocn m' b N := by
  induction N with
  | zero => rfl
  | succ N ih => unfold ocn; rw [ih (fun r hr => h r (by omega)), h N (by omega)]
theorem ocn_le (m : Nat → Int32) (b N : Nat) : ocn m b N ≤ N := by
  induction N with
  | zero => exact Nat.le_refl _
  | succ N ih => unfold ocn; split <;> omega
theorem ocn_ru (m : Nat → Int32) (b r : Nat) (x : Int32) (N : Nat) (hr : r < N) : ocn (ru m (46 + r) x) b N + (if m (46 + r) = Int32.ofNat b then 1 else 0) = ocn m b N + (if x = Int32.ofNat b then 1 else 0) := by
  induction N with
  | zero => omega
  | succ N ih =>
    unfold ocn
    by_cases e : r = N
    · subst e
      rw [ru_eq, ocn_congr (ru m (46 + r) x) m b r (fun j hj => ru_ne _ _ _ _ (by omega))]
      omega
    · rw [ru_ne _ _ _ _ (by omega)]
      have := ih (by omega)
      omega
theorem oc_ru (m : Nat → Int32) (b j : Nat) (x : Int32) (h : j < 46 ∨ 52 ≤ j) : oc (ru m j x) b = oc m b := ocn_congr _ _ _ _ (fun r hr => ru_ne _ _ _ _ (by omega))
def IvL (m : Nat → Int32) (n k : Nat) : Prop := (m 0 = Int32.ofNat n ∧ n ≤ 8) ∧ (m 2 = Int32.ofNat k ∧ k ≤ 6) ∧ (∃ f, f ≤ 30 ∧ m 3 = Int32.ofNat f) ∧ (∀ b, b < n → ∃ x, 1 ≤ x ∧ x ≤ 99 ∧ m (4 + b) = Int32.ofNat x) ∧ (∀ b, b < n → ∃ x, x ≤ 9 ∧ m (12 + b) = Int32.ofNat x) ∧ (∀ b, b < n → lowb n (m (20 + b)) ∧ bt (m (20 + b)) b = false) ∧ (∀ r, r < k → ∃ x, 1 ≤ x ∧ x ≤ 30 ∧ m (28 + r) = Int32.ofNat x)
def IvR (n k r : Nat) (has left owes done : Int32) : Prop := ((has = -1 ∧ left = 0) ∨ (r < k ∧ ∃ b, b < n ∧ has = Int32.ofNat b ∧ bt done b = false ∧ ∃ y, 1 ≤ y ∧ y ≤ 99 ∧ left = Int32.ofNat y)) ∧ (∃ x, x ≤ 99 ∧ owes = Int32.ofNat x) ∧ lowb n done ∧ (k ≤ r → owes = 0 ∧ done = 0)
def IvS (m : Nat → Int32) (n k : Nat) : Prop := (∃ y, y ≤ 400 ∧ m 34 = Int32.ofNat y) ∧ lowb n (m 35) ∧ (∀ b, b < n → ∃ x, m (38 + b) = Int32.ofNat x ∧ x + oc m b ≤ 15) ∧ (∀ r, r < 6 → IvR n k r (m (46 + r)) (m (52 + r)) (m (58 + r)) (m (64 + r)))
theorem IvL_agr {n k : Nat} {m m' : Nat → Int32} (h : Agr n k m m') (hi : IvL m n k) : IvL m' n k := by
  obtain ⟨⟨a1, a2⟩, ⟨b1, b2⟩, c, d, e, f, g⟩ := hi
  have h' := agr_symm h
  refine ⟨⟨by rw [h' 0 (by unfold rel; omega)]; exact a1, a2⟩, ⟨by rw [h' 2 (by unfold rel; omega)]; exact b1, b2⟩, ?_, ?_, ?_, ?_, ?_⟩
  · rw [h' 3 (by unfold rel; omega)]; exact c
  · intro b hb; rw [h' (4 + b) (by unfold rel; omega)]; exact d b hb
  · intro b hb; rw [h' (12 + b) (by unfold rel; omega)]; exact e b hb
  · intro b hb; rw [h' (20 + b) (by unfold rel; omega)]; exact f b hb
  · intro b hb; rw [h' (28 + b) (by unfold rel; omega)]; exact g b hb
theorem IvS_agr {n k : Nat} {m m' : Nat → Int32} (h : Agr n k m m') (hi : IvS m n k) : IvS m' n k := by
  obtain ⟨a, b, c, d⟩ := hi
  have h' := agr_symm h
  refine ⟨by rw [h' 34 (by unfold rel; omega)]; exact a, by rw [h' 35 (by unfold rel; omega)]; exact b, ?_, ?_⟩
  · intro b hb; rw [h' (38 + b) (by unfold rel; omega), show oc m' b = oc m b from ocn_congr _ _ _ _ (fun r hr => h' (46 + r) (by unfold rel; omega))]; exact c b hb
  · intro r hr; rw [h' (46 + r) (by unfold rel; omega), h' (52 + r) (by unfold rel; omega), h' (58 + r) (by unfold rel; omega), h' (64 + r) (by unfold rel; omega)]; exact d r hr
theorem IvS_mk {n k : Nat} {m : Nat → Int32} (h : IvS m n k) (r : Nat) (m' : Nat → Int32) (h34 : m' 34 = m 34) (h35 : m' 35 = m 35) (hin : ∀ b, b < n → ∃ x, m' (38 + b) = Int32.ofNat x ∧ x + oc m' b ≤ 15) (hoth : ∀ s, s < 6 → s ≠ r → m' (46 + s) = m (46 + s) ∧ m' (52 + s) = m (52 + s) ∧ m' (58 + s) = m (58 + s) ∧ m' (64 + s) = m (64 + s)) (hr : IvR n k r (m' (46 + r)) (m' (52 + r)) (m' (58 + r)) (m' (64 + r))) : IvS m' n k := by
  obtain ⟨a, b, c, d⟩ := h
  refine ⟨by rw [h34]; exact a, by rw [h35]; exact b, hin, ?_⟩
  intro s hs
  by_cases e : s = r
  · subst e; exact hr
  · obtain ⟨e1, e2, e3, e4⟩ := hoth s hs e
    rw [e1, e2, e3, e4]; exact d s hs
theorem ofNat_ne (a b : Nat) (ha : a < 2147483648) (hb : b < 2147483648) (h : a ≠ b) : Int32.ofNat a ≠ Int32.ofNat b := by
  intro e
  rw [zI_eq a b ha hb] at e
  exact h e
theorem m1_ne (b : Nat) (hb : b < 2147483648) : (-1 : Int32) ≠ Int32.ofNat b := fun e => Eq.mp (zI_ne b hb) e.symm
theorem wLend_0 {m : Nat → Int32} {r b : Nat} (h : wLend m r b = 0) : m (46 + r) = -1 ∧ bt (m (64 + r)) b = false ∧ fitq m r b = true ∧ m (38 + b) ≠ 0 := by
  unfold wLend at h
  by_cases h1 : m (46 + r) = -1
  · rw [decide_eq_true h1] at h
    cases h2 : bt (m (64 + r)) b with
    | true => rw [h2] at h; exact absurd (show (2 : Int32) = 0 from h) (by decide)
    | false =>
      rw [h2] at h
      cases h3 : fitq m r b with
      | false => rw [h3] at h; exact absurd (show (3 : Int32) = 0 from h) (by decide)
      | true =>
        rw [h3] at h
        refine ⟨h1, rfl, rfl, ?_⟩
        intro h4
        rw [decide_eq_true h4] at h
        exact absurd (show (4 : Int32) = 0 from h) (by decide)
  · rw [decide_eq_false h1] at h
    exact absurd (show (1 : Int32) = 0 from h) (by decide)
theorem wTell_0 {m : Nat → Int32} {r b q : Nat} (h : wTell m r b q = 0) : bt (m (64 + q)) b = false ∧ m (46 + q) ≠ Int32.ofNat b := by
  unfold wTell at h
  cases h1 : decide (r = q) with
  | true => rw [h1] at h; exact absurd (show (1 : Int32) = 0 from h) (by decide)
  | false =>
    rw [h1] at h
    cases h2 : bt (m (64 + r)) b with
    | false => rw [h2] at h; exact absurd (show (2 : Int32) = 0 from h) (by decide)
    | true =>
      rw [h2] at h
      cases h3 : bt (m (64 + q)) b with
      | true => rw [h3] at h; exact absurd (show (3 : Int32) = 0 from h) (by decide)
      | false =>
        rw [h3] at h
        refine ⟨rfl, ?_⟩
        intro h4
        rw [decide_eq_true h4, Bool.or_true] at h
        exact absurd (show (4 : Int32) = 0 from h) (by decide)
theorem cwLend_eq {m : Nat → Int32} {n k r b : Nat} (hi : IvS m n k) (hb : b < n) : cwLend m r b = wLend m r b := by
  obtain ⟨x, hx, hx2⟩ := hi.2.2.1 b hb
  have e : decide (1 ≤ m (38 + b)) = !decide (m (38 + b) = 0) := by
    rw [hx]
    by_cases h0 : x = 0
    · subst h0; decide
    · rw [show decide ((1 : Int32) ≤ Int32.ofNat x) = true from zle_t 1 x (by omega) (by omega), show decide (Int32.ofNat x = 0) = decide (x = 0) from zI_deq x 0 (by omega) (by omega), decide_eq_false h0]; rfl
  unfold cwLend wLend
  rw [e]
  cases decide (m (46 + r) = -1) <;> cases bt (m (64 + r)) b <;> cases fitq m r b <;> cases decide (m (38 + b) = 0) <;> rfl
theorem IvS_lend {m : Nat → Int32} {n k r b : Nat} (hl : IvL m n k) (hi : IvS m n k) (hr : r < k) (hb : b < n) (hw : wLend m r b = 0) : IvS (lLend m r b) n k := by
  obtain ⟨w1, w2, w3, w4⟩ := wLend_0 hw
  have hk := hl.2.1.2
  have hn := hl.1.2
  refine IvS_mk hi r _ ?_ ?_ ?_ ?_ ?_
  · unfold lLend; rw [ru_ne _ _ _ _ (by omega), ru_ne _ _ _ _ (by omega), ru_ne _ _ _ _ (by omega)]
  · unfold lLend; rw [ru_ne _ _ _ _ (by omega), ru_ne _ _ _ _ (by omega), ru_ne _ _ _ _ (by omega)]
  · intro c hc
    have ho : oc (lLend m r b) c + 0 = oc m c + (if b = c then 1 else 0) := by
      unfold lLend
      rw [oc_ru _ _ _ _ (by omega)]
      have e := ocn_ru (ru m (38 + b) (m (38 + b) - 1)) c r (Int32.ofNat b) 6 (by omega)
      rw [ru_ne _ _ _ _ (by omega), w1, if_neg (m1_ne c (by omega)), show ocn (ru m (38 + b) (m (38 + b) - 1)) c 6 = oc m c from oc_ru _ _ _ _ (by omega)] at e
      rw [e]
      by_cases h : b = c
      · subst h; rw [if_pos rfl, if_pos rfl]
      · rw [if_neg h, if_neg (ofNat_ne b c (by omega) (by omega) h)]
    obtain ⟨x, hx, hx2⟩ := hi.2.2.1 c hc
    unfold lLend at *
    rw [ru_ne _ _ _ _ (by omega), ru_ne _ _ _ _ (by omega)]
    by_cases h : b = c
    · subst h
      have h0 : x ≠ 0 := by rintro rfl; exact w4 hx
      rw [if_pos rfl] at ho
      refine ⟨x - 1, ?_, by omega⟩
      rw [ru_eq, hx]
      exact zI_sub x 1 (by omega)
    · rw [if_neg h] at ho
      exact ⟨x, by rw [ru_ne _ _ _ _ (by omega)]; exact hx, by omega⟩
  · intro s hs hne
    unfold lLend
    refine ⟨?_, ?_, ?_, ?_⟩ <;> rw [ru_ne _ _ _ _ (by omega), ru_ne _ _ _ _ (by omega), ru_ne _ _ _ _ (by omega)]
  · obtain ⟨i1, i2, i3, i4⟩ := hi.2.2.2 r (by omega)
    obtain ⟨y, hy1, hy2, hy⟩ := hl.2.2.2.1 b hb
    unfold lLend
    rw [ru_ne _ _ _ (46 + r) (by omega), ru_eq, ru_eq, ru_ne _ _ _ (58 + r) (by omega), ru_ne _ _ _ (58 + r) (by omega), ru_ne _ _ _ (58 + r) (by omega), ru_ne _ _ _ (64 + r) (by omega), ru_ne _ _ _ (64 + r) (by omega), ru_ne _ _ _ (64 + r) (by omega)]
    exact ⟨Or.inr ⟨hr, b, hb, rfl, w2, y, hy1, hy2, hy⟩, i2, i3, i4⟩
theorem IvS_leave0 {m : Nat → Int32} {n r b : Nat} (hn : n ≤ 8) (hr : r < 6) (hi : ∀ c, c < n → ∃ x, m (38 + c) = Int32.ofNat x ∧ x + oc m c ≤ 15) (hb : b < n) (hh : m (46 + r) = Int32.ofNat b) : ∀ c, c < n → ∃ x, lLeave m r b (38 + c) = Int32.ofNat x ∧ x + oc (lLeave m r b) c ≤ 15 := by
  intro c hc
  have ho : oc (lLeave m r b) c + (if b = c then 1 else 0) = oc m c := by
    unfold lLeave
    rw [oc_ru _ _ _ _ (by omega)]
    have e := ocn_ru (ru m (38 + b) (m (38 + b) + 1)) c r (-1) 6 (by omega)
    rw [ru_ne _ _ _ _ (by omega), hh, if_neg (m1_ne c (by omega)), show ocn (ru m (38 + b) (m (38 + b) + 1)) c 6 = oc m c from oc_ru _ _ _ _ (by omega)] at e
    rw [Nat.add_zero] at e
    rw [← e]
    by_cases h : b = c
    · subst h; rw [if_pos rfl, if_pos rfl]
    · rw [if_neg h, if_neg (ofNat_ne b c (by omega) (by omega) h)]
  obtain ⟨x, hx, hx2⟩ := hi c hc
  unfold lLeave at *
  rw [ru_ne _ _ _ _ (by omega), ru_ne _ _ _ _ (by omega)]
  by_cases h : b = c
  · subst h
    rw [if_pos rfl] at ho
    refine ⟨x + 1, ?_, by omega⟩
    rw [ru_eq, hx]
    exact zd_1 x
  · rw [if_neg h] at ho
    exact ⟨x, by rw [ru_ne _ _ _ _ (by omega)]; exact hx, by omega⟩
theorem lst_nat (a b : Nat) (ha : a < 2147483648) (hb : b < 2147483648) : lst (Int32.ofNat a) (Int32.ofNat b) = Int32.ofNat (min a b) := by
  unfold lst
  by_cases h : b ≤ a
  · rw [show decide (Int32.ofNat b ≤ Int32.ofNat a) = true from zle_t b a h ha, Nat.min_eq_right h]; rfl
  · rw [show decide (Int32.ofNat b ≤ Int32.ofNat a) = false from zle_f b a (by omega) hb, Nat.min_eq_left (by omega)]; rfl
theorem IvS_back {m : Nat → Int32} {n k r b : Nat} (hl : IvL m n k) (hi : IvS m n k) (hr : r < k) (hb : b < n) (hh : m (46 + r) = Int32.ofNat b) : IvS (lBack m r b) n k := by
  have hk := hl.2.1.2
  have hn := hl.1.2
  refine IvS_mk hi r _ ?_ ?_ ?_ ?_ ?_
  · unfold lBack; rw [ru_ne _ _ _ _ (by omega), lLeave_at _ _ _ _ (by omega) (by omega) (by omega)]
  · unfold lBack; rw [ru_ne _ _ _ _ (by omega), lLeave_at _ _ _ _ (by omega) (by omega) (by omega)]
  · intro c hc
    have := IvS_leave0 hn (by omega : r < 6) hi.2.2.1 hb hh c hc
    unfold lBack
    rw [ru_ne _ _ _ _ (by omega), oc_ru _ _ _ _ (by omega)]
    exact this
  · intro s hs hne
    unfold lBack
    refine ⟨?_, ?_, ?_, ?_⟩ <;> rw [ru_ne _ _ _ _ (by omega), lLeave_at _ _ _ _ (by omega) (by omega) (by omega)]
  · obtain ⟨i1, i2, i3, i4⟩ := hi.2.2.2 r (by omega)
    obtain ⟨x, hx1, hx⟩ := i2
    obtain ⟨f, hf1, hf⟩ := hl.2.2.1
    unfold lBack
    rw [ru_ne _ _ _ (46 + r) (by omega), ru_ne _ _ _ (52 + r) (by omega), ru_eq, ru_ne _ _ _ (64 + r) (by omega), lLeave_at _ _ _ (64 + r) (by omega) (by omega) (by omega), hx, hf]
    have e : lst 99 (Int32.ofNat x + Int32.ofNat f) = Int32.ofNat (min 99 (x + f)) := by
      rw [zI_add]; exact lst_nat 99 (x + f) (by omega) (by omega)
    rw [e]
    refine ⟨Or.inl ⟨?_, ?_⟩, ⟨_, Nat.min_le_left _ _, rfl⟩, i3, fun h => by omega⟩
    · unfold lLeave; rw [ru_ne _ _ _ _ (by omega), ru_eq]
    · unfold lLeave; rw [ru_eq]
theorem IvS_learn {m : Nat → Int32} {n k q b : Nat} (hl : IvL m n k) (hi : IvS m n k) (hq : q < k) (hb : b < n) (hh : m (46 + q) ≠ Int32.ofNat b) : IvS (lLearn m q b) n k := by
  have hk := hl.2.1.2
  have hn := hl.1.2
  have at_ : ∀ j, j ≠ 64 + q → j ≠ 36 → lLearn m q b j = m j := by
    intro j h1 h2
    unfold lLearn; rw [ru_ne _ _ _ _ h2, ru_ne _ _ _ _ h1]
  refine IvS_mk hi q _ (at_ _ (by omega) (by omega)) (at_ _ (by omega) (by omega)) ?_ ?_ ?_
  · intro c hc
    rw [at_ _ (by omega) (by omega), show oc (lLearn m q b) c = oc m c from ocn_congr _ _ _ _ (fun r hr => at_ _ (by omega) (by omega))]
    exact hi.2.2.1 c hc
  · intro s hs hne
    exact ⟨at_ _ (by omega) (by omega), at_ _ (by omega) (by omega), at_ _ (by omega) (by omega), at_ _ (by omega) (by omega)⟩
  · obtain ⟨i1, i2, i3, i4⟩ := hi.2.2.2 q (by omega)
    rw [at_ (46 + q) (by omega) (by omega), at_ (52 + q) (by omega) (by omega), at_ (58 + q) (by omega) (by omega)]
    have e : lLearn m q b (64 + q) = m (64 + q) ||| ((1 : Int32) <<< (Int32.ofNat b &&& 31)) := by
      unfold lLearn; rw [ru_ne _ _ _ _ (by omega), ru_eq]
    rw [e]
    refine ⟨?_, i2, ?_, fun h => by omega⟩
    · rcases i1 with i1 | ⟨h1, c, h2, h3, h4, h5⟩
      · exact Or.inl i1
      · refine Or.inr ⟨h1, c, h2, h3, ?_, h5⟩
        rw [bt_or, h4, bt_one b c (by omega), decide_eq_false]
        · rfl
        · rintro rfl; exact hh h3
    · intro j hj
      rw [bt_or, bt_one b j (by omega)] at hj
      cases h1 : bt (m (64 + q)) j with
      | true => exact i3 j h1
      | false =>
        rw [h1, Bool.false_or] at hj
        have := of_decide_eq_true hj
        omega
theorem IvS_forged {m : Nat → Int32} {n k : Nat} (hi : IvS m n k) (x : Int32) (hx : lowb n x) : IvS (ru m 35 x) n k := by
  obtain ⟨a, b, c, d⟩ := hi
  refine ⟨by rw [ru_ne _ _ _ _ (by omega)]; exact a, by rw [ru_eq]; exact hx, ?_, ?_⟩
  · intro b hb; rw [ru_ne _ _ _ _ (by omega), oc_ru _ _ _ _ (by omega)]; exact c b hb
  · intro r hr; rw [ru_ne _ _ _ _ (by omega), ru_ne _ _ _ _ (by omega), ru_ne _ _ _ _ (by omega), ru_ne _ _ _ _ (by omega)]; exact d r hr
theorem IvS_in {m : Nat → Int32} {n k b : Nat} (hn : n ≤ 8) (hi : IvS m n k) (hb : b < n) (y : Nat) (hy : y + oc m b ≤ 15) : IvS (ru m (38 + b) (Int32.ofNat y)) n k := by
  obtain ⟨a, e, c, d⟩ := hi
  refine ⟨by rw [ru_ne _ _ _ _ (by omega)]; exact a, by rw [ru_ne _ _ _ _ (by omega)]; exact e, ?_, ?_⟩
  · intro c' hc
    rw [oc_ru _ _ _ _ (by omega)]
    by_cases h : c' = b
    · subst h; exact ⟨y, by rw [ru_eq], hy⟩
    · rw [ru_ne _ _ _ _ (by omega)]; exact c c' hc
  · intro r hr; rw [ru_ne _ _ _ _ (by omega), ru_ne _ _ _ _ (by omega), ru_ne _ _ _ _ (by omega), ru_ne _ _ _ _ (by omega)]; exact d r hr
theorem bt_low1 {n b : Nat} (hn : n ≤ 8) (hb : b < n) : lowb n ((1 : Int32) <<< (Int32.ofNat b &&& 31)) := by
  intro j hj
  rw [bt_one b j (by omega)] at hj
  have := of_decide_eq_true hj
  omega
theorem lForgeC_eq {m : Nat → Int32} {b : Nat} (hb : b < 8) (h : bt (m 35) b = false) : lForgeC m b = lForge m b := by
  unfold lForgeC lForge
  congr 1
  apply bt_ext
  intro j _
  rw [bt_or, bt_xor, bt_one b j (by omega)]
  by_cases e : j = b
  · subst e; rw [h, decide_eq_true rfl]; rfl
  · rw [decide_eq_false e]; cases bt (m 35) j <;> rfl
theorem lMendC_eq {m : Nat → Int32} {b : Nat} (hb : b < 8) (h : bt (m 35) b = true) : lMendC m b = lForge m b := by
  unfold lMendC lForge
  congr 1
  apply bt_ext
  intro j hj
  rw [bt_and, bt_not _ _ hj, bt_xor, bt_one b j (by omega)]
  by_cases e : j = b
  · subst e; rw [h, decide_eq_true rfl]; rfl
  · rw [decide_eq_false e]; cases bt (m 35) j <;> rfl
theorem IvS_forge {m : Nat → Int32} {n k b : Nat} (hn : n ≤ 8) (hi : IvS m n k) (hb : b < n) : IvS (lForge m b) n k := by
  apply IvS_forged hi
  intro j hj
  rw [bt_xor] at hj
  cases h1 : bt (m 35) j with
  | true => exact hi.2.1 j h1
  | false => rw [h1] at hj; exact bt_low1 hn hb j (by rw [← hj]; cases bt ((1 : Int32) <<< (Int32.ofNat b &&& 31)) j <;> rfl)
