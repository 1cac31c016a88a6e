/-! AT ONCE: lendFrom whole -/
theorem m_from (env : am_E) (d : Nat) (J : Nat → Nat → Int64) (E : Nat → Nat → Nat) (W : Nat → Nat → Bool) (k n : Nat) (hk : k ≤ 6) (hn : n ≤ 8) (m : Nat → Int32) (m0 : m 0 = Int32.ofNat n) (m2 : m 2 = Int32.ofNat k) (hWm : ∀ q, q < k → ∀ b, b < n → W q b = decide (wLend m q b = 0)) : ∀ j r mm Lo c I, r + j = k → mm ≤ r → Lo ≤ 7 → I 158 = m → I 156 37 = Int32.ofNat Lo - 1 → (∀ b, b < n → I 173 b = Int32.ofNat (c b) ∧ c b ≤ 1000) → ∃ I', am_ev env (d + j + 6, 260, 0, [some (.ref 156), some (.int (Int32.ofNat r)), some (.int (Int32.ofNat mm)), none], [], am_hp I J E) = some (true, none, am_hp I' J E) ∧ GR r I I' ∧ AR k r mm Lo (ao_R W n j r c) I I' := by
  intro j
  induction j with
  | zero =>
    intro r mm Lo c I hr hm hL h158 h37 _
    have hr : r = k := hr
    subst hr
    have head := bk_260_0 env (d + 5) (Int32.ofNat r) (Int32.ofNat mm) I J E
    rw [h158, m2, h37, zI_add, zI_sub _ _ (by omega), show mm + r - r = mm by omega, ao_cm2 Lo (by omega) mm (by omega), decide_eq_true rfl] at head
    by_cases hl : Lo ≤ mm
    · rw [decide_eq_true hl] at head
      obtain ⟨I', h1, h2, h3⟩ := m_lent35 env (d + 5) (Int32.ofNat r) (Int32.ofNat mm) J E 6 0 (am_u I 156 37 (Int32.ofNat mm)) (by omega)
      refine ⟨I', head.trans h1, ⟨fun q a b c _ => (h2 q c).trans (am_u_nr _ _ _ _ _ a), fun i hi => ?_, fun b => ?_, fun q _ => ?_⟩, Or.inr ⟨hl, ?_, fun q hq => ?_⟩⟩
      · rw [h2 156 (by omega), am_u_sg, if_neg hi]
      · rw [h2 173 (by omega), am_u_nr _ _ _ _ _ (by omega)]
      · rw [h2 171 (by omega), am_u_nr _ _ _ _ _ (by omega)]
      · rw [h2 156 (by omega), am_u_at]; rfl
      · rw [h3 q (by omega), if_neg (by omega), if_pos hq, am_u_nr _ _ _ _ _ (by omega)]
    · rw [decide_eq_false hl] at head
      exact ⟨I, head, GR_refl _ _, Or.inl ⟨by show mm + 0 < Lo; omega, rfl, fun _ _ => rfl⟩⟩
  | succ j ih =>
    intro r mm Lo c I hr hm hL h158 h37 hc
    have head := bk_260_0 env (d + (j + 1) + 5) (Int32.ofNat r) (Int32.ofNat mm) I J E
    have hX := ao_R_le W n (j + 1) r c
    rw [h158, m2, h37, zI_add, zI_sub _ _ (by omega), show mm + k - r = mm + (j + 1) by omega, ao_cm2 Lo (by omega) (mm + (j + 1)) (by omega), zI_deq r k (by omega) (by omega), decide_eq_false (show ¬ r = k by omega)] at head
    by_cases hl : Lo ≤ mm + (j + 1)
    · rw [decide_eq_true hl] at head
      simp only [decide_true, decide_false, Bool.not_true, Bool.not_false, am_cont, Option.bind_some, Option.toList_some, Option.toList_none, List.singleton_append, List.nil_append, cond_true, cond_false] at head
      have loop : ∀ i b Lo1 I1, b + i = n → GR r I I1 → LB k r mm Lo Lo1 W n j c b I I1 → Lo1 ≤ 7 → I1 156 37 = Int32.ofNat Lo1 - 1 → ∃ I', am_ev env (d + (j + 1) + 6, 260, 62, [some (.ref 156), some (.int (Int32.ofNat r)), some (.int (Int32.ofNat mm)), some (.int (Int32.ofNat b))], [], am_hp I1 J E) = some (true, none, am_hp I' J E) ∧ GR r I I' ∧ AR k r mm Lo (ao_R W n (j + 1) r c) I I' := by
        intro i
        induction i with
        | zero =>
          intro b Lo1 I1 hb hG hB hL1 hI
          have hb : b = n := hb
          subst hb
          have i158 : I1 158 = m := (hG.1 158 (by omega) (by omega) (by omega) (by omega)).trans h158
          have s62 := bk_260_62 env (d + (j + 1) + 5) (Int32.ofNat r) (Int32.ofNat mm) (Int32.ofNat b) I1 J E
          rw [i158, m0, zle_t b b (Nat.le_refl _) (by omega), zI_in r 6 (by omega) (by omega), zI_nat r (by omega), zd_1] at s62
          have e : ∀ q, q ≠ 171 → am_u I1 171 r (-1) q = I1 q := fun q hq => am_u_nr _ _ _ _ _ hq
          obtain ⟨I', h1, h2, h3⟩ := ih (r + 1) mm Lo1 c (am_u I1 171 r (-1)) (by omega) (by omega) hL1 (by rw [e 158 (by omega)]; exact i158) (by rw [e 156 (by omega)]; exact hI) (fun x hx => by rw [e 173 (by omega), hG.2.2.1]; exact hc x hx)
          have h1 : am_ev env (d + (j + 1) + 5, 260, 0, [some (.ref 156), some (.int (Int32.ofNat (r + 1))), some (.int (Int32.ofNat mm)), none], [], am_hp (am_u I1 171 r (-1)) J E) = some (true, none, am_hp I' J E) := by rw [show d + (j + 1) + 5 = d + j + 6 by omega]; exact h1
          simp only [decide_true, decide_false, Bool.not_true, Bool.not_false, am_cont, Option.bind_some, Option.toList_some, Option.toList_none, List.singleton_append, List.nil_append, cond_true, cond_false, h1, bk_260_151] at s62
          refine ⟨I', s62, GR_tr hG (GR_tr ⟨fun q _ a _ _ => e q a, fun i _ => by rw [e 156 (by omega)], fun x => by rw [e 173 (by omega)], fun q hq => by rw [am_u_sg, if_neg (by omega)]⟩ (GR_mono h2)), LB_end hB (by rw [e 156 (by omega)]) (e 172 (by omega)) (fun q hq => by rw [am_u_sg, if_neg (by omega)]; exact hG.2.2.2 q hq) (am_u_at _ _ _ _) h3⟩
        | succ i ihb =>
          intro b Lo1 I1 hb hG hB hL1 hI
          have i158 : I1 158 = m := (hG.1 158 (by omega) (by omega) (by omega) (by omega)).trans h158
          have hcb := hc b (by omega)
          rw [← hG.2.2.1 b] at hcb
          have s62 := bk_260_62 env (d + (j + 1) + 5) (Int32.ofNat r) (Int32.ofNat mm) (Int32.ofNat b) I1 J E
          rw [i158, m0, zle_f n b (by omega) (by omega), zI_in b 8 (by omega) (by omega), zI_nat b (by omega), hcb.1] at s62
          by_cases h0 : c b = 0
          · rw [h0, show decide (Int32.ofNat 0 = 0) = true by decide] at s62
            simp only [decide_true, decide_false, Bool.not_true, Bool.not_false, am_cont, Option.bind_some, Option.toList_some, Option.toList_none, List.singleton_append, List.nil_append, cond_true, cond_false, bk_260_130, zd_1] at s62
            rw [s62]
            exact ihb (b + 1) Lo1 I1 (by omega) hG (LB_skip hB (by rw [h0]; show (W r b && false) = false; rw [Bool.and_false])) hL1 hI
          · have mw := m_whyLend env (d + (j + 1)) r b (by omega) (by omega) I1 J E
            rw [i158] at mw
            have s87 := bk_260_87 env (d + (j + 1) + 5) (Int32.ofNat r) (Int32.ofNat mm) (Int32.ofNat b) (wLend m r b) I1 J E
            rw [show decide (Int32.ofNat (c b) = 0) = false from (zI_deq (c b) 0 (by omega) (by omega)).trans (decide_eq_false h0)] at s62
            simp only [decide_true, decide_false, Bool.not_true, Bool.not_false, am_cont, Option.bind_some, Option.toList_some, Option.toList_none, List.singleton_append, List.nil_append, cond_true, cond_false, mw] at s62
            have hw := hWm r (by omega) b (by omega)
            rw [zI_in r 6 (by omega) (by omega), zI_in b 8 (by omega) (by omega), zI_nat r (by omega), zI_nat b (by omega), am_u_nr _ _ _ _ 173 (by omega), hcb.1, show Int32.ofNat (c b) - 1 = Int32.ofNat (c b - 1) from zI_sub (c b) 1 (by omega)] at s87
            by_cases hz : wLend m r b = 0
            · rw [decide_eq_true hz] at hw s87
              have hP : (W r b && decide (0 < c b)) = true := by rw [hw, decide_eq_true (by omega)]; rfl
              simp only [decide_true, decide_false, Bool.not_true, Bool.not_false, am_cont, Option.bind_some, Option.toList_some, Option.toList_none, List.singleton_append, List.nil_append, cond_true, cond_false, zd_1] at s87
              have e1 : ∀ q, q ≠ 171 → q ≠ 173 → am_u (am_u I1 171 r (Int32.ofNat b)) 173 b (Int32.ofNat (c b - 1)) q = I1 q := fun q a1 a2 => by rw [am_u_nr _ _ _ _ _ a2, am_u_nr _ _ _ _ _ a1]
              have e2 : ∀ x, am_u (am_u I1 171 r (Int32.ofNat b)) 173 b (Int32.ofNat (c b - 1)) 173 x = if x = b then Int32.ofNat (c b - 1) else I1 173 x := fun x => by rw [am_u_sg, am_u_nr _ _ _ _ _ (by omega)]
              have e3 : ∀ q, am_u (am_u I1 171 r (Int32.ofNat b)) 173 b (Int32.ofNat (c b - 1)) 171 q = if q = r then Int32.ofNat b else I1 171 q := fun q => by rw [am_u_nr _ _ _ _ _ (by omega), am_u_sg]
              generalize am_u (am_u I1 171 r (Int32.ofNat b)) 173 b (Int32.ofNat (c b - 1)) = I2 at s87 e1 e2 e3
              obtain ⟨I3, h1, h2, h3⟩ := ih (r + 1) (mm + 1) Lo1 (dec1 c b) I2 (by omega) (by omega) hL1 (by rw [e1 158 (by omega) (by omega)]; exact i158) (by rw [e1 156 (by omega) (by omega)]; exact hI) (fun x hx => by
                rw [e2 x]
                unfold dec1
                by_cases e : x = b
                · rw [if_pos e, if_pos e, e]; exact ⟨rfl, by omega⟩
                · rw [if_neg e, if_neg e, hG.2.2.1]; exact hc x hx)
              have h1 : am_ev env (d + (j + 1) + 5, 260, 0, [some (.ref 156), some (.int (Int32.ofNat (r + 1))), some (.int (Int32.ofNat (mm + 1))), none], [], am_hp I2 J E) = some (true, none, am_hp I3 J E) := by rw [show d + (j + 1) + 5 = d + j + 6 by omega]; exact h1
              have s120 := bk_260_120 env (d + (j + 1) + 5) (Int32.ofNat r) (Int32.ofNat mm) (Int32.ofNat b) I3 J E
              have hbk : I3 173 b = Int32.ofNat (c b - 1) := by rw [h2.2.2.1, e2, if_pos rfl]
              rw [zI_in b 8 (by omega) (by omega), zI_nat b (by omega), hbk, zd_1, show c b - 1 + 1 = c b by omega] at s120
              simp only [decide_true, decide_false, Bool.not_true, Bool.not_false, am_cont, Option.bind_some, Option.toList_some, Option.toList_none, List.singleton_append, List.nil_append, cond_true, cond_false, bk_260_130, zd_1] at s120
              simp only [h1, decide_true, decide_false, Bool.not_true, Bool.not_false, am_cont, Option.bind_some, Option.toList_some, Option.toList_none, List.singleton_append, List.nil_append, cond_true, cond_false] at s87
              obtain ⟨Lo2, l1, l2, l3⟩ := LB_step hB hP (by rw [e1 156 (by omega) (by omega)]) (e1 172 (by omega) (by omega)) (fun q hq => by rw [e3, if_neg (by omega)]; exact hG.2.2.2 q hq) (by rw [e3, if_pos rfl]) h3 hI hL1 (by omega)
              have e4 : ∀ q, q ≠ 173 → am_u I3 173 b (Int32.ofNat (c b)) q = I3 q := fun q hq => am_u_nr _ _ _ _ _ hq
              rw [s62, s87, s120]
              refine ihb (b + 1) Lo2 (am_u I3 173 b (Int32.ofNat (c b))) (by omega) ?_ ?_ l2 (by rw [e4 156 (by omega)]; exact l3)
              · refine GR_tr hG ⟨fun q a1 a2 a3 a4 => ?_, fun i hi => ?_, fun x => ?_, fun q hq => ?_⟩
                · rw [e4 q a4, h2.1 q a1 a2 a3 a4, e1 q a2 a4]
                · rw [e4 156 (by omega), h2.2.1 i hi, e1 156 (by omega) (by omega)]
                · rw [am_u_sg]
                  by_cases e : x = b
                  · rw [if_pos e, e, hcb.1]
                  · rw [if_neg e, h2.2.2.1, e2, if_neg e]
                · rw [e4 171 (by omega), h2.2.2.2 q (by omega), e3, if_neg (by omega)]
              · unfold LB at l1 ⊢
                rw [e4 156 (by omega), e4 172 (by omega)]
                exact l1
            · rw [decide_eq_false hz] at hw s87
              simp only [decide_true, decide_false, Bool.not_true, Bool.not_false, am_cont, Option.bind_some, Option.toList_some, Option.toList_none, List.singleton_append, List.nil_append, cond_true, cond_false, bk_260_130, zd_1] at s87
              rw [s62, s87]
              exact ihb (b + 1) Lo1 I1 (by omega) hG (LB_skip hB (by rw [hw]; rfl)) hL1 hI
      obtain ⟨I', h1, h2⟩ := loop n 0 Lo I (by omega) (GR_refl _ _) (Or.inl ⟨rfl, fun x hx => absurd hx (Nat.not_lt_zero _), rfl, fun _ _ => rfl⟩) hL h37
      exact ⟨I', head.trans h1, h2⟩
    · rw [decide_eq_false hl] at head
      exact ⟨I, head, GR_refl _ _, Or.inl ⟨by omega, rfl, fun _ _ => rfl⟩⟩
