/-! the whole run of a method of the table -/
set_option maxRecDepth 20000 in
theorem am_goodW : wsL_law0.all goodWord = true := by decide +kernel
theorem am_goodIn {ws : List Cond} (h : ∀ w ∈ ws, w ∈ wsL_law0) : GoodIn wsL_law0 ws := fun w hw => ⟨h w hw, good_of_word (List.all_eq_true.mp am_goodW w (h w hw))⟩
/-- what a check of a method says -/
theorem am_mok_use {a : Nat} (h : am_chk a = true) : Cond.code (am_mi a).2.1 (am_mi a).2.2.1 (am_mi a).2.2.2.1 (am_mi a).2.2.2.2.1 ∈ wsL_law0 ∧ Cond.initialized (am_mi a).2.1.cls ∈ wsL_law0 ∧ (am_mi a).2.2.2.1 ≤ 40 ∧ plainName (am_mi a).2.1.cls = true ∧ ((am_mi a).2.1.cls ≠ "java/lang/invoke/MethodHandle" ∧ (am_mi a).2.1.cls ≠ "java/lang/invoke/VarHandle") ∧ (am_mi a).1 = (am_mi a).2.1.cls ∧
    (((am_mp a).2.2.2.2 = 0 ∧ Cond.instanceMethod (am_mi a).2.1 ∈ wsL_law0 ∧ Cond.selects (am_mi a).2.1.cls (am_mi a).2.1 (am_mi a).2.1 ∈ wsL_law0 ∧ ∃ C T N, am_cl[(am_mi a).2.2.2.2.2]? = some (C, T, N) ∧ C = (am_mi a).2.1.cls) ∨ ((am_mp a).2.2.2.2 = 1 ∧ Cond.static (am_mi a).2.1 ∈ wsL_law0) ∨ (1 < (am_mp a).2.2.2.2 ∧ Cond.instanceMethod (am_mi a).2.1 ∈ wsL_law0 ∧ (am_mi a).2.1.name = "<init>" ∧ (am_mi a).2.2.2.2.1 = none)) := by
  have h := (am_and3 h).2
  unfold am_mok at h
  obtain ⟨h, h7⟩ := am_and3 h
  obtain ⟨h, h6⟩ := am_and3 h
  obtain ⟨h, h5⟩ := am_and3 h
  obtain ⟨h, h4⟩ := am_and3 h
  obtain ⟨h, h3⟩ := am_and3 h
  obtain ⟨h1, h2⟩ := am_and3 h
  refine ⟨am_wd_mem h1, am_wd_mem h2, Nat.le_of_ble_eq_true h3, h4, of_decide_eq_true h5, of_decide_eq_true h6, ?_⟩
  split at h7
  · rename_i hk
    obtain ⟨h7, h8⟩ := am_and3 h7
    refine Or.inl ⟨hk, am_wd_mem (am_and3 h7).1, am_wd_mem (am_and3 h7).2, ?_⟩
    split at h8
    · rename_i C T N hc
      exact ⟨C, T, N, hc, of_decide_eq_true h8⟩
    · cases h8
  · rename_i hk
    exact Or.inr (Or.inl ⟨hk, am_wd_mem h7⟩)
  · rename_i hk0 hk1
    obtain ⟨h7, h9⟩ := am_and3 h7
    refine Or.inr (Or.inr ⟨?_, am_wd_mem (am_and3 h7).1, of_decide_eq_true (am_and3 h7).2, of_decide_eq_true h9⟩)
    rcases Nat.lt_or_ge 1 (am_mp a).2.2.2.2 with q | q
    · exact q
    · rcases (show (am_mp a).2.2.2.2 = 0 ∨ (am_mp a).2.2.2.2 = 1 by omega) with z | z
      · exact absurd z hk0
      · exact absurd z hk1
/-- a step is no call, or a call of the table, or the law's own -/
theorem am_act_form (env : am_E) (d mid pc : Nat) (L : am_L) (st : List Value) (h : am_H) : am_good d mid h.1 (am_act env (d, mid, pc, L, st, h)) ∨
    (∃ raw len a b cp d' ok, am_cd mid pc = some (raw, len, a, b, cp) ∧ d = d' + 1 ∧ Nat.blt a 9000 = true ∧ am_act env (d, mid, pc, L, st, h) = am_call (d' + 1) mid pc L st h a b ok ∧ ((∃ i, raw = .invokevirtual i ∧ ok = am_okV h (am_mi a).2.2.2.2.2) ∨ (∃ i, raw = .invokespecial i ∧ ok = am_okI) ∨ (∃ i, raw = .invokestatic i ∧ ok = fun _ => true))) ∨
    (∃ i len a b cp q, am_cd mid pc = some (.invokestatic i, len, a, b, cp) ∧ am_act env (d, mid, pc, L, st, h) = am_try d mid pc L st h q ∧ ((a = 9006 ∧ q = 166) ∨ (a = 9007 ∧ q = 190) ∨ True) ∧ (a = 9006 ∨ a = 9007)) := by
  cases hcd : am_cd mid pc with
  | none =>
    refine Or.inl ?_
    unfold am_act
    dsimp only
    rw [hcd]
    exact gd_bad
  | some q =>
    obtain ⟨raw, len, a, b, cp⟩ := q
    have e : am_act env (d, mid, pc, L, st, h) = am_do env d mid pc L st h raw len a b := by
      unfold am_act
      dsimp only
      rw [hcd]
    rw [e]
    by_cases h3 : (∃ i, raw = .invokevirtual i) ∨ (∃ i, raw = .invokespecial i) ∨ (∃ i, raw = .invokestatic i)
    · cases ha : Nat.blt a 9000 with
      | true =>
        cases d with
        | zero =>
          refine Or.inl ?_
          rcases h3 with ⟨i, rfl⟩ | ⟨i, rfl⟩ | ⟨i, rfl⟩
          · dsimp only [am_do]; unfold am_virt; rw [ha]; exact gd_bad
          · dsimp only [am_do]; unfold am_spec; rw [ha]; exact gd_bad
          · dsimp only [am_do]; unfold am_stat; rw [ha]; exact gd_bad
        | succ d' =>
          rcases h3 with ⟨i, rfl⟩ | ⟨i, rfl⟩ | ⟨i, rfl⟩
          · exact Or.inr (Or.inl ⟨_, len, a, b, cp, d', am_okV h (am_mi a).2.2.2.2.2, rfl, rfl, ha, by dsimp only [am_do]; unfold am_virt; rw [ha]; rfl, Or.inl ⟨i, rfl, rfl⟩⟩)
          · exact Or.inr (Or.inl ⟨_, len, a, b, cp, d', am_okI, rfl, rfl, ha, by dsimp only [am_do]; unfold am_spec; rw [ha]; rfl, Or.inr (Or.inl ⟨i, rfl, rfl⟩)⟩)
          · exact Or.inr (Or.inl ⟨_, len, a, b, cp, d', fun _ => true, rfl, rfl, ha, by dsimp only [am_do]; unfold am_stat; rw [ha]; rfl, Or.inr (Or.inr ⟨i, rfl, rfl⟩)⟩)
      | false =>
        rcases h3 with ⟨i, rfl⟩ | ⟨i, rfl⟩ | ⟨i, rfl⟩
        · exact Or.inl (gd_own ha).1
        · exact Or.inl (gd_own ha).2.1
        · by_cases h6 : a = 9006
          · subst h6
            cases d with
            | zero => exact Or.inl gd_bad
            | succ d' => exact Or.inr (Or.inr ⟨i, len, 9006, b, cp, _, rfl, rfl, Or.inr (Or.inr trivial), Or.inl rfl⟩)
          · by_cases h7 : a = 9007
            · subst h7
              cases d with
              | zero => exact Or.inl gd_bad
              | succ d' => exact Or.inr (Or.inr ⟨i, len, 9007, b, cp, _, rfl, rfl, Or.inr (Or.inr trivial), Or.inr rfl⟩)
            · exact Or.inl ((gd_own ha).2.2 h6 h7)
    · exact Or.inl (gd_do (fun i q => h3 (Or.inl ⟨i, q⟩)) (fun i q => h3 (Or.inr (Or.inl ⟨i, q⟩))) (fun i q => h3 (Or.inr (Or.inr ⟨i, q⟩))))
theorem am_try_form (d mid pc : Nat) (L : am_L) (st : List Value) (h : am_H) (a : Nat) : am_try d mid pc L st h a = am_bad ∨ ∃ d' o y x p r, d = d' + 2 ∧ st = .ref o :: .int y :: .int x :: .ref p :: r ∧ am_try d mid pc L st h a = .inr (.inr (decide (p < h.1) && Nat.beq (am_K p).1 10 && decide (o < h.1) && Nat.beq (am_K o).1 101 && Nat.beq (am_K o).2 1 && Nat.ble (am_cats r) 8, (d', a, 0, am_loc0 [.ref p, .int x, .int y] (am_mi a).2.2.2.1, [], h), am_tryK d mid pc L r o)) := by
  unfold am_try
  split
  · exact Or.inr ⟨_, _, _, _, _, _, rfl, rfl, rfl⟩
  · exact Or.inl rfl
theorem am_tryK_use {d mid pc : Nat} {L : am_L} {r : List Value} {o : Nat} {q : am_R} {t : am_S} (h : am_tryK d mid pc L r o q = some t) : t.2.2.2.2.2.1 = q.2.2.1 := by
  unfold am_tryK at h
  split at h
  · cases h; rfl
  · cases h; rfl
  · cases h
/-- places are never given back -/
theorem am_mono (env : am_E) : ∀ (n : Nat) (t : am_S) (r : am_R), am_ex env n t = some r → t.2.2.2.2.2.1 ≤ r.2.2.1 := by
  intro n
  induction n with
  | zero => intro t r h; cases h
  | succ n ih =>
    intro t r hr
    obtain ⟨d, mid, pc, L, st, h⟩ := t
    have hr : am_F env (am_ex env n) (d, mid, pc, L, st, h) = some r := hr
    unfold am_F at hr
    show h.1 ≤ r.2.2.1
    rcases am_act_form env d mid pc L st h with hg | ⟨raw, len, a, b, cp, d', ok, hcd, hd, ha, hact, -⟩ | ⟨i, len, a, b, cp, q, hcd, hact, -, -⟩
    · cases hA : am_act env (d, mid, pc, L, st, h) with
      | inl x =>
        rw [hA] at hr hg
        cases x with
        | none => cases hr
        | some x =>
          cases hr
          have hg : r.2.2.1 = h.1 := hg
          omega
      | inr x => cases x with
        | inl y =>
          rw [hA] at hr hg
          obtain ⟨lst, o⟩ := y
          have hr : am_br (am_ex env n) lst o = some r := hr
          rw [am_br_sel] at hr
          cases hs : am_sel lst o with
          | none => rw [hs] at hr; cases hr
          | some t' =>
            rw [hs] at hr
            have h1 := am_sel_same hg hs
            exact Nat.le_trans h1.2.2 (ih t' r hr)
        | inr y => rw [hA] at hg; exact hg.elim
    · rw [hact] at hr
      unfold am_call at hr
      dsimp only at hr
      cases hgd : (Nat.ble b st.length && (ok (st.take b).reverse && Nat.ble (am_loc (st.take b).reverse).length (am_mi a).2.2.2.1) && Nat.ble (am_cats (st.drop b)) 8) with
      | false => rw [hgd] at hr; cases hr
      | true =>
        rw [hgd] at hr
        dsimp only [cond_true] at hr
        cases h1 : am_ex env n (d', a, 0, am_loc0 (st.take b).reverse (am_mi a).2.2.2.1, [], h) with
        | none => rw [h1] at hr; cases hr
        | some r1 =>
          rw [h1] at hr
          have i1 := ih _ _ h1
          obtain ⟨rb, rv, rh⟩ := r1
          cases rb with
          | false => cases hr
          | true =>
            have hr : am_ex env n (d' + 1, mid, pc + 3, L, rv.toList ++ st.drop b, rh) = some r := hr
            exact Nat.le_trans i1 (ih _ _ hr)
    · rw [hact] at hr
      rcases am_try_form d mid pc L st h q with e | ⟨d1, o1, y1, x1, p1, r0, -, -, e⟩
      · rw [e] at hr; cases hr
      · rw [e] at hr
        dsimp only at hr
        cases hgd : (decide (p1 < h.1) && Nat.beq (am_K p1).1 10 && decide (o1 < h.1) && Nat.beq (am_K o1).1 101 && Nat.beq (am_K o1).2 1 && Nat.ble (am_cats r0) 8) with
        | false => rw [hgd] at hr; cases hr
        | true =>
          rw [hgd] at hr
          dsimp only [cond_true] at hr
          cases h1 : am_ex env n (d1, q, 0, am_loc0 [.ref p1, .int x1, .int y1] (am_mi q).2.2.2.1, [], h) with
          | none => rw [h1] at hr; cases hr
          | some r1 =>
            rw [h1] at hr
            have i1 : h.1 ≤ r1.2.2.1 := ih _ _ h1
            have hr : (am_tryK d mid pc L r0 o1 r1).bind (am_ex env n) = some r := hr
            cases hk : am_tryK d mid pc L r0 o1 r1 with
            | none => rw [hk] at hr; cases hr
            | some t' =>
              rw [hk] at hr
              have i2 := ih t' r hr
              rw [am_tryK_use hk] at i2
              exact Nat.le_trans i1 i2
