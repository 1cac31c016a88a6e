/-! slip: a text written by the class -/
theorem s_str : ∀ s : Fin 4, ∀ i : Fin 6, (Nat.ble 50000 (50000 + s.1) && Nat.blt (50000 + s.1) 50004) = true ∧ am_slen (50000 + s.1) = Int32.ofNat (am_strs.getD s.1 []).length ∧ (am_strs.getD s.1 []).length ≤ 6 ∧ (am_strs.getD (50000 + s.1 - 50000) []).length = (am_strs.getD s.1 []).length ∧ (i.1 < (am_strs.getD s.1 []).length → am_schr (50000 + s.1) (Int32.ofNat i.1) = Int32.ofNat ((am_strs.getD s.1 []).getD i.1 0)) := by decide +kernel
theorem take_s (W : List Nat) (i : Nat) (h : i < W.length) : W.take (i + 1) = W.take i ++ [W.getD i 0] := by
  rw [List.take_succ, List.getD_eq_getElem?_getD, List.getElem?_eq_getElem h]; rfl
theorem c_text (env : am_E) (d : Nat) (s : Nat) (hs : s < 4) (L : List Nat) (hL : L.length + 6 ≤ 40) (I : Nat → Nat → Int32) (J : Nat → Nat → Int64) (E : Nat → Nat → Nat) (h : COb I L) : ∃ I', am_ev env (d + 2, 158, 0, [some (.ref 0), some (.ref (50000 + s)), none], [], am_hp I J E) = some (true, none, am_hp I' J E) ∧ COb I' (L ++ am_strs.getD s []) ∧ FCb I I' := by
  obtain ⟨k1, k2, k3, k4, -⟩ := s_str ⟨s, hs⟩ ⟨0, by omega⟩
  dsimp only at k1 k2 k3 k4
  have kc : ∀ i, i < (am_strs.getD s []).length → am_schr (50000 + s) (Int32.ofNat i) = Int32.ofNat ((am_strs.getD s []).getD i 0) := fun i hi => (s_str ⟨s, hs⟩ ⟨i, by omega⟩).2.2.2.2 hi
  generalize am_strs.getD s [] = W at k2 k3 k4 kc ⊢
  have loop : ∀ i, i ≤ W.length → ∃ I', am_ev env (d + 2, 158, 2, [some (.ref 0), some (.ref (50000 + s)), some (.int 0)], [], am_hp I J E) = am_ev env (d + 2, 158, 2, [some (.ref 0), some (.ref (50000 + s)), some (.int (Int32.ofNat i))], [], am_hp I' J E) ∧ COb I' (L ++ W.take i) ∧ FCb I I' := by
    intro i
    induction i with
    | zero => intro _; exact ⟨I, rfl, by rw [List.take_zero, List.append_nil]; exact h, fun _ _ _ => rfl, fun _ _ => rfl⟩
    | succ i ih =>
      intro hi
      obtain ⟨I1, e1, e2, e3⟩ := ih (by omega)
      have hl : (L ++ W.take i).length < 40 := by rw [List.length_append, List.length_take]; omega
      obtain ⟨I2, f1, f2, f3⟩ := c_put env d (L ++ W.take i) hl (W.getD i 0) _ (kc i (by omega)) I1 J E e2
      rw [List.append_assoc, ← take_s W i (by omega)] at f2
      refine ⟨I2, e1.trans ((bk_158_2 _ _ _ _ _ _ _).trans ?_), f2, FCb_tr e3 f3⟩
      rw [k1, k2, show decide (Int32.ofNat W.length ≤ Int32.ofNat i) = false from zle_f W.length i (by omega) (by omega), k4, zI_in i W.length (by omega) (by omega)]
      simp only [Bool.and_self, decide_true, decide_false, Bool.not_true, Bool.not_false, am_cont, Option.bind_some, Option.toList_some, Option.toList_none, List.singleton_append, List.nil_append, cond_true, cond_false, f1, bk_158_19, zd_1]
  obtain ⟨I1, e1, e2, e3⟩ := loop W.length (Nat.le_refl _)
  rw [List.take_length] at e2
  refine ⟨I1, (bk_158_0 _ _ _ _ _ _).trans (Eq.trans e1 ((bk_158_2 _ _ _ _ _ _ _).trans ?_)), e2, e3⟩
  rw [k1, k2, zle_t W.length W.length (Nat.le_refl _) (by omega)]
  rfl
