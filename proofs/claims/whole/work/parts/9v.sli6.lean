/-! slip: a word or a number behind a blank, by the reference -/
theorem m_next (env : am_E) (d : Nat) (w : List Nat) (hw : gw w) (L : List Nat) (hL : L.length + 8 ≤ 63) (I : Nat → Nat → Int32) (J : Nat → Nat → Int64) (E : Nat → Nat → Nat) (h : MOb I L) : ∃ I', am_ev env (d + 9, 267, 0, [some (.ref 156), some (.long (Int64.ofNat (pk 27 w))), none], [], am_hp I J E) = some (true, none, am_hp I' J E) ∧ MOb I' (L ++ (32 :: wrd w)) ∧ FMb I I' := by
  have h7 := hw.2.2
  obtain ⟨I1, e1, e2, e3⟩ := m_put env (d + 7) L (by omega) 32 32 rfl I J E h
  obtain ⟨I2, f1, f2, f3⟩ := m_word env J E w hw (d + 8) (L ++ [32]) I1 (by omega) (by rw [len_1]; omega) e2
  rw [List.append_assoc] at f2
  refine ⟨I2, (bk_267_0 _ _ _ _ _ _).trans ?_, f2, FMb_tr e3 f3⟩
  simp only [decide_true, decide_false, Bool.not_true, Bool.not_false, am_cont, Option.bind_some, Option.toList_some, Option.toList_none, List.singleton_append, List.nil_append, cond_true, cond_false, e1, bk_267_6, f1, bk_267_11]
theorem m_count (env : am_E) (d : Nat) (v : Nat) (hv : v < 100) (L : List Nat) (hL : L.length + 3 ≤ 63) (I : Nat → Nat → Int32) (J : Nat → Nat → Int64) (E : Nat → Nat → Nat) (h : MOb I L) : ∃ I', am_ev env (d + 4, 268, 0, [some (.ref 156), some (.int (Int32.ofNat v))], [], am_hp I J E) = some (true, none, am_hp I' J E) ∧ MOb I' (L ++ (32 :: dgs v)) ∧ FMb I I' := by
  obtain ⟨I1, e1, e2, e3⟩ := m_put env (d + 2) L (by omega) 32 32 rfl I J E h
  obtain ⟨I2, f1, f2, f3⟩ := m_number env d (L ++ [32]) (by rw [len_1]; omega) v hv I1 J E e2
  rw [List.append_assoc] at f2
  refine ⟨I2, (bk_268_0 _ _ _ _ _ _).trans ?_, f2, FMb_tr e3 f3⟩
  simp only [decide_true, decide_false, Bool.not_true, Bool.not_false, am_cont, Option.bind_some, Option.toList_some, Option.toList_none, List.singleton_append, List.nil_append, cond_true, cond_false, e1, bk_268_6, f1, bk_268_11]
