/-! slip: a word written by the reference -/
def wrd (w : List Nat) : List Nat := w.reverse.map (fun x => 96 + x)
theorem wrd_c (x : Nat) (w : List Nat) : wrd (x :: w) = wrd w ++ [96 + x] := by
  unfold wrd
  rw [List.reverse_cons, List.map_append]; rfl
theorem wrd_l (w : List Nat) : (wrd w).length = w.length := by
  unfold wrd
  rw [List.length_map, List.length_reverse]
theorem pk_pos (w : List Nat) (h : gl w) (h1 : 1 ≤ w.length) : 1 ≤ pk 27 w := by
  cases w with
  | nil => exact absurd h1 (by decide)
  | cons x w =>
    have := (gl_hd h).1
    show 1 ≤ pk 27 w * 27 + x
    omega
theorem m_word (env : am_E) (J : Nat → Nat → Int64) (E : Nat → Nat → Nat) : ∀ (w : List Nat), gw w → ∀ (D : Nat) (L : List Nat) (I : Nat → Nat → Int32), w.length + 1 ≤ D → L.length + w.length ≤ 63 → MOb I L → ∃ I', am_ev env (D, 265, 0, [some (.ref 156), some (.long (Int64.ofNat (pk 27 w))), none], [], am_hp I J E) = some (true, none, am_hp I' J E) ∧ MOb I' (L ++ wrd w) ∧ FMb I I' := by
  intro w
  induction w with
  | nil => intro h; exact absurd h.2.1 (by decide)
  | cons x w ih =>
    intro h D L I hD hL hM
    have hb := pk_big 27 (by omega) (by omega) (x :: w) h
    have hP : pk 27 (x :: w) = pk 27 w * 27 + x := rfl
    have hx := gl_hd h.1
    have hl : (x :: w).length = w.length + 1 := rfl
    have h7 := h.2.2
    obtain ⟨d0, rfl⟩ : ∃ d0, D = d0 + 2 := ⟨D - 2, by omega⟩
    have start := bk_265_0 env (d0 + 1) (Int64.ofNat (pk 27 (x :: w))) I J E
    rw [z64_lt _ (by omega), z64_div _ (by omega)] at start
    have hmod : pk 27 (x :: w) % 27 = x := by omega
    have hdiv : pk 27 (x :: w) / 27 = pk 27 w := by omega
    have c96 : (96 : Int32) + Int64.toInt32 (Int64.ofNat (pk 27 (x :: w)) - Int64.ofNat (pk 27 (x :: w)) / 27 * 27) = Int32.ofNat (96 + x) := by rw [z64_mod _ (by omega), hmod]; exact zc_add 96 x
    rw [wrd_c, ← List.append_assoc]
    by_cases hw : w = []
    · subst hw
      have hp0 : pk 27 ([] : List Nat) = 0 := rfl
      rw [decide_eq_true (by omega : pk 27 [x] < 27)] at start
      obtain ⟨I1, e1, e2, e3⟩ := m_put env d0 (L ++ wrd []) (by rw [List.length_append, wrd_l]; omega) (96 + x) _ c96 I J E (by rw [show wrd [] = [] from rfl, List.append_nil]; exact hM)
      refine ⟨I1, start.trans ?_, e2, e3⟩
      simp only [decide_true, decide_false, Bool.not_true, Bool.not_false, am_cont, Option.bind_some, Option.toList_some, Option.toList_none, List.singleton_append, List.nil_append, cond_true, cond_false, bk_265_17, e1, bk_265_30]
    · have hlw : 1 ≤ w.length := List.length_pos_iff.mpr hw
      have hpp := pk_pos w (gl_tl h.1) hlw
      rw [decide_eq_false (by omega : ¬ pk 27 (x :: w) < 27), hdiv] at start
      obtain ⟨I1, e1, e2, e3⟩ := ih ⟨gl_tl h.1, hlw, by omega⟩ (d0 + 1) L I (by omega) (by omega) hM
      obtain ⟨I2, f1, f2, f3⟩ := m_put env d0 (L ++ wrd w) (by rw [List.length_append, wrd_l]; omega) (96 + x) _ c96 I1 J E e2
      refine ⟨I2, start.trans ?_, f2, FMb_tr e3 f3⟩
      simp only [decide_true, decide_false, Bool.not_true, Bool.not_false, am_cont, Option.bind_some, Option.toList_some, Option.toList_none, List.singleton_append, List.nil_append, cond_true, cond_false, e1, bk_265_17, f1, bk_265_30]
