/-! slip: bytes written by class and reference -/
def COb (I : Nat → Nat → Int32) (L : List Nat) : Prop := I 0 12 = Int32.ofNat L.length ∧ ∀ j, j < L.length → I 116 j = Int32.ofNat (L.getD j 0)
def MOb (I : Nat → Nat → Int32) (L : List Nat) : Prop := I 156 41 = Int32.ofNat L.length ∧ ∀ j, j < L.length → I 174 j = Int32.ofNat (L.getD j 0)
def FCb (I I' : Nat → Nat → Int32) : Prop := (∀ q, q ≠ 116 → q ≠ 0 → I' q = I q) ∧ ∀ j, j ≠ 12 → I' 0 j = I 0 j
def FMb (I I' : Nat → Nat → Int32) : Prop := (∀ q, q ≠ 174 → q ≠ 156 → I' q = I q) ∧ ∀ j, j ≠ 41 → I' 156 j = I 156 j
theorem FCb_tr {I I1 I2 : Nat → Nat → Int32} (h1 : FCb I I1) (h2 : FCb I1 I2) : FCb I I2 := ⟨fun q a b => (h2.1 q a b).trans (h1.1 q a b), fun j a => (h2.2 j a).trans (h1.2 j a)⟩
theorem FMb_tr {I I1 I2 : Nat → Nat → Int32} (h1 : FMb I I1) (h2 : FMb I1 I2) : FMb I I2 := ⟨fun q a b => (h2.1 q a b).trans (h1.1 q a b), fun j a => (h2.2 j a).trans (h1.2 j a)⟩
theorem getD_l (L : List Nat) (v j : Nat) (h : j < L.length) : (L ++ [v]).getD j 0 = L.getD j 0 := by
  rw [List.getD_eq_getElem?_getD, List.getElem?_append_left h, ← List.getD_eq_getElem?_getD]
theorem getD_r (L : List Nat) (v : Nat) : (L ++ [v]).getD L.length 0 = v := by
  rw [List.getD_eq_getElem?_getD, List.getElem?_append_right (Nat.le_refl _), Nat.sub_self]; rfl
theorem len_1 (L : List Nat) (v : Nat) : (L ++ [v]).length = L.length + 1 := by rw [List.length_append]; rfl
theorem c_put (env : am_E) (d : Nat) (L : List Nat) (hL : L.length < 40) (v : Nat) (x : Int32) (hx : x = Int32.ofNat v) (I : Nat → Nat → Int32) (J : Nat → Nat → Int64) (E : Nat → Nat → Nat) (h : COb I L) : ∃ I', am_ev env (d + 1, 157, 0, [some (.ref 0), some (.int x)], [], am_hp I J E) = some (true, none, am_hp I' J E) ∧ COb I' (L ++ [v]) ∧ FCb I I' := by
  obtain ⟨h1, h2⟩ := h
  have n1 : am_u I 116 L.length x 0 12 = Int32.ofNat L.length := by rw [am_u_ng _ _ _ _ _ (by omega)]; exact h1
  have start := bk_157_0 env d x I J E
  rw [h1, show decide ((40 : Int32) ≤ Int32.ofNat L.length) = false from zle_f 40 _ hL (by omega), zI_in L.length 40 hL (by omega), zI_nat L.length (by omega), n1, zd_1] at start
  simp only [decide_true, decide_false, Bool.not_true, Bool.not_false, am_cont, Option.bind_some, Option.toList_some, Option.toList_none, List.singleton_append, List.nil_append, cond_true, cond_false, bk_157_29] at start
  refine ⟨_, start, ⟨?_, fun j hj => ?_⟩, fun q a b => ?_, fun j hj => ?_⟩
  · rw [am_u_at, len_1]
  · rw [len_1] at hj
    rw [am_u_ng _ _ _ _ _ (by omega), am_u_sg]
    by_cases e : j = L.length
    · rw [if_pos e, e, getD_r]; exact hx
    · rw [if_neg e, getD_l L v j (by omega)]; exact h2 j (by omega)
  · rw [am_u_ng _ _ _ _ _ b, am_u_ng _ _ _ _ _ a]
  · rw [am_u_sg, if_neg hj, am_u_ng _ _ _ _ _ (by omega)]
theorem m_put (env : am_E) (d : Nat) (L : List Nat) (hL : L.length < 64) (v : Nat) (x : Int32) (hx : x = Int32.ofNat v) (I : Nat → Nat → Int32) (J : Nat → Nat → Int64) (E : Nat → Nat → Nat) (h : MOb I L) : ∃ I', am_ev env (d + 1, 264, 0, [some (.ref 156), some (.int x)], [], am_hp I J E) = some (true, none, am_hp I' J E) ∧ MOb I' (L ++ [v]) ∧ FMb I I' := by
  obtain ⟨h1, h2⟩ := h
  have n1 : am_u I 174 L.length x 156 41 = Int32.ofNat L.length := by rw [am_u_ng _ _ _ _ _ (by omega)]; exact h1
  have start := bk_264_0 env d x I J E
  rw [h1, zI_in L.length 64 hL (by omega), zI_nat L.length (by omega), n1, zd_1] at start
  simp only [decide_true, decide_false, Bool.not_true, Bool.not_false, am_cont, Option.bind_some, Option.toList_some, Option.toList_none, List.singleton_append, List.nil_append, cond_true, cond_false] at start
  refine ⟨_, start, ⟨?_, fun j hj => ?_⟩, fun q a b => ?_, fun j hj => ?_⟩
  · rw [am_u_at, len_1]
  · rw [len_1] at hj
    rw [am_u_ng _ _ _ _ _ (by omega), am_u_sg]
    by_cases e : j = L.length
    · rw [if_pos e, e, getD_r]; exact hx
    · rw [if_neg e, getD_l L v j (by omega)]; exact h2 j (by omega)
  · rw [am_u_ng _ _ _ _ _ b, am_u_ng _ _ _ _ _ a]
  · rw [am_u_sg, if_neg hj, am_u_ng _ _ _ _ _ (by omega)]
/-- the digits of a number below 100 -/
def dgs (v : Nat) : List Nat := if v < 10 then [48 + v] else [48 + v / 10, 48 + v % 10]
theorem z_dg : ∀ v : Fin 100, (Int32.ofNat v.1 / 10 = Int32.ofNat (v.1 / 10) ∧ (48 : Int32) + (Int32.ofNat v.1 - Int32.ofNat v.1 / 10 * 10) = Int32.ofNat (48 + v.1 % 10)) ∧ (48 : Int32) + ((Int32.ofNat v.1 / 10) - (Int32.ofNat v.1 / 10) / 10 * 10) = Int32.ofNat (48 + v.1 / 10) := by decide +kernel
theorem c_number (env : am_E) (d : Nat) (L : List Nat) (hL : L.length + 2 ≤ 40) (v : Nat) (hv : v < 100) (I : Nat → Nat → Int32) (J : Nat → Nat → Int64) (E : Nat → Nat → Nat) (h : COb I L) : ∃ I', am_ev env (d + 2, 160, 0, [some (.ref 0), some (.int (Int32.ofNat v))], [], am_hp I J E) = some (true, none, am_hp I' J E) ∧ COb I' (L ++ dgs v) ∧ FCb I I' := by
  obtain ⟨⟨z1, z2⟩, z3⟩ := z_dg ⟨v, hv⟩
  dsimp only at z1 z2 z3
  have start := bk_160_0 env (d + 1) (Int32.ofNat v) I J E
  rw [show decide (Int32.ofNat v < (10 : Int32)) = decide (v < 10) from zlt_d v 10 (by omega) (by omega), z3] at start
  unfold dgs
  by_cases h10 : v < 10
  · rw [if_pos h10]
    rw [decide_eq_true h10] at start
    obtain ⟨I1, e1, e2, e3⟩ := c_put env d L (by omega) (48 + v) _ (z2.trans (by rw [Nat.mod_eq_of_lt h10])) I J E h
    refine ⟨I1, start.trans ?_, e2, e3⟩
    simp only [decide_true, decide_false, Bool.not_true, Bool.not_false, am_cont, Option.bind_some, Option.toList_some, Option.toList_none, List.singleton_append, List.nil_append, cond_true, cond_false, bk_160_20, e1, bk_160_31]
  · rw [if_neg h10]
    rw [decide_eq_false h10] at start
    obtain ⟨I1, e1, e2, e3⟩ := c_put env d L (by omega) (48 + v / 10) _ rfl I J E h
    obtain ⟨I2, f1, f2, f3⟩ := c_put env d (L ++ [48 + v / 10]) (by rw [len_1]; omega) (48 + v % 10) _ z2 I1 J E e2
    rw [List.append_assoc] at f2
    refine ⟨I2, start.trans ?_, f2, FCb_tr e3 f3⟩
    simp only [decide_true, decide_false, Bool.not_true, Bool.not_false, am_cont, Option.bind_some, Option.toList_some, Option.toList_none, List.singleton_append, List.nil_append, cond_true, cond_false, e1, bk_160_20, f1, bk_160_31]
theorem m_number (env : am_E) (d : Nat) (L : List Nat) (hL : L.length + 2 ≤ 64) (v : Nat) (hv : v < 100) (I : Nat → Nat → Int32) (J : Nat → Nat → Int64) (E : Nat → Nat → Nat) (h : MOb I L) : ∃ I', am_ev env (d + 3, 266, 0, [some (.ref 156), some (.int (Int32.ofNat v))], [], am_hp I J E) = some (true, none, am_hp I' J E) ∧ MOb I' (L ++ dgs v) ∧ FMb I I' := by
  obtain ⟨⟨z1, z2⟩, z3⟩ := z_dg ⟨v, hv⟩
  dsimp only at z1 z2 z3
  have start := bk_266_0 env (d + 2) (Int32.ofNat v) I J E
  rw [show decide (Int32.ofNat v ≤ (9 : Int32)) = decide (v ≤ 9) from zle_d v 9 (by omega) (by omega), z1] at start
  unfold dgs
  by_cases h10 : v < 10
  · rw [if_pos h10]
    rw [decide_eq_true (by omega : v ≤ 9)] at start
    obtain ⟨I1, e1, e2, e3⟩ := m_put env (d + 1) L (by omega) (48 + v) _ (z2.trans (by rw [Nat.mod_eq_of_lt h10])) I J E h
    refine ⟨I1, start.trans ?_, e2, e3⟩
    simp only [decide_true, decide_false, Bool.not_true, Bool.not_false, am_cont, Option.bind_some, Option.toList_some, Option.toList_none, List.singleton_append, List.nil_append, cond_true, cond_false, bk_266_14, e1, bk_266_25]
  · rw [if_neg h10]
    rw [decide_eq_false (by omega : ¬ v ≤ 9)] at start
    obtain ⟨⟨y1, y2⟩, y3⟩ := z_dg ⟨v / 10, by omega⟩
    dsimp only at y1 y2 y3
    obtain ⟨I1, e1, e2, e3⟩ := m_put env d L (by omega) (48 + v / 10) _ (y2.trans (by rw [Nat.mod_eq_of_lt (by omega : v / 10 < 10)])) I J E h
    obtain ⟨I2, f1, f2, f3⟩ := m_put env (d + 1) (L ++ [48 + v / 10]) (by rw [len_1]; omega) (48 + v % 10) _ z2 I1 J E e2
    rw [List.append_assoc] at f2
    refine ⟨I2, start.trans ?_, f2, FMb_tr e3 f3⟩
    have inner := bk_266_0 env (d + 1) (Int32.ofNat (v / 10)) I J E
    rw [show decide (Int32.ofNat (v / 10) ≤ (9 : Int32)) = true from (zle_d (v / 10) 9 (by omega) (by omega)).trans (decide_eq_true (by omega))] at inner
    simp only [decide_true, decide_false, Bool.not_true, Bool.not_false, am_cont, Option.bind_some, Option.toList_some, Option.toList_none, List.singleton_append, List.nil_append, cond_true, cond_false, bk_266_14, e1, bk_266_25] at inner
    simp only [decide_true, decide_false, Bool.not_true, Bool.not_false, am_cont, Option.bind_some, Option.toList_some, Option.toList_none, List.singleton_append, List.nil_append, cond_true, cond_false, inner, bk_266_14, f1, bk_266_25]
