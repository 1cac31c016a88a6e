/-! a LIBRARY read, line by line: as numbers; the class -/
theorem am_u_ng {α : Type} (f : Nat → Nat → α) (p k : Nat) (x : α) (q : Nat) (h : q ≠ p) : am_u f p k x q = f q := by funext j; unfold am_u; rw [if_neg h]
theorem am_u_dg {α : Type} (f : Nat → Nat → α) (p k : Nat) (x : α) (q j : Nat) : am_u f p k x q j = if q = p then (if j = k then x else f q j) else f q j := rfl
theorem am_u_sg {α : Type} (f : Nat → Nat → α) (p k : Nat) (x : α) (j : Nat) : am_u f p k x p j = if j = k then x else f p j := if_pos rfl
/-- books, afters, readers, fine told, titles, names, numbers -/
abbrev Lby : Type := Nat × Nat × Nat × Bool × (Nat → List Nat) × (Nat → List Nat) × (Nat → Int32)
abbrev PLr : Type := (Nat × Nat) ⊕ (Lby × Cu)
def pBook (c : Nat → Nat) (z lim : Nat) (S : Lby) (u : Cu) : PLr :=
  if S.1 = 8 then .inl (4, u.2.1) else
  if isn (lx c z lim u.2.2) = false then .inl (1, (lx c z lim u.2.2).2.1) else
  if ¬ (fdx S.2.2.2.2.1 (lx c z lim u.2.2).1.2.1 S.1 = 0 ∧ fdx S.2.2.2.2.2.1 (lx c z lim u.2.2).1.2.1 S.2.2.1 = 0) then .inl (3, (lx c z lim u.2.2).2.1) else
  if pn (lx c z lim (lx c z lim u.2.2).2.2) 1 99 ≠ 0 then .inl (pn (lx c z lim (lx c z lim u.2.2).2.2) 1 99, (lx c z lim (lx c z lim u.2.2).2.2).2.1) else
  if pn (lx c z lim (lx c z lim (lx c z lim u.2.2).2.2).2.2) 0 9 ≠ 0 then .inl (pn (lx c z lim (lx c z lim (lx c z lim u.2.2).2.2).2.2) 0 9, (lx c z lim (lx c z lim (lx c z lim u.2.2).2.2).2.2).2.1) else
  .inr ((S.1 + 1, S.2.1, S.2.2.1, S.2.2.2.1, rug S.2.2.2.2.1 S.1 (lx c z lim u.2.2).1.2.1, S.2.2.2.2.2.1, ru (ru (ru S.2.2.2.2.2.2 (4 + S.1) (Int32.ofNat (lx c z lim (lx c z lim u.2.2).2.2).1.2.2)) (12 + S.1) (Int32.ofNat (lx c z lim (lx c z lim (lx c z lim u.2.2).2.2).2.2).1.2.2)) 0 (Int32.ofNat (S.1 + 1))), lx c z lim (lx c z lim (lx c z lim u.2.2).2.2).2.2)
def pAfter (c : Nat → Nat) (z lim : Nat) (S : Lby) (u : Cu) : PLr :=
  if S.2.1 = 16 then .inl (4, u.2.1) else
  if isn (lx c z lim u.2.2) = false then .inl (1, (lx c z lim u.2.2).2.1) else
  if fdx S.2.2.2.2.1 (lx c z lim u.2.2).1.2.1 S.1 = 0 then .inl (3, (lx c z lim u.2.2).2.1) else
  if isn (lx c z lim (lx c z lim u.2.2).2.2) = false then .inl (1, (lx c z lim (lx c z lim u.2.2).2.2).2.1) else
  if fdx S.2.2.2.2.1 (lx c z lim (lx c z lim u.2.2).2.2).1.2.1 S.1 = 0 then .inl (3, (lx c z lim (lx c z lim u.2.2).2.2).2.1) else
  if fdx S.2.2.2.2.1 (lx c z lim u.2.2).1.2.1 S.1 = fdx S.2.2.2.2.1 (lx c z lim (lx c z lim u.2.2).2.2).1.2.1 S.1 ∨ bt (S.2.2.2.2.2.2 (20 + (fdx S.2.2.2.2.1 (lx c z lim u.2.2).1.2.1 S.1 - 1))) (fdx S.2.2.2.2.1 (lx c z lim (lx c z lim u.2.2).2.2).1.2.1 S.1 - 1) = true then .inl (3, (lx c z lim (lx c z lim u.2.2).2.2).2.1) else
  .inr ((S.1, S.2.1 + 1, S.2.2.1, S.2.2.2.1, S.2.2.2.2.1, S.2.2.2.2.2.1, ru (ru S.2.2.2.2.2.2 (20 + (fdx S.2.2.2.2.1 (lx c z lim u.2.2).1.2.1 S.1 - 1)) (S.2.2.2.2.2.2 (20 + (fdx S.2.2.2.2.1 (lx c z lim u.2.2).1.2.1 S.1 - 1)) ||| bit1 (fdx S.2.2.2.2.1 (lx c z lim (lx c z lim u.2.2).2.2).1.2.1 S.1 - 1))) 1 (Int32.ofNat (S.2.1 + 1))), lx c z lim (lx c z lim u.2.2).2.2)
def pReader (c : Nat → Nat) (z lim : Nat) (S : Lby) (u : Cu) : PLr :=
  if S.2.2.1 = 6 then .inl (4, u.2.1) else
  if isn (lx c z lim u.2.2) = false then .inl (1, (lx c z lim u.2.2).2.1) else
  if ¬ (fdx S.2.2.2.2.1 (lx c z lim u.2.2).1.2.1 S.1 = 0 ∧ fdx S.2.2.2.2.2.1 (lx c z lim u.2.2).1.2.1 S.2.2.1 = 0) then .inl (3, (lx c z lim u.2.2).2.1) else
  if pn (lx c z lim (lx c z lim u.2.2).2.2) 1 30 ≠ 0 then .inl (pn (lx c z lim (lx c z lim u.2.2).2.2) 1 30, (lx c z lim (lx c z lim u.2.2).2.2).2.1) else
  .inr ((S.1, S.2.1, S.2.2.1 + 1, S.2.2.2.1, S.2.2.2.2.1, rug S.2.2.2.2.2.1 S.2.2.1 (lx c z lim u.2.2).1.2.1, ru (ru S.2.2.2.2.2.2 (28 + S.2.2.1) (Int32.ofNat (lx c z lim (lx c z lim u.2.2).2.2).1.2.2)) 2 (Int32.ofNat (S.2.2.1 + 1))), lx c z lim (lx c z lim u.2.2).2.2)
def pFine (c : Nat → Nat) (z lim : Nat) (S : Lby) (u : Cu) : PLr :=
  if S.2.2.2.1 = true then .inl (3, u.2.1) else
  if pn (lx c z lim u.2.2) 0 30 ≠ 0 then .inl (pn (lx c z lim u.2.2) 0 30, (lx c z lim u.2.2).2.1) else
  .inr ((S.1, S.2.1, S.2.2.1, true, S.2.2.2.2.1, S.2.2.2.2.2.1, ru S.2.2.2.2.2.2 3 (Int32.ofNat (lx c z lim u.2.2).1.2.2)), lx c z lim u.2.2)
def pLine (c : Nat → Nat) (z lim : Nat) (S : Lby) (u : Cu) : PLr := if kw u = 1 then pBook c z lim S u else if kw u = 2 then pAfter c z lim S u else if kw u = 3 then pReader c z lim S u else if kw u = 4 then pFine c z lim S u else .inl (1, u.2.1)
/-- what is so of all that was read -/
def LWy (S : Lby) : Prop := IvL S.2.2.2.2.2.2 S.1 S.2.2.1 ∧ S.2.2.2.2.2.2 1 = Int32.ofNat S.2.1 ∧ S.2.1 ≤ 16 ∧ (∀ b, S.1 ≤ b → b < 8 → S.2.2.2.2.2.2 (20 + b) = 0) ∧ (∀ b, b < S.1 → gw (S.2.2.2.2.1 b)) ∧ ∀ r, r < S.2.2.1 → gw (S.2.2.2.2.2.1 r)
/-- the class's Library at p holds it -/
def CLy (p : Nat) (I : Nat → Nat → Int32) (J : Nat → Nat → Int64) (S : Lby) : Prop := I p 0 = Int32.ofNat S.1 ∧ I p 1 = Int32.ofNat S.2.1 ∧ I p 2 = Int32.ofNat S.2.2.1 ∧ I p 3 = S.2.2.2.2.2.2 3 ∧ I p 4 = bi S.2.2.2.1 ∧ (∀ b, b < S.1 → I (p + 2) b = S.2.2.2.2.2.2 (4 + b) ∧ I (p + 3) b = S.2.2.2.2.2.2 (12 + b) ∧ I (p + 4) b = S.2.2.2.2.2.2 (20 + b) ∧ J (p + 1) b = Int64.ofNat (pk 32 (S.2.2.2.2.1 b))) ∧ ∀ r, r < S.2.2.1 → I (p + 6) r = S.2.2.2.2.2.2 (28 + r) ∧ J (p + 5) r = Int64.ofNat (pk 32 (S.2.2.2.2.2.1 r))
abbrev XQ (p : Nat) : Nat → Prop := fun q => p ≤ q ∧ q ≤ p + 6
theorem FXqp {p : Nat} {I I1 : Nat → Nat → Int32} {J J1 : Nat → Nat → Int64} {E E1 : Nat → Nat → Nat} (h : FX (XQ p) I J E I1 J1 E1) : FX (fun q => q = 1 ∨ (p ≤ q ∧ q ≤ p + 6)) I J E I1 J1 E1 := FX_mono h (fun q hq => Or.inr hq)
abbrev XP (p : Nat) : Nat → Prop := fun q => q = 1 ∨ (p ≤ q ∧ q ≤ p + 6)
theorem CLy_fx {X : Nat → Prop} {p : Nat} {I I1 : Nat → Nat → Int32} {J J1 : Nat → Nat → Int64} {E E1 : Nat → Nat → Nat} {S : Lby} (h : CLy p I J S) (hf : FX X I J E I1 J1 E1) (hX : ∀ q, p ≤ q → q ≤ p + 6 → ¬ X q) : CLy p I1 J1 S := by
  obtain ⟨a1, a2, a3, a4, a5, a6, a7⟩ := h
  unfold CLy
  rw [hf.1 p (hX p (by omega) (by omega)), hf.1 (p + 2) (hX _ (by omega) (by omega)), hf.1 (p + 3) (hX _ (by omega) (by omega)), hf.1 (p + 4) (hX _ (by omega) (by omega)), hf.1 (p + 6) (hX _ (by omega) (by omega)), hf.2.1 (p + 1) (hX _ (by omega) (by omega)), hf.2.1 (p + 5) (hX _ (by omega) (by omega))]
  exact ⟨a1, a2, a3, a4, a5, a6, a7⟩
def cOut (p : Nat) (I : Nat → Nat → Int32) (J : Nat → Nat → Int64) (E : Nat → Nat → Nat) (z : Nat) (c : Nat → Nat) (lim : Nat) (b : Bool) (res : PLr) : Prop := match res with
  | .inl x => b = false ∧ I 1 3 = Int32.ofNat x.1 ∧ I 1 4 = Int32.ofNat x.2
  | .inr y => b = true ∧ CS I J E z c lim y.2 ∧ CLy p I J y.1 ∧ I 1 3 = 0
theorem FX_u {X : Nat → Prop} {I I1 : Nat → Nat → Int32} {J J1 : Nat → Nat → Int64} {E E1 : Nat → Nat → Nat} (h : FX X I J E I1 J1 E1) (p k : Nat) (x : Int32) (hp : X p) : FX X I J E (am_u I1 p k x) J1 E1 := ⟨fun q hq => by rw [am_u_ng _ _ _ _ _ (fun e => hq (by rw [e]; exact hp))]; exact h.1 q hq, h.2.1, h.2.2⟩
theorem FX_uj {X : Nat → Prop} {I I1 : Nat → Nat → Int32} {J J1 : Nat → Nat → Int64} {E E1 : Nat → Nat → Nat} (h : FX X I J E I1 J1 E1) (p k : Nat) (x : Int64) (hp : X p) : FX X I J E I1 (am_u J1 p k x) E1 := ⟨h.1, fun q hq => by rw [am_u_ng _ _ _ _ _ (fun e => hq (by rw [e]; exact hp))]; exact h.2.1 q hq, h.2.2⟩
theorem FX_ue {X : Nat → Prop} {I I1 : Nat → Nat → Int32} {J J1 : Nat → Nat → Int64} {E E1 : Nat → Nat → Nat} (h : FX X I J E I1 J1 E1) (p k : Nat) (x : Nat) (hp : X p) : FX X I J E I1 J1 (am_u E1 p k x) := ⟨h.1, h.2.1, fun q hq => by rw [am_u_ng _ _ _ _ _ (fun e => hq (by rw [e]; exact hp))]; exact h.2.2 q hq⟩
theorem c_isNewName (env : am_E) (d : Nat) (p : Nat) (hp : lbq p = true) (z lim : Nat) (c : Nat → Nat) (u : Cu) (S : Lby) (I : Nat → Nat → Int32) (J : Nat → Nat → Int64) (E : Nat → Nat → Nat) (h : CS I J E z c lim u) (hl : CLy p I J S) (hw : LWy S) : am_ev env (d + 2, 24, 0, [some (.ref p), some (.ref 1)], [], am_hp I J E) = (if isn u = true then (if fdx S.2.2.2.2.1 u.1.2.1 S.1 = 0 ∧ fdx S.2.2.2.2.2.1 u.1.2.1 S.2.2.1 = 0 then some (true, some (.int 1), am_hp I J E) else some (true, some (.int 0), am_hp (stp I 3) J E)) else some (true, some (.int 0), am_hp (stp I 1) J E)) := by
  obtain ⟨w1, w2, w3, w4, w5, w6⟩ := hw
  have b1 := fdx_le S.2.2.2.2.1 u.1.2.1 S.1
  have b2 := fdx_le S.2.2.2.2.2.1 u.1.2.1 S.2.2.1
  have hn8 := w1.1.2
  have hk6 := w1.2.1.2
  refine (bk_24_0 _ _ _ _ _ _).trans ?_
  rw [show decide (I 1 0 = (3 : Int32)) = isn u from c_kind3 h]
  by_cases hn : isn u = true
  · obtain ⟨n1, n2⟩ := c_name h hn
    have e1 := c_bookCalled env d p hp S.1 hn8 S.2.2.2.2.1 u.1.2.1 n2 w5 I J E hl.1 (fun b hb => (hl.2.2.2.2.2.1 b hb).2.2.2)
    have e2 := c_readerCalled env d p hp S.2.2.1 hk6 S.2.2.2.2.2.1 u.1.2.1 n2 w6 I J E hl.2.2.1 (fun b hb => (hl.2.2.2.2.2.2 b hb).2)
    rw [hn, if_pos rfl, n1]
    have s38 : am_ev env (d + 2, 24, 38, [some (.ref p), some (.ref 1)], [], am_hp I J E) = some (true, some (.int 0), am_hp (stp I 3) J E) := by
      simp only [bk_24_38, decide_true, decide_false, Bool.not_true, Bool.not_false, am_cont, Option.bind_some, Option.toList_some, Option.toList_none, List.singleton_append, List.nil_append, cond_true, cond_false, c_stop, bk_24_43]; rfl
    simp only [decide_true, decide_false, Bool.not_true, Bool.not_false, am_cont, Option.bind_some, Option.toList_some, Option.toList_none, List.singleton_append, List.nil_append, cond_true, cond_false, ly_d p hp, ly_b p hp, Bool.and_self, e1, bk_24_22, bv_m1 _ (show fdx S.2.2.2.2.1 u.1.2.1 S.1 < 100000 by omega), n1, e2, bk_24_34, bv_m1 _ (show fdx S.2.2.2.2.2.1 u.1.2.1 S.2.2.1 < 100000 by omega)]
    by_cases q1 : fdx S.2.2.2.2.1 u.1.2.1 S.1 = 0
    · rw [decide_eq_true q1]
      by_cases q2 : fdx S.2.2.2.2.2.1 u.1.2.1 S.2.2.1 = 0
      · rw [decide_eq_true q2, if_pos ⟨q1, q2⟩]; rfl
      · rw [decide_eq_false q2, if_neg (fun e => q2 e.2)]; exact s38
    · rw [decide_eq_false q1, if_neg (fun e => q1 e.1)]; exact s38
  · rw [Bool.not_eq_true] at hn
    rw [hn, if_neg (by decide)]
    simp only [decide_true, decide_false, Bool.not_true, Bool.not_false, am_cont, Option.bind_some, Option.toList_some, Option.toList_none, List.singleton_append, List.nil_append, cond_true, cond_false, c_stop, bk_24_13]
    rfl
theorem c_bookHere (env : am_E) (d : Nat) (p : Nat) (hp : lbq p = true) (z lim : Nat) (c : Nat → Nat) (u : Cu) (n : Nat) (hn8 : n ≤ 8) (T : Nat → List Nat) (hT : ∀ b, b < n → gw (T b)) (I : Nat → Nat → Int32) (J : Nat → Nat → Int64) (E : Nat → Nat → Nat) (h : CS I J E z c lim u) (h0 : I p 0 = Int32.ofNat n) (hJ : ∀ b, b < n → J (p + 1) b = Int64.ofNat (pk 32 (T b))) : am_ev env (d + 2, 25, 0, [some (.ref p), some (.ref 1), none], [], am_hp I J E) = (if isn u = true then (if fdx T u.1.2.1 n = 0 then some (true, some (.int (-1)), am_hp (stp I 3) J E) else some (true, some (.int (Int32.ofNat (fdx T u.1.2.1 n - 1))), am_hp I J E)) else some (true, some (.int (-1)), am_hp (stp I 1) J E)) := by
  have b1 := fdx_le T u.1.2.1 n
  refine (bk_25_0 _ _ _ _ _ _).trans ?_
  rw [show decide (I 1 0 = (3 : Int32)) = isn u from c_kind3 h]
  by_cases hn : isn u = true
  · obtain ⟨n1, n2⟩ := c_name h hn
    have e1 := c_bookCalled env d p hp n hn8 T u.1.2.1 n2 hT I J E h0 hJ
    rw [hn, if_pos rfl, n1]
    simp only [decide_true, decide_false, Bool.not_true, Bool.not_false, am_cont, Option.bind_some, Option.toList_some, Option.toList_none, List.singleton_append, List.nil_append, cond_true, cond_false, ly_d p hp, ly_b p hp, Bool.and_self, e1, bk_25_24, bv_m1 _ (show fdx T u.1.2.1 n < 100000 by omega), c_stop, bk_25_35, bk_25_36]
    by_cases q1 : fdx T u.1.2.1 n = 0
    · rw [decide_eq_true q1, if_pos q1, q1]; rfl
    · rw [decide_eq_false q1, if_neg q1]
      have : bv (fdx T u.1.2.1 n) = Int32.ofNat (fdx T u.1.2.1 n - 1) := by unfold bv; rw [if_neg q1]
      rw [this]; rfl
  · rw [Bool.not_eq_true] at hn
    rw [hn, if_neg (by decide)]
    simp only [decide_true, decide_false, Bool.not_true, Bool.not_false, am_cont, Option.bind_some, Option.toList_some, Option.toList_none, List.singleton_append, List.nil_append, cond_true, cond_false, c_stop, bk_25_13]
theorem c_readerHere (env : am_E) (d : Nat) (p : Nat) (hp : lbq p = true) (z lim : Nat) (c : Nat → Nat) (u : Cu) (n : Nat) (hn8 : n ≤ 6) (T : Nat → List Nat) (hT : ∀ b, b < n → gw (T b)) (I : Nat → Nat → Int32) (J : Nat → Nat → Int64) (E : Nat → Nat → Nat) (h : CS I J E z c lim u) (h0 : I p 2 = Int32.ofNat n) (hJ : ∀ b, b < n → J (p + 5) b = Int64.ofNat (pk 32 (T b))) : am_ev env (d + 2, 26, 0, [some (.ref p), some (.ref 1), none], [], am_hp I J E) = (if isn u = true then (if fdx T u.1.2.1 n = 0 then some (true, some (.int (-1)), am_hp (stp I 3) J E) else some (true, some (.int (Int32.ofNat (fdx T u.1.2.1 n - 1))), am_hp I J E)) else some (true, some (.int (-1)), am_hp (stp I 1) J E)) := by
  have b1 := fdx_le T u.1.2.1 n
  refine (bk_26_0 _ _ _ _ _ _).trans ?_
  rw [show decide (I 1 0 = (3 : Int32)) = isn u from c_kind3 h]
  by_cases hn : isn u = true
  · obtain ⟨n1, n2⟩ := c_name h hn
    have e1 := c_readerCalled env d p hp n hn8 T u.1.2.1 n2 hT I J E h0 hJ
    rw [hn, if_pos rfl, n1]
    simp only [decide_true, decide_false, Bool.not_true, Bool.not_false, am_cont, Option.bind_some, Option.toList_some, Option.toList_none, List.singleton_append, List.nil_append, cond_true, cond_false, ly_d p hp, ly_b p hp, Bool.and_self, e1, bk_26_24, bv_m1 _ (show fdx T u.1.2.1 n < 100000 by omega), c_stop, bk_26_35, bk_26_36]
    by_cases q1 : fdx T u.1.2.1 n = 0
    · rw [decide_eq_true q1, if_pos q1, q1]; rfl
    · rw [decide_eq_false q1, if_neg q1]
      have : bv (fdx T u.1.2.1 n) = Int32.ofNat (fdx T u.1.2.1 n - 1) := by unfold bv; rw [if_neg q1]
      rw [this]; rfl
  · rw [Bool.not_eq_true] at hn
    rw [hn, if_neg (by decide)]
    simp only [decide_true, decide_false, Bool.not_true, Bool.not_false, am_cont, Option.bind_some, Option.toList_some, Option.toList_none, List.singleton_append, List.nil_append, cond_true, cond_false, c_stop, bk_26_13]
theorem zm1 (v : Nat) (h : v < 2147483648) : decide (Int32.ofNat v = -1) = false := decide_eq_false (fun e => m1_ne v h e.symm)
theorem FX1p {p : Nat} {I I1 : Nat → Nat → Int32} {J J1 : Nat → Nat → Int64} {E E1 : Nat → Nat → Nat} (h : FX (fun q => q = 1) I J E I1 J1 E1) : FX (XP p) I J E I1 J1 E1 := FX_mono h (fun q hq => Or.inl hq)
theorem pn0 {u : Cu} {a b : Nat} (h : pn u a b = 0) : u.1.1 = 3 ∧ a ≤ u.1.2.2 ∧ u.1.2.2 ≤ b := by
  unfold pn at h
  by_cases h3 : u.1.1 = 3
  · rw [if_pos h3] at h
    by_cases q : a ≤ u.1.2.2 ∧ u.1.2.2 ≤ b
    · exact ⟨h3, q⟩
    · rw [if_neg q] at h; omega
  · rw [if_neg h3] at h; omega
theorem c_readBook (env : am_E) (d : Nat) (p : Nat) (hp : lbq p = true) (z lim : Nat) (hz : z ≤ 940) (hlim : lim ≤ 1000) (c : Nat → Nat) (u : Cu) (S : Lby) (I : Nat → Nat → Int32) (J : Nat → Nat → Int64) (E : Nat → Nat → Nat) (h : CS I J E z c lim u) (hl : CLy p I J S) (hw : LWy S) (hf : I 1 3 = 0) : ∃ b I' J' E', am_ev env (d + 4, 20, 0, [some (.ref p), some (.ref 1)], [], am_hp I J E) = some (true, some (.int (bi b)), am_hp I' J' E') ∧ FX (XP p) I J E I' J' E' ∧ cOut p I' J' E' z c lim b (pBook c z lim S u) := by
  have hp5 : 5 ≤ p := by have := lbq_c p hp; omega
  have hn8 := hw.1.1.2
  obtain ⟨n, f, k, o, T, U, m⟩ := S
  have hn8 : n ≤ 8 := hn8
  have l0 : I p 0 = Int32.ofNat n := hl.1
  unfold pBook
  dsimp only
  have start := bk_20_0 env (d + 3) p I J E
  rw [ly_d p hp, ly_b p hp, l0, show decide (Int32.ofNat n < (8 : Int32)) = decide (n < 8) from zlt_d n 8 (by omega) (by omega)] at start
  by_cases h8 : n = 8
  · rw [if_pos h8]
    refine ⟨false, stp I 4, J, E, ?_, FX1p (stp_fx I J E 4), rfl, stp_3 I 4, by rw [stp_4]; exact c_at h⟩
    refine start.trans ?_
    rw [decide_eq_false (by omega : ¬ n < 8)]
    simp only [decide_true, decide_false, Bool.not_true, Bool.not_false, am_cont, Option.bind_some, Option.toList_some, Option.toList_none, List.singleton_append, List.nil_append, cond_true, cond_false, Bool.and_self, c_stop, bk_20_14]; rfl
  rw [if_neg h8]
  rw [decide_eq_true (by omega : n < 8)] at start
  obtain ⟨I1, J1, E1, k1, s1, f1, t3, t4⟩ := c_nx env d z lim hz hlim c u I J E h
  have l1 := CLy_fx hl f1 (fun q a b => by omega)
  have e24 := c_isNewName env (d + 1) p hp z lim c _ (n, f, k, o, T, U, m) I1 J1 E1 s1 l1 hw
  have g19 : am_ev env (d + 4, 20, 0, [some (.ref p), some (.ref 1)], [], am_hp I J E) = am_cont env (d + 3, 24, 0, [some (.ref p), some (.ref 1)], [], am_hp I1 J1 E1) (d + 4) 20 24 [some (.ref p), some (.ref 1)] [] := by
    refine start.trans ?_
    simp only [decide_true, decide_false, Bool.not_true, Bool.not_false, am_cont, Option.bind_some, Option.toList_some, Option.toList_none, List.singleton_append, List.nil_append, cond_true, cond_false, Bool.and_self, k1, bk_20_19, ly_d p hp, ly_b p hp]
  have hu1 := c_at s1
  have f13 : I1 1 3 = 0 := t3.trans hf
  generalize hq1 : lx c z lim u.2.2 = u1 at s1 e24 hu1 ⊢
  by_cases hin : isn u1 = true
  rotate_left
  · rw [Bool.not_eq_true] at hin
    rw [if_pos hin]
    rw [hin, if_neg (by decide)] at e24
    refine ⟨false, stp I1 1, J1, E1, ?_, FX_tr (FX1p f1) (FX1p (stp_fx I1 J1 E1 1)), rfl, stp_3 I1 1, by rw [stp_4]; exact hu1⟩
    refine g19.trans ?_
    rw [am_cont_some e24]
    simp only [decide_true, decide_false, Bool.not_true, Bool.not_false, am_cont, Option.bind_some, Option.toList_some, Option.toList_none, List.singleton_append, List.nil_append, cond_true, cond_false, bk_20_24, zq_0_0]; rfl
  rw [if_neg (by rw [hin]; decide)]
  rw [if_pos hin] at e24
  by_cases hdu : fdx T u1.1.2.1 n = 0 ∧ fdx U u1.1.2.1 k = 0
  rotate_left
  · rw [if_pos hdu]
    rw [if_neg hdu] at e24
    refine ⟨false, stp I1 3, J1, E1, ?_, FX_tr (FX1p f1) (FX1p (stp_fx I1 J1 E1 3)), rfl, stp_3 I1 3, by rw [stp_4]; exact hu1⟩
    refine g19.trans ?_
    rw [am_cont_some e24]
    simp only [decide_true, decide_false, Bool.not_true, Bool.not_false, am_cont, Option.bind_some, Option.toList_some, Option.toList_none, List.singleton_append, List.nil_append, cond_true, cond_false, bk_20_24, zq_0_0]; rfl
  rw [if_neg (fun q => q hdu)]
  rw [if_pos hdu] at e24
  obtain ⟨nm1, nm2⟩ := c_name s1 hin
  have l10 : I1 p 0 = Int32.ofNat n := l1.1
  have fa : FX (XQ p) I1 J1 E1 I1 (am_u J1 (p + 1) n (Int64.ofNat (pk 32 u1.1.2.1))) E1 := FX_uj (FX_refl _ _ _ _) _ _ _ ⟨by omega, by omega⟩
  have s1a : CS I1 (am_u J1 (p + 1) n (Int64.ofNat (pk 32 u1.1.2.1))) E1 z c lim u1 := CS_fx s1 fa (by omega) (by omega) (by omega)
  obtain ⟨I2, J2, E2, k2, s2, f2, t5, t6⟩ := c_nx env d z lim hz hlim c u1 I1 (am_u J1 (p + 1) n (Int64.ofNat (pk 32 u1.1.2.1))) E1 s1a
  have F2 : FX (XP p) I J E I2 J2 E2 := FX_tr (FX1p f1) (FX_tr (FXqp fa) (FX1p f2))
  have hu2 := c_at s2
  have l20 : I2 p 0 = Int32.ofNat n := by rw [f2.1 p (by omega)]; exact l10
  have e107 := c_num env (d + 1) z lim c _ 1 99 (by omega) (by omega) 1 99 rfl rfl I2 J2 E2 s2
  have g61 : am_ev env (d + 4, 20, 0, [some (.ref p), some (.ref 1)], [], am_hp I J E) = am_cont env (d + 3, 107, 0, [some (.ref 1), some (.int 1), some (.int 99)], [], am_hp I2 J2 E2) (d + 4) 20 61 [some (.ref p), some (.ref 1)] [.int (Int32.ofNat n), .ref (p + 2)] := by
    refine g19.trans ?_
    rw [am_cont_some e24]
    simp (disch := omega) only [decide_true, decide_false, Bool.not_true, Bool.not_false, am_cont, Option.bind_some, Option.toList_some, Option.toList_none, List.singleton_append, List.nil_append, cond_true, cond_false, bk_20_24, zq_1_0, ly_d p hp, ly_b p hp, ly_5 p hp, ly_6 p hp, ly_d1 p hp, ly_b1 p hp, ly_l1 p hp, Bool.and_self, l10, zI_in, zI_nat, nm1, k2, bk_20_46, l20]
  generalize hq2 : lx c z lim u1.2.2 = u2 at s2 hu2 e107 ⊢
  by_cases hp2 : pn u2 1 99 = 0
  rotate_left
  · rw [if_pos hp2]
    rw [if_neg hp2] at e107
    have l2s : stp I2 (Int32.ofNat (pn u2 1 99)) p 0 = Int32.ofNat n := by rw [(stp_fx I2 J2 E2 _).1 p (by omega)]; exact l20
    refine ⟨false, am_u (stp I2 (Int32.ofNat (pn u2 1 99))) (p + 2) n (-1), J2, E2, ?_, FX_u (FX_tr F2 (FX1p (stp_fx I2 J2 E2 _))) _ _ _ (Or.inr ⟨by omega, by omega⟩), rfl, ?_, ?_⟩
    · refine g61.trans ?_
      rw [am_cont_some e107]
      have nr : am_u (stp I2 (Int32.ofNat (pn u2 1 99))) (p + 2) n (-1) p 0 = Int32.ofNat n := by rw [am_u_ng _ _ _ _ _ (by omega)]; exact l2s
      simp (disch := omega) only [decide_true, decide_false, Bool.not_true, Bool.not_false, am_cont, Option.bind_some, Option.toList_some, Option.toList_none, List.singleton_append, List.nil_append, cond_true, cond_false, bk_20_61, ly_d p hp, ly_b p hp, ly_6 p hp, ly_d2 p hp, ly_b2 p hp, ly_l2 p hp, Bool.and_self, zI_in, zI_nat, nr, am_u_at]
      rfl
    · rw [am_u_ng _ _ _ _ _ (by omega)]; exact stp_3 _ _
    · rw [am_u_ng _ _ _ _ _ (by omega), stp_4]; exact hu2
  rw [if_neg (fun q => q hp2)]
  rw [if_pos hp2] at e107
  obtain ⟨v1, v2, v3⟩ := pn0 hp2
  have fb : FX (XQ p) I2 J2 E2 (am_u I2 (p + 2) n (Int32.ofNat u2.1.2.2)) J2 E2 := FX_u (FX_refl _ _ _ _) _ _ _ ⟨by omega, by omega⟩
  have s2a : CS (am_u I2 (p + 2) n (Int32.ofNat u2.1.2.2)) J2 E2 z c lim u2 := CS_fx s2 fb (by omega) (by omega) (by omega)
  obtain ⟨I3, J3, E3, k3, s3, f3, t7, t8⟩ := c_nx env d z lim hz hlim c u2 (am_u I2 (p + 2) n (Int32.ofNat u2.1.2.2)) J2 E2 s2a
  have F3 : FX (XP p) I J E I3 J3 E3 := FX_tr F2 (FX_tr (FXqp fb) (FX1p f3))
  have hu3 := c_at s3
  have l30 : I3 p 0 = Int32.ofNat n := by rw [f3.1 p (by omega), am_u_ng _ _ _ _ _ (by omega)]; exact l20
  have e107b := c_num env (d + 1) z lim c _ 0 9 (by omega) (by omega) 0 9 rfl rfl I3 J3 E3 s3
  have g96 : am_ev env (d + 4, 20, 0, [some (.ref p), some (.ref 1)], [], am_hp I J E) = am_cont env (d + 3, 107, 0, [some (.ref 1), some (.int 0), some (.int 9)], [], am_hp I3 J3 E3) (d + 4) 20 96 [some (.ref p), some (.ref 1)] [.int (Int32.ofNat n), .ref (p + 3)] := by
    refine g61.trans ?_
    rw [am_cont_some e107]
    have nr : am_u I2 (p + 2) n (Int32.ofNat u2.1.2.2) p 0 = Int32.ofNat n := by rw [am_u_ng _ _ _ _ _ (by omega)]; exact l20
    simp (disch := omega) only [decide_true, decide_false, Bool.not_true, Bool.not_false, am_cont, Option.bind_some, Option.toList_some, Option.toList_none, List.singleton_append, List.nil_append, cond_true, cond_false, bk_20_61, ly_d p hp, ly_b p hp, ly_6 p hp, ly_7 p hp, ly_d2 p hp, ly_b2 p hp, ly_l2 p hp, Bool.and_self, zI_in, zI_nat, nr, am_u_at, zm1, k3, bk_20_81, l30]
  generalize hq3 : lx c z lim u2.2.2 = u3 at s3 hu3 e107b ⊢
  by_cases hp3 : pn u3 0 9 = 0
  rotate_left
  · rw [if_pos hp3]
    rw [if_neg hp3] at e107b
    have l3s : stp I3 (Int32.ofNat (pn u3 0 9)) p 0 = Int32.ofNat n := by rw [(stp_fx I3 J3 E3 _).1 p (by omega)]; exact l30
    refine ⟨false, am_u (stp I3 (Int32.ofNat (pn u3 0 9))) (p + 3) n (-1), J3, E3, ?_, FX_u (FX_tr F3 (FX1p (stp_fx I3 J3 E3 _))) _ _ _ (Or.inr ⟨by omega, by omega⟩), rfl, ?_, ?_⟩
    · refine g96.trans ?_
      rw [am_cont_some e107b]
      have nr : am_u (stp I3 (Int32.ofNat (pn u3 0 9))) (p + 3) n (-1) p 0 = Int32.ofNat n := by rw [am_u_ng _ _ _ _ _ (by omega)]; exact l3s
      simp (disch := omega) only [decide_true, decide_false, Bool.not_true, Bool.not_false, am_cont, Option.bind_some, Option.toList_some, Option.toList_none, List.singleton_append, List.nil_append, cond_true, cond_false, bk_20_96, ly_d p hp, ly_b p hp, ly_7 p hp, ly_d3 p hp, ly_b3 p hp, ly_l3 p hp, Bool.and_self, zI_in, zI_nat, nr, am_u_at]
      rfl
    · rw [am_u_ng _ _ _ _ _ (by omega)]; exact stp_3 _ _
    · rw [am_u_ng _ _ _ _ _ (by omega), stp_4]; exact hu3
  rw [if_neg (fun q => q hp3)]
  rw [if_pos hp3] at e107b
  obtain ⟨y1, y2, y3⟩ := pn0 hp3
  have F4 : FX (XQ p) I3 J3 E3 (am_u (am_u (am_u I3 (p + 3) n (Int32.ofNat u3.1.2.2)) (p + 4) n 0) p 0 (Int32.ofNat (n + 1))) J3 E3 := FX_u (FX_u (FX_u (FX_refl _ _ _ _) _ _ _ ⟨by omega, by omega⟩) _ _ _ ⟨by omega, by omega⟩) _ _ _ ⟨by omega, by omega⟩
  refine ⟨true, am_u (am_u (am_u I3 (p + 3) n (Int32.ofNat u3.1.2.2)) (p + 4) n 0) p 0 (Int32.ofNat (n + 1)), J3, E3, ?_, FX_tr F3 (FXqp F4), rfl, CS_fx s3 F4 (by omega) (by omega) (by omega), ?_, ?_⟩
  · refine g96.trans ?_
    rw [am_cont_some e107b]
    have nr : am_u I3 (p + 3) n (Int32.ofNat u3.1.2.2) p 0 = Int32.ofNat n := by rw [am_u_ng _ _ _ _ _ (by omega)]; exact l30
    have nr2 : am_u (am_u I3 (p + 3) n (Int32.ofNat u3.1.2.2)) (p + 4) n 0 p 0 = Int32.ofNat n := by rw [am_u_ng _ _ _ _ _ (by omega)]; exact nr
    simp (disch := omega) only [decide_true, decide_false, Bool.not_true, Bool.not_false, am_cont, Option.bind_some, Option.toList_some, Option.toList_none, List.singleton_append, List.nil_append, cond_true, cond_false, bk_20_96, ly_d p hp, ly_b p hp, ly_7 p hp, ly_8 p hp, ly_d3 p hp, ly_b3 p hp, ly_l3 p hp, ly_d4 p hp, ly_b4 p hp, ly_l4 p hp, Bool.and_self, zI_in, zI_nat, nr, nr2, am_u_at, zm1, bk_20_132, zd_1]
    rfl
  · have l3 : ∀ q, p ≤ q → q ≤ p + 6 → q ≠ p + 2 → I3 q = I q := by
      intro q a b e
      rw [f3.1 q (by omega), am_u_ng _ _ _ _ _ e, f2.1 q (by omega), f1.1 q (by omega)]
    have l3b : I3 (p + 2) = am_u I (p + 2) n (Int32.ofNat u2.1.2.2) (p + 2) := by
      funext j
      rw [f3.1 (p + 2) (by omega), am_u_sg, am_u_sg, f2.1 (p + 2) (by omega), f1.1 (p + 2) (by omega)]
    have j3 : ∀ q, p ≤ q → q ≤ p + 6 → q ≠ p + 1 → J3 q = J q := by
      intro q a b e
      rw [f3.2.1 q (by omega), f2.2.1 q (by omega), am_u_ng _ _ _ _ _ e, f1.2.1 q (by omega)]
    have j3b : J3 (p + 1) = am_u J (p + 1) n (Int64.ofNat (pk 32 u1.1.2.1)) (p + 1) := by
      funext j
      rw [f3.2.1 (p + 1) (by omega), f2.2.1 (p + 1) (by omega), am_u_sg, am_u_sg, f1.2.1 (p + 1) (by omega)]
    obtain ⟨a1, a2, a3, a4, a5, a6, a7⟩ := hl
    have w4 := hw.2.2.2.1
    dsimp only at a1 a2 a3 a4 a5 a6 a7 w4
    refine ⟨?_, ?_, ?_, ?_, ?_, ?_, ?_⟩
    · rw [am_u_at]
    · rw [am_u_sg, if_neg (by omega), am_u_ng _ _ _ _ _ (by omega), am_u_ng _ _ _ _ _ (by omega), l3 p (by omega) (by omega) (by omega)]; exact a2
    · rw [am_u_sg, if_neg (by omega), am_u_ng _ _ _ _ _ (by omega), am_u_ng _ _ _ _ _ (by omega), l3 p (by omega) (by omega) (by omega)]; exact a3
    · rw [am_u_sg, if_neg (by omega), am_u_ng _ _ _ _ _ (by omega), am_u_ng _ _ _ _ _ (by omega), l3 p (by omega) (by omega) (by omega), a4]
      dsimp only
      rw [ru_ne _ _ _ _ (by omega), ru_ne _ _ _ _ (by omega), ru_ne _ _ _ _ (by omega)]
    · rw [am_u_sg, if_neg (by omega), am_u_ng _ _ _ _ _ (by omega), am_u_ng _ _ _ _ _ (by omega), l3 p (by omega) (by omega) (by omega)]; exact a5
    · intro b hb
      have hb : b < n + 1 := hb
      dsimp only
      rw [am_u_ng _ _ _ _ (p + 2) (by omega), am_u_ng _ _ _ _ (p + 2) (by omega), am_u_ng _ _ _ _ (p + 2) (by omega), am_u_ng _ _ _ _ (p + 3) (by omega), am_u_ng _ _ _ _ (p + 3) (by omega), am_u_ng _ _ _ _ (p + 4) (by omega), am_u_sg, am_u_sg, am_u_ng _ _ _ _ (p + 4) (by omega), l3b, am_u_sg, l3 (p + 3) (by omega) (by omega) (by omega), l3 (p + 4) (by omega) (by omega) (by omega), j3b, am_u_sg]
      by_cases e : b = n
      · subst e
        rw [if_pos rfl, if_pos rfl, if_pos rfl, if_pos rfl, rug_eq, ru_ne _ _ _ _ (by omega), ru_ne _ _ _ _ (by omega), ru_eq, ru_ne _ _ _ _ (by omega), ru_eq, ru_ne _ _ _ _ (by omega), ru_ne _ _ _ _ (by omega), ru_ne _ _ _ _ (by omega), w4 b (by omega) (by omega)]
        exact ⟨rfl, rfl, rfl, rfl⟩
      · rw [if_neg e, if_neg e, if_neg e, if_neg e, rug_ne _ _ _ _ e, ru_ne _ _ _ _ (by omega), ru_ne _ _ _ _ (by omega), ru_ne _ _ _ _ (by omega), ru_ne _ _ _ _ (by omega), ru_ne _ _ _ _ (by omega), ru_ne _ _ _ _ (by omega), ru_ne _ _ _ _ (by omega), ru_ne _ _ _ _ (by omega), ru_ne _ _ _ _ (by omega)]
        exact a6 b (by omega)
    · intro r hr
      have hr : r < k := hr
      dsimp only
      rw [am_u_ng _ _ _ _ (p + 6) (by omega), am_u_ng _ _ _ _ (p + 6) (by omega), am_u_ng _ _ _ _ (p + 6) (by omega), l3 (p + 6) (by omega) (by omega) (by omega), j3 (p + 5) (by omega) (by omega) (by omega), ru_ne _ _ _ _ (by omega), ru_ne _ _ _ _ (by omega), ru_ne _ _ _ _ (by have := hw.1.2.1.2; dsimp only at this; omega)]
      exact a7 r hr
  · rw [am_u_ng _ _ _ _ _ (by omega), am_u_ng _ _ _ _ _ (by omega), am_u_ng _ _ _ _ _ (by omega), t7, am_u_ng _ _ _ _ _ (by omega), t5]; exact f13
