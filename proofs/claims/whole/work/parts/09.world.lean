/-! the abstract heap and the machine's -/
def am_cl : List vw_C := [(RX0, TX0, 7), (RX1, TX1, 3), (RX2, TX2, 11), (RX3, TX3, 7), (RX4, TX4, 6), (RX5, TX5, 6), (RX6, TX6, 4), (RX7, TX7, 10), (RX8, TX8, 2), (RX9, TX9, 10), (RX11, TX11, 17), (RX12, TX12, 52)]
def am_tyf (ci : Nat) : Nat → FieldType := match ci with
  | 0 => tyX0
  | 1 => tyX1
  | 2 => tyX2
  | 3 => tyX3
  | 4 => tyX4
  | 5 => tyX5
  | 6 => tyX6
  | 7 => tyX7
  | 8 => tyX8
  | 9 => tyX9
  | 10 => tyX11
  | _ => tyX12
def am_nf (ci : Nat) : Nat := (am_ftl.getD ci []).length
def am_AA (S0 : Nat) : Nat → Prop := fun q => S0 ≤ q
def am_eo (ad : Nat → Nat) : Nat → Option Nat
  | 0 => none
  | e + 1 => some (ad (100000 + e))
def am_cv (ad : Nat → Nat) : Value → Value
  | .ref a => .ref (ad a)
  | .retAddr e => va_rf (am_eo ad e)
  | v => v
def am_fv (ad : Nat → Nat) (h : am_H) (p ci k : Nat) : Value := match am_ft ci k with
  | 0 => .int (h.2.2.1 p k)
  | 4 => .int (h.2.2.1 p k)
  | 1 => .long (h.2.2.2.1 p k)
  | 2 => bif h.2.1 p k then .ref (ad (am_SR p k)) else .null
  | 3 => va_rf (am_eo ad (h.2.2.2.2 p k))
  | _ => .null
def am_ao (ad : Nat → Nat) (cy : Nat → ClassId) (h : am_H) (p kd n : Nat) : va_E := match kd with
  | 100 => .inl (cy 0, n, .inl (h.2.2.1 p))
  | 101 => .inl (cy 1, n, .inr (.inl (h.2.2.2.1 p)))
  | 102 => .inl (cy 2, n, .inl (h.2.2.1 p))
  | 103 => .inl (cy 3, n, .inr (.inr (.inr (.inr (fun k => bif h.2.1 p k then some (ad (am_SR p k)) else none)))))
  | 104 => .inl (cy 4, n, .inr (.inr (.inr (.inr (fun k => bif h.2.1 p k then some (ad (am_SR p k)) else none)))))
  | 105 => .inl (cy 5, n, .inr (.inr (.inr (.inr (fun k => am_eo ad (h.2.2.2.2 p k))))))
  | ci => .inr (ci, (List.range (am_nf ci)).map (am_fv ad h p ci))
def am_ce (ad : Nat → Nat) (cy : Nat → ClassId) (h : am_H) (p : Nat) : va_E := am_ao ad cy h p (am_K p).1 (am_K p).2
def am_ws (S0 : Nat) (ad : Nat → Nat) (cy : Nat → ClassId) (h : am_H) : va_W := (List.range h.1).map (fun p => (S0 + p, am_ce ad cy h p))
def am_tys (cy : Nat → ClassId) : List (ClassId × FieldType) := [(cy 0, .int), (cy 1, .long), (cy 2, .boolean), (cy 3, .object RX7), (cy 4, .object RX6), (cy 5, .object RX10)]
theorem am_ws_at {S0 : Nat} {ad : Nat → Nat} {cy : Nat → ClassId} {h : am_H} {p : Nat} (hp : p < h.1) : (am_ws S0 ad cy h)[p]? = some (S0 + p, am_ce ad cy h p) := by
  unfold am_ws
  rw [List.getElem?_map, List.getElem?_range hp]
  rfl
theorem am_set_map {α : Type} {n p : Nat} {f f' : Nat → α} {v : α} (hv : f' p = v) (ho : ∀ q, q < n → q ≠ p → f' q = f q) : ((List.range n).map f).set p v = (List.range n).map f' := by
  apply List.ext_getElem?
  intro i
  rw [List.getElem?_set]
  by_cases hi : i < n
  · by_cases hip : p = i
    · subst hip
      simp [hi, hv]
    · simp [hi, hip, ho i hi (fun q => hip q.symm)]
  · have h1 : n ≤ i := Nat.le_of_not_lt hi
    by_cases hip : p = i
    · subst hip
      simp [hi]
    · simp [hi, hip]
theorem am_ws_set {S0 : Nat} {ad : Nat → Nat} {cy : Nat → ClassId} {h h' : am_H} {p : Nat} {v : va_E} (hn : h'.1 = h.1) (hv : am_ce ad cy h' p = v) (ho : ∀ q, q ≠ p → am_ce ad cy h' q = am_ce ad cy h q) : (am_ws S0 ad cy h).set p (S0 + p, v) = am_ws S0 ad cy h' := by
  unfold am_ws
  rw [hn]
  exact am_set_map (by rw [hv]) (fun q _ hq => by rw [ho q hq])
theorem am_ws_D {S0 : Nat} {ad : Nat → Nat} {cy : Nat → ClassId} {h : am_H} : va_D (am_AA S0) (am_ws S0 ad cy h) := by
  have key : ∀ (i : Nat) (q : Nat × va_E), (am_ws S0 ad cy h)[i]? = some q → q.1 = S0 + i := by
    intro i q hq
    unfold am_ws at hq
    rw [List.getElem?_map] at hq
    by_cases hi : i < h.1
    · rw [List.getElem?_range hi] at hq
      cases hq
      rfl
    · rw [List.getElem?_eq_none (by rw [List.length_range]; omega)] at hq
      cases hq
  refine ⟨fun i j x y hx hy hxy => ?_, fun k q hq => ?_⟩
  · have h1 := key i x hx
    have h2 := key j y hy
    omega
  · show S0 ≤ q.1
    rw [key k q hq]
    omega
/-- the locals -/
def am_lh (ad : Nat → Nat) (ls : Array Slot) (L : am_L) : Prop := ls.size = L.length ∧ lv_wf ls ∧ ∀ (i : Nat) (v : Value), L[i]? = some (some v) → ls[i]? = some (.val (am_cv ad v))
def am_lv (ad : Nat → Nat) (L : am_L) : List (Nat × Value) := (List.range L.length).filterMap (fun i => match L[i]? with
  | some (some v) => some (i, am_cv ad v)
  | _ => none)
theorem am_lv_mem {ad : Nat → Nat} {L : am_L} {q : Nat × Value} : q ∈ am_lv ad L ↔ ∃ v, L[q.1]? = some (some v) ∧ q.2 = am_cv ad v := by
  unfold am_lv
  rw [List.mem_filterMap]
  constructor
  · rintro ⟨i, hi, h⟩
    cases hL : L[i]? with
    | none => rw [hL] at h; cases h
    | some o => cases o with
      | none => rw [hL] at h; cases h
      | some v => rw [hL] at h; cases h; exact ⟨v, hL, rfl⟩
  · rintro ⟨v, h1, h2⟩
    have hlt : q.1 < L.length := (List.getElem?_eq_some_iff.mp h1).1
    refine ⟨q.1, List.mem_range.mpr hlt, ?_⟩
    rw [h1]
    show some (q.1, am_cv ad v) = some q
    rw [← h2]
theorem am_lh_has {ad : Nat → Nat} {ls : Array Slot} {L : am_L} (h : am_lh ad ls L) : lv_has ls L.length (am_lv ad L) := by
  refine ⟨h.1, h.2.1, fun q hq => ?_⟩
  obtain ⟨v, h1, h2⟩ := am_lv_mem.mp hq
  rw [h2]
  exact h.2.2 q.1 v h1
theorem am_beq2 (n : Nat) : (Nat.beq n 2 = true ∧ n = 2) ∨ (Nat.beq n 2 = false ∧ ¬ n = 2) := by
  cases hb : Nat.beq n 2 with
  | true => exact Or.inl ⟨rfl, Nat.eq_of_beq_eq_true hb⟩
  | false => exact Or.inr ⟨rfl, Nat.ne_of_beq_eq_false hb⟩
theorem am_kill_len (L : am_L) (i : Nat) : (am_kill L i).length = L.length := by
  unfold am_kill
  cases i with
  | zero => rfl
  | succ j => simp
theorem am_kill_at {L : am_L} {i j : Nat} {v : Value} (h : (am_kill L i)[j]? = some (some v)) : L[j]? = some (some v) ∧ ¬ (j + 1 = i ∧ v.category = 2) := by
  unfold am_kill at h
  cases i with
  | zero => exact ⟨h, fun q => by omega⟩
  | succ k =>
    dsimp only at h
    rw [List.getElem?_set] at h
    by_cases hkj : k = j
    · subst hkj
      rw [if_pos rfl] at h
      by_cases hlt : k < L.length
      · rw [if_pos hlt] at h
        have h : am_dr (L.getD k none) = some v := Option.some.inj h
        rw [List.getD_eq_getElem?_getD, List.getElem?_eq_getElem hlt] at h
        have h : am_dr L[k] = some v := h
        rw [List.getElem?_eq_getElem hlt]
        cases hL : L[k] with
        | none => rw [hL] at h; cases h
        | some w =>
          rw [hL] at h
          rcases am_beq2 w.category with ⟨e1, e2⟩ | ⟨e1, e2⟩
          · have h : (bif Nat.beq w.category 2 then none else some w) = some v := h
            rw [e1] at h
            cases h
          · have h : (bif Nat.beq w.category 2 then none else some w) = some v := h
            rw [e1] at h
            cases h
            exact ⟨rfl, fun q => e2 q.2⟩
      · rw [if_neg hlt] at h
        cases h
    · rw [if_neg hkj] at h
      exact ⟨h, fun q => hkj (by omega)⟩
theorem am_store1 {ad : Nat → Nat} {ls' : Array Slot} {L : am_L} {i : Nat} {v : Value} (hi : i < L.length)
    (h : lv_has ls' L.length ((i, am_cv ad v) :: (am_lv ad L).filter (fun q => !(q.1 == i) && !(q.1 + 1 == i && q.2.category == 2)))) (hcat : ∀ w : Value, (am_cv ad w).category = w.category) : am_lh ad ls' (am_st1 L i v) := by
  refine ⟨by rw [h.1]; simp [am_st1, am_kill_len], h.2.1, fun j w hj => ?_⟩
  unfold am_st1 at hj
  rw [List.getElem?_set] at hj
  by_cases hij : i = j
  · subst hij
    rw [if_pos rfl, if_pos (by rw [am_kill_len]; exact hi)] at hj
    cases hj
    exact h.2.2 (i, am_cv ad v) List.mem_cons_self
  · rw [if_neg hij] at hj
    obtain ⟨h1, h2⟩ := am_kill_at hj
    refine h.2.2 (j, am_cv ad w) (List.mem_cons_of_mem _ (List.mem_filter.mpr ⟨am_lv_mem.mpr ⟨w, h1, rfl⟩, ?_⟩))
    have e1 : (j == i) = false := by simp; exact fun q => hij q.symm
    show (!(j == i) && !(j + 1 == i && (am_cv ad w).category == 2)) = true
    rw [e1, hcat w]
    by_cases h3 : j + 1 = i
    · have h4 : ¬ w.category = 2 := fun q => h2 ⟨h3, q⟩
      simp [h4]
    · simp [h3]
theorem am_store2 {ad : Nat → Nat} {ls' : Array Slot} {L : am_L} {i : Nat} {v : Value} (hi : i + 1 < L.length)
    (h : lv_has ls' L.length ((i, am_cv ad v) :: (am_lv ad L).filter (fun q => !(q.1 == i) && (!(q.1 == i + 1) && !(q.1 + 1 == i && q.2.category == 2))))) (hcat : ∀ w : Value, (am_cv ad w).category = w.category) : am_lh ad ls' (am_st2 L i v) := by
  refine ⟨by rw [h.1]; simp [am_st2, am_kill_len], h.2.1, fun j w hj => ?_⟩
  unfold am_st2 at hj
  rw [List.getElem?_set] at hj
  by_cases hij1 : i + 1 = j
  · subst hij1
    rw [if_pos rfl] at hj
    split at hj <;> cases hj
  · rw [if_neg hij1, List.getElem?_set] at hj
    by_cases hij : i = j
    · subst hij
      rw [if_pos rfl, if_pos (by rw [am_kill_len]; omega)] at hj
      cases hj
      exact h.2.2 (i, am_cv ad v) List.mem_cons_self
    · rw [if_neg hij] at hj
      obtain ⟨h1, h2⟩ := am_kill_at hj
      refine h.2.2 (j, am_cv ad w) (List.mem_cons_of_mem _ (List.mem_filter.mpr ⟨am_lv_mem.mpr ⟨w, h1, rfl⟩, ?_⟩))
      have e1 : (j == i) = false := by simp; exact fun q => hij q.symm
      have e2 : (j == i + 1) = false := by simp; exact fun q => hij1 q.symm
      show (!(j == i) && (!(j == i + 1) && !(j + 1 == i && (am_cv ad w).category == 2))) = true
      rw [e1, e2, hcat w]
      by_cases h3 : j + 1 = i
      · have h4 : ¬ w.category = 2 := fun q => h2 ⟨h3, q⟩
        simp [h4]
      · simp [h3]
theorem am_cat (ad : Nat → Nat) (w : Value) : (am_cv ad w).category = w.category := by
  cases w with
  | retAddr e => cases e <;> rfl
  | _ => rfl
theorem am_loc_at (ad : Nat → Nat) : ∀ (vs : List Value) (k i : Nat) (v : Value), (am_loc vs)[i]? = some (some v) → (k + i, am_cv ad v) ∈ lv_args k (vs.map (am_cv ad)) := by
  intro vs
  induction vs with
  | nil => intro k i v h; simp [am_loc] at h
  | cons w t ih =>
    intro k i v h
    show (k + i, am_cv ad v) ∈ (k, am_cv ad w) :: lv_args (if (am_cv ad w).category = 2 then k + 2 else k + 1) (t.map (am_cv ad))
    rw [am_cat]
    unfold am_loc at h
    by_cases hc : w.category = 2
    · have e : Nat.beq w.category 2 = true := by rw [hc]; rfl
      rw [e] at h
      rw [if_pos hc]
      cases i with
      | zero => cases h; exact List.mem_cons_self
      | succ i => cases i with
        | zero => cases h
        | succ i =>
          have h : (am_loc t)[i]? = some (some v) := h
          have := ih (k + 2) i v h
          rw [show k + 2 + i = k + (i + 1 + 1) by omega] at this
          exact List.mem_cons_of_mem _ this
    · have e : Nat.beq w.category 2 = false := by
        cases hb : Nat.beq w.category 2 with
        | false => rfl
        | true => exact absurd (Nat.eq_of_beq_eq_true hb) hc
      rw [e] at h
      rw [if_neg hc]
      cases i with
      | zero => cases h; exact List.mem_cons_self
      | succ i =>
        have h : (am_loc t)[i]? = some (some v) := h
        have := ih (k + 1) i v h
        rw [show k + 1 + i = k + (i + 1) by omega] at this
        exact List.mem_cons_of_mem _ this
theorem am_loc_len (ad : Nat → Nat) : ∀ vs : List Value, (lg_sl (vs.map (am_cv ad))).length = (am_loc vs).length := by
  intro vs
  induction vs with
  | nil => rfl
  | cons w t ih =>
    have e : lg_sl ((w :: t).map (am_cv ad)) = (if (am_cv ad w).category = 2 then [Slot.val (am_cv ad w), .second] else [.val (am_cv ad w)]) ++ lg_sl (t.map (am_cv ad)) := rfl
    have e0 : am_loc (w :: t) = bif Nat.beq w.category 2 then some w :: none :: am_loc t else some w :: am_loc t := rfl
    rw [e, am_cat, List.length_append, ih, e0]
    by_cases hc : w.category = 2
    · have e : Nat.beq w.category 2 = true := by rw [hc]; rfl
      rw [if_pos hc, e]
      show 2 + (am_loc t).length = (am_loc t).length + 1 + 1
      omega
    · have e : Nat.beq w.category 2 = false := by
        cases hb : Nat.beq w.category 2 with
        | false => rfl
        | true => exact absurd (Nat.eq_of_beq_eq_true hb) hc
      rw [if_neg hc, e]
      show 1 + (am_loc t).length = (am_loc t).length + 1
      omega
theorem am_entry (ad : Nat → Nat) {vs : List Value} {n : Nat} (h : (am_loc vs).length ≤ n) : am_lh ad ((lg_sl (vs.map (am_cv ad)) ++ List.replicate (n - (lg_sl (vs.map (am_cv ad))).length) Slot.unset).toArray) (am_loc0 vs n) := by
  have hl := lv_entry (vs.map (am_cv ad)) (n := n) (by rw [am_loc_len]; exact h)
  have hlen : (am_loc0 vs n).length = n := by
    unfold am_loc0
    rw [List.length_append, List.length_replicate]
    omega
  refine ⟨by rw [hlen]; exact hl.1, hl.2.1, fun i v hi => ?_⟩
  unfold am_loc0 at hi
  by_cases hlt : i < (am_loc vs).length
  · rw [List.getElem?_append_left hlt] at hi
    have := am_loc_at ad vs 0 i v hi
    rw [Nat.zero_add] at this
    exact hl.2.2 _ this
  · rw [List.getElem?_append_right (Nat.le_of_not_lt hlt), List.getElem?_replicate] at hi
    split at hi <;> cases hi
