/-! what a step leaves of depth, method and places -/
def am_same (d mid n : Nat) (t : am_S) : Prop := t.1 = d ∧ t.2.1 = mid ∧ n ≤ t.2.2.2.2.2.1
def am_good (d mid n : Nat) (A : am_A) : Prop := match A with
  | .inl none => True
  | .inl (some r) => r.2.2.1 = n
  | .inr (.inl (l, o)) => (∀ q ∈ l, am_same d mid n q.2) ∧ ∀ t, o = some t → am_same d mid n t
  | .inr (.inr _) => False
theorem gd_bad {d mid n : Nat} : am_good d mid n am_bad := trivial
theorem gd_go {d mid n pc : Nat} {L : am_L} {st : List Value} {h : am_H} (hn : n ≤ h.1) : am_good d mid n (am_go (d, mid, pc, L, st, h)) := by
  refine ⟨fun q hq => ?_, fun t ht => ?_⟩
  · cases hq
  · cases ht
    exact ⟨rfl, rfl, hn⟩
theorem gd_gd {d mid n pc : Nat} {b : Bool} {L : am_L} {st : List Value} {h : am_H} (hn : n ≤ h.1) : am_good d mid n (am_gd b (d, mid, pc, L, st, h)) := by
  refine ⟨fun q hq => ?_, fun t ht => ?_⟩
  · rcases List.mem_cons.mp hq with rfl | hq
    · exact ⟨rfl, rfl, hn⟩
    · cases hq
  · cases ht
theorem gd_jp {d mid pc : Nat} {L : am_L} {st : List Value} {h : am_H} {off : Int} {b : Bool} : am_good d mid h.1 (am_jp d mid pc L st h off b) := by
  refine ⟨fun q hq => ?_, fun t ht => ?_⟩
  · rcases List.mem_cons.mp hq with rfl | hq
    · exact ⟨rfl, rfl, Nat.le_refl _⟩
    · cases hq
  · cases ht
    exact ⟨rfl, rfl, Nat.le_refl _⟩
theorem gd_sw {d mid pc : Nat} {L : am_L} {st : List Value} {h : am_H} {x : Int32} {l : List (Int × Int)} {dflt : Int} : am_good d mid h.1 (am_sw d mid pc L st h x l dflt) := by
  refine ⟨fun q hq => ?_, fun t ht => ?_⟩
  · obtain ⟨z, -, rfl⟩ := List.mem_map.mp hq
    exact ⟨rfl, rfl, Nat.le_refl _⟩
  · cases ht
    exact ⟨rfl, rfl, Nat.le_refl _⟩
theorem gd_bif {d mid n : Nat} {b : Bool} {A B : am_A} (h1 : am_good d mid n A) (h2 : am_good d mid n B) : am_good d mid n (bif b then A else B) := by cases b <;> assumption
theorem gd_ld {d mid pc len : Nat} {L : am_L} {st : List Value} {h : am_H} {i ty : Nat} : am_good d mid h.1 (am_ld d mid pc len L st h i ty) := by
  unfold am_ld
  split <;> first | exact gd_bad | exact gd_go (Nat.le_refl _)
theorem gd_sto {d mid pc len : Nat} {L : am_L} {st : List Value} {h : am_H} {i ty : Nat} : am_good d mid h.1 (am_sto d mid pc len L st h i ty) := by
  unfold am_sto
  split <;> first | exact gd_bad | exact gd_gd (Nat.le_refl _)
theorem gd_b2 {d mid pc : Nat} {L : am_L} {st : List Value} {h : am_H} {f : Int32 → Int32 → Int32} : am_good d mid h.1 (am_b2 d mid pc L st h f) := by
  unfold am_b2
  split <;> first | exact gd_bad | exact gd_go (Nat.le_refl _)
theorem gd_l2 {d mid pc : Nat} {L : am_L} {st : List Value} {h : am_H} {f : Int64 → Int64 → Int64} : am_good d mid h.1 (am_l2 d mid pc L st h f) := by
  unfold am_l2
  split <;> first | exact gd_bad | exact gd_go (Nat.le_refl _)
theorem gd_get {d mid pc : Nat} {L : am_L} {r : List Value} {h : am_H} {p ci k : Nat} : am_good d mid h.1 (am_get d mid pc L r h p ci k) := by
  unfold am_get
  split <;> first | exact gd_bad | exact gd_gd (Nat.le_refl _)
theorem gd_put {d mid pc : Nat} {L : am_L} {r : List Value} {h : am_H} {p ci k : Nat} {v : Value} : am_good d mid h.1 (am_put d mid pc L r h p ci k v) := by
  unfold am_put
  split <;> first | exact gd_bad | exact gd_gd (Nat.le_refl _)
theorem gd_mk {o : Bool} {d mid pc len : Nat} {L : am_L} {r : List Value} {h : am_H} {kd ln : Nat} : am_good d mid h.1 (am_mk o d mid pc len L r h kd ln) := gd_gd (Nat.le_succ _)
theorem gd_stop {d mid : Nat} {b : Bool} {v : Option Value} {h : am_H} : am_good d mid h.1 (.inl (some (b, v, h))) := rfl
theorem gd_do {env : am_E} {d mid pc : Nat} {L : am_L} {st : List Value} {h : am_H} {raw : Instr} {len a b : Nat} (hv : ∀ i, raw ≠ .invokevirtual i) (hs : ∀ i, raw ≠ .invokespecial i) (ht : ∀ i, raw ≠ .invokestatic i) : am_good d mid h.1 (am_do env d mid pc L st h raw len a b) := by
  cases raw
  case invokevirtual i => exact absurd rfl (hv i)
  case invokespecial i => exact absurd rfl (hs i)
  case invokestatic i => exact absurd rfl (ht i)
  case ireturn =>
    dsimp only [am_do]
    split
    · rename_i v
      cases (decide ((am_mi mid).2.2.2.2.1 = some .int) || decide (v &&& 1 = v)) <;> first | exact trivial | exact gd_stop
    · exact gd_bad
  all_goals dsimp only [am_do]
  all_goals first
    | exact gd_bad
    | exact gd_ld
    | exact gd_sto
    | exact gd_b2
    | exact gd_l2
    | exact gd_go (Nat.le_refl _)
    | exact gd_gd (Nat.le_refl _)
    | exact gd_bif (gd_go (Nat.le_refl _)) gd_bad
    | exact gd_bif (gd_go (Nat.le_refl _)) (gd_go (Nat.le_refl _))
    | exact gd_bif (gd_bif gd_stop gd_bad) gd_mk
    | (split <;> first
        | exact gd_bad
        | exact gd_go (Nat.le_refl _)
        | exact gd_gd (Nat.le_refl _)
        | exact gd_get
        | exact gd_put
        | exact gd_stop
        | exact gd_bif gd_jp gd_bad
        | exact gd_bif gd_sw gd_bad
        | exact gd_bif gd_bad gd_mk
        | exact gd_bif (gd_gd (Nat.le_refl _)) (gd_gd (Nat.le_refl _)))
/-- the machine's own methods -/
theorem gd_own {d mid pc : Nat} {L : am_L} {st : List Value} {h : am_H} {a b : Nat} (ha : Nat.blt a 9000 = false) : am_good d mid h.1 (am_virt d mid pc L st h a b) ∧ am_good d mid h.1 (am_spec d mid pc L st h a b) ∧ (a ≠ 9006 → a ≠ 9007 → am_good d mid h.1 (am_stat d mid pc L st h a b)) := by
  refine ⟨?_, ?_, fun h6 h7 => ?_⟩
  · unfold am_virt
    rw [ha]
    dsimp only [cond_false]
    split
    · exact gd_bad
    · split <;> first | exact gd_bad | exact gd_gd (Nat.le_refl _)
  · unfold am_spec
    rw [ha]
    dsimp only [cond_false]
    split
    · exact gd_bad
    · split <;> first | exact gd_bad | exact gd_gd (Nat.le_refl _)
  · unfold am_stat
    rw [ha]
    dsimp only [cond_false]
    split
    · exact gd_bad
    · split <;> first | exact gd_bad | exact gd_gd (Nat.le_refl _) | exact absurd rfl h6 | exact absurd rfl h7 | exact gd_bif (gd_gd (Nat.le_refl _)) gd_bad
theorem am_sel_same {d mid n : Nat} {l : List (Bool × am_S)} {o : Option am_S} {t : am_S} (h : am_good d mid n (.inr (.inl (l, o)))) (ht : am_sel l o = some t) : am_same d mid n t := by
  have h1 : ∀ q ∈ l, am_same d mid n q.2 := h.1
  have h2 : ∀ t, o = some t → am_same d mid n t := h.2
  clear h
  induction l with
  | nil => exact h2 t ht
  | cons q l ih =>
    obtain ⟨b, s⟩ := q
    cases b with
    | true =>
      have ht : some s = some t := ht
      cases ht
      exact h1 (true, t) List.mem_cons_self
    | false => exact ih ht (fun q hq => h1 q (List.mem_cons_of_mem _ hq))
