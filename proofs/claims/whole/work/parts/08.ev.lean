/-! the abstract machine's runs: monotone, their limit, its equation -/
theorem am_br_mono {f g : am_S → Option am_R} (hfg : ∀ s r, f s = some r → g s = some r) (l : List (Bool × am_S)) (o : Option am_S) (r : am_R) (h : am_br f l o = some r) : am_br g l o = some r := by
  induction l with
  | nil => cases o with
    | none => exact h
    | some s => exact hfg s r h
  | cons q t ih =>
    obtain ⟨b, s⟩ := q
    cases b with
    | true => exact hfg s r h
    | false => exact ih h
theorem am_F_mono (env : am_E) {f g : am_S → Option am_R} (hfg : ∀ s r, f s = some r → g s = some r) (s : am_S) (r : am_R) (h : am_F env f s = some r) : am_F env g s = some r := by
  unfold am_F at h ⊢
  cases ha : am_act env s with
  | inl x => rw [ha] at h; exact h
  | inr x => cases x with
    | inl y => rw [ha] at h; exact am_br_mono hfg y.1 y.2 r h
    | inr y =>
      obtain ⟨b, s1, k⟩ := y
      rw [ha] at h
      cases b with
      | false => exact h
      | true =>
        have h : (f s1).bind (fun r => (k r).bind f) = some r := h
        show (g s1).bind (fun r => (k r).bind g) = some r
        cases h1 : f s1 with
        | none => rw [h1] at h; cases h
        | some r1 =>
          rw [h1] at h
          rw [hfg s1 r1 h1]
          have h : (k r1).bind f = some r := h
          show (k r1).bind g = some r
          cases h2 : k r1 with
          | none => rw [h2] at h; cases h
          | some s2 => rw [h2] at h; exact hfg s2 r h
theorem am_ex_succ (env : am_E) : ∀ (n : Nat) (s : am_S) (r : am_R), am_ex env n s = some r → am_ex env (n + 1) s = some r := by
  intro n
  induction n with
  | zero => intro s r h; cases h
  | succ n ih => intro s r h; exact am_F_mono env ih s r h
theorem am_ex_le (env : am_E) {n m : Nat} (hnm : n ≤ m) {s : am_S} {r : am_R} (h : am_ex env n s = some r) : am_ex env m s = some r := by
  induction hnm with
  | refl => exact h
  | step _ ih => exact am_ex_succ env _ s r ih
noncomputable def am_ev (env : am_E) (s : am_S) : Option am_R := @dite _ (∃ r, ∃ n, am_ex env n s = some r) (Classical.propDecidable _) (fun h => some h.choose) (fun _ => none)
theorem am_ev_iff (env : am_E) (s : am_S) (r : am_R) : am_ev env s = some r ↔ ∃ n, am_ex env n s = some r := by
  unfold am_ev
  constructor
  · intro h
    by_cases hc : ∃ r, ∃ n, am_ex env n s = some r
    · rw [dif_pos hc] at h
      cases h
      exact hc.choose_spec
    · rw [dif_neg hc] at h
      cases h
  · rintro ⟨n, hn⟩
    have hc : ∃ r, ∃ n, am_ex env n s = some r := ⟨r, n, hn⟩
    rw [dif_pos hc]
    obtain ⟨m, hm⟩ := hc.choose_spec
    have h1 := am_ex_le env (Nat.le_max_left n m) hn
    have h2 := am_ex_le env (Nat.le_max_right n m) hm
    rw [h1] at h2
    exact h2.symm
theorem am_br_cont (env : am_E) (l : List (Bool × am_S)) (o : Option am_S) (r : am_R) (h : am_br (am_ev env) l o = some r) : ∃ n, am_br (am_ex env n) l o = some r := by
  induction l with
  | nil => cases o with
    | none => cases h
    | some s => exact (am_ev_iff env s r).mp h
  | cons q t ih =>
    obtain ⟨b, s⟩ := q
    cases b with
    | true => exact (am_ev_iff env s r).mp h
    | false => exact ih h
theorem am_fix (env : am_E) (s : am_S) : am_ev env s = am_F env (am_ev env) s := by
  apply Option.ext
  intro r
  constructor
  · intro h
    obtain ⟨n, hn⟩ := (am_ev_iff env s r).mp h
    cases n with
    | zero => cases hn
    | succ n => exact am_F_mono env (fun s r h => (am_ev_iff env s r).mpr ⟨n, h⟩) s r hn
  · intro h
    have key : ∃ n, am_F env (am_ex env n) s = some r := by
      unfold am_F at h ⊢
      cases ha : am_act env s with
      | inl x => rw [ha] at h; exact ⟨0, h⟩
      | inr x => cases x with
        | inl y => rw [ha] at h; exact am_br_cont env y.1 y.2 r h
        | inr y =>
          obtain ⟨b, s1, k⟩ := y
          rw [ha] at h
          cases b with
          | false => cases h
          | true =>
            have h : (am_ev env s1).bind (fun r => (k r).bind (am_ev env)) = some r := h
            cases h1 : am_ev env s1 with
            | none => rw [h1] at h; cases h
            | some r1 =>
              rw [h1] at h
              have h : (k r1).bind (am_ev env) = some r := h
              cases h2 : k r1 with
              | none => rw [h2] at h; cases h
              | some s2 =>
                rw [h2] at h
                have h : am_ev env s2 = some r := h
                obtain ⟨n1, e1⟩ := (am_ev_iff env s1 r1).mp h1
                obtain ⟨n2, e2⟩ := (am_ev_iff env s2 r).mp h
                refine ⟨max n1 n2, ?_⟩
                show ((am_ex env (max n1 n2) s1).bind (fun r => (k r).bind (am_ex env (max n1 n2)))) = some r
                rw [am_ex_le env (Nat.le_max_left n1 n2) e1]
                show (k r1).bind (am_ex env (max n1 n2)) = some r
                rw [h2]
                exact am_ex_le env (Nat.le_max_right n1 n2) e2
    obtain ⟨n, hn⟩ := key
    exact (am_ev_iff env s r).mpr ⟨n + 1, hn⟩
/-- one step: branches go on by one, calls by the other -/
def am_F2 (env : am_E) (ev bl : am_S → Option am_R) (s : am_S) : Option am_R := match am_act env s with
  | .inl r => r
  | .inr (.inl (l, o)) => am_br bl l o
  | .inr (.inr (b, s1, k)) => bif b then (ev s1).bind (fun r => (k r).bind ev) else none
/-- steps up to the stops: the run, told with what is left -/
def am_blk (env : am_E) (stop : Nat → Nat → Bool) (ev : am_S → Option am_R) : Nat → am_S → Option am_R
  | 0, s => ev s
  | n + 1, s => bif stop s.2.1 s.2.2.1 then ev s else am_F2 env ev (am_blk env stop ev n) s
theorem am_F2_eq (env : am_E) (ev : am_S → Option am_R) (s : am_S) : am_F2 env ev ev s = am_F env ev s := rfl
theorem am_blk_eq (env : am_E) (stop : Nat → Nat → Bool) : ∀ (n : Nat) (s : am_S), am_blk env stop (am_ev env) n s = am_ev env s := by
  intro n
  induction n with
  | zero => intro s; rfl
  | succ n ih =>
    intro s
    show (bif stop s.2.1 s.2.2.1 then am_ev env s else am_F2 env (am_ev env) (am_blk env stop (am_ev env) n) s) = am_ev env s
    cases stop s.2.1 s.2.2.1 with
    | true => rfl
    | false =>
      show am_F2 env (am_ev env) (am_blk env stop (am_ev env) n) s = am_ev env s
      rw [am_fix env s, show am_blk env stop (am_ev env) n = am_ev env from funext ih]
      rfl
theorem am_go1 (env : am_E) (stop : Nat → Nat → Bool) (n : Nat) (s : am_S) : am_ev env s = am_F2 env (am_ev env) (am_blk env stop (am_ev env) n) s := by
  rw [am_fix env s, show am_blk env stop (am_ev env) n = am_ev env from funext (am_blk_eq env stop n)]
  rfl
/-- a call, and what goes on behind it -/
noncomputable def am_cont (env : am_E) (s1 : am_S) (d mid pc : Nat) (L : am_L) (rest : List Value) : Option am_R := (am_ev env s1).bind (fun r => (match r with
  | (true, v, h') => some ((d, mid, pc, L, v.toList ++ rest, h') : am_S)
  | (false, _, _) => none).bind (am_ev env))
theorem am_cont_some {env : am_E} {s1 : am_S} {v : Option Value} {h' : am_H} (h : am_ev env s1 = some (true, v, h')) (d mid pc : Nat) (L : am_L) (rest : List Value) : am_cont env s1 d mid pc L rest = am_ev env (d, mid, pc, L, v.toList ++ rest, h') := by
  unfold am_cont
  rw [h]
  rfl
