/-! the law's own steps -/
noncomputable def am_ls (env : am_E) (s : am_S) : Option am_S := match am_act env s with
  | .inl _ => none
  | .inr (.inl (l, o)) => am_sel l o
  | .inr (.inr (b, s1, k)) => bif b then (am_ev env s1).bind k else none
noncomputable def am_lr (env : am_E) : Nat → am_S → Option am_S
  | 0, s => some s
  | n + 1, s => (am_ls env s).bind (am_lr env n)
section AML
variable {p : Program} {l : Launch} {e : Env} {R : Room} {s : State} {m : MethodId} {args : Array Value} {below : List Frame} {meth : Method} {c : Code} {Q : State → Prop} {S0 : Nat} {ad : Nat → Nat} {cy : Nat → ClassId} {D : va_G} {n0 nL cx sx : Nat} {env : am_E}
variable {d mid pc : Nat} {L : am_L} {st : List Value} {h : am_H}
theorem am_G_widen {cx' sx' : Nat} {t : am_S} (h1 : cx ≤ cx') (h2 : sx ≤ sx') (k : am_G p l e R s m args below meth c Q S0 ad cy D n0 nL cx' sx' t) : am_G p l e R s m args below meth c Q S0 ad cy D n0 nL cx sx t :=
  fun H locs ls hP hz hS hl hL hn => W.widen (Nat.add_le_add_left h1 _) (Nat.add_le_add_left h2 _) (k H locs ls hP hz hS hl hL hn)
/-- what the law's own reader and mean do; open -/
def am_TR (env : am_E) (p : Program) (l : Launch) (e : Env) (R : Room) (s : State) (m : MethodId) (args : Array Value) (below : List Frame) (meth : Method) (c : Code) (Q : State → Prop) (S0 : Nat) (ad : Nat → Nat) (cy : Nat → ClassId) (D : va_G) (n0 nL : Nat) (d mid : Nat) : Prop :=
  ∀ (pc i len a b cp q d1 o y x p1 cx sx : Nat) (L : am_L) (yy xx : Int32) (r : List Value) (h : am_H) (r1 : am_R) (t : am_S), am_cd mid pc = some (.invokestatic i, len, a, b, cp) → (a = 9006 ∧ q = 120 ∨ a = 9007 ∧ q = 143) → d = d1 + 2 → o < h.1 → (am_K o).1 = 101 → (am_K o).2 = 1 → p1 < h.1 → (am_K p1).1 = 10 → am_cats r ≤ 8 →
    am_ev env (d1, q, 0, am_loc0 [.ref p1, .int xx, .int yy] (am_mi q).2.2.2.1, [], h) = some r1 → am_tryK d mid pc L r o r1 = some t → h.1 - n0 + cx + 1 ≤ R.cells ∧ am_sz h.1 - am_sz n0 + sx + 20 ≤ R.slots →
    am_G p l e R s m args below meth c Q S0 ad cy D n0 nL (cx + 1) (sx + 20) t → am_G p l e R s m args below meth c Q S0 ad cy D n0 nL cx sx (d, mid, pc, L, .ref o :: .int yy :: .int xx :: .ref p1 :: r, h)
/-- one step of the law, but for its own reader and mean -/
theorem al_step_open (HC : ∀ a, a < 304 → am_chk a = true) (HL : am_chkT 304 0 (am_tab 304) = true)
    (HP : ∀ (p : Program) (l : Launch) (e : Env) (R : Room) (s : State) (m : MethodId) (args : Array Value) (below : List Frame) (meth : Method) (c : Code) (Q : State → Prop) (S0 : Nat) (ad : Nat → Nat) (cy : Nat → ClassId) (D : va_G) (n0 nL cx sx d mid : Nat), am_C p R s m args meth c S0 ad cy D env d mid → nL = (am_mi mid).2.2.2.1 → am_PR p l e R s m args below meth c Q S0 ad cy D n0 nL cx sx d mid)
    (C0 : am_C p R s m args meth c S0 ad cy D env d 304) (hnL : nL = (am_mi 304).2.2.2.1) (hs0 : env.1 = true → s.heap.size = S0 + n0 ∧ cx = 0) {t : am_S} (hls : am_ls env (d, 304, pc, L, st, h) = some t)
    (hnt : ∀ i len a b cp, am_cd 304 pc = some (.invokestatic i, len, a, b, cp) → a ≠ 9006 ∧ a ≠ 9007) (hrm : t.2.2.2.2.2.1 - n0 + cx ≤ R.cells ∧ am_sz t.2.2.2.2.2.1 - am_sz n0 + sx ≤ R.slots) (hb1 : t.2.2.2.2.2.1 ≤ 1000)
    (k : am_G p l e R s m args below meth c Q S0 ad cy D n0 nL cx sx t) : am_G p l e R s m args below meth c Q S0 ad cy D n0 nL cx sx (d, 304, pc, L, st, h) := by
  unfold am_ls at hls
  rcases am_act_form env d 304 pc L st h with hg | ⟨raw, len, a, b, cp, d', ok, hcd, hd, ha, hact, hkind⟩ | ⟨i, len, a, b, cp, q, hcd, hact, -, ha⟩
  · cases hA : am_act env (d, 304, pc, L, st, h) with
    | inl x => rw [hA] at hls; cases hls
    | inr x => cases x with
      | inl y =>
        obtain ⟨lst, o⟩ := y
        rw [hA] at hls
        replace hls : am_sel lst o = some t := hls
        cases hcd : am_cd 304 pc with
        | none =>
          unfold am_act at hA
          dsimp only at hA
          rw [hcd] at hA
          cases hA
        | some z =>
          obtain ⟨raw, len, a, b, cp⟩ := z
          have hA2 : am_do env d 304 pc L st h raw len a b = .inr (.inl (lst, o)) := by
            unfold am_act at hA
            dsimp only at hA
            rw [hcd] at hA
            exact hA
          obtain ⟨hdec, hlk⟩ := am_cd_use HL hcd
          exact ag_do C0 hnL hs0 (am_ST_any C0.2.2.1) (HP p l e R s m args below meth c Q S0 ad cy D n0 nL cx sx d 304 C0 hnL) hcd hdec hlk (by rw [hA2]; exact hls) hrm k
      | inr y => rw [hA] at hg; exact hg.elim
  · subst hd
    rw [hact] at hls
    unfold am_call at hls
    dsimp only at hls
    cases hgd : (Nat.ble b st.length && (ok (st.take b).reverse && Nat.ble (am_loc (st.take b).reverse).length (am_mi a).2.2.2.1) && Nat.ble (am_cats (st.drop b)) 8) with
    | false => rw [hgd] at hls; cases hls
    | true =>
      rw [hgd] at hls
      dsimp only [cond_true] at hls
      cases h1 : am_ev env (d', a, 0, am_loc0 (st.take b).reverse (am_mi a).2.2.2.1, [], h) with
      | none => rw [h1] at hls; cases hls
      | some r1 =>
        rw [h1] at hls
        obtain ⟨n, hn1⟩ := (am_ev_iff env _ _).mp h1
        have i1 := am_mono env n _ _ hn1
        obtain ⟨rb, rv, rh⟩ := r1
        cases rb with
        | false => cases hls
        | true =>
          replace hls : some ((d' + 1, 304, pc + 3, L, rv.toList ++ st.drop b, rh) : am_S) = some t := hls
          cases hls
          have i1 : h.1 ≤ rh.1 := i1
          obtain ⟨hdec, hlk⟩ := am_cd_use HL hcd
          have ha304 : a < 304 := am_call304 hlk ha hkind
          have hlen : (am_loc (st.take b).reverse).length ≤ (am_mi a).2.2.2.1 := Nat.le_of_ble_eq_true (am_and3 (am_and3 (am_and3 hgd).1).2).2
          have hM := am_met_of (HC a ha304) hlen (am_sim_open env HC HP n d' a 0 _ [] h (true, rv, rh) hn1 ha304) i1 hb1 l S0 ad cy D
          exact ag_call C0 hnL hs0 hdec hlk ha (HC a ha304) hkind hgd hM i1 hrm hb1 k
  · rcases ha with ha | ha
    · exact absurd ha (hnt i len a b cp hcd).1
    · exact absurd ha (hnt i len a b cp hcd).2
end AML
