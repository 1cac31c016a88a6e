/-! the law's whole run, out of the abstract machine's -/
def am_h0 : am_H := (0, fun _ _ => false, fun _ _ => 0, fun _ _ => 0, fun _ _ => 0)
noncomputable def am_lo (env : am_E) : Nat → am_S → Option am_S
  | 0, s => some s
  | n + 1, s => bif Nat.blt s.2.2.1 23 then (am_ls env s).bind (am_lo env n) else none
set_option maxRecDepth 100000 in
theorem am_notry : ((List.range 23).all fun pc => match am_cd 304 pc with
  | some (.invokestatic _, _, _, _, _) => false
  | _ => true) = true := by decide +kernel
theorem am_ls_same {env : am_E} {d mid pc : Nat} {L : am_L} {st : List Value} {h : am_H} {t : am_S} (hls : am_ls env (d, mid, pc, L, st, h) = some t) : am_same d mid h.1 t := by
  unfold am_ls at hls
  rcases am_act_form env d mid pc L st h with hg | ⟨raw, len, a, b, cp, d', ok, hcd, hd, ha, hact, hkind⟩ | ⟨i, len, a, b, cp, q, hcd, hact, -, ha⟩
  · cases hA : am_act env (d, mid, pc, L, st, h) with
    | inl x => rw [hA] at hls; cases hls
    | inr x => cases x with
      | inl y =>
        obtain ⟨lst, o⟩ := y
        rw [hA] at hls hg
        exact am_sel_same hg hls
      | inr y => rw [hA] at hg; exact hg.elim
  · subst hd
    rw [hact] at hls
    unfold am_call at hls
    dsimp only at hls
    cases hgd : (Nat.ble b st.length && (ok (st.take b).reverse && Nat.ble (am_loc (st.take b).reverse).length (am_mi a).2.2.2.1) && Nat.ble (am_cats (st.drop b)) 8) with
    | false => rw [hgd] at hls; cases hls
    | true =>
      rw [hgd] at hls
      dsimp only [cond_true] at hls
      cases h1 : am_ev env (d', a, 0, am_loc0 (st.take b).reverse (am_mi a).2.2.2.1, [], h) with
      | none => rw [h1] at hls; cases hls
      | some r1 =>
        rw [h1] at hls
        obtain ⟨n, hn1⟩ := (am_ev_iff env _ _).mp h1
        have i1 := am_mono env n _ _ hn1
        obtain ⟨rb, rv, rh⟩ := r1
        cases rb with
        | false => cases hls
        | true =>
          replace hls : some ((d' + 1, mid, pc + 3, L, rv.toList ++ st.drop b, rh) : am_S) = some t := hls
          cases hls
          exact ⟨rfl, rfl, i1⟩
  · rw [hact] at hls
    rcases am_try_form d mid pc L st h q with e | ⟨d1, o1, y1, x1, p1, r0, hd, -, e⟩
    · rw [e] at hls; cases hls
    · rw [e] at hls
      dsimp only at hls
      cases hgd : (decide (p1 < h.1) && Nat.beq (am_K p1).1 10 && decide (o1 < h.1) && Nat.beq (am_K o1).1 101 && Nat.beq (am_K o1).2 1 && Nat.ble (am_cats r0) 8) with
      | false => rw [hgd] at hls; cases hls
      | true =>
        rw [hgd] at hls
        dsimp only [cond_true] at hls
        cases h1 : am_ev env (d1, q, 0, am_loc0 [.ref p1, .int x1, .int y1] (am_mi q).2.2.2.1, [], h) with
        | none => rw [h1] at hls; cases hls
        | some r1 =>
          rw [h1] at hls
          replace hls : am_tryK d mid pc L r0 o1 r1 = some t := hls
          obtain ⟨n, hn1⟩ := (am_ev_iff env _ _).mp h1
          have i1 : h.1 ≤ r1.2.2.1 := am_mono env n _ _ hn1
          have i2 := am_tryK_use hls
          refine ⟨?_, ?_, by rw [i2]; exact i1⟩
          · unfold am_tryK at hls
            split at hls <;> first | (cases hls; rfl) | cases hls
          · unfold am_tryK at hls
            split at hls <;> first | (cases hls; rfl) | cases hls
section AML2
variable {p : Program} {l : Launch} {e : Env} {R : Room} {s : State} {m : MethodId} {args : Array Value} {below : List Frame} {meth : Method} {c : Code} {Q : State → Prop} {S0 : Nat} {ad : Nat → Nat} {cy : Nat → ClassId} {D : va_G} {n0 nL cx sx : Nat} {env : am_E}
theorem al_pre_open (HC : ∀ a, a < 304 → am_chk a = true) (HL : am_chkT 304 0 (am_tab 304) = true)
    (HP : ∀ (p : Program) (l : Launch) (e : Env) (R : Room) (s : State) (m : MethodId) (args : Array Value) (below : List Frame) (meth : Method) (c : Code) (Q : State → Prop) (S0 : Nat) (ad : Nat → Nat) (cy : Nat → ClassId) (D : va_G) (n0 nL cx sx d mid : Nat), am_C p R s m args meth c S0 ad cy D env d mid → nL = (am_mi mid).2.2.2.1 → am_PR p l e R s m args below meth c Q S0 ad cy D n0 nL cx sx d mid)
    {d : Nat} (C0 : am_C p R s m args meth c S0 ad cy D env d 304) (hnL : nL = (am_mi 304).2.2.2.1) (hs0 : env.1 = true → s.heap.size = S0 + n0 ∧ cx = 0) {t : am_S} (hrm : t.2.2.2.2.2.1 - n0 + cx ≤ R.cells ∧ am_sz t.2.2.2.2.2.1 - am_sz n0 + sx ≤ R.slots) (hb1 : t.2.2.2.2.2.1 ≤ 1000)
    (k : am_G p l e R s m args below meth c Q S0 ad cy D n0 nL cx sx t) : ∀ (n pc : Nat) (L : am_L) (st : List Value) (h : am_H), am_lo env n (d, 304, pc, L, st, h) = some t → h.1 ≤ t.2.2.2.2.2.1 ∧ am_G p l e R s m args below meth c Q S0 ad cy D n0 nL cx sx (d, 304, pc, L, st, h) := by
  intro n
  induction n with
  | zero =>
    intro pc L st h hr
    cases hr
    exact ⟨Nat.le_refl _, k⟩
  | succ n ih =>
    intro pc L st h hr
    replace hr : (bif Nat.blt pc 23 then (am_ls env (d, 304, pc, L, st, h)).bind (am_lo env n) else none) = some t := hr
    cases hpc : Nat.blt pc 23 with
    | false => rw [hpc] at hr; cases hr
    | true =>
      rw [hpc] at hr
      have hpc := am_blt hpc
      replace hr : (am_ls env (d, 304, pc, L, st, h)).bind (am_lo env n) = some t := hr
      cases hls : am_ls env (d, 304, pc, L, st, h) with
      | none => rw [hls] at hr; cases hr
      | some u =>
        rw [hls] at hr
        obtain ⟨e1, e2, e3⟩ := am_ls_same hls
        obtain ⟨ud, um, upc, uL, ust, uh⟩ := u
        replace e1 : ud = d := e1
        replace e2 : um = 304 := e2
        subst e1
        subst e2
        obtain ⟨i1, i2⟩ := ih upc uL ust uh hr
        replace e3 : h.1 ≤ uh.1 := e3
        have hmz := am_sz_mono i1
        refine ⟨Nat.le_trans e3 i1, al_step_open HC HL HP C0 hnL hs0 hls (fun i len a b cp hcd => ?_) ⟨by show uh.1 - n0 + cx ≤ R.cells; have := hrm.1; omega, by show am_sz uh.1 - am_sz n0 + sx ≤ R.slots; have := hrm.2; omega⟩ (Nat.le_trans i1 hb1) i2⟩
        have hq := st_range am_notry hpc
        rw [hcd] at hq
        cases hq
theorem al_run_open (HC : ∀ a, a < 304 → am_chk a = true) (HL : am_chkT 304 0 (am_tab 304) = true)
    (HP : ∀ (p : Program) (l : Launch) (e : Env) (R : Room) (s : State) (m : MethodId) (args : Array Value) (below : List Frame) (meth : Method) (c : Code) (Q : State → Prop) (S0 : Nat) (ad : Nat → Nat) (cy : Nat → ClassId) (D : va_G) (n0 nL cx sx d mid : Nat), am_C p R s m args meth c S0 ad cy D env d mid → nL = (am_mi mid).2.2.2.1 → am_PR p l e R s m args below meth c Q S0 ad cy D n0 nL cx sx d mid)
    (HT : ∀ d, am_C p R s m args meth c S0 ad cy D env d 304 → am_TR env p l e R s m args below meth c Q S0 ad cy D n0 nL d 304) (ho : env.1 = false)
    {d : Nat} (C0 : am_C p R s m args meth c S0 ad cy D env d 304) (hnL : nL = (am_mi 304).2.2.2.1) {t : am_S} (hb1 : t.2.2.2.2.2.1 ≤ 1000) {nn : Nat} (hrm : t.2.2.2.2.2.1 - n0 + (cx + nn + 1) ≤ R.cells ∧ am_sz t.2.2.2.2.2.1 - am_sz n0 + (sx + 20 * (nn + 1)) ≤ R.slots) :
    ∀ (n cx' sx' pc : Nat) (L : am_L) (st : List Value) (h : am_H), am_lr env n (d, 304, pc, L, st, h) = some t → cx' + n ≤ cx + nn → sx' + 20 * n ≤ sx + 20 * nn → am_G p l e R s m args below meth c Q S0 ad cy D n0 nL (cx' + n) (sx' + 20 * n) t → h.1 ≤ t.2.2.2.2.2.1 ∧ am_G p l e R s m args below meth c Q S0 ad cy D n0 nL cx' sx' (d, 304, pc, L, st, h) := by
  intro n
  induction n with
  | zero =>
    intro cx' sx' pc L st h hr hc hs k
    cases hr
    exact ⟨Nat.le_refl _, k⟩
  | succ n ih =>
    intro cx' sx' pc L st h hr hc hs k
    replace hr : (am_ls env (d, 304, pc, L, st, h)).bind (am_lr env n) = some t := hr
    cases hls : am_ls env (d, 304, pc, L, st, h) with
    | none => rw [hls] at hr; cases hr
    | some u =>
      rw [hls] at hr
      have hls0 := hls
      obtain ⟨e1, e2, e3⟩ := am_ls_same hls
      obtain ⟨ud, um, upc, uL, ust, uh⟩ := u
      replace e1 : ud = d := e1
      replace e2 : um = 304 := e2
      subst e1
      subst e2
      replace hr : am_lr env n (ud, 304, upc, uL, ust, uh) = some t := hr
      obtain ⟨i1, i2⟩ := ih (cx' + 1) (sx' + 20) upc uL ust uh hr (by omega) (by omega) (by
        rw [show cx' + 1 + n = cx' + (n + 1) by omega, show sx' + 20 + 20 * n = sx' + 20 * (n + 1) by omega]
        exact k)
      replace e3 : h.1 ≤ uh.1 := e3
      have hmz := am_sz_mono i1
      have hmz2 := am_sz_mono e3
      have r1 := hrm.1
      have r2 := hrm.2
      refine ⟨Nat.le_trans e3 i1, ?_⟩
      by_cases htry : ∃ i len a b cp, am_cd 304 pc = some (.invokestatic i, len, a, b, cp) ∧ (a = 9006 ∨ a = 9007)
      · obtain ⟨i, len, a, b, cp, hcd, ha⟩ := htry
        have hact : am_act env (ud, 304, pc, L, st, h) = am_stat ud 304 pc L st h a b := by
          unfold am_act
          dsimp only
          rw [hcd]
          rfl
        have hq : ∃ q, (a = 9006 ∧ q = 120 ∨ a = 9007 ∧ q = 143) ∧ (am_stat ud 304 pc L st h a b = am_try ud 304 pc L st h q ∨ am_stat ud 304 pc L st h a b = am_bad) := by
          rcases ha with rfl | rfl
          · refine ⟨120, Or.inl ⟨rfl, rfl⟩, ?_⟩
            cases ud with
            | zero => exact Or.inr rfl
            | succ d' => exact Or.inl rfl
          · refine ⟨143, Or.inr ⟨rfl, rfl⟩, ?_⟩
            cases ud with
            | zero => exact Or.inr rfl
            | succ d' => exact Or.inl rfl
        obtain ⟨q, hq1, hq2⟩ := hq
        unfold am_ls at hls
        rw [hact] at hls
        rcases hq2 with hq2 | hq2
        · rw [hq2] at hls
          rcases am_try_form ud 304 pc L st h q with e | ⟨d1, o1, y1, x1, p1, r0, hd, hst, e⟩
          · rw [e] at hls; cases hls
          · rw [e] at hls
            dsimp only at hls
            cases hgd : (decide (p1 < h.1) && Nat.beq (am_K p1).1 10 && decide (o1 < h.1) && Nat.beq (am_K o1).1 101 && Nat.beq (am_K o1).2 1 && Nat.ble (am_cats r0) 8) with
            | false => rw [hgd] at hls; cases hls
            | true =>
              rw [hgd] at hls
              dsimp only [cond_true] at hls
              cases h1 : am_ev env (d1, q, 0, am_loc0 [.ref p1, .int x1, .int y1] (am_mi q).2.2.2.1, [], h) with
              | none => rw [h1] at hls; cases hls
              | some rr =>
                rw [h1] at hls
                replace hls : am_tryK ud 304 pc L r0 o1 rr = some (ud, 304, upc, uL, ust, uh) := hls
                obtain ⟨hgd, g6⟩ := am_and3 hgd
                obtain ⟨hgd, g5⟩ := am_and3 hgd
                obtain ⟨hgd, g4⟩ := am_and3 hgd
                obtain ⟨hgd, g3⟩ := am_and3 hgd
                obtain ⟨g1, g2⟩ := am_and3 hgd
                have hu : uh.1 = rr.2.2.1 := am_tryK_use hls
                subst hst
                exact HT ud C0 pc i len a b cp q d1 o1 0 0 p1 cx' sx' L y1 x1 r0 h rr _ hcd hq1 hd (of_decide_eq_true g3) (Nat.eq_of_beq_eq_true g4) (Nat.eq_of_beq_eq_true g5) (of_decide_eq_true g1) (Nat.eq_of_beq_eq_true g2) (Nat.le_of_ble_eq_true g6) h1 hls ⟨by omega, by omega⟩ i2
        · rw [hq2] at hls; cases hls
      · refine al_step_open HC HL HP C0 hnL (fun q => by rw [ho] at q; cases q) hls0 (fun i len a b cp hcd => ⟨fun z => htry ⟨i, len, a, b, cp, hcd, Or.inl z⟩, fun z => htry ⟨i, len, a, b, cp, hcd, Or.inr z⟩⟩) ⟨?_, ?_⟩ (Nat.le_trans i1 hb1) (am_G_widen (Nat.le_add_right _ _) (Nat.le_add_right _ _) i2)
        · show uh.1 - n0 + cx' ≤ R.cells
          omega
        · show am_sz uh.1 - am_sz n0 + sx' ≤ R.slots
          omega
end AML2
