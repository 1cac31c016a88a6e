/-! the main induction: what the abstract machine does, the machine does -/
/-- a run from one state, told of the machine -/
def am_Sm (env : am_E) (d mid pc : Nat) (L : am_L) (st : List Value) (h : am_H) (r : am_R) : Prop :=
  ∀ (p : Program) (l : Launch) (e : Env) (R : Room) (s : State) (m : MethodId) (args : Array Value) (below : List Frame) (meth : Method) (c : Code) (Q : State → Prop) (S0 : Nat) (ad : Nat → Nat) (cy : Nat → ClassId) (D : va_G) (n0 nL cx sx : Nat),
    am_C p R s m args meth c S0 ad cy D env d mid → nL = (am_mi mid).2.2.2.1 → (env.1 = true → s.heap.size = S0 + n0 ∧ cx = 0) → (r.2.2.1 - n0 + cx ≤ R.cells ∧ am_sz r.2.2.1 - am_sz n0 + sx ≤ R.slots) → r.2.2.1 ≤ 1000 →
    (∀ (pc' : Nat) (L' : am_L) (st' : List Value) (h' : am_H), am_act env (d, mid, pc', L', st', h') = .inl (some r) → am_G p l e R s m args below meth c Q S0 ad cy D n0 nL cx sx (d, mid, pc', L', st', h')) →
    am_G p l e R s m args below meth c Q S0 ad cy D n0 nL cx sx (d, mid, pc, L, st, h)
/-- a run of a method gives its contract -/
theorem am_met_of {env : am_E} {d a : Nat} {vs : List Value} {h h1 : am_H} {v : Option Value} (hck : am_chk a = true) (hlen : (am_loc vs).length ≤ (am_mi a).2.2.2.1) (hS : am_Sm env d a 0 (am_loc0 vs (am_mi a).2.2.2.1) [] h (true, v, h1)) (hle : h.1 ≤ h1.1) (hb1 : h1.1 ≤ 1000)
    (l : Launch) (S0 : Nat) (ad : Nat → Nat) (cy : Nat → ClassId) (D : va_G) : am_Met l S0 ad cy D env d a vs h v h1 := by
  obtain ⟨hcode, hini, h40, hpl, hmh, hownc, hkd⟩ := am_mok_use hck
  unfold am_Met
  refine Met.ofW (cc := (am_mi a).2.2.1) (maxL := (am_mi a).2.2.2.1) (ret := (am_mi a).2.2.2.2.1) hpl rfl ?_
  intro p e s m args below meth c s₁ B hml hv
  obtain ⟨rfl, hST, hP, hsz⟩ := hv
  have hts := atoms_spec (ws := am_wsm a) B.pre
  have hown : s.vm.findClass (am_mi a).1 = some m.cls := by rw [hownc]; exact findClass_of_methodNamed B.named
  have hlocks := B.notSynchronized
  have hmn : meth.name = (am_mi a).2.1.name := (name_of_methodNamed B.named B.method).1
  have C0 : am_C p (headSpec (am_wsm a) (am_rm d (h1.1 - h.1) (am_sz h1.1 - am_sz h.1))).room s m ((vs.map (am_cv ad)).toArray) meth c S0 ad cy D env d a := ⟨⟨B.exec, B.bytes, hml, hown⟩, fun w hw => hts w (List.mem_cons_of_mem _ hw), hST, ⟨Nat.le_refl _, Nat.le_refl _⟩, fun q => hmn.trans q⟩
  have hG := hS p l e (headSpec (am_wsm a) (am_rm d (h1.1 - h.1) (am_sz h1.1 - am_sz h.1))).room s m ((vs.map (am_cv ad)).toArray) below meth c (MQ below (am_Qcc S0 ad cy D v h1) ((vs.map (am_cv ad)).toArray) s (h1.1 - h.1) (am_sz h1.1 - am_sz h.1) (am_AA S0)) S0 ad cy D h.1 (am_mi a).2.2.2.1 0 0 C0 rfl (fun ho => ⟨hsz ho, rfl⟩) ⟨Nat.le_refl _, Nat.le_refl _⟩ hb1
    (fun pc' L' st' h' hact => am_end B.exec B.bytes B.returns hlocks (am_and3 hck).1 hact rfl)
  rw [lg_entry_eq]
  have hll : (am_loc0 vs (am_mi a).2.2.2.1).length = (am_mi a).2.2.2.1 := by
    unfold am_loc0
    rw [List.length_append, List.length_replicate]
    omega
  have := hG s.heap [] _ hP (Nat.le_trans hle hb1) va_S.rf (am_entry ad hlen) hll (Nat.le_refl _)
  dsimp only at this
  rw [Nat.sub_self, Nat.sub_self] at this
  exact this
theorem am_call304 {mid : Nat} {raw : Instr} {a b cp : Nat} {h : am_H} {ok : List Value → Bool} (hlk : am_lnk mid raw a b cp = true) (ha : Nat.blt a 9000 = true) (hkind : (∃ i, raw = .invokevirtual i ∧ ok = am_okV h (am_mi a).2.2.2.2.2) ∨ (∃ i, raw = .invokespecial i ∧ ok = am_okI) ∨ (∃ i, raw = .invokestatic i ∧ ok = fun _ => true)) : a < 304 := by
  have q2 := am_blt ha
  rcases hkind with ⟨i, rfl, -⟩ | ⟨i, rfl, -⟩ | ⟨i, rfl, -⟩
  · have hlk : ((Nat.blt a 9000 && Nat.blt a 304 && Nat.beq (am_mp a).2.2.2.2 0 && am_wd cp (.methodLink (am_mi mid).1 i (am_mi a).2.1) && Nat.blt 0 b && am_nar (am_mi a).2.1 (b - 1)) || Nat.ble 9000 a) = true := hlk
    rcases am_or hlk with q | q
    · exact am_blt (am_and3 (am_and3 (am_and3 (am_and3 (am_and3 q).1).1).1).1).2
    · have q1 := Nat.le_of_ble_eq_true q
      omega
  · have hlk : ((Nat.blt a 9000 && Nat.blt a 304 && Nat.beq (am_mp a).2.2.2.2 2 && am_mlk (am_mi mid).1 i (am_mi a).2.1 cp && Nat.blt 0 b && am_nar (am_mi a).2.1 (b - 1)) || (Nat.beq a 9005 && am_wd cp (.methodLink (am_mi mid).1 i objectInit)) || Nat.beq a 9997) = true := hlk
    rcases am_or hlk with q | q
    · rcases am_or q with q | q
      · exact am_blt (am_and3 (am_and3 (am_and3 (am_and3 (am_and3 q).1).1).1).1).2
      · have := Nat.eq_of_beq_eq_true (am_and3 q).1; omega
    · have := Nat.eq_of_beq_eq_true q; omega
  · have hlk : ((Nat.blt a 9000 && Nat.blt a 304 && Nat.beq (am_mp a).2.2.2.2 1 && am_mlk (am_mi mid).1 i (am_mi a).2.1 cp && am_nar (am_mi a).2.1 b) || ((Nat.beq a 9000 || Nat.beq a 9010) && am_wd cp (.methodLink (am_mi mid).1 i arraycopyName)) || (Nat.beq a 9008 && am_wd cp (.methodLink (am_mi mid).1 i Lib.Math.min.name)) || (Nat.beq a 9009 && am_wd cp (.methodLink (am_mi mid).1 i Lib.Math.max.name)) || (Nat.beq a 9004 && am_wd cp (.methodLink (am_mi mid).1 i yX10_of)) || (Nat.beq a 9006 && Nat.beq mid 304 && am_wd cp (.methodLink (am_mi mid).1 i yL_reader)) || (Nat.beq a 9007 && Nat.beq mid 304 && am_wd cp (.methodLink (am_mi mid).1 i yL_mean))) = true := hlk
    rcases am_or hlk with q | q
    · rcases am_or q with q | q
      · rcases am_or q with q | q
        · rcases am_or q with q | q
          · rcases am_or q with q | q
            · rcases am_or q with q | q
              · exact am_blt (am_and3 (am_and3 (am_and3 (am_and3 q).1).1).1).2
              · rcases am_or (am_and3 q).1 with z | z
                · have := Nat.eq_of_beq_eq_true z; omega
                · have := Nat.eq_of_beq_eq_true z; omega
            · have := Nat.eq_of_beq_eq_true (am_and3 q).1; omega
          · have := Nat.eq_of_beq_eq_true (am_and3 q).1; omega
        · have := Nat.eq_of_beq_eq_true (am_and3 q).1; omega
      · have := Nat.eq_of_beq_eq_true (am_and3 (am_and3 q).1).1; omega
    · have := Nat.eq_of_beq_eq_true (am_and3 (am_and3 q).1).1; omega
theorem am_try304 {mid i a b cp : Nat} (hlk : am_lnk mid (.invokestatic i) a b cp = true) (ha : a = 9006 ∨ a = 9007) (hmid : mid < 304) : False := by
  have hlk : ((Nat.blt a 9000 && Nat.blt a 304 && Nat.beq (am_mp a).2.2.2.2 1 && am_mlk (am_mi mid).1 i (am_mi a).2.1 cp && am_nar (am_mi a).2.1 b) || ((Nat.beq a 9000 || Nat.beq a 9010) && am_wd cp (.methodLink (am_mi mid).1 i arraycopyName)) || (Nat.beq a 9008 && am_wd cp (.methodLink (am_mi mid).1 i Lib.Math.min.name)) || (Nat.beq a 9009 && am_wd cp (.methodLink (am_mi mid).1 i Lib.Math.max.name)) || (Nat.beq a 9004 && am_wd cp (.methodLink (am_mi mid).1 i yX10_of)) || (Nat.beq a 9006 && Nat.beq mid 304 && am_wd cp (.methodLink (am_mi mid).1 i yL_reader)) || (Nat.beq a 9007 && Nat.beq mid 304 && am_wd cp (.methodLink (am_mi mid).1 i yL_mean))) = true := hlk
  rcases am_or hlk with q | q
  · rcases am_or q with q | q
    · rcases am_or q with q | q
      · rcases am_or q with q | q
        · rcases am_or q with q | q
          · rcases am_or q with q | q
            · have := am_blt (am_and3 (am_and3 (am_and3 (am_and3 q).1).1).1).2; omega
            · rcases am_or (am_and3 q).1 with z | z
              · have := Nat.eq_of_beq_eq_true z; omega
              · have := Nat.eq_of_beq_eq_true z; omega
          · have := Nat.eq_of_beq_eq_true (am_and3 q).1; omega
        · have := Nat.eq_of_beq_eq_true (am_and3 q).1; omega
      · have := Nat.eq_of_beq_eq_true (am_and3 q).1; omega
    · have := Nat.eq_of_beq_eq_true (am_and3 (am_and3 q).1).2; omega
  · have := Nat.eq_of_beq_eq_true (am_and3 (am_and3 q).1).2; omega
theorem am_sim_open (env : am_E) (HC : ∀ a, a < 304 → am_chk a = true)
    (HP : ∀ (p : Program) (l : Launch) (e : Env) (R : Room) (s : State) (m : MethodId) (args : Array Value) (below : List Frame) (meth : Method) (c : Code) (Q : State → Prop) (S0 : Nat) (ad : Nat → Nat) (cy : Nat → ClassId) (D : va_G) (n0 nL cx sx d mid : Nat), am_C p R s m args meth c S0 ad cy D env d mid → nL = (am_mi mid).2.2.2.1 → am_PR p l e R s m args below meth c Q S0 ad cy D n0 nL cx sx d mid) :
    ∀ (n d mid pc : Nat) (L : am_L) (st : List Value) (h : am_H) (r : am_R), am_ex env n (d, mid, pc, L, st, h) = some r → mid < 304 → am_Sm env d mid pc L st h r := by
  intro n
  induction n with
  | zero => intro d mid pc L st h r hr; cases hr
  | succ n ih =>
    intro d mid pc L st h r hr hmid p l e R s m args below meth c Q S0 ad cy D n0 nL cx sx C0 hnL hs0 hrm hb1 hend
    replace hr : am_F env (am_ex env n) (d, mid, pc, L, st, h) = some r := hr
    unfold am_F at hr
    have hck := HC mid hmid
    rcases am_act_form env d mid pc L st h with hg | ⟨raw, len, a, b, cp, d', ok, hcd, hd, ha, hact, hkind⟩ | ⟨i, len, a, b, cp, q, hcd, hact, -, ha⟩
    · cases hA : am_act env (d, mid, pc, L, st, h) with
      | inl x =>
        rw [hA] at hr
        replace hr : x = some r := hr
        subst hr
        exact hend pc L st h hA
      | inr x => cases x with
        | inl y =>
          obtain ⟨lst, o⟩ := y
          rw [hA] at hr hg
          replace hr : am_br (am_ex env n) lst o = some r := hr
          rw [am_br_sel] at hr
          cases hs : am_sel lst o with
          | none => rw [hs] at hr; cases hr
          | some t =>
            rw [hs] at hr
            replace hr : am_ex env n t = some r := hr
            obtain ⟨e1, e2, e3⟩ := am_sel_same hg hs
            obtain ⟨td, tm, tpc, tL, tst, th⟩ := t
            have e1 : td = d := e1
            have e2 : tm = mid := e2
            subst e1
            subst e2
            have hle := am_mono env n _ _ hr
            have hle : th.1 ≤ r.2.2.1 := hle
            have k := ih td tm tpc tL tst th r hr hmid p l e R s m args below meth c Q S0 ad cy D n0 nL cx sx C0 hnL hs0 hrm hb1 hend
            cases hcd : am_cd tm pc with
            | none =>
              unfold am_act at hA
              dsimp only at hA
              rw [hcd] at hA
              cases hA
            | some z =>
              obtain ⟨raw, len, a, b, cp⟩ := z
              have hA2 : am_do env td tm pc L st h raw len a b = .inr (.inl (lst, o)) := by
                unfold am_act at hA
                dsimp only at hA
                rw [hcd] at hA
                exact hA
              obtain ⟨hdec, hlk⟩ := am_cd_use (am_and3 hck).1 hcd
              have hmz := am_sz_mono hle
              exact ag_do C0 hnL hs0 (am_ST_any C0.2.2.1) (HP p l e R s m args below meth c Q S0 ad cy D n0 nL cx sx td tm C0 hnL) hcd hdec hlk (by rw [hA2]; exact hs) ⟨by show th.1 - n0 + cx ≤ R.cells; have := hrm.1; omega, by show am_sz th.1 - am_sz n0 + sx ≤ R.slots; have := hrm.2; omega⟩ k
        | inr y => rw [hA] at hg; exact hg.elim
    · subst hd
      rw [hact] at hr
      unfold am_call at hr
      dsimp only at hr
      cases hgd : (Nat.ble b st.length && (ok (st.take b).reverse && Nat.ble (am_loc (st.take b).reverse).length (am_mi a).2.2.2.1) && Nat.ble (am_cats (st.drop b)) 8) with
      | false => rw [hgd] at hr; cases hr
      | true =>
        rw [hgd] at hr
        dsimp only [cond_true] at hr
        cases h1 : am_ex env n (d', a, 0, am_loc0 (st.take b).reverse (am_mi a).2.2.2.1, [], h) with
        | none => rw [h1] at hr; cases hr
        | some r1 =>
          rw [h1] at hr
          have i1 := am_mono env n _ _ h1
          obtain ⟨rb, rv, rh⟩ := r1
          cases rb with
          | false => cases hr
          | true =>
            replace hr : am_ex env n (d' + 1, mid, pc + 3, L, rv.toList ++ st.drop b, rh) = some r := hr
            have i1 : h.1 ≤ rh.1 := i1
            have i2 : rh.1 ≤ r.2.2.1 := am_mono env n _ _ hr
            obtain ⟨hdec, hlk⟩ := am_cd_use (am_and3 hck).1 hcd
            have ha304 : a < 304 := am_call304 hlk ha hkind
            have hcka := HC a ha304
            have hlen : (am_loc (st.take b).reverse).length ≤ (am_mi a).2.2.2.1 := Nat.le_of_ble_eq_true (am_and3 (am_and3 (am_and3 hgd).1).2).2
            have hM := am_met_of hcka hlen (ih d' a 0 _ [] h (true, rv, rh) h1 ha304) i1 (Nat.le_trans i2 hb1) l S0 ad cy D
            have hmz := am_sz_mono i2
            have k := ih (d' + 1) mid (pc + 3) L (rv.toList ++ st.drop b) rh r hr hmid p l e R s m args below meth c Q S0 ad cy D n0 nL cx sx C0 hnL hs0 hrm hb1 hend
            exact ag_call C0 hnL hs0 hdec hlk ha hcka hkind hgd hM i1 ⟨by have := hrm.1; omega, by have := hrm.2; omega⟩ (Nat.le_trans i2 hb1) k
    · exfalso
      obtain ⟨hdec, hlk⟩ := am_cd_use (am_and3 hck).1 hcd
      exact am_try304 hlk ha hmid
