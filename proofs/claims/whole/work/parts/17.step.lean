/-! one step -/
/-- what the machine's own methods do that are not of the table: the words' table, the texts -/
def am_PR (p : Program) (l : Launch) (e : Env) (R : Room) (s : State) (m : MethodId) (args : Array Value) (below : List Frame) (meth : Method) (c : Code) (Q : State → Prop) (S0 : Nat) (ad : Nat → Nat) (cy : Nat → ClassId) (D : va_G) (n0 nL cx sx : Nat) (d mid : Nat) : Prop :=
  (∀ (pc idx len b cp : Nat) (L : am_L) (r : List Value) (h : am_H) (x : Int64), decode (am_mi mid).2.2.1 pc = .ok (.invokestatic idx, 3) → am_cd mid pc = some (.invokestatic idx, len, 9004, b, cp) → Cond.methodLink (am_mi mid).1 idx yX10_of ∈ wsL_law0 → am_cats r ≤ 8 → 0 < d → h.1 - n0 + cx ≤ R.cells ∧ am_sz h.1 - am_sz n0 + sx ≤ R.slots → am_G p l e R s m args below meth c Q S0 ad cy D n0 nL cx sx (d, mid, pc + 3, L, .retAddr (am_wordOf x) :: r, h) → am_G p l e R s m args below meth c Q S0 ad cy D n0 nL cx sx (d, mid, pc, L, .long x :: r, h)) ∧
  (∀ (pc idx len b cp : Nat) (L : am_L) (r : List Value) (h : am_H) (q : Nat), decode (am_mi mid).2.2.1 pc = .ok (.invokevirtual idx, 3) → am_cd mid pc = some (.invokevirtual idx, len, 9002, b, cp) → 50000 ≤ q → q < 50004 → am_cats r ≤ 8 → 0 < d → h.1 - n0 + cx ≤ R.cells ∧ am_sz h.1 - am_sz n0 + sx ≤ R.slots → am_G p l e R s m args below meth c Q S0 ad cy D n0 nL cx sx (d, mid, pc + 3, L, .int (Int32.ofNat (am_strs.getD (q - 50000) []).length) :: r, h) → am_G p l e R s m args below meth c Q S0 ad cy D n0 nL cx sx (d, mid, pc, L, .ref q :: r, h)) ∧
  (∀ (pc idx len b cp : Nat) (L : am_L) (r : List Value) (h : am_H) (q : Nat) (i : Int32), decode (am_mi mid).2.2.1 pc = .ok (.invokevirtual idx, 3) → am_cd mid pc = some (.invokevirtual idx, len, 9003, b, cp) → 50000 ≤ q → q < 50004 → am_in i (am_strs.getD (q - 50000) []).length = true → am_cats r ≤ 8 → 0 < d → h.1 - n0 + cx ≤ R.cells ∧ am_sz h.1 - am_sz n0 + sx ≤ R.slots → am_G p l e R s m args below meth c Q S0 ad cy D n0 nL cx sx (d, mid, pc + 3, L, .int (Int32.ofNat ((am_strs.getD (q - 50000) []).getD i.toNatClampNeg 0)) :: r, h) → am_G p l e R s m args below meth c Q S0 ad cy D n0 nL cx sx (d, mid, pc, L, .int i :: .ref q :: r, h)) ∧
  (∀ (pc idx len a b cp : Nat) (L : am_L) (st : List Value) (h : am_H), decode (am_mi mid).2.2.1 pc = .ok (.ldc_w idx, 3) → am_cd mid pc = some (.ldc_w idx, len, a, b, cp) → Nat.beq b 0 = false → am_G p l e R s m args below meth c Q S0 ad cy D n0 nL cx sx (d, mid, pc + 3, L, .ref (50000 + a) :: st, h) → am_G p l e R s m args below meth c Q S0 ad cy D n0 nL cx sx (d, mid, pc, L, st, h))
section AMU
variable {p : Program} {l : Launch} {e : Env} {R : Room} {s : State} {m : MethodId} {args : Array Value} {below : List Frame} {meth : Method} {c : Code} {Q : State → Prop} {S0 : Nat} {ad : Nat → Nat} {cy : Nat → ClassId} {D : va_G} {n0 nL cx sx : Nat} {env : am_E}
variable {d mid pc : Nat} {L : am_L} {st : List Value} {h : am_H} {t : am_S}
theorem am_blt {a b : Nat} (h : Nat.blt a b = true) : a < b := Nat.le_of_ble_eq_true h
theorem am_nx_call {d mid pc : Nat} {L : am_L} {st : List Value} {h : am_H} {a b : Nat} {ok : List Value → Bool} {t : am_S} (q : am_nx (am_call d mid pc L st h a b ok) = some t) : False := by
  unfold am_call at q
  cases d <;> cases q
theorem am_nx_try {d mid pc : Nat} {L : am_L} {st : List Value} {h : am_H} {a : Nat} {t : am_S} (q : am_nx (am_try d mid pc L st h a) = some t) : False := by
  unfold am_try at q
  split at q
  · cases q
  · exact am_nx_bad q
theorem ag_do (C0 : am_C p R s m args meth c S0 ad cy D env d mid) (hnL : nL = (am_mi mid).2.2.2.1) (hs0 : env.1 = true → s.heap.size = S0 + n0 ∧ cx = 0) (hany : ∀ (H : Heap) (locs : List Loc) (x : Nat), va_S (am_AA S0) s.heap H locs → x < 24 → va_Any RX10 s H (ad (100000 + x)))
    (hpr : am_PR p l e R s m args below meth c Q S0 ad cy D n0 nL cx sx d mid) {raw : Instr} {len a b cp : Nat} (hcd : am_cd mid pc = some (raw, len, a, b, cp)) (hdec : decode (am_mi mid).2.2.1 pc = .ok (raw, am_ln raw len)) (hlk : am_lnk mid raw a b cp = true)
    (hnx : am_nx (am_do env d mid pc L st h raw len a b) = some t) (hrm : t.2.2.2.2.2.1 - n0 + cx ≤ R.cells ∧ am_sz t.2.2.2.2.2.1 - am_sz n0 + sx ≤ R.slots) (k : am_G p l e R s m args below meth c Q S0 ad cy D n0 nL cx sx t) : am_G p l e R s m args below meth c Q S0 ad cy D n0 nL cx sx (d, mid, pc, L, st, h) := by
  obtain ⟨⟨hx, hb, hml, hown⟩, hts, ⟨hK, hnw, hen, ⟨hX, hXl⟩, hAO, hS0, had, hinj, hSX⟩, ⟨hfr, hlo⟩, hmn⟩ := C0
  cases raw
  case aload_n i => exact ag_ld hx hb hnx k (fun q => by cases q) (fun q => by cases q) (fun _ => Or.inl ⟨i, rfl, rfl, hdec⟩)
  case iload_n i => exact ag_ld hx hb hnx k (fun _ => Or.inl ⟨i, rfl, rfl, hdec⟩) (fun q => by cases q) (fun q => by cases q)
  case lload_n i => exact ag_ld hx hb hnx k (fun q => by cases q) (fun _ => Or.inl ⟨i, rfl, rfl, hdec⟩) (fun q => by cases q)
  case aload i => exact ag_ld hx hb hnx k (fun q => by cases q) (fun q => by cases q) (fun _ => Or.inr ⟨rfl, hdec⟩)
  case iload i => exact ag_ld hx hb hnx k (fun _ => Or.inr ⟨rfl, hdec⟩) (fun q => by cases q) (fun q => by cases q)
  case lload i => exact ag_ld hx hb hnx k (fun q => by cases q) (fun _ => Or.inr ⟨rfl, hdec⟩) (fun q => by cases q)
  case astore_n i => exact ag_sto hx hb hnx k (fun q => by cases q) (fun q => by cases q) (fun _ => Or.inl ⟨i, rfl, rfl, hdec⟩)
  case istore_n i => exact ag_sto hx hb hnx k (fun _ => Or.inl ⟨i, rfl, rfl, hdec⟩) (fun q => by cases q) (fun q => by cases q)
  case lstore_n i => exact ag_sto hx hb hnx k (fun q => by cases q) (fun _ => Or.inl ⟨i, rfl, rfl, hdec⟩) (fun q => by cases q)
  case astore i => exact ag_sto hx hb hnx k (fun q => by cases q) (fun q => by cases q) (fun _ => Or.inr ⟨rfl, hdec⟩)
  case istore i => exact ag_sto hx hb hnx k (fun _ => Or.inr ⟨rfl, hdec⟩) (fun q => by cases q) (fun q => by cases q)
  case lstore i => exact ag_sto hx hb hnx k (fun q => by cases q) (fun _ => Or.inr ⟨rfl, hdec⟩) (fun q => by cases q)
  case iconst v => exact ag_go hnx k (fun H locs cells slots ls kk => lv_iconst hx hb hdec rfl kk)
  case bipush v => exact ag_go hnx k (fun H locs cells slots ls kk => lv_bipush hx hb hdec rfl kk)
  case sipush v => exact ag_go hnx k (fun H locs cells slots ls kk => lv_sipush hx hb hdec rfl kk)
  case lconst v => exact ag_go hnx k (fun H locs cells slots ls kk => lv_lconst hx hb hdec rfl kk)
  case aconst_null => exact ag_go hnx k (fun H locs cells slots ls kk => lv_null hx hb hdec kk)
  case ldc i =>
    have hnx : am_nx (bif Nat.beq b 0 then am_go (d, mid, pc + 2, L, .int (Int32.ofNat a) :: st, h) else am_bad) = some t := hnx
    have hlk : (!(Nat.beq b 0) || am_wd cp (.constant (am_mi mid).1 i (Int32.ofNat a))) = true := hlk
    cases hb0 : Nat.beq b 0 with
    | false => rw [hb0] at hnx; exact (am_nx_bad hnx).elim
    | true =>
      rw [hb0] at hnx hlk
      exact ag_go hnx k (fun H locs cells slots ls kk => lv_ldc hx hb hown (hts _ (am_wd_mem hlk)) hdec kk)
  case ldc_w i =>
    have hnx : am_nx (bif Nat.beq b 0 then am_go (d, mid, pc + 3, L, .int (Int32.ofNat a) :: st, h) else am_go (d, mid, pc + 3, L, .ref (50000 + a) :: st, h)) = some t := hnx
    have hlk : (!(Nat.beq b 0) || am_wd cp (.constant (am_mi mid).1 i (Int32.ofNat a))) = true := hlk
    cases hb0 : Nat.beq b 0 with
    | false =>
      rw [hb0] at hnx
      have ht := am_nx_go hnx
      subst ht
      exact hpr.2.2.2 pc i len a b cp L st h hdec hcd hb0 k
    | true =>
      rw [hb0] at hnx hlk
      exact ag_go hnx k (fun H locs cells slots ls kk => lv_ldcw hx hb hown (hts _ (am_wd_mem hlk)) hdec kk)
  case ldc2_w i => exact ag_go hnx k (fun H locs cells slots ls kk => lv_ldc2 hx hb hown (hts _ (am_wd_mem hlk)) hdec kk)
  case iinc i n =>
    dsimp only [am_do] at hnx
    split at hnx
    · rename_i x hLi
      have ht := am_nx_go hnx
      subst ht
      intro H locs ls hP hz hS hl hL hn
      have hi : i < L.length := (List.getElem?_eq_some_iff.mp hLi).1
      have hmem : (i, Value.int x) ∈ am_lv ad L := am_lv_mem.mpr ⟨.int x, hLi, rfl⟩
      obtain ⟨j, hj⟩ := List.getElem?_of_mem hmem
      exact lv_iinc (k := j) (v := x + Int32.ofInt n) hx hb hdec (am_lh_has hl) hj rfl hi rfl (fun ls' hl' => k H locs ls' hP hz hS (am_store1 (v := .int (x + Int32.ofInt n)) hi hl' (am_cat ad)) (by rw [← hL]; simp [am_st1, am_kill_len]) hn)
    · exact (am_nx_bad hnx).elim
  case dup =>
    dsimp only [am_do] at hnx
    split at hnx
    · exact ag_gd hnx k (fun hg H locs cells slots ls kk => lv_dup hx hb hdec (by rw [am_cat]; exact Nat.eq_of_beq_eq_true hg) kk)
    · exact (am_nx_bad hnx).elim
  case dup2 =>
    dsimp only [am_do] at hnx
    split at hnx
    · exact ag_gd hnx k (fun hg H locs cells slots ls kk => lv_dup2_11 hx hb hdec (by rw [am_cat]; exact Nat.eq_of_beq_eq_true (am_and3 hg).1) (by rw [am_cat]; exact Nat.eq_of_beq_eq_true (am_and3 hg).2) kk)
    · exact (am_nx_bad hnx).elim
  case pop =>
    dsimp only [am_do] at hnx
    split at hnx
    · exact ag_gd hnx k (fun hg H locs cells slots ls kk => lv_pop hx hb hdec (by rw [am_cat]; exact Nat.eq_of_beq_eq_true hg) kk)
    · exact (am_nx_bad hnx).elim
  case iadd => exact ag_b2 hnx k (fun x y H locs cells slots ls rest kk => lv_iadd hx hb hdec kk)
  case isub => exact ag_b2 hnx k (fun x y H locs cells slots ls rest kk => lv_isub hx hb hdec kk)
  case imul => exact ag_b2 hnx k (fun x y H locs cells slots ls rest kk => lv_imul hx hb hdec kk)
  case iand => exact ag_b2 hnx k (fun x y H locs cells slots ls rest kk => lv_iand hx hb hdec kk)
  case ior => exact ag_b2 hnx k (fun x y H locs cells slots ls rest kk => lv_ior hx hb hdec kk)
  case ixor => exact ag_b2 hnx k (fun x y H locs cells slots ls rest kk => lv_ixor hx hb hdec kk)
  case ishl => exact ag_b2 hnx k (fun x y H locs cells slots ls rest kk => lv_ishl hx hb hdec kk)
  case ishr => exact ag_b2 hnx k (fun x y H locs cells slots ls rest kk => lv_ishr hx hb hdec kk)
  case iushr => exact ag_b2 hnx k (fun x y H locs cells slots ls rest kk => lv_iushr hx hb hdec rfl kk)
  case idiv =>
    dsimp only [am_do] at hnx
    split at hnx
    · exact ag_gd hnx k (fun hg H locs cells slots ls kk => lv_idiv hx hb hdec (fun q => by rw [decide_eq_true q] at hg; cases hg) kk)
    · exact (am_nx_bad hnx).elim
  case irem =>
    dsimp only [am_do] at hnx
    split at hnx
    · exact ag_gd hnx k (fun hg H locs cells slots ls kk => lv_irem hx hb hdec (fun q => by rw [decide_eq_true q] at hg; cases hg) kk)
    · exact (am_nx_bad hnx).elim
  case ladd => exact ag_l2 hnx k (fun x y H locs cells slots ls rest kk => lv_ladd hx hb hdec kk)
  case lsub => exact ag_l2 hnx k (fun x y H locs cells slots ls rest kk => lv_lsub hx hb hdec kk)
  case lmul => exact ag_l2 hnx k (fun x y H locs cells slots ls rest kk => lv_lmul hx hb hdec kk)
  case lor => exact ag_l2 hnx k (fun x y H locs cells slots ls rest kk => lv_lor hx hb hdec kk)
  case ldiv =>
    dsimp only [am_do] at hnx
    split at hnx
    · exact ag_gd hnx k (fun hg H locs cells slots ls kk => lv_ldiv hx hb hdec (fun q => by rw [decide_eq_true q] at hg; cases hg) kk)
    · exact (am_nx_bad hnx).elim
  case lrem =>
    dsimp only [am_do] at hnx
    split at hnx
    · exact ag_gd hnx k (fun hg H locs cells slots ls kk => lv_lrem hx hb hdec (fun q => by rw [decide_eq_true q] at hg; cases hg) kk)
    · exact (am_nx_bad hnx).elim
  case lshl =>
    dsimp only [am_do] at hnx
    split at hnx
    · exact ag_go hnx k (fun H locs cells slots ls kk => lv_lshl hx hb hdec rfl kk)
    · exact (am_nx_bad hnx).elim
  case lushr =>
    dsimp only [am_do] at hnx
    split at hnx
    · exact ag_go hnx k (fun H locs cells slots ls kk => lv_lushr hx hb hdec rfl kk)
    · exact (am_nx_bad hnx).elim
  case lcmp =>
    dsimp only [am_do] at hnx
    split at hnx
    · exact ag_go hnx k (fun H locs cells slots ls kk => W.lcmp hx hb hdec kk)
    · exact (am_nx_bad hnx).elim
  case i2l =>
    dsimp only [am_do] at hnx
    split at hnx
    · exact ag_go hnx k (fun H locs cells slots ls kk => lv_i2l hx hb hdec rfl kk)
    · exact (am_nx_bad hnx).elim
  case l2i =>
    dsimp only [am_do] at hnx
    split at hnx
    · exact ag_go hnx k (fun H locs cells slots ls kk => lv_l2i hx hb hdec rfl kk)
    · exact (am_nx_bad hnx).elim
  case goto off => exact ag_gd hnx k (fun hg H locs cells slots ls kk => lv_goto hx hb hdec (am_tg_eq (of_decide_eq_true hg)) kk)
  case if_icmp cd off =>
    dsimp only [am_do] at hnx
    split at hnx
    · exact ag_icmp hx hb hdec hnx k
    · exact (am_nx_bad hnx).elim
  case ifCond cd off =>
    dsimp only [am_do] at hnx
    split at hnx
    · exact ag_ifc hx hb hdec hnx k
    · exact (am_nx_bad hnx).elim
  case if_acmp cd off =>
    dsimp only [am_do] at hnx
    split at hnx
    · exact ag_acmp hx hb hdec hinj rfl hnx k
    · exact ag_acmp hx hb hdec hinj rfl hnx k
    · exact (am_nx_bad hnx).elim
  case ifnonnull off =>
    dsimp only [am_do] at hnx
    split at hnx
    · exact ag_ifnn hx hb hdec hnx k
    · exact (am_nx_bad hnx).elim
  case tableswitch dflt lo hi offs =>
    dsimp only [am_do] at hnx
    split at hnx
    · exact ag_tsw hx hb hdec hnx k
    · exact (am_nx_bad hnx).elim
  case lookupswitch dflt ps =>
    dsimp only [am_do] at hnx
    split at hnx
    · exact ag_lsw hx hb hdec hnx k
    · exact (am_nx_bad hnx).elim
  case getfield idx =>
    dsimp only [am_do] at hnx
    have hlk : (match am_cl[a]? with
      | some (_, T, N) => Nat.blt b N && am_wd cp (.fieldLink (am_mi mid).1 idx (T b).1 (T b).2.1 (T b).2.2.1)
      | none => false) = true := hlk
    split at hlk
    · rename_i C T N hc
      split at hnx
      · exact ag_get hx hb hts hown hK had hc (am_blt (am_and3 hlk).1) (am_wd_mem (am_and3 hlk).2) (am_cls hc).1 hdec hnx k
      · exact (am_nx_bad hnx).elim
    · cases hlk
  case putfield idx =>
    dsimp only [am_do] at hnx
    have hlk : (match am_cl[a]? with
      | some (_, T, N) => Nat.blt b N && am_wd cp (.fieldLink (am_mi mid).1 idx (T b).1 (T b).2.1 (T b).2.2.1) && (!(T b).2.2.2 || (decide ((am_mi mid).2.1.name = "<init>") && decide ((T b).1 = (am_mi mid).1)))
      | none => false) = true := hlk
    split at hlk
    · rename_i C T N hc
      obtain ⟨hlk, hl3⟩ := am_and3 hlk
      split at hnx
      · refine ag_put hx hb hts hown hK had hc (am_blt (am_and3 hlk).1) (am_wd_mem (am_and3 hlk).2) (am_cls hc).1 (fun hf => ?_) hdec hnx k
        rw [hf] at hl3
        have hl3 : (decide ((am_mi mid).2.1.name = "<init>") && decide ((T b).1 = (am_mi mid).1)) = true := hl3
        exact ⟨hmn (of_decide_eq_true (am_and3 hl3).1), of_decide_eq_true (am_and3 hl3).2⟩
      · exact (am_nx_bad hnx).elim
    · cases hlk
  case getstatic idx =>
    have hnx : am_nx (bif Nat.blt a 24 then am_go (d, mid, pc + 3, L, .retAddr (a + 1) :: st, h) else am_bad) = some t := hnx
    have hlk : (Nat.ble 24 a || am_wd cp (.fieldLink (am_mi mid).1 idx RX10 (am_wns.getD a "") "LSequelShelf$Word;")) = true := hlk
    cases ha : Nat.blt a 24 with
    | false => rw [ha] at hnx; exact (am_nx_bad hnx).elim
    | true =>
      rw [ha] at hnx
      have hnx : am_nx (am_go (d, mid, pc + 3, L, .retAddr (a + 1) :: st, h)) = some t := hnx
      have ha := am_blt ha
      have hw : am_wd cp (.fieldLink (am_mi mid).1 idx RX10 (am_wns.getD a "") "LSequelShelf$Word;") = true := by
        rcases am_or hlk with q | q
        · have := Nat.le_of_ble_eq_true q
          omega
        · exact q
      have ht := am_nx_go hnx
      subst ht
      intro H locs ls hP hz hS hl hL hn
      exact va_gets hx hb (hen a ha) hS hown (hts _ (am_wd_mem hw)) (fun x z => z) hdec (k H locs ls hP hz hS hl hL hn)
  case iaload =>
    dsimp only [am_do] at hnx
    split at hnx
    · cases ha : Nat.beq a 1 with
      | false => rw [ha] at hnx; exact ag_iald hx hb hK had hdec hnx k
      | true =>
        rw [ha] at hnx
        obtain ⟨hg, ht⟩ := am_nx_gd hnx
        subst ht
        obtain ⟨hg1, hg2⟩ := am_and3 hg
        have hg1 := Nat.eq_of_beq_eq_true hg1
        subst hg1
        intro H locs ls hP hz hS hl hL hn
        exact va_sld hx hb hX (Nat.lt_of_lt_of_le hXl hS0) (show ¬ S0 ≤ ad 60000 by omega) hS (am_in_vp hg2) hdec (k H locs ls hP hz hS hl hL hn)
    · exact (am_nx_bad hnx).elim
  case arraylength =>
    dsimp only [am_do] at hnx
    split at hnx
    · cases ha : Nat.beq a 1 with
      | false => rw [ha] at hnx; exact ag_alen hx hb hK had hdec hnx k
      | true =>
        rw [ha] at hnx
        obtain ⟨hg, ht⟩ := am_nx_gd hnx
        subst ht
        have hg1 := Nat.eq_of_beq_eq_true hg
        subst hg1
        intro H locs ls hP hz hS hl hL hn
        exact va_slen hx hb hX (Nat.lt_of_lt_of_le hXl hS0) (show ¬ S0 ≤ ad 60000 by omega) hS hdec (k H locs ls hP hz hS hl hL hn)
    · exact (am_nx_bad hnx).elim
  case iastore =>
    dsimp only [am_do] at hnx
    split at hnx
    · exact ag_iast hx hb hK had hdec hnx k
    · exact (am_nx_bad hnx).elim
  case laload =>
    dsimp only [am_do] at hnx
    split at hnx
    · exact ag_lald hx hb hK had hdec hnx k
    · exact (am_nx_bad hnx).elim
  case lastore =>
    dsimp only [am_do] at hnx
    split at hnx
    · exact ag_last hx hb hK had hdec hnx k
    · exact (am_nx_bad hnx).elim
  case baload =>
    dsimp only [am_do] at hnx
    split at hnx
    · exact ag_zald hx hb hK had hdec hnx k
    · exact (am_nx_bad hnx).elim
  case bastore =>
    dsimp only [am_do] at hnx
    split at hnx
    · exact ag_zast hx hb hK had hdec hnx k
    · exact (am_nx_bad hnx).elim
  case aaload =>
    dsimp only [am_do] at hnx
    split at hnx
    · cases ha : Nat.beq a 105 with
      | false => rw [ha] at hnx; exact ag_aldR hx hb hK had hdec hnx k
      | true => rw [ha] at hnx; exact ag_aldE hx hb hK had hdec hnx k
    · exact (am_nx_bad hnx).elim
  case aastore =>
    dsimp only [am_do] at hnx
    split at hnx
    · exact ag_astE hx hb hK had hany hdec hnx k
    · exact ag_astR hx hb hK had hdec hnx k
    · exact (am_nx_bad hnx).elim
  case new idx =>
    have hnx : am_nx (bif Nat.beq a 9999 then (bif st.isEmpty then .inl (some (false, none, h)) else am_bad) else am_mk env.1 d mid pc 3 L st h a 0) = some t := hnx
    have hlk : (Nat.beq a 9999 || (match am_cl[a]? with
      | some (C, _, _) => am_wd cp (.classLink (am_mi mid).1 idx C)
      | none => false)) = true := hlk
    cases ha : Nat.beq a 9999 with
    | true =>
      rw [ha] at hnx
      dsimp only [cond_true] at hnx
      cases he : st.isEmpty <;> (rw [he] at hnx; cases hnx)
    | false =>
      rw [ha] at hnx hlk
      have hlk : (match am_cl[a]? with
        | some (C, _, _) => am_wd cp (.classLink (am_mi mid).1 idx C)
        | none => false) = true := hlk
      split at hlk
      · rename_i C T N hc
        obtain ⟨hcl, hft, hw2, hw3⟩ := am_cls hc
        exact ag_new hx hb hts hown hK had hs0 hc hcl hft (am_wd_mem hlk) hw2 hw3 hdec hnx hrm k
      · cases hlk
  case newarray at' =>
    dsimp only [am_do] at hnx
    have hlk : (decide (at' = .int ∧ a = 100) || decide (at' = .long ∧ a = 101) || decide (at' = .boolean ∧ a = 102)) = true := hlk
    have hkd : (at' = .int ∧ a = 100) ∨ (at' = .long ∧ a = 101) ∨ (at' = .boolean ∧ a = 102) := by
      rcases am_or hlk with q | q
      · rcases am_or q with q | q
        · exact Or.inl (of_decide_eq_true q)
        · exact Or.inr (Or.inl (of_decide_eq_true q))
      · exact Or.inr (Or.inr (of_decide_eq_true q))
    have hw : Cond.arrayClass (newarray.typeOf at') ∈ wsL_law0 := by
      rcases hkd with ⟨q, -⟩ | ⟨q, -⟩ | ⟨q, -⟩ <;> subst q
      · exact aw_aI
      · exact aw_aJ
      · exact aw_aZ
    split at hnx
    · exact ag_newa hx hb hts hK had hs0 hkd hw hdec am_Kbig hnx hrm k
    · exact (am_nx_bad hnx).elim
  case anewarray idx =>
    dsimp only [am_do] at hnx
    have hlk : ((Nat.beq a 103 && am_wd cp (.classLink (am_mi mid).1 idx RX7)) || (Nat.beq a 104 && am_wd cp (.classLink (am_mi mid).1 idx RX6)) || (Nat.beq a 105 && am_wd cp (.classLink (am_mi mid).1 idx RX10))) = true := hlk
    split at hnx
    · rcases am_or hlk with q | q
      · rcases am_or q with q | q
        · exact ag_anew hx hb hts hown hK hAO had hs0 (C := RX7) (Or.inl ⟨rfl, Nat.eq_of_beq_eq_true (am_and3 q).1⟩) (am_wd_mem (am_and3 q).2) hdec am_Kbig hnx hrm k
        · exact ag_anew hx hb hts hown hK hAO had hs0 (C := RX6) (Or.inr (Or.inl ⟨rfl, Nat.eq_of_beq_eq_true (am_and3 q).1⟩)) (am_wd_mem (am_and3 q).2) hdec am_Kbig hnx hrm k
      · exact ag_anew hx hb hts hown hK hAO had hs0 (C := RX10) (Or.inr (Or.inr ⟨rfl, Nat.eq_of_beq_eq_true (am_and3 q).1⟩)) (am_wd_mem (am_and3 q).2) hdec am_Kbig hnx hrm k
    · exact (am_nx_bad hnx).elim
  case invokevirtual idx =>
    dsimp only [am_do] at hnx
    unfold am_virt at hnx
    cases ha : Nat.blt a 9000 with
    | true => rw [ha] at hnx; exact (am_nx_call hnx).elim
    | false =>
      rw [ha] at hnx
      dsimp only [cond_false] at hnx
      split at hnx
      · exact (am_nx_bad hnx).elim
      · split at hnx
        · obtain ⟨hg, ht⟩ := am_nx_gd hnx
          subst ht
          obtain ⟨hg, g3⟩ := am_and3 hg
          obtain ⟨g1, g2⟩ := am_and3 hg
          exact hpr.2.1 pc idx len b cp L _ h _ hdec hcd (Nat.le_of_ble_eq_true g1) (am_blt g2) (Nat.le_of_ble_eq_true g3) (Nat.succ_pos _) hrm k
        · obtain ⟨hg, ht⟩ := am_nx_gd hnx
          subst ht
          obtain ⟨hg, g4⟩ := am_and3 hg
          obtain ⟨hg, g3⟩ := am_and3 hg
          obtain ⟨g1, g2⟩ := am_and3 hg
          exact hpr.2.2.1 pc idx len b cp L _ h _ _ hdec hcd (Nat.le_of_ble_eq_true g1) (am_blt g2) g3 (Nat.le_of_ble_eq_true g4) (Nat.succ_pos _) hrm k
        · exact (am_nx_bad hnx).elim
  case invokespecial idx =>
    dsimp only [am_do] at hnx
    unfold am_spec at hnx
    cases ha : Nat.blt a 9000 with
    | true => rw [ha] at hnx; exact (am_nx_call hnx).elim
    | false =>
      rw [ha] at hnx
      dsimp only [cond_false] at hnx
      split at hnx
      · exact (am_nx_bad hnx).elim
      · rename_i d'
        split at hnx
        · have hw : am_wd cp (.methodLink (am_mi mid).1 idx objectInit) = true := by
            have : (am_wd cp (.methodLink (am_mi mid).1 idx objectInit) || false) = true := hlk
            simpa using this
          obtain ⟨hg, ht⟩ := am_nx_gd hnx
          subst ht
          have hg := Nat.le_of_ble_eq_true hg
          intro H locs ls hP hz hS hl hL hn
          exact W.objInit hx hb hown (hts _ (am_wd_mem hw)) (hts _ aw_imO) (hts _ aw_cdO) rfl (by rw [hml, ← hnL, ← hL]; exact hl.1) rfl hdec (by omega) (by
            have e0 : ∀ st, (F0 m pc ls st).monitorRoom = 0 := fun st => rfl
            rw [e0, am_cats_cv]
            omega) (k H locs ls hP hz hS hl hL hn)
        · exact (am_nx_bad hnx).elim
  case invokestatic idx =>
    dsimp only [am_do] at hnx
    unfold am_stat at hnx
    cases ha : Nat.blt a 9000 with
    | true => rw [ha] at hnx; dsimp only [cond_true] at hnx; exact (am_nx_call hnx).elim
    | false =>
      rw [ha] at hnx
      dsimp only [cond_false] at hnx
      split at hnx
      · exact (am_nx_bad hnx).elim
      · rename_i d'
        have h64 : 1 ≤ R.frames ∧ 64 ≤ R.locals := ⟨by omega, by omega⟩
        split at hnx
        · have hw : am_wd cp (.methodLink (am_mi mid).1 idx arraycopyName) = true := by
            have : (am_wd cp (.methodLink (am_mi mid).1 idx arraycopyName) || false || false || false || false || false) = true := hlk
            simpa using this
          rename_i n dp q sp p' r
          cases hc8 : Nat.ble (am_cats r) 8 with
          | false => rw [hc8] at hnx; exact (am_nx_bad hnx).elim
          | true =>
            rw [hc8] at hnx
            exact ag_copy hx hb (by rw [hml, hnL]) hts hown hK had h64 ⟨aw_nat, aw_stc, aw_iSy⟩ (am_wd_mem hw) hdec (Nat.le_of_ble_eq_true hc8) (Or.inl hnx) k
        · have hw : am_wd cp (.methodLink (am_mi mid).1 idx arraycopyName) = true := by
            have : (am_wd cp (.methodLink (am_mi mid).1 idx arraycopyName) || false || false || false || false || false) = true := hlk
            simpa using this
          rename_i n dp q sp p' r
          cases hc8 : Nat.ble (am_cats r) 8 with
          | false => rw [hc8] at hnx; exact (am_nx_bad hnx).elim
          | true =>
            rw [hc8] at hnx
            exact ag_copy hx hb (by rw [hml, hnL]) hts hown hK had h64 ⟨aw_nat, aw_stc, aw_iSy⟩ (am_wd_mem hw) hdec (Nat.le_of_ble_eq_true hc8) (Or.inr hnx) k
        · have hw : am_wd cp (.methodLink (am_mi mid).1 idx yX10_of) = true := by
            have : (am_wd cp (.methodLink (am_mi mid).1 idx yX10_of) || false || false) = true := hlk
            simpa using this
          obtain ⟨hg, ht⟩ := am_nx_gd hnx
          subst ht
          exact hpr.1 pc idx len b cp L _ h _ hdec hcd (am_wd_mem hw) (Nat.le_of_ble_eq_true hg) (Nat.succ_pos _) hrm k
        · exact (am_nx_try hnx).elim
        · exact (am_nx_try hnx).elim
        · have hw : am_wd cp (.methodLink (am_mi mid).1 idx Lib.Math.min.name) = true := by
            have : (am_wd cp (.methodLink (am_mi mid).1 idx Lib.Math.min.name) || false || false || false || false) = true := hlk
            simpa using this
          obtain ⟨hg, ht⟩ := am_nx_gd hnx
          subst ht
          have hg := Nat.le_of_ble_eq_true hg
          intro H locs ls hP hz hS hl hL hn
          exact va_mmin hx hb (by rw [hml, ← hnL, ← hL]; exact hl.1.symm) hown (hts _ (am_wd_mem hw)) (hts _ aw_sMin) (hts _ aw_iMa) (hts _ aw_cMin) h64.1 (by rw [am_cats_cv]; omega) hrm.1 hrm.2 hdec (k H locs ls hP hz hS hl hL hn)
        · have hw : am_wd cp (.methodLink (am_mi mid).1 idx Lib.Math.max.name) = true := by
            have : (am_wd cp (.methodLink (am_mi mid).1 idx Lib.Math.max.name) || false || false || false) = true := hlk
            simpa using this
          obtain ⟨hg, ht⟩ := am_nx_gd hnx
          subst ht
          have hg := Nat.le_of_ble_eq_true hg
          intro H locs ls hP hz hS hl hL hn
          exact va_mmax hx hb (by rw [hml, ← hnL, ← hL]; exact hl.1.symm) hown (hts _ (am_wd_mem hw)) (hts _ aw_sMax) (hts _ aw_iMa) (hts _ aw_cMax) h64.1 (by rw [am_cats_cv]; omega) hrm.1 hrm.2 hdec (k H locs ls hP hz hS hl hL hn)
        · exact (am_nx_bad hnx).elim
  case ireturn =>
    dsimp only [am_do] at hnx
    split at hnx
    · cases hnx
    · exact (am_nx_bad hnx).elim
  case return_ =>
    dsimp only [am_do] at hnx
    split at hnx
    · cases hnx
    · exact (am_nx_bad hnx).elim
  case lreturn =>
    dsimp only [am_do] at hnx
    split at hnx
    · cases hnx
    · exact (am_nx_bad hnx).elim
  all_goals exact (am_nx_bad hnx).elim
end AMU
