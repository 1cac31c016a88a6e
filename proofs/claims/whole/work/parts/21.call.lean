/-! a call of the table -/
section AMCALL
variable {p : Program} {l : Launch} {e : Env} {R : Room} {s : State} {m : MethodId} {args : Array Value} {below : List Frame} {meth : Method} {c : Code} {Q : State → Prop} {S0 : Nat} {ad : Nat → Nat} {cy : Nat → ClassId} {D : va_G} {n0 nL cx sx : Nat} {env : am_E}
variable {d' mid pc : Nat} {L : am_L} {st : List Value} {h : am_H}
theorem am_split {b : Nat} {ad : Nat → Nat} (hb : b ≤ st.length) : st.map (am_cv ad) = (((st.take b).reverse).map (am_cv ad)).reverse ++ (st.drop b).map (am_cv ad) := by
  rw [← List.map_reverse, List.reverse_reverse, ← List.map_append, List.take_append_drop]
theorem ag_call (C0 : am_C p R s m args meth c S0 ad cy D env (d' + 1) mid) (hnL : nL = (am_mi mid).2.2.2.1) (hs0 : env.1 = true → s.heap.size = S0 + n0 ∧ cx = 0)
    {raw : Instr} {len a b cp : Nat} {ok : List Value → Bool} (hdec : decode (am_mi mid).2.2.1 pc = .ok (raw, am_ln raw len)) (hlk : am_lnk mid raw a b cp = true) (ha : Nat.blt a 9000 = true) (hck : am_chk a = true)
    (hkind : (∃ i, raw = .invokevirtual i ∧ ok = am_okV h (am_mi a).2.2.2.2.2) ∨ (∃ i, raw = .invokespecial i ∧ ok = am_okI) ∨ (∃ i, raw = .invokestatic i ∧ ok = fun _ => true))
    (hgd : (Nat.ble b st.length && (ok (st.take b).reverse && Nat.ble (am_loc (st.take b).reverse).length (am_mi a).2.2.2.1) && Nat.ble (am_cats (st.drop b)) 8) = true) {v : Option Value} {h1 : am_H} (hM : am_Met l S0 ad cy D env d' a (st.take b).reverse h v h1) (hle : h.1 ≤ h1.1) (hrm : h1.1 - n0 + cx ≤ R.cells ∧ am_sz h1.1 - am_sz n0 + sx ≤ R.slots) (hb1 : h1.1 ≤ 1000)
    (k : am_G p l e R s m args below meth c Q S0 ad cy D n0 nL cx sx (d' + 1, mid, pc + 3, L, v.toList ++ st.drop b, h1)) : am_G p l e R s m args below meth c Q S0 ad cy D n0 nL cx sx (d' + 1, mid, pc, L, st, h) := by
  obtain ⟨⟨hx, hb, hml, hown⟩, hts, hST, ⟨hfr, hlo⟩, hmn⟩ := C0
  obtain ⟨hcode, hini, h40, hpl, hmh, hownc, hkd⟩ := am_mok_use hck
  obtain ⟨hgd, g8⟩ := am_and3 hgd
  obtain ⟨gb, gok⟩ := am_and3 hgd
  have gok := (am_and3 gok).1
  have gb : b ≤ st.length := Nat.le_of_ble_eq_true gb
  have g8 : am_cats (st.drop b) ≤ 8 := Nat.le_of_ble_eq_true g8
  have hK := hST.1
  have had := hST.2.2.2.2.2.2.1
  intro H locs ls hP hz hS hl hL hn TT hT X
  have hn : n0 ≤ h.1 := hn
  have hz : h.1 ≤ 1000 := hz
  have hsz : env.1 = true → H.size = S0 + h.1 := fun ho => am_size hP hS (hs0 ho) hn hT X
  have hPc : ∀ U : State, U.heap = H → s.WarmedH U.vm → am_Pcc S0 ad cy D env (st.take b).reverse h (((st.take b).reverse).map (am_cv ad)).toArray U := by
    intro U hU hW
    refine ⟨rfl, am_ST_moved hST hW (by rw [hU]; exact hS.1) (fun q q1 q2 => by rw [hU]; exact hS.2.1 q q1 q2), by rw [hU]; exact hP, fun ho => by rw [hU]; exact hsz ho⟩
  have hmono := am_sz_mono hn
  have hmono2 := am_sz_mono hle
  have hrm1 := hrm.1
  have hrm2 := hrm.2
  have hcells : h.1 - n0 + cx + (h1.1 - h.1) ≤ R.cells ∧ am_sz h.1 - am_sz n0 + sx + (am_sz h1.1 - am_sz h.1) ≤ R.slots := ⟨by omega, by omega⟩
  have hroom : (am_rm d' (h1.1 - h.1) (am_sz h1.1 - am_sz h.1)).frames + 1 ≤ R.frames ∧ 8 + ((am_mi a).2.2.2.1 + 11) + (am_rm d' (h1.1 - h.1) (am_sz h1.1 - am_sz h.1)).locals ≤ R.locals := by
    refine ⟨by show d' + 8 + 1 ≤ R.frames; omega, ?_⟩
    show 8 + ((am_mi a).2.2.2.1 + 11) + 64 * (d' + 8) ≤ R.locals
    refine Nat.le_trans ?_ hlo
    have e9 : 64 * (d' + 1 + 8) = 64 * (d' + 8) + 64 := by rw [Nat.add_right_comm d' 1 8, Nat.mul_succ]
    rw [e9]
    refine Nat.le_trans (Nat.add_le_add_right (show 8 + ((am_mi a).2.2.2.1 + 11) ≤ 64 from ?_) _) (Nat.le_of_eq (Nat.add_comm _ _))
    clear e9 hlo hfr hrm1 hrm2 hcells hmono hmono2
    omega
  have hwroom : 2 * (F0 m pc ls (st.map (am_cv ad))).monitorRoom + (((st.drop b).map (am_cv ad)).map fun v => v.category).sum ≤ 8 := lv_room (by rw [am_cats_cv]; exact g8)
  have hG : GoodIn wsL_law0 (am_wsm a) := am_goodIn (fun w hw => by
    rcases List.mem_cons.mp hw with rfl | hw
    · exact hcode
    · exact hw)
  have hfix : CallFix p m c (am_mi mid).2.2.1 nL s args wsL_law0 (am_mi mid).1 := ⟨hx, hb, by rw [hml, hnL], hown, hts⟩
  have hlsz : (F0 m pc ls (st.map (am_cv ad))).locals.size = nL := by rw [← hL]; exact hl.1
  have kk : ∀ (H1 : Heap) (locs1 : List Loc), va_P D am_cl (am_ws S0 ad cy h1) H1 → va_S (am_AA S0) s.heap H1 locs1 → W p l e R s m args below meth c H1 locs1 (h.1 - n0 + cx + (h1.1 - h.1)) (am_sz h.1 - am_sz n0 + sx + (am_sz h1.1 - am_sz h.1)) Q (F0 m (pc + 3) ls ((v.map (am_cv ad)).toList ++ (st.drop b).map (am_cv ad))) := by
    intro H1 locs1 hP1 hS1
    have := k H1 locs1 ls hP1 hb1 hS1 hl hL (Nat.le_trans hn hle)
    dsimp only at this
    have e1 : h1.1 - n0 + cx = h.1 - n0 + cx + (h1.1 - h.1) := by omega
    have e2 : am_sz h1.1 - am_sz n0 + sx = am_sz h.1 - am_sz n0 + sx + (am_sz h1.1 - am_sz h.1) := by omega
    rw [e1, e2] at this
    have e3 : (v.toList ++ st.drop b).map (am_cv ad) = (v.map (am_cv ad)).toList ++ (st.drop b).map (am_cv ad) := by
      rw [List.map_append]
      cases v <;> rfl
    rw [e3] at this
    exact this
  suffices hW : W p l e R s m args below meth c H locs (h.1 - n0 + cx) (am_sz h.1 - am_sz n0 + sx) Q (F0 m pc ls (st.map (am_cv ad))) from hW TT hT X
  rcases hkind with ⟨i, rfl, rfl⟩ | ⟨i, rfl, rfl⟩ | ⟨i, rfl, rfl⟩
  · -- of an object
    have hlk : ((Nat.blt a 9000 && Nat.blt a 304 && Nat.beq (am_mp a).2.2.2.2 0 && am_wd cp (.methodLink (am_mi mid).1 i (am_mi a).2.1) && Nat.blt 0 b && am_nar (am_mi a).2.1 (b - 1)) || Nat.ble 9000 a) = true := hlk
    have hlk : (Nat.blt a 9000 && Nat.blt a 304 && Nat.beq (am_mp a).2.2.2.2 0 && am_wd cp (.methodLink (am_mi mid).1 i (am_mi a).2.1) && Nat.blt 0 b && am_nar (am_mi a).2.1 (b - 1)) = true := by
      rcases am_or hlk with q | q
      · exact q
      · have q1 := Nat.le_of_ble_eq_true q
        have q2 := am_blt ha
        omega
    obtain ⟨hlk, l5⟩ := am_and3 hlk
    obtain ⟨hlk, l4⟩ := am_and3 hlk
    obtain ⟨hlk, l3⟩ := am_and3 hlk
    have l2 := Nat.eq_of_beq_eq_true (am_and3 hlk).2
    have l4 := am_blt l4
    have hvs : ∃ p0 As, (st.take b).reverse = .ref p0 :: As ∧ p0 < h.1 ∧ (am_K p0).1 = (am_mi a).2.2.2.2.2 := by
      unfold am_okV at gok
      split at gok
      · rename_i p0 As heq
        exact ⟨p0, As, heq, of_decide_eq_true (am_and3 gok).1, Nat.eq_of_beq_eq_true (am_and3 gok).2⟩
      · cases gok
    obtain ⟨p0, As, hvs, hp0, hKp⟩ := hvs
    have hlen : As.length = b - 1 := by
      have := congrArg List.length hvs
      rw [List.length_reverse, List.length_take, List.length_cons] at this
      omega
    have hstack : st.map (am_cv ad) = (As.map (am_cv ad)).reverse ++ .ref (ad p0) :: (st.drop b).map (am_cv ad) := by
      rw [am_split gb, hvs]
      show ((Value.ref (ad p0) :: As.map (am_cv ad)).reverse) ++ _ = _
      rw [List.reverse_cons, List.append_assoc]
      rfl
    rcases hkd with ⟨-, w1, w2, C, T, N, hc, hC⟩ | ⟨q, -⟩ | ⟨q, -, w2, w3⟩
    · have hcl := am_cls hc
      have e1 : ad p0 = S0 + p0 := had p0 (Nat.lt_of_lt_of_le hp0 (Nat.le_trans hz (by decide)))
      have he : (am_ws S0 ad cy h)[p0]? = some (ad p0, .inr ((am_mi a).2.2.2.2.2, (List.range (am_nf (am_mi a).2.2.2.2.2)).map (am_fv ad h p0 (am_mi a).2.2.2.2.2))) := by
        rw [am_ws_at hp0, am_ce_obj hKp hcl.1.2.2.2.2.2, e1]
      have hgi : GoodIn wsL_law0 (wsV (am_mi mid).1 i C (am_mi a).2.1 (am_wsm a)) := am_goodIn (fun w hw => by
        rcases List.mem_append.mp hw with hw | hw
        · rcases List.mem_cons.mp hw with rfl | hw
          · exact am_wd_mem l3
          rcases List.mem_cons.mp hw with rfl | hw
          · exact w1
          rcases List.mem_cons.mp hw with rfl | hw
          · rw [hC]; exact w2
          rcases List.mem_cons.mp hw with rfl | hw
          · exact hcl.2.2.2
          · cases hw
        · exact (hG w hw).1)
      have hcw : CallW R s args (am_mi mid).1 C i (am_mi a).2.1 (am_mi a).2.2.1 (am_mi a).2.2.2.1 (am_mi a).2.2.2.2.1 (am_wsm a) (am_rm d' (h1.1 - h.1) (am_sz h1.1 - am_sz h.1)) (h1.1 - h.1) (am_sz h1.1 - am_sz h.1) (b - 1) := cwV (b - 1) hts hgi rfl rfl rfl ⟨hC.symm, hmh.1, hmh.2, of_decide_eq_true l5⟩ hroom
      have hpre : PreV s H C (ad p0) (am_Pcc S0 ad cy D env (st.take b).reverse h) (As.map (am_cv ad)) := ⟨am_blind, va_recv hK hP hc he, fun U hU hW => by
        have := hPc U hU hW
        rw [hvs] at this ⊢
        exact this⟩
      exact am_after (va_runV (As := As.map (am_cv ad)) (rest := (st.drop b).map (am_cv ad)) (b := ad p0) hfix hM hcw hpre rfl (by rw [List.length_map]; exact hlen) hlsz hstack hwroom hdec hcells) hS kk
    · rw [l2] at q; cases q
    · rw [l2] at q; exact absurd q (by decide)
  · -- a constructor
    have hlk : ((Nat.blt a 9000 && Nat.blt a 304 && Nat.beq (am_mp a).2.2.2.2 2 && am_mlk (am_mi mid).1 i (am_mi a).2.1 cp && Nat.blt 0 b && am_nar (am_mi a).2.1 (b - 1)) || (Nat.beq a 9005 && am_wd cp (.methodLink (am_mi mid).1 i objectInit)) || Nat.beq a 9997) = true := hlk
    have hlk : (Nat.blt a 9000 && Nat.blt a 304 && Nat.beq (am_mp a).2.2.2.2 2 && am_mlk (am_mi mid).1 i (am_mi a).2.1 cp && Nat.blt 0 b && am_nar (am_mi a).2.1 (b - 1)) = true := by
      have q2 := am_blt ha
      rcases am_or hlk with q | q
      · rcases am_or q with q | q
        · exact q
        · have := Nat.eq_of_beq_eq_true (am_and3 q).1
          omega
      · have := Nat.eq_of_beq_eq_true q
        omega
    obtain ⟨hlk, l5⟩ := am_and3 hlk
    obtain ⟨hlk, l4⟩ := am_and3 hlk
    obtain ⟨hlk, l3⟩ := am_and3 hlk
    have l2 := Nat.eq_of_beq_eq_true (am_and3 hlk).2
    have l4 := am_blt l4
    have hvs : ∃ p0 As, (st.take b).reverse = .ref p0 :: As := by
      unfold am_okI at gok
      split at gok
      · rename_i p0 As heq
        exact ⟨p0, As, heq⟩
      · cases gok
    obtain ⟨p0, As, hvs⟩ := hvs
    have hlen : As.length = b - 1 := by
      have := congrArg List.length hvs
      rw [List.length_reverse, List.length_take, List.length_cons] at this
      omega
    have hstack : st.map (am_cv ad) = (As.map (am_cv ad)).reverse ++ .ref (ad p0) :: (st.drop b).map (am_cv ad) := by
      rw [am_split gb, hvs]
      show ((Value.ref (ad p0) :: As.map (am_cv ad)).reverse) ++ _ = _
      rw [List.reverse_cons, List.append_assoc]
      rfl
    rcases hkd with ⟨q, -⟩ | ⟨q, -⟩ | ⟨-, w1, w2, w3⟩
    · rw [l2] at q; cases q
    · rw [l2] at q; cases q
    · have hpre : PreS s H (am_Pcc S0 ad cy D env (st.take b).reverse h) (.ref (ad p0) :: As.map (am_cv ad)) := ⟨am_blind, fun U hU hW => by
        have := hPc U hU hW
        rw [hvs] at this ⊢
        exact this⟩
      have hM := hM
      unfold am_Met at hM
      have hwsm : am_wsm a = Cond.code (am_mi a).2.1 (am_mi a).2.2.1 (am_mi a).2.2.2.1 none :: wsL_law0 := by unfold am_wsm; rw [w3]
      unfold am_mlk at l3
      cases hnest : Nat.blt cp 5000 with
      | true =>
        rw [hnest] at l3
        have l3 : am_wd cp (.methodLink (am_mi mid).1 i (am_mi a).2.1) = true := l3
        exact am_after (va_runI (As := As.map (am_cv ad)) (rest := (st.drop b).map (am_cv ad)) (b := ad p0) hfix hM (cwI (b - 1) hts hG hwsm rfl rfl (hts _ hini) (hts _ (am_wd_mem l3)) (hts _ w1) w2 ⟨hmh.1, hmh.2, of_decide_eq_true l5⟩ hroom) hpre rfl (by rw [List.length_map]; exact hlen) hlsz hstack hwroom hdec hcells) hS kk
      | false =>
        rw [hnest] at l3
        dsimp only [cond_false] at l3
        obtain ⟨w, hw, hwe⟩ := List.any_eq_true.mp l3
        have hwe := of_decide_eq_true hwe
        rw [hwe] at hw
        exact am_after (va_runIN (As := As.map (am_cv ad)) (rest := (st.drop b).map (am_cv ad)) (b := ad p0) hfix hM ⟨va_cnB (b - 1) hts hG hwsm rfl rfl (hST.2.1 _ hw) (hts _ hini) ⟨hmh.1, hmh.2, of_decide_eq_true l5⟩ hroom, w2, hts _ w1⟩ hpre rfl (by rw [List.length_map]; exact hlen) hlsz hstack hwroom hdec hcells) hS kk
  · -- a static one
    have hlk : ((Nat.blt a 9000 && Nat.blt a 304 && Nat.beq (am_mp a).2.2.2.2 1 && am_mlk (am_mi mid).1 i (am_mi a).2.1 cp && am_nar (am_mi a).2.1 b) || ((Nat.beq a 9000 || Nat.beq a 9010) && am_wd cp (.methodLink (am_mi mid).1 i arraycopyName)) || (Nat.beq a 9008 && am_wd cp (.methodLink (am_mi mid).1 i Lib.Math.min.name)) || (Nat.beq a 9009 && am_wd cp (.methodLink (am_mi mid).1 i Lib.Math.max.name)) || (Nat.beq a 9004 && am_wd cp (.methodLink (am_mi mid).1 i yX10_of)) || (Nat.beq a 9006 && Nat.beq mid 304 && am_wd cp (.methodLink (am_mi mid).1 i yL_reader)) || (Nat.beq a 9007 && Nat.beq mid 304 && am_wd cp (.methodLink (am_mi mid).1 i yL_mean))) = true := hlk
    have hlk : (Nat.blt a 9000 && Nat.blt a 304 && Nat.beq (am_mp a).2.2.2.2 1 && am_mlk (am_mi mid).1 i (am_mi a).2.1 cp && am_nar (am_mi a).2.1 b) = true := by
      have q2 := am_blt ha
      rcases am_or hlk with q | q
      · rcases am_or q with q | q
        · rcases am_or q with q | q
          · rcases am_or q with q | q
            · rcases am_or q with q | q
              · rcases am_or q with q | q
                · exact q
                · rcases am_or (am_and3 q).1 with z | z
                  · have := Nat.eq_of_beq_eq_true z; omega
                  · have := Nat.eq_of_beq_eq_true z; omega
              · have := Nat.eq_of_beq_eq_true (am_and3 q).1; omega
            · have := Nat.eq_of_beq_eq_true (am_and3 q).1; omega
          · have := Nat.eq_of_beq_eq_true (am_and3 q).1; omega
        · have := Nat.eq_of_beq_eq_true (am_and3 (am_and3 q).1).1; omega
      · have := Nat.eq_of_beq_eq_true (am_and3 (am_and3 q).1).1; omega
    obtain ⟨hlk, l5⟩ := am_and3 hlk
    obtain ⟨hlk, l3⟩ := am_and3 hlk
    have l2 := Nat.eq_of_beq_eq_true (am_and3 hlk).2
    have hlen : (((st.take b).reverse).map (am_cv ad)).length = b := by
      rw [List.length_map, List.length_reverse, List.length_take]
      omega
    have hpre : PreS s H (am_Pcc S0 ad cy D env (st.take b).reverse h) (((st.take b).reverse).map (am_cv ad)) := ⟨am_blind, hPc⟩
    rcases hkd with ⟨q, -⟩ | ⟨-, w1⟩ | ⟨q, -, w2, w3⟩
    · rw [l2] at q; cases q
    · unfold am_mlk at l3
      cases hnest : Nat.blt cp 5000 with
      | true =>
        rw [hnest] at l3
        have l3 : am_wd cp (.methodLink (am_mi mid).1 i (am_mi a).2.1) = true := l3
        exact am_after (va_runS (As := ((st.take b).reverse).map (am_cv ad)) (rest := (st.drop b).map (am_cv ad)) hfix hM ⟨callB_of b hts hG rfl rfl rfl (hts _ hini) (hts _ (am_wd_mem l3)) ⟨hmh.1, hmh.2, of_decide_eq_true l5⟩ hroom, hts _ w1⟩ hpre rfl hlen hlsz (am_split gb) hwroom hdec hcells) hS kk
      | false =>
        rw [hnest] at l3
        dsimp only [cond_false] at l3
        obtain ⟨w, hw, hwe⟩ := List.any_eq_true.mp l3
        have hwe := of_decide_eq_true hwe
        rw [hwe] at hw
        exact am_after (va_runSN (As := ((st.take b).reverse).map (am_cv ad)) (rest := (st.drop b).map (am_cv ad)) hfix hM ⟨va_cnB b hts hG rfl rfl rfl (hST.2.1 _ hw) (hts _ hini) ⟨hmh.1, hmh.2, of_decide_eq_true l5⟩ hroom, hts _ w1, trivial⟩ hpre rfl hlen hlsz (am_split gb) hwroom hdec hcells) hS kk
    · rw [l2] at q; exact absurd q (by decide)
end AMCALL
