/-! the law's own reader and mean, walked -/
theorem vy_ofH {l : Launch} {y : MethodName} {ws ws' : List Cond} {rm : Room} {Pc : Array Value → State → Prop} {Qc : Array Value → State → Outcome → State → Prop} {mc ms : Nat} {free : Addr → Prop} {cc : ByteArray} {maxL : Nat} {ret : Option FieldType} {hh : List (Nat × Nat × Nat × Nat)}
    (hy : plainName y.cls = true) (hw : ws = Cond.codeWith y cc maxL ret hh :: ws')
    (body : ∀ p e s m args below meth c s₁, BodyLoose p l y (headSpec ws rm) cc maxL ret e s m args below meth c s₁ → c.maxLocals = maxL → Pc args s →
      W p l e (headSpec ws rm).room s m args below meth c s.heap [] 0 0 (MQ below Qc args s mc ms free) (entryFrame m args maxL)) : Met l y ws rm Pc Qc mc ms free := by
  refine MetFree.of_bodyS (code := cc) (maxLocals := maxL) (ret := ret) hy ?_ ?_
  · intro args s m h hn
    obtain ⟨m9, meth, c, hn9, h1, h2, h3, h4, -, h5, h6, -⟩ := Cond.codeWith_spec (atoms_spec (ws := ws) h _ (by rw [hw]; exact List.mem_cons_self))
    cases hn.symm.trans hn9
    exact ⟨meth, c, h1, h2, h3, h4, h5, h6⟩
  · intro p e s m args below meth c s₁ B hml hP _
    have hh0 : s₁.heap = s.heap := by rw [B.state]; rfl
    obtain ⟨t, a1, o, b1, b2, b3⟩ := body p e s m args below meth c s₁ B hml hP s₁ hh0 (Stand.of_body B)
    exact ⟨t, o, a1, b1, b2, ⟨b3.1, b3.2⟩⟩
theorem ax_494 : Cond.classLink RL 13 vy_X ∈ wsL_law0 := am_wd_mem (i := 494) (by decide +kernel)
theorem ax_492 : Cond.initialized RL ∈ wsL_law0 := am_wd_mem (i := 492) (by decide +kernel)
theorem ax_2 : Cond.initialized RX11 ∈ wsL_law0 := am_wd_mem (i := 2) (by decide +kernel)
theorem vy_inst {a : Nat} (hck : am_chk a = true) (h0 : (am_mp a).2.2.2.2 = 0) : Cond.code (am_mi a).2.1 (am_mi a).2.2.1 (am_mi a).2.2.2.1 (am_mi a).2.2.2.2.1 ∈ wsL_law0 ∧ Cond.instanceMethod (am_mi a).2.1 ∈ wsL_law0 ∧ Cond.selects (am_mi a).2.1.cls (am_mi a).2.1 (am_mi a).2.1 ∈ wsL_law0 := by
  obtain ⟨hcode, hini, h40, hpl, hmh, hownc, hkd⟩ := am_mok_use hck
  rcases hkd with ⟨-, w1, w2, -⟩ | ⟨q, -⟩ | ⟨q, -⟩
  · exact ⟨hcode, w1, w2⟩
  · rw [h0] at q; cases q
  · rw [h0] at q; exact absurd q (by decide)
theorem vy_gi {Ts ws : List Cond} {own : String} {idx : Nat} {C : String} {y : MethodName} (hT : ∀ w ∈ ws, w ∈ Ts) (hg : ∀ w ∈ ws, (w.onTables && w.keeps) = true ∨ ∃ ty, w = Cond.arrayClass ty) (h1 : Cond.methodLink own idx y ∈ ws) (h2 : Cond.instanceMethod y ∈ ws) (h3 : Cond.selects C y y ∈ ws) (h4 : Cond.initialized C ∈ ws) {c0 : Cond} (h5 : c0 ∈ ws) : GoodIn Ts (wsV own idx C y (c0 :: ws)) := by
  have key : ∀ w, w ∈ ws → w ∈ Ts ∧ ((w.onTables && w.keeps) = true ∨ ∃ ty, w = Cond.arrayClass ty) := fun w h => ⟨hT w h, hg w h⟩
  intro w hw
  refine key w ?_
  rcases List.mem_append.mp hw with hw | hw
  · rcases List.mem_cons.mp hw with rfl | hw
    · exact h1
    rcases List.mem_cons.mp hw with rfl | hw
    · exact h2
    rcases List.mem_cons.mp hw with rfl | hw
    · exact h3
    rcases List.mem_cons.mp hw with rfl | hw
    · exact h4
    · cases hw
  · rcases List.mem_cons.mp hw with rfl | hw
    · exact h5
    · exact hw
theorem vy_wsg : ∀ w ∈ vy_ws, (w.onTables && w.keeps) = true ∨ ∃ ty, w = Cond.arrayClass ty := fun w h => by
  rcases List.mem_append.mp h with q | q
  · exact good_of_word (List.all_eq_true.mp am_goodW w q)
  · exact good_of_word (vy_good q)
theorem am_wsg : ∀ w ∈ wsL_law0, (w.onTables && w.keeps) = true ∨ ∃ ty, w = Cond.arrayClass ty := fun w h => good_of_word (List.all_eq_true.mp am_goodW w h)
theorem ax_rd : Cond.codeWith yL_reader cL_reader 5 (some .int) [(0, 10, 13, 13)] ∈ wsL_law0 := am_wd_mem (i := 493) (by decide +kernel)
theorem ax_rdl : Cond.methodLink RL 7 (am_mi 120).2.1 ∈ wsL_law0 := am_wd_mem (i := 495) (by decide +kernel)
theorem ax_rds : Cond.static yL_reader ∈ wsL_law0 := am_wd_mem (i := 491) (by decide +kernel)
theorem dx_rd_0 : decode cL_reader 0 = .ok (.aload_n 3, 1) := by decide +kernel
theorem dx_rd_1 : decode cL_reader 1 = .ok (.iconst 0, 1) := by decide +kernel
theorem dx_rd_2 : decode cL_reader 2 = .ok (.aload_n 0, 1) := by decide +kernel
theorem dx_rd_3 : decode cL_reader 3 = .ok (.iload_n 1, 1) := by decide +kernel
theorem dx_rd_4 : decode cL_reader 4 = .ok (.iload_n 2, 1) := by decide +kernel
theorem dx_rd_5 : decode cL_reader 5 = .ok (.invokevirtual 7, 3) := by decide +kernel
theorem dx_rd_8 : decode cL_reader 8 = .ok (.i2l, 1) := by decide +kernel
theorem dx_rd_9 : decode cL_reader 9 = .ok (.lastore, 1) := by decide +kernel
theorem dx_rd_10 : decode cL_reader 10 = .ok (.goto 7, 3) := by decide +kernel
theorem dx_rd_13 : decode cL_reader 13 = .ok (.astore 4, 2) := by decide +kernel
theorem dx_rd_15 : decode cL_reader 15 = .ok (.iconst 1, 1) := by decide +kernel
theorem dx_rd_16 : decode cL_reader 16 = .ok (.ireturn, 1) := by decide +kernel
theorem dx_rd_17 : decode cL_reader 17 = .ok (.iconst 0, 1) := by decide +kernel
theorem dx_rd_18 : decode cL_reader 18 = .ok (.ireturn, 1) := by decide +kernel
set_option maxHeartbeats 4000000 in
theorem vy_rdX (hck : am_chk 120 = true) {env : am_E} {d p1 o : Nat} {xx yy : Int32} {h h1 : am_H} {v : Option Value} (hS : am_Sm env d 120 0 (am_loc0 [.ref p1, .int xx, .int yy] (am_mi 120).2.2.2.1) [] h (false, v, h1)) (henv : env.1 = false) (hle : h.1 ≤ h1.1) (hb1 : h1.1 ≤ 1000) (hp1 : p1 < h.1) (hKp : (am_K p1).1 = 10)
    (l : Launch) (hlt : l.stackTraces = false) (S0 : Nat) (ad : Nat → Nat) (cy : Nat → ClassId) (D : va_G) :
    Met l yL_reader (.codeWith yL_reader cL_reader 5 (some .int) [(0, 10, 13, 13)] :: vy_ws) (vy_rm (d + 1) (h1.1 - h.1 + 1) (am_sz h1.1 - am_sz h.1 + 20)) (vy_P S0 ad cy D env [.ref p1, .int xx, .int yy, .ref o] h) (am_Qcc S0 ad cy D (some (.int 1)) h1) (h1.1 - h.1 + 1) (am_sz h1.1 - am_sz h.1 + 20) (am_AA S0) := by
  refine vy_ofH (cc := cL_reader) (maxL := 5) (ret := (some .int)) (by decide) rfl ?_
  intro p e s m args below meth c s₁ B hml hv
  obtain ⟨⟨rfl, hST, hP, hsz⟩, hN⟩ := hv
  have hx := B.exec
  have hb := B.bytes
  have hr := B.returns
  have hts0 := atoms_spec (ws := .codeWith yL_reader cL_reader 5 (some .int) [(0, 10, 13, 13)] :: vy_ws) B.pre
  have hts : ∀ w ∈ vy_ws, w.before ([.ref (ad p1), .int xx, .int yy, .ref (ad o)] : List Value).toArray s = true := fun w hw => hts0 w (List.mem_cons_of_mem _ hw)
  have hts1 : ∀ w ∈ wsL_law0, w.before ([.ref (ad p1), .int xx, .int yy, .ref (ad o)] : List Value).toArray s = true := fun w hw => hts w (List.mem_append_left _ hw)
  have hown : s.vm.findClass RL = some m.cls := findClass_of_methodNamed B.named
  have htab : c.exceptionTable.toList = tableOf [(0, 10, 13, 13)] := vx_table (x := yL_reader) B (hts0 _ List.mem_cons_self)
  have hlocks := B.notSynchronized
  have hK := hST.1
  have had := hST.2.2.2.2.2.2.1
  obtain ⟨hcode, w1, w2⟩ := vy_inst hck (by decide)
  have hS0 : va_S (am_AA S0) s.heap s.heap [] := va_S.rf
  have hl := lv_entry ([.ref (ad p1), .int xx, .int yy, .ref (ad o)] : List Value) (n := 5) (Nat.le_of_ble_eq_true rfl)
  have hent := am_entry ad (vs := [.ref p1, .int xx, .int yy, .ref o]) (n := 5) (by show 4 ≤ 5; omega)
  have hent : am_lh ad ((lg_sl ([.ref (ad p1), .int xx, .int yy, .ref (ad o)] : List Value) ++ List.replicate (5 - (lg_sl ([.ref (ad p1), .int xx, .int yy, .ref (ad o)] : List Value)).length) Slot.unset).toArray) (am_loc0 [.ref p1, .int xx, .int yy, .ref o] 5) := hent
  show W p l e _ s m _ below meth c s.heap [] 0 0 _ (entryFrame m ([.ref (ad p1), .int xx, .int yy, .ref (ad o)] : List Value).toArray 5)
  rw [lg_entry_eq]
  generalize (lg_sl ([.ref (ad p1), .int xx, .int yy, .ref (ad o)] : List Value) ++ List.replicate (5 - (lg_sl ([.ref (ad p1), .int xx, .int yy, .ref (ad o)] : List Value)).length) Slot.unset).toArray = ls at hl hent ⊢
  have hl : lv_has ls 5 [(0, .ref (ad p1)), (1, .int xx), (2, .int yy), (3, .ref (ad o))] := hl
  refine lv_aload_n hx hb dx_rd_0 rfl (lv_at hl 3 rfl) ?_
  refine lv_iconst (v := 0) hx hb dx_rd_1 (by decide) ?_
  refine lv_aload_n hx hb dx_rd_2 rfl (lv_at hl 0 rfl) ?_
  refine lv_iload_n hx hb dx_rd_3 rfl (lv_at hl 1 rfl) ?_
  refine lv_iload_n hx hb dx_rd_4 rfl (lv_at hl 2 rfl) ?_
  have e1 : ad p1 = S0 + p1 := had p1 (by omega)
  have he : (am_ws S0 ad cy h)[p1]? = some (ad p1, .inr (10, (List.range (am_nf 10)).map (am_fv ad h p1 10))) := by rw [am_ws_at hp1, am_ce_obj hKp (by decide), e1]
  have hcw : CallW (headSpec (.codeWith yL_reader cL_reader 5 (some .int) [(0, 10, 13, 13)] :: vy_ws) (vy_rm (d + 1) (h1.1 - h.1 + 1) (am_sz h1.1 - am_sz h.1 + 20))).room s ([.ref (ad p1), .int xx, .int yy, .ref (ad o)] : List Value).toArray RL RX11 7 (am_mi 120).2.1 (am_mi 120).2.2.1 (am_mi 120).2.2.2.1 (am_mi 120).2.2.2.2.1 (vy_cw 120) (vy_rm d (h1.1 - h.1 + 1) (am_sz h1.1 - am_sz h.1 + 6)) (h1.1 - h.1 + 1) (am_sz h1.1 - am_sz h.1 + 6) 2 :=
    cwV 2 hts (vy_gi (fun w h => h) vy_wsg (List.mem_append_left _ ax_rdl) (List.mem_append_left _ w1) (List.mem_append_left _ w2) (List.mem_append_left _ ax_2) (List.mem_append_left _ hcode)) rfl rfl rfl ⟨rfl, by decide, by decide, by decide⟩ ⟨by show d + 8 + 1 ≤ d + 1 + 8; omega, by show 8 + (4 + 11) + 64 * (d + 8) ≤ 64 * (d + 1 + 8); omega⟩
  have hpre : PreV s s.heap RX11 (ad p1) (vy_P S0 ad cy D env [.ref p1, .int xx, .int yy] h) [.int xx, .int yy] := ⟨vy_blind, va_recv (q := (RX11, TX11, 17)) hK hP rfl he, fun U hU hW => ⟨⟨rfl, sq_moved hST hS0 hU hW, by rw [hU]; exact hP, fun q => by rw [henv] at q; cases q⟩, vy_n_moved hW hN⟩⟩
  have hr1 := vx_runV (p := p) (l := l) (e := e) (below := below) (meth := meth) (locs := []) (cells := 0) (slots := 0) (As := [.int xx, .int yy]) (rest := [.int 0, .ref (ad o)]) (b := ad p1) (g := F0 m 5 ls [.int yy, .int xx, .ref (ad p1), .int 0, .ref (ad o)]) (show CallFix p m c cL_reader 5 s _ vy_ws RL from ⟨hx, hb, hml, hown, hts⟩) (vy_met (Or.inl rfl) hck (by show 3 ≤ 4; omega) hS henv hle hb1 l hlt S0 ad cy D) hcw hpre rfl rfl hl.1 rfl (lv_room (Nat.le_of_ble_eq_true rfl)) dx_rd_5 ⟨by show 0 + (h1.1 - h.1 + 1) ≤ h1.1 - h.1 + 1; omega, by show 0 + (am_sz h1.1 - am_sz h.1 + 6) ≤ am_sz h1.1 - am_sz h.1 + 20; omega⟩
  intro T hT X
  rcases hr1 T hT X with ⟨v', st₀, t, T', L, h0, X', hL, z1, z2, hq, st⟩ | ⟨q9, st₀, t, T', L, E, ce, h0, X', hL, z1, z2, ⟨rfl, hP1, hF⟩, hce, hcv, hcl, st⟩
  · exact hq.elim
  · have hS1 : va_S (am_AA S0) s.heap T'.heap ([] ++ L) := ⟨by rw [z1, ← h0]; exact hF.1, fun q q1 q2 => by rw [z1, hF.2 q (by rw [h0]; exact q1) q2, h0], fun z hz => hL z (by rw [List.nil_append] at hz; exact hz)⟩
    obtain ⟨t2, a1, b1⟩ := vx_catch (Q := MQ below (am_Qcc S0 ad cy D (some (.int 1)) h1) ([.ref (ad p1), .int xx, .int yy, .ref (ad o)] : List Value).toArray s (h1.1 - h.1 + 1) (am_sz h1.1 - am_sz h.1 + 20) (am_AA S0)) (own := RL) (name := vy_X) (pc := 5) (ls := ls) (rest := [.int 0, .ref (ad o)]) hown [] ⟨0, 10, 13, 13⟩ [] (by rw [htab]; rfl) (fun z hz => nomatch hz) (by decide) (by decide) (hts1 _ ax_494) (vy_n_use hN (by simp [vy_n]) rfl) (by rw [z1]; exact hce) hcv hcl (by
      refine lv_astore (lv' := [(4, .ref q9), (0, .ref (ad p1)), (1, .int xx), (2, .int yy), (3, .ref (ad o))]) hx hb dx_rd_13 hl (by decide) rfl (fun ls' hl' => ?_)
      refine lv_iconst (v := 1) hx hb dx_rd_15 (by decide) ?_
      exact W.widen (k := h1.1 - h.1 + 1) (n := am_sz h1.1 - am_sz h.1 + 20) (by omega) (by omega) (W.iret hx hb hr (fun t ht hW => ⟨rfl, by rw [ht, z1]; exact hP1, hS1.F ht⟩) hS1.2.2 dx_rd_16 hlocks)) T' rfl X'
    exact ⟨t2, st.trans a1, b1⟩
set_option maxHeartbeats 4000000 in
theorem vy_rdR (hck : am_chk 120 = true) {env : am_E} {d p1 o : Nat} {xx yy : Int32} {h h1 : am_H} {v : Int32} {l : Launch} {S0 : Nat} {ad : Nat → Nat} {cy : Nat → ClassId} {D : va_G} (hM : am_Met l S0 ad cy D env d 120 [.ref p1, .int xx, .int yy] h (some (.int v)) h1) (henv : env.1 = false) (hle : h.1 ≤ h1.1) (hb1 : h1.1 ≤ 1000) (hp1 : p1 < h.1) (hKp : (am_K p1).1 = 10) (ho : o < h.1) (hKo : (am_K o).1 = 101) (hKn : (am_K o).2 = 1) :
    Met l yL_reader (.codeWith yL_reader cL_reader 5 (some .int) [(0, 10, 13, 13)] :: vy_ws) (vy_rm (d + 1) (h1.1 - h.1 + 1) (am_sz h1.1 - am_sz h.1 + 20)) (vy_P S0 ad cy D env [.ref p1, .int xx, .int yy, .ref o] h) (am_Qcc S0 ad cy D (some (.int 0)) (h1.1, h1.2.1, h1.2.2.1, am_u h1.2.2.2.1 o 0 v.toInt64, h1.2.2.2.2)) (h1.1 - h.1 + 1) (am_sz h1.1 - am_sz h.1 + 20) (am_AA S0) := by
  refine vy_ofH (cc := cL_reader) (maxL := 5) (ret := (some .int)) (by decide) rfl ?_
  intro p e s m args below meth c s₁ B hml hv
  obtain ⟨⟨rfl, hST, hP, hsz⟩, hN⟩ := hv
  have hx := B.exec
  have hb := B.bytes
  have hr := B.returns
  have hts0 := atoms_spec (ws := .codeWith yL_reader cL_reader 5 (some .int) [(0, 10, 13, 13)] :: vy_ws) B.pre
  have hts : ∀ w ∈ vy_ws, w.before ([.ref (ad p1), .int xx, .int yy, .ref (ad o)] : List Value).toArray s = true := fun w hw => hts0 w (List.mem_cons_of_mem _ hw)
  have hts1 : ∀ w ∈ wsL_law0, w.before ([.ref (ad p1), .int xx, .int yy, .ref (ad o)] : List Value).toArray s = true := fun w hw => hts w (List.mem_append_left _ hw)
  have hown : s.vm.findClass RL = some m.cls := findClass_of_methodNamed B.named
  have htab : c.exceptionTable.toList = tableOf [(0, 10, 13, 13)] := vx_table (x := yL_reader) B (hts0 _ List.mem_cons_self)
  have hlocks := B.notSynchronized
  have hK := hST.1
  have had := hST.2.2.2.2.2.2.1
  obtain ⟨hcode, w1, w2⟩ := vy_inst hck (by decide)
  have hS0 : va_S (am_AA S0) s.heap s.heap [] := va_S.rf
  have hl := lv_entry ([.ref (ad p1), .int xx, .int yy, .ref (ad o)] : List Value) (n := 5) (Nat.le_of_ble_eq_true rfl)
  have hent := am_entry ad (vs := [.ref p1, .int xx, .int yy, .ref o]) (n := 5) (by show 4 ≤ 5; omega)
  have hent : am_lh ad ((lg_sl ([.ref (ad p1), .int xx, .int yy, .ref (ad o)] : List Value) ++ List.replicate (5 - (lg_sl ([.ref (ad p1), .int xx, .int yy, .ref (ad o)] : List Value)).length) Slot.unset).toArray) (am_loc0 [.ref p1, .int xx, .int yy, .ref o] 5) := hent
  show W p l e _ s m _ below meth c s.heap [] 0 0 _ (entryFrame m ([.ref (ad p1), .int xx, .int yy, .ref (ad o)] : List Value).toArray 5)
  rw [lg_entry_eq]
  generalize (lg_sl ([.ref (ad p1), .int xx, .int yy, .ref (ad o)] : List Value) ++ List.replicate (5 - (lg_sl ([.ref (ad p1), .int xx, .int yy, .ref (ad o)] : List Value)).length) Slot.unset).toArray = ls at hl hent ⊢
  have hl : lv_has ls 5 [(0, .ref (ad p1)), (1, .int xx), (2, .int yy), (3, .ref (ad o))] := hl
  refine lv_aload_n hx hb dx_rd_0 rfl (lv_at hl 3 rfl) ?_
  refine lv_iconst (v := 0) hx hb dx_rd_1 (by decide) ?_
  refine lv_aload_n hx hb dx_rd_2 rfl (lv_at hl 0 rfl) ?_
  refine lv_iload_n hx hb dx_rd_3 rfl (lv_at hl 1 rfl) ?_
  refine lv_iload_n hx hb dx_rd_4 rfl (lv_at hl 2 rfl) ?_
  have e1 : ad p1 = S0 + p1 := had p1 (by omega)
  have he : (am_ws S0 ad cy h)[p1]? = some (ad p1, .inr (10, (List.range (am_nf 10)).map (am_fv ad h p1 10))) := by rw [am_ws_at hp1, am_ce_obj hKp (by decide), e1]
  have hcw : CallW (headSpec (.codeWith yL_reader cL_reader 5 (some .int) [(0, 10, 13, 13)] :: vy_ws) (vy_rm (d + 1) (h1.1 - h.1 + 1) (am_sz h1.1 - am_sz h.1 + 20))).room s ([.ref (ad p1), .int xx, .int yy, .ref (ad o)] : List Value).toArray RL RX11 7 (am_mi 120).2.1 (am_mi 120).2.2.1 (am_mi 120).2.2.2.1 (am_mi 120).2.2.2.2.1 (am_wsm 120) (am_rm d (h1.1 - h.1) (am_sz h1.1 - am_sz h.1)) (h1.1 - h.1) (am_sz h1.1 - am_sz h.1) 2 :=
    cwV 2 hts1 (vy_gi (fun w h => h) am_wsg ax_rdl w1 w2 ax_2 hcode) rfl rfl rfl ⟨rfl, by decide, by decide, by decide⟩ ⟨by show d + 8 + 1 ≤ d + 1 + 8; omega, by show 8 + (4 + 11) + 64 * (d + 8) ≤ 64 * (d + 1 + 8); omega⟩
  have hpre : PreV s s.heap RX11 (ad p1) (am_Pcc S0 ad cy D env [.ref p1, .int xx, .int yy] h) [.int xx, .int yy] := ⟨am_blind, va_recv (q := (RX11, TX11, 17)) hK hP rfl he, fun U hU hW => ⟨rfl, sq_moved hST hS0 hU hW, by rw [hU]; exact hP, fun q => by rw [henv] at q; cases q⟩⟩
  refine am_after (va_runV (As := [.int xx, .int yy]) (rest := [.int 0, .ref (ad o)]) (b := ad p1) (show CallFix p m c cL_reader 5 s _ wsL_law0 RL from ⟨hx, hb, hml, hown, hts1⟩) hM hcw hpre rfl rfl hl.1 rfl (lv_room (Nat.le_of_ble_eq_true rfl)) dx_rd_5 ⟨by show 0 + (h1.1 - h.1) ≤ h1.1 - h.1 + 1; omega, by show 0 + (am_sz h1.1 - am_sz h.1) ≤ am_sz h1.1 - am_sz h.1 + 20; omega⟩) hS0 ?_
  intro H1 locs1 hP1 hS1
  rw [Nat.zero_add, Nat.zero_add]
  show W p l e _ s m _ below meth c H1 locs1 (h1.1 - h.1) (am_sz h1.1 - am_sz h.1) _ (F0 m 8 ls [.int v, .int 0, .ref (ad o)])
  refine lv_i2l hx hb dx_rd_8 rfl ?_
  have hk : am_G p l e (headSpec (.codeWith yL_reader cL_reader 5 (some .int) [(0, 10, 13, 13)] :: vy_ws) (vy_rm (d + 1) (h1.1 - h.1 + 1) (am_sz h1.1 - am_sz h.1 + 20))).room s m ([.ref (ad p1), .int xx, .int yy, .ref (ad o)] : List Value).toArray below meth c (MQ below (am_Qcc S0 ad cy D (some (.int 0)) (h1.1, h1.2.1, h1.2.2.1, am_u h1.2.2.2.1 o 0 v.toInt64, h1.2.2.2.2)) ([.ref (ad p1), .int xx, .int yy, .ref (ad o)] : List Value).toArray s (h1.1 - h.1 + 1) (am_sz h1.1 - am_sz h.1 + 20) (am_AA S0)) S0 ad cy D h.1 5 0 0 (0, 0, 10, am_loc0 [.ref p1, .int xx, .int yy, .ref o] 5, [], (h1.1, h1.2.1, h1.2.2.1, am_u h1.2.2.2.1 o 0 v.toInt64, h1.2.2.2.2)) := by
    intro H2 locs2 ls2 hP2 hz2 hS2 hl2 hL2 hn2
    refine lv_goto (tgt := 17) hx hb dx_rd_10 (show (10 : Int) + 7 = 17 by decide) ?_
    refine lv_iconst (v := 0) hx hb dx_rd_17 (by decide) ?_
    exact W.widen (k := h1.1 - h.1 + 1) (n := am_sz h1.1 - am_sz h.1 + 20) (by show h1.1 - h.1 + 0 ≤ h1.1 - h.1 + 1; omega) (by show am_sz h1.1 - am_sz h.1 + 0 ≤ am_sz h1.1 - am_sz h.1 + 20; omega) (W.iret hx hb hr (fun t ht hW => ⟨rfl, by rw [ht]; exact hP2, hS2.F ht⟩) hS2.2.2 dx_rd_18 hlocks)
  have hgd : (decide (o < h1.1) && Nat.beq (am_K o).1 101 && am_in 0 (am_K o).2) = true := by
    rw [hKo, hKn, decide_eq_true (Nat.lt_of_lt_of_le ho hle)]
    decide
  have hlast := ag_last (d := 0) (mid := 0) (L := am_loc0 [.ref p1, .int xx, .int yy, .ref o] 5) (r := []) (q := o) (i := 0) (x := v.toInt64) (h := h1) hx hb hK had dx_rd_9 (by rw [hgd]; rfl) hk
  exact hlast H1 locs1 ls hP1 hb1 hS1 hent rfl hle
theorem ax_mn : Cond.codeWith yL_mean cL_mean 5 (some .int) [(0, 10, 13, 13)] ∈ wsL_law0 := am_wd_mem (i := 1118) (by decide +kernel)
theorem ax_mnl : Cond.methodLink RL 15 (am_mi 143).2.1 ∈ wsL_law0 := am_wd_mem (i := 1119) (by decide +kernel)
theorem ax_mns : Cond.static yL_mean ∈ wsL_law0 := am_wd_mem (i := 1117) (by decide +kernel)
theorem dx_mn_0 : decode cL_mean 0 = .ok (.aload_n 3, 1) := by decide +kernel
theorem dx_mn_1 : decode cL_mean 1 = .ok (.iconst 0, 1) := by decide +kernel
theorem dx_mn_2 : decode cL_mean 2 = .ok (.aload_n 0, 1) := by decide +kernel
theorem dx_mn_3 : decode cL_mean 3 = .ok (.iload_n 1, 1) := by decide +kernel
theorem dx_mn_4 : decode cL_mean 4 = .ok (.iload_n 2, 1) := by decide +kernel
theorem dx_mn_5 : decode cL_mean 5 = .ok (.invokevirtual 15, 3) := by decide +kernel
theorem dx_mn_8 : decode cL_mean 8 = .ok (.i2l, 1) := by decide +kernel
theorem dx_mn_9 : decode cL_mean 9 = .ok (.lastore, 1) := by decide +kernel
theorem dx_mn_10 : decode cL_mean 10 = .ok (.goto 7, 3) := by decide +kernel
theorem dx_mn_13 : decode cL_mean 13 = .ok (.astore 4, 2) := by decide +kernel
theorem dx_mn_15 : decode cL_mean 15 = .ok (.iconst 1, 1) := by decide +kernel
theorem dx_mn_16 : decode cL_mean 16 = .ok (.ireturn, 1) := by decide +kernel
theorem dx_mn_17 : decode cL_mean 17 = .ok (.iconst 0, 1) := by decide +kernel
theorem dx_mn_18 : decode cL_mean 18 = .ok (.ireturn, 1) := by decide +kernel
set_option maxHeartbeats 4000000 in
theorem vy_mnX (hck : am_chk 143 = true) {env : am_E} {d p1 o : Nat} {xx yy : Int32} {h h1 : am_H} {v : Option Value} (hS : am_Sm env d 143 0 (am_loc0 [.ref p1, .int xx, .int yy] (am_mi 143).2.2.2.1) [] h (false, v, h1)) (henv : env.1 = false) (hle : h.1 ≤ h1.1) (hb1 : h1.1 ≤ 1000) (hp1 : p1 < h.1) (hKp : (am_K p1).1 = 10)
    (l : Launch) (hlt : l.stackTraces = false) (S0 : Nat) (ad : Nat → Nat) (cy : Nat → ClassId) (D : va_G) :
    Met l yL_mean (.codeWith yL_mean cL_mean 5 (some .int) [(0, 10, 13, 13)] :: vy_ws) (vy_rm (d + 1) (h1.1 - h.1 + 1) (am_sz h1.1 - am_sz h.1 + 20)) (vy_P S0 ad cy D env [.ref p1, .int xx, .int yy, .ref o] h) (am_Qcc S0 ad cy D (some (.int 1)) h1) (h1.1 - h.1 + 1) (am_sz h1.1 - am_sz h.1 + 20) (am_AA S0) := by
  refine vy_ofH (cc := cL_mean) (maxL := 5) (ret := (some .int)) (by decide) rfl ?_
  intro p e s m args below meth c s₁ B hml hv
  obtain ⟨⟨rfl, hST, hP, hsz⟩, hN⟩ := hv
  have hx := B.exec
  have hb := B.bytes
  have hr := B.returns
  have hts0 := atoms_spec (ws := .codeWith yL_mean cL_mean 5 (some .int) [(0, 10, 13, 13)] :: vy_ws) B.pre
  have hts : ∀ w ∈ vy_ws, w.before ([.ref (ad p1), .int xx, .int yy, .ref (ad o)] : List Value).toArray s = true := fun w hw => hts0 w (List.mem_cons_of_mem _ hw)
  have hts1 : ∀ w ∈ wsL_law0, w.before ([.ref (ad p1), .int xx, .int yy, .ref (ad o)] : List Value).toArray s = true := fun w hw => hts w (List.mem_append_left _ hw)
  have hown : s.vm.findClass RL = some m.cls := findClass_of_methodNamed B.named
  have htab : c.exceptionTable.toList = tableOf [(0, 10, 13, 13)] := vx_table (x := yL_mean) B (hts0 _ List.mem_cons_self)
  have hlocks := B.notSynchronized
  have hK := hST.1
  have had := hST.2.2.2.2.2.2.1
  obtain ⟨hcode, w1, w2⟩ := vy_inst hck (by decide)
  have hS0 : va_S (am_AA S0) s.heap s.heap [] := va_S.rf
  have hl := lv_entry ([.ref (ad p1), .int xx, .int yy, .ref (ad o)] : List Value) (n := 5) (Nat.le_of_ble_eq_true rfl)
  have hent := am_entry ad (vs := [.ref p1, .int xx, .int yy, .ref o]) (n := 5) (by show 4 ≤ 5; omega)
  have hent : am_lh ad ((lg_sl ([.ref (ad p1), .int xx, .int yy, .ref (ad o)] : List Value) ++ List.replicate (5 - (lg_sl ([.ref (ad p1), .int xx, .int yy, .ref (ad o)] : List Value)).length) Slot.unset).toArray) (am_loc0 [.ref p1, .int xx, .int yy, .ref o] 5) := hent
  show W p l e _ s m _ below meth c s.heap [] 0 0 _ (entryFrame m ([.ref (ad p1), .int xx, .int yy, .ref (ad o)] : List Value).toArray 5)
  rw [lg_entry_eq]
  generalize (lg_sl ([.ref (ad p1), .int xx, .int yy, .ref (ad o)] : List Value) ++ List.replicate (5 - (lg_sl ([.ref (ad p1), .int xx, .int yy, .ref (ad o)] : List Value)).length) Slot.unset).toArray = ls at hl hent ⊢
  have hl : lv_has ls 5 [(0, .ref (ad p1)), (1, .int xx), (2, .int yy), (3, .ref (ad o))] := hl
  refine lv_aload_n hx hb dx_mn_0 rfl (lv_at hl 3 rfl) ?_
  refine lv_iconst (v := 0) hx hb dx_mn_1 (by decide) ?_
  refine lv_aload_n hx hb dx_mn_2 rfl (lv_at hl 0 rfl) ?_
  refine lv_iload_n hx hb dx_mn_3 rfl (lv_at hl 1 rfl) ?_
  refine lv_iload_n hx hb dx_mn_4 rfl (lv_at hl 2 rfl) ?_
  have e1 : ad p1 = S0 + p1 := had p1 (by omega)
  have he : (am_ws S0 ad cy h)[p1]? = some (ad p1, .inr (10, (List.range (am_nf 10)).map (am_fv ad h p1 10))) := by rw [am_ws_at hp1, am_ce_obj hKp (by decide), e1]
  have hcw : CallW (headSpec (.codeWith yL_mean cL_mean 5 (some .int) [(0, 10, 13, 13)] :: vy_ws) (vy_rm (d + 1) (h1.1 - h.1 + 1) (am_sz h1.1 - am_sz h.1 + 20))).room s ([.ref (ad p1), .int xx, .int yy, .ref (ad o)] : List Value).toArray RL RX11 15 (am_mi 143).2.1 (am_mi 143).2.2.1 (am_mi 143).2.2.2.1 (am_mi 143).2.2.2.2.1 (vy_cw 143) (vy_rm d (h1.1 - h.1 + 1) (am_sz h1.1 - am_sz h.1 + 6)) (h1.1 - h.1 + 1) (am_sz h1.1 - am_sz h.1 + 6) 2 :=
    cwV 2 hts (vy_gi (fun w h => h) vy_wsg (List.mem_append_left _ ax_mnl) (List.mem_append_left _ w1) (List.mem_append_left _ w2) (List.mem_append_left _ ax_2) (List.mem_append_left _ hcode)) rfl rfl rfl ⟨rfl, by decide, by decide, by decide⟩ ⟨by show d + 8 + 1 ≤ d + 1 + 8; omega, by show 8 + (7 + 11) + 64 * (d + 8) ≤ 64 * (d + 1 + 8); omega⟩
  have hpre : PreV s s.heap RX11 (ad p1) (vy_P S0 ad cy D env [.ref p1, .int xx, .int yy] h) [.int xx, .int yy] := ⟨vy_blind, va_recv (q := (RX11, TX11, 17)) hK hP rfl he, fun U hU hW => ⟨⟨rfl, sq_moved hST hS0 hU hW, by rw [hU]; exact hP, fun q => by rw [henv] at q; cases q⟩, vy_n_moved hW hN⟩⟩
  have hr1 := vx_runV (p := p) (l := l) (e := e) (below := below) (meth := meth) (locs := []) (cells := 0) (slots := 0) (As := [.int xx, .int yy]) (rest := [.int 0, .ref (ad o)]) (b := ad p1) (g := F0 m 5 ls [.int yy, .int xx, .ref (ad p1), .int 0, .ref (ad o)]) (show CallFix p m c cL_mean 5 s _ vy_ws RL from ⟨hx, hb, hml, hown, hts⟩) (vy_met (Or.inr rfl) hck (by show 3 ≤ 7; omega) hS henv hle hb1 l hlt S0 ad cy D) hcw hpre rfl rfl hl.1 rfl (lv_room (Nat.le_of_ble_eq_true rfl)) dx_mn_5 ⟨by show 0 + (h1.1 - h.1 + 1) ≤ h1.1 - h.1 + 1; omega, by show 0 + (am_sz h1.1 - am_sz h.1 + 6) ≤ am_sz h1.1 - am_sz h.1 + 20; omega⟩
  intro T hT X
  rcases hr1 T hT X with ⟨v', st₀, t, T', L, h0, X', hL, z1, z2, hq, st⟩ | ⟨q9, st₀, t, T', L, E, ce, h0, X', hL, z1, z2, ⟨rfl, hP1, hF⟩, hce, hcv, hcl, st⟩
  · exact hq.elim
  · have hS1 : va_S (am_AA S0) s.heap T'.heap ([] ++ L) := ⟨by rw [z1, ← h0]; exact hF.1, fun q q1 q2 => by rw [z1, hF.2 q (by rw [h0]; exact q1) q2, h0], fun z hz => hL z (by rw [List.nil_append] at hz; exact hz)⟩
    obtain ⟨t2, a1, b1⟩ := vx_catch (Q := MQ below (am_Qcc S0 ad cy D (some (.int 1)) h1) ([.ref (ad p1), .int xx, .int yy, .ref (ad o)] : List Value).toArray s (h1.1 - h.1 + 1) (am_sz h1.1 - am_sz h.1 + 20) (am_AA S0)) (own := RL) (name := vy_X) (pc := 5) (ls := ls) (rest := [.int 0, .ref (ad o)]) hown [] ⟨0, 10, 13, 13⟩ [] (by rw [htab]; rfl) (fun z hz => nomatch hz) (by decide) (by decide) (hts1 _ ax_494) (vy_n_use hN (by simp [vy_n]) rfl) (by rw [z1]; exact hce) hcv hcl (by
      refine lv_astore (lv' := [(4, .ref q9), (0, .ref (ad p1)), (1, .int xx), (2, .int yy), (3, .ref (ad o))]) hx hb dx_mn_13 hl (by decide) rfl (fun ls' hl' => ?_)
      refine lv_iconst (v := 1) hx hb dx_mn_15 (by decide) ?_
      exact W.widen (k := h1.1 - h.1 + 1) (n := am_sz h1.1 - am_sz h.1 + 20) (by omega) (by omega) (W.iret hx hb hr (fun t ht hW => ⟨rfl, by rw [ht, z1]; exact hP1, hS1.F ht⟩) hS1.2.2 dx_mn_16 hlocks)) T' rfl X'
    exact ⟨t2, st.trans a1, b1⟩
set_option maxHeartbeats 4000000 in
theorem vy_mnR (hck : am_chk 143 = true) {env : am_E} {d p1 o : Nat} {xx yy : Int32} {h h1 : am_H} {v : Int32} {l : Launch} {S0 : Nat} {ad : Nat → Nat} {cy : Nat → ClassId} {D : va_G} (hM : am_Met l S0 ad cy D env d 143 [.ref p1, .int xx, .int yy] h (some (.int v)) h1) (henv : env.1 = false) (hle : h.1 ≤ h1.1) (hb1 : h1.1 ≤ 1000) (hp1 : p1 < h.1) (hKp : (am_K p1).1 = 10) (ho : o < h.1) (hKo : (am_K o).1 = 101) (hKn : (am_K o).2 = 1) :
    Met l yL_mean (.codeWith yL_mean cL_mean 5 (some .int) [(0, 10, 13, 13)] :: vy_ws) (vy_rm (d + 1) (h1.1 - h.1 + 1) (am_sz h1.1 - am_sz h.1 + 20)) (vy_P S0 ad cy D env [.ref p1, .int xx, .int yy, .ref o] h) (am_Qcc S0 ad cy D (some (.int 0)) (h1.1, h1.2.1, h1.2.2.1, am_u h1.2.2.2.1 o 0 v.toInt64, h1.2.2.2.2)) (h1.1 - h.1 + 1) (am_sz h1.1 - am_sz h.1 + 20) (am_AA S0) := by
  refine vy_ofH (cc := cL_mean) (maxL := 5) (ret := (some .int)) (by decide) rfl ?_
  intro p e s m args below meth c s₁ B hml hv
  obtain ⟨⟨rfl, hST, hP, hsz⟩, hN⟩ := hv
  have hx := B.exec
  have hb := B.bytes
  have hr := B.returns
  have hts0 := atoms_spec (ws := .codeWith yL_mean cL_mean 5 (some .int) [(0, 10, 13, 13)] :: vy_ws) B.pre
  have hts : ∀ w ∈ vy_ws, w.before ([.ref (ad p1), .int xx, .int yy, .ref (ad o)] : List Value).toArray s = true := fun w hw => hts0 w (List.mem_cons_of_mem _ hw)
  have hts1 : ∀ w ∈ wsL_law0, w.before ([.ref (ad p1), .int xx, .int yy, .ref (ad o)] : List Value).toArray s = true := fun w hw => hts w (List.mem_append_left _ hw)
  have hown : s.vm.findClass RL = some m.cls := findClass_of_methodNamed B.named
  have htab : c.exceptionTable.toList = tableOf [(0, 10, 13, 13)] := vx_table (x := yL_mean) B (hts0 _ List.mem_cons_self)
  have hlocks := B.notSynchronized
  have hK := hST.1
  have had := hST.2.2.2.2.2.2.1
  obtain ⟨hcode, w1, w2⟩ := vy_inst hck (by decide)
  have hS0 : va_S (am_AA S0) s.heap s.heap [] := va_S.rf
  have hl := lv_entry ([.ref (ad p1), .int xx, .int yy, .ref (ad o)] : List Value) (n := 5) (Nat.le_of_ble_eq_true rfl)
  have hent := am_entry ad (vs := [.ref p1, .int xx, .int yy, .ref o]) (n := 5) (by show 4 ≤ 5; omega)
  have hent : am_lh ad ((lg_sl ([.ref (ad p1), .int xx, .int yy, .ref (ad o)] : List Value) ++ List.replicate (5 - (lg_sl ([.ref (ad p1), .int xx, .int yy, .ref (ad o)] : List Value)).length) Slot.unset).toArray) (am_loc0 [.ref p1, .int xx, .int yy, .ref o] 5) := hent
  show W p l e _ s m _ below meth c s.heap [] 0 0 _ (entryFrame m ([.ref (ad p1), .int xx, .int yy, .ref (ad o)] : List Value).toArray 5)
  rw [lg_entry_eq]
  generalize (lg_sl ([.ref (ad p1), .int xx, .int yy, .ref (ad o)] : List Value) ++ List.replicate (5 - (lg_sl ([.ref (ad p1), .int xx, .int yy, .ref (ad o)] : List Value)).length) Slot.unset).toArray = ls at hl hent ⊢
  have hl : lv_has ls 5 [(0, .ref (ad p1)), (1, .int xx), (2, .int yy), (3, .ref (ad o))] := hl
  refine lv_aload_n hx hb dx_mn_0 rfl (lv_at hl 3 rfl) ?_
  refine lv_iconst (v := 0) hx hb dx_mn_1 (by decide) ?_
  refine lv_aload_n hx hb dx_mn_2 rfl (lv_at hl 0 rfl) ?_
  refine lv_iload_n hx hb dx_mn_3 rfl (lv_at hl 1 rfl) ?_
  refine lv_iload_n hx hb dx_mn_4 rfl (lv_at hl 2 rfl) ?_
  have e1 : ad p1 = S0 + p1 := had p1 (by omega)
  have he : (am_ws S0 ad cy h)[p1]? = some (ad p1, .inr (10, (List.range (am_nf 10)).map (am_fv ad h p1 10))) := by rw [am_ws_at hp1, am_ce_obj hKp (by decide), e1]
  have hcw : CallW (headSpec (.codeWith yL_mean cL_mean 5 (some .int) [(0, 10, 13, 13)] :: vy_ws) (vy_rm (d + 1) (h1.1 - h.1 + 1) (am_sz h1.1 - am_sz h.1 + 20))).room s ([.ref (ad p1), .int xx, .int yy, .ref (ad o)] : List Value).toArray RL RX11 15 (am_mi 143).2.1 (am_mi 143).2.2.1 (am_mi 143).2.2.2.1 (am_mi 143).2.2.2.2.1 (am_wsm 143) (am_rm d (h1.1 - h.1) (am_sz h1.1 - am_sz h.1)) (h1.1 - h.1) (am_sz h1.1 - am_sz h.1) 2 :=
    cwV 2 hts1 (vy_gi (fun w h => h) am_wsg ax_mnl w1 w2 ax_2 hcode) rfl rfl rfl ⟨rfl, by decide, by decide, by decide⟩ ⟨by show d + 8 + 1 ≤ d + 1 + 8; omega, by show 8 + (7 + 11) + 64 * (d + 8) ≤ 64 * (d + 1 + 8); omega⟩
  have hpre : PreV s s.heap RX11 (ad p1) (am_Pcc S0 ad cy D env [.ref p1, .int xx, .int yy] h) [.int xx, .int yy] := ⟨am_blind, va_recv (q := (RX11, TX11, 17)) hK hP rfl he, fun U hU hW => ⟨rfl, sq_moved hST hS0 hU hW, by rw [hU]; exact hP, fun q => by rw [henv] at q; cases q⟩⟩
  refine am_after (va_runV (As := [.int xx, .int yy]) (rest := [.int 0, .ref (ad o)]) (b := ad p1) (show CallFix p m c cL_mean 5 s _ wsL_law0 RL from ⟨hx, hb, hml, hown, hts1⟩) hM hcw hpre rfl rfl hl.1 rfl (lv_room (Nat.le_of_ble_eq_true rfl)) dx_mn_5 ⟨by show 0 + (h1.1 - h.1) ≤ h1.1 - h.1 + 1; omega, by show 0 + (am_sz h1.1 - am_sz h.1) ≤ am_sz h1.1 - am_sz h.1 + 20; omega⟩) hS0 ?_
  intro H1 locs1 hP1 hS1
  rw [Nat.zero_add, Nat.zero_add]
  show W p l e _ s m _ below meth c H1 locs1 (h1.1 - h.1) (am_sz h1.1 - am_sz h.1) _ (F0 m 8 ls [.int v, .int 0, .ref (ad o)])
  refine lv_i2l hx hb dx_mn_8 rfl ?_
  have hk : am_G p l e (headSpec (.codeWith yL_mean cL_mean 5 (some .int) [(0, 10, 13, 13)] :: vy_ws) (vy_rm (d + 1) (h1.1 - h.1 + 1) (am_sz h1.1 - am_sz h.1 + 20))).room s m ([.ref (ad p1), .int xx, .int yy, .ref (ad o)] : List Value).toArray below meth c (MQ below (am_Qcc S0 ad cy D (some (.int 0)) (h1.1, h1.2.1, h1.2.2.1, am_u h1.2.2.2.1 o 0 v.toInt64, h1.2.2.2.2)) ([.ref (ad p1), .int xx, .int yy, .ref (ad o)] : List Value).toArray s (h1.1 - h.1 + 1) (am_sz h1.1 - am_sz h.1 + 20) (am_AA S0)) S0 ad cy D h.1 5 0 0 (0, 0, 10, am_loc0 [.ref p1, .int xx, .int yy, .ref o] 5, [], (h1.1, h1.2.1, h1.2.2.1, am_u h1.2.2.2.1 o 0 v.toInt64, h1.2.2.2.2)) := by
    intro H2 locs2 ls2 hP2 hz2 hS2 hl2 hL2 hn2
    refine lv_goto (tgt := 17) hx hb dx_mn_10 (show (10 : Int) + 7 = 17 by decide) ?_
    refine lv_iconst (v := 0) hx hb dx_mn_17 (by decide) ?_
    exact W.widen (k := h1.1 - h.1 + 1) (n := am_sz h1.1 - am_sz h.1 + 20) (by show h1.1 - h.1 + 0 ≤ h1.1 - h.1 + 1; omega) (by show am_sz h1.1 - am_sz h.1 + 0 ≤ am_sz h1.1 - am_sz h.1 + 20; omega) (W.iret hx hb hr (fun t ht hW => ⟨rfl, by rw [ht]; exact hP2, hS2.F ht⟩) hS2.2.2 dx_mn_18 hlocks)
  have hgd : (decide (o < h1.1) && Nat.beq (am_K o).1 101 && am_in 0 (am_K o).2) = true := by
    rw [hKo, hKn, decide_eq_true (Nat.lt_of_lt_of_le ho hle)]
    decide
  have hlast := ag_last (d := 0) (mid := 0) (L := am_loc0 [.ref p1, .int xx, .int yy, .ref o] 5) (r := []) (q := o) (i := 0) (x := v.toInt64) (h := h1) hx hb hK had dx_mn_9 (by rw [hgd]; rfl) hk
  exact hlast H1 locs1 ls hP1 hb1 hS1 hent rfl hle
