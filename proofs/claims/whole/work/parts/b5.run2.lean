/-! the law's run once more: its own reader and mean with the room of what they leave -/
def am_TR2 (env : am_E) (p : Program) (l : Launch) (e : Env) (R : Room) (s : State) (m : MethodId) (args : Array Value) (below : List Frame) (meth : Method) (c : Code) (Q : State → Prop) (S0 : Nat) (ad : Nat → Nat) (cy : Nat → ClassId) (D : va_G) (n0 nL : Nat) (d mid : Nat) : Prop :=
  ∀ (pc i len a b cp q d1 o p1 cx sx : Nat) (L : am_L) (yy xx : Int32) (r : List Value) (h : am_H) (r1 : am_R) (t : am_S), am_cd mid pc = some (.invokestatic i, len, a, b, cp) → (a = 9006 ∧ q = 120 ∨ a = 9007 ∧ q = 143) → d = d1 + 2 → o < h.1 → (am_K o).1 = 101 → (am_K o).2 = 1 → p1 < h.1 → (am_K p1).1 = 10 → am_cats r ≤ 8 →
    am_ev env (d1, q, 0, am_loc0 [.ref p1, .int xx, .int yy] (am_mi q).2.2.2.1, [], h) = some r1 → am_tryK d mid pc L r o r1 = some t → r1.2.2.1 - n0 + cx + 1 ≤ R.cells ∧ am_sz r1.2.2.1 - am_sz n0 + sx + 20 ≤ R.slots → r1.2.2.1 ≤ 1000 →
    am_G p l e R s m args below meth c Q S0 ad cy D n0 nL (cx + 1) (sx + 20) t → am_G p l e R s m args below meth c Q S0 ad cy D n0 nL cx sx (d, mid, pc, L, .ref o :: .int yy :: .int xx :: .ref p1 :: r, h)
theorem vy_lnk {i b cp a : Nat} (ha : a = 9006 ∨ a = 9007) (hlk : am_lnk 304 (.invokestatic i) a b cp = true) : (a = 9006 ∧ Cond.methodLink (am_mi 304).1 i yL_reader ∈ wsL_law0) ∨ (a = 9007 ∧ Cond.methodLink (am_mi 304).1 i yL_mean ∈ wsL_law0) := by
  have hlk : ((Nat.blt a 9000 && Nat.blt a 304 && Nat.beq (am_mp a).2.2.2.2 1 && am_mlk (am_mi 304).1 i (am_mi a).2.1 cp && am_nar (am_mi a).2.1 b) || ((Nat.beq a 9000 || Nat.beq a 9010) && am_wd cp (.methodLink (am_mi 304).1 i arraycopyName)) || (Nat.beq a 9008 && am_wd cp (.methodLink (am_mi 304).1 i Lib.Math.min.name)) || (Nat.beq a 9009 && am_wd cp (.methodLink (am_mi 304).1 i Lib.Math.max.name)) || (Nat.beq a 9004 && am_wd cp (.methodLink (am_mi 304).1 i yX10_of)) || (Nat.beq a 9006 && Nat.beq 304 304 && am_wd cp (.methodLink (am_mi 304).1 i yL_reader)) || (Nat.beq a 9007 && Nat.beq 304 304 && am_wd cp (.methodLink (am_mi 304).1 i yL_mean))) = true := hlk
  rcases am_or hlk with q | q
  · rcases am_or q with q | q
    · exfalso
      rcases am_or q with q | q
      · rcases am_or q with q | q
        · rcases am_or q with q | q
          · rcases am_or q with q | q
            · have := am_blt (am_and3 (am_and3 (am_and3 (am_and3 q).1).1).1).1; omega
            · rcases am_or (am_and3 q).1 with z | z
              · have := Nat.eq_of_beq_eq_true z; omega
              · have := Nat.eq_of_beq_eq_true z; omega
          · have := Nat.eq_of_beq_eq_true (am_and3 q).1; omega
        · have := Nat.eq_of_beq_eq_true (am_and3 q).1; omega
      · have := Nat.eq_of_beq_eq_true (am_and3 q).1; omega
    · exact Or.inl ⟨Nat.eq_of_beq_eq_true (am_and3 (am_and3 q).1).1, am_wd_mem (am_and3 q).2⟩
  · exact Or.inr ⟨Nat.eq_of_beq_eq_true (am_and3 (am_and3 q).1).1, am_wd_mem (am_and3 q).2⟩
theorem vy_gis {Ts ws : List Cond} {own : String} {idx : Nat} {y : MethodName} (hT : ∀ w ∈ ws, w ∈ Ts) (hg : ∀ w ∈ ws, (w.onTables && w.keeps) = true ∨ ∃ ty, w = Cond.arrayClass ty) (h1 : Cond.methodLink own idx y ∈ ws) (h2 : Cond.static y ∈ ws) (h3 : Cond.initialized y.cls ∈ ws) {c0 : Cond} (h5 : c0 ∈ ws) : GoodIn Ts (va_wsS own idx y (c0 :: ws)) := by
  have key : ∀ w, w ∈ ws → w ∈ Ts ∧ ((w.onTables && w.keeps) = true ∨ ∃ ty, w = Cond.arrayClass ty) := fun w h => ⟨hT w h, hg w h⟩
  intro w hw
  refine key w ?_
  rcases List.mem_append.mp hw with hw | hw
  · rcases List.mem_cons.mp hw with rfl | hw
    · exact h1
    rcases List.mem_cons.mp hw with rfl | hw
    · exact h2
    rcases List.mem_cons.mp hw with rfl | hw
    · exact h3
    · cases hw
  · rcases List.mem_cons.mp hw with rfl | hw
    · exact h5
    · exact hw
set_option maxHeartbeats 4000000 in
/-- a call of the law's own: behind its contract -/
theorem vy_own {p : Program} {l : Launch} {e : Env} {R : Room} {s : State} {m : MethodId} {args : Array Value} {below : List Frame} {meth : Method} {c : Code} {Q : State → Prop} {S0 : Nat} {ad : Nat → Nat} {cy : Nat → ClassId} {D : va_G} {n0 nL cx sx : Nat} {env : am_E} {d1 pc i p1 o : Nat} {xx yy : Int32} {L : am_L} {r : List Value} {h h1 : am_H} {v : Value}
    (HW : ∀ w ∈ wsL_law0, w ∈ lw_tbl) (henv : env.1 = false) (hnL : nL = (am_mi 304).2.2.2.1) (hts : ∀ w ∈ lw_tbl, w.before args s = true) (C0 : am_C p R s m args meth c S0 ad cy D env (d1 + 2) 304) {y : MethodName} {cc : ByteArray} (hy : y.cls = RL) (hyd : y.cls ≠ "java/lang/invoke/MethodHandle" ∧ y.cls ≠ "java/lang/invoke/VarHandle" ∧ (parseMethodDescriptor y.desc).map (fun d => d.parameters.length) = some 4)
    (hcw : Cond.codeWith y cc 5 (some .int) [(0, 10, 13, 13)] ∈ wsL_law0) (hst : Cond.static y ∈ wsL_law0) (hlink : Cond.methodLink (am_mi 304).1 i y ∈ wsL_law0) (hdec : decode (am_mi 304).2.2.1 pc = .ok (.invokestatic i, 3)) (hr8 : am_cats r ≤ 8) (hle : h.1 ≤ h1.1)
    (hM : Met l y (.codeWith y cc 5 (some .int) [(0, 10, 13, 13)] :: vy_ws) (vy_rm (d1 + 1) (h1.1 - h.1 + 1) (am_sz h1.1 - am_sz h.1 + 20)) (vy_P S0 ad cy D env [.ref p1, .int xx, .int yy, .ref o] h) (am_Qcc S0 ad cy D (some v) h1) (h1.1 - h.1 + 1) (am_sz h1.1 - am_sz h.1 + 20) (am_AA S0))
    (hrm : h1.1 - n0 + cx + 1 ≤ R.cells ∧ am_sz h1.1 - am_sz n0 + sx + 20 ≤ R.slots) (hb1 : h1.1 ≤ 1000) (k : am_G p l e R s m args below meth c Q S0 ad cy D n0 nL (cx + 1) (sx + 20) (d1 + 2, 304, pc + 3, L, v :: r, h1)) : am_G p l e R s m args below meth c Q S0 ad cy D n0 nL cx sx (d1 + 2, 304, pc, L, .ref o :: .int yy :: .int xx :: .ref p1 :: r, h) := by
  obtain ⟨⟨hx, hb, hml, hown⟩, hts0, hST, ⟨hfr, hlo⟩, hmn⟩ := id C0
  intro H locs ls hP hz hS hl hL hn
  have hn : n0 ≤ h.1 := hn
  have hlsz : (F0 m pc ls ((Value.ref o :: .int yy :: .int xx :: .ref p1 :: r).map (am_cv ad))).locals.size = nL := by rw [← hL]; exact hl.1
  have hT : ∀ w ∈ vy_ws, w ∈ lw_tbl := fun w hw => by
    rcases List.mem_append.mp hw with q | q
    · exact HW w q
    · exact of_decide_eq_true (List.all_eq_true.mp vy_in w (List.mem_filter.mp q).1)
  have hN : ∀ w ∈ vy_n, va_Nw w s := fun w hw => by
    have h1 := hts w (of_decide_eq_true (List.all_eq_true.mp vy_in w (of_decide_eq_true (List.all_eq_true.mp vy_nin w hw))))
    have ht : w.onTables = true := by
      unfold vy_n at hw
      rcases List.mem_cons.mp hw with rfl | hw
      · rfl
      rcases List.mem_cons.mp hw with rfl | hw
      · rfl
      rcases List.mem_cons.mp hw with rfl | hw
      · rfl
      rcases List.mem_cons.mp hw with rfl | hw
      · rfl
      · cases hw
    exact va_tabs ht rfl h1
  have hmz := am_sz_mono hn
  have hmz2 := am_sz_mono hle
  have hr1 := hrm.1
  have hr2 := hrm.2
  refine am_after (h' := h1) (v := some v) (vx_runSW (hh := [(0, 10, 13, 13)]) (bytes := cc) (maxL := 5) (ret := some .int) (n := 4) (index := i) (own := (am_mi 304).1) (As := [.ref (ad p1), .int xx, .int yy, .ref (ad o)]) (rest := r.map (am_cv ad)) (show CallFix p m c (am_mi 304).2.2.1 nL s args lw_tbl (am_mi 304).1 from ⟨hx, hb, by rw [hml, hnL], hown, hts⟩) hM
    (vx_cwSW 4 hts (vy_gis hT vy_wsg (List.mem_append_left _ hlink) (List.mem_append_left _ hst) (List.mem_append_left _ (by rw [hy]; exact ax_492)) (List.mem_append_left _ hcw)) rfl rfl rfl hyd ⟨?_, ?_⟩)
    ⟨vy_blind, fun U hU hW => ⟨⟨rfl, sq_moved hST hS hU hW, by rw [hU]; exact hP, fun q => by rw [henv] at q; cases q⟩, vy_n_moved hW hN⟩⟩ rfl rfl hlsz rfl (lv_room (by rw [am_cats_cv]; exact hr8)) hdec ⟨?_, ?_⟩) hS ?_
  · show d1 + 1 + 8 + 1 ≤ R.frames
    omega
  · show 8 + (5 + 11) + 64 * (d1 + 1 + 8) ≤ R.locals
    refine Nat.le_trans ?_ hlo
    have e9 : 64 * (d1 + 2 + 8) = 64 * (d1 + 1 + 8) + 64 := by rw [show d1 + 2 + 8 = (d1 + 1 + 8) + 1 from rfl, Nat.mul_succ]
    rw [e9]
    exact Nat.le_trans (Nat.add_le_add_right (show 8 + (5 + 11) ≤ 64 by decide) _) (Nat.le_of_eq (Nat.add_comm _ _))
  · show h.1 - n0 + cx + (h1.1 - h.1 + 1) ≤ R.cells
    omega
  · show am_sz h.1 - am_sz n0 + sx + (am_sz h1.1 - am_sz h.1 + 20) ≤ R.slots
    omega
  · intro H1 locs1 hP1 hS1
    have hk := k H1 locs1 ls hP1 hb1 hS1 hl hL (Nat.le_trans hn hle)
    dsimp only at hk
    have q1 : h1.1 - n0 + (cx + 1) = h.1 - n0 + cx + (h1.1 - h.1 + 1) := by omega
    have q2 : am_sz h1.1 - am_sz n0 + (sx + 20) = am_sz h.1 - am_sz n0 + sx + (am_sz h1.1 - am_sz h.1 + 20) := by omega
    rw [q1, q2] at hk
    exact hk
theorem vy_fl {l : Launch} (h : l.flags = flags0) : l.stackTraces = false := by
  unfold Launch.stackTraces
  rw [h]
  decide
set_option maxHeartbeats 4000000 in
theorem am_HT2 (HC : ∀ a, a < 304 → am_chk a = true) (HL : am_chkT 304 0 (am_tab 304) = true) (HW : ∀ w ∈ wsL_law0, w ∈ lw_tbl) : ∀ (env : am_E) (p : Program) (l : Launch) (e : Env) (R : Room) (s : State) (m : MethodId) (args : Array Value) (below : List Frame) (meth : Method) (c : Code) (Q : State → Prop) (S0 : Nat) (ad : Nat → Nat) (cy : Nat → ClassId) (D : va_G) (n0 nL d : Nat), env.1 = false → nL = (am_mi 304).2.2.2.1 → l.flags = flags0 → (∀ w ∈ lw_tbl, w.before args s = true) → am_C p R s m args meth c S0 ad cy D env d 304 → am_TR2 env p l e R s m args below meth c Q S0 ad cy D n0 nL d 304 := by
  intro env p l e R s m args below meth c Q S0 ad cy D n0 nL d henv hnL hfl hts C0 pc i len a b cp q d1 o p1 cx sx L yy xx r h r1 t hcd hq hd ho hKo hKn hp1 hKp hr8 hev htk hrm hb1 k
  subst hd
  obtain ⟨n, hn1⟩ := (am_ev_iff env _ _).mp hev
  have i1 : h.1 ≤ r1.2.2.1 := am_mono env n _ _ hn1
  obtain ⟨hdec, hlk⟩ := am_cd_use HL hcd
  have hlt := vy_fl hfl
  obtain ⟨rb, rv, rh⟩ := r1
  have i1 : h.1 ≤ rh.1 := i1
  rcases hq with ⟨rfl, rfl⟩ | ⟨rfl, rfl⟩
  · have hlink : Cond.methodLink (am_mi 304).1 i yL_reader ∈ wsL_law0 := by
      rcases vy_lnk (Or.inl rfl) hlk with ⟨-, q⟩ | ⟨q, -⟩
      · exact q
      · cases q
    have hck := HC 120 (by decide)
    have hSm := am_sim_open env HC (am_HP_all env) n d1 120 0 _ [] h (rb, rv, rh) hn1 (by decide)
    cases rb with
    | false =>
      have htk : some ((d1 + 2, 304, pc + 3, L, .int 1 :: r, rh) : am_S) = some t := htk
      cases htk
      exact vy_own HW henv hnL hts C0 rfl ⟨by decide, by decide, by decide⟩ ax_rd ax_rds hlink hdec hr8 i1 (vy_rdX hck hSm henv i1 hb1 hp1 hKp l hlt S0 ad cy D) hrm hb1 k
    | true =>
      cases rv with
      | none => cases htk
      | some w =>
        cases w with
        | int v =>
          have htk : some ((d1 + 2, 304, pc + 3, L, .int 0 :: r, (rh.1, rh.2.1, rh.2.2.1, am_u rh.2.2.2.1 o 0 v.toInt64, rh.2.2.2.2)) : am_S) = some t := htk
          cases htk
          exact vy_own (h1 := (rh.1, rh.2.1, rh.2.2.1, am_u rh.2.2.2.1 o 0 v.toInt64, rh.2.2.2.2)) HW henv hnL hts C0 rfl ⟨by decide, by decide, by decide⟩ ax_rd ax_rds hlink hdec hr8 i1 (vy_rdR hck (am_met_of hck (by show 3 ≤ 4; omega) hSm i1 hb1 l S0 ad cy D) henv i1 hb1 hp1 hKp ho hKo hKn) hrm hb1 k
        | _ => cases htk
  · have hlink : Cond.methodLink (am_mi 304).1 i yL_mean ∈ wsL_law0 := by
      rcases vy_lnk (Or.inr rfl) hlk with ⟨q, -⟩ | ⟨-, q⟩
      · cases q
      · exact q
    have hck := HC 143 (by decide)
    have hSm := am_sim_open env HC (am_HP_all env) n d1 143 0 _ [] h (rb, rv, rh) hn1 (by decide)
    cases rb with
    | false =>
      have htk : some ((d1 + 2, 304, pc + 3, L, .int 1 :: r, rh) : am_S) = some t := htk
      cases htk
      exact vy_own HW henv hnL hts C0 rfl ⟨by decide, by decide, by decide⟩ ax_mn ax_mns hlink hdec hr8 i1 (vy_mnX hck hSm henv i1 hb1 hp1 hKp l hlt S0 ad cy D) hrm hb1 k
    | true =>
      cases rv with
      | none => cases htk
      | some w =>
        cases w with
        | int v =>
          have htk : some ((d1 + 2, 304, pc + 3, L, .int 0 :: r, (rh.1, rh.2.1, rh.2.2.1, am_u rh.2.2.2.1 o 0 v.toInt64, rh.2.2.2.2)) : am_S) = some t := htk
          cases htk
          exact vy_own (h1 := (rh.1, rh.2.1, rh.2.2.1, am_u rh.2.2.2.1 o 0 v.toInt64, rh.2.2.2.2)) HW henv hnL hts C0 rfl ⟨by decide, by decide, by decide⟩ ax_mn ax_mns hlink hdec hr8 i1 (vy_mnR hck (am_met_of hck (by show 3 ≤ 7; omega) hSm i1 hb1 l S0 ad cy D) henv i1 hb1 hp1 hKp ho hKo hKn) hrm hb1 k
        | _ => cases htk
def am_Pure2 : Prop := ∀ (L : Nat) (xs : Nat → Int32), L ≤ 3072 → ∃ (n1 n2 pc1 : Nat) (L1 L2 : am_L) (st1 : List Value) (h1 h1' h2 : am_H),
  am_lo (true, L, xs) n1 (100, 304, 0, am_loc0 [.ref 60000] 7, [], am_h0) = some (100, 304, pc1, L1, st1, h1) ∧ (h1.1 = h1'.1 ∧ ∀ (S0 : Nat) (ad : Nat → Nat) (cy : Nat → ClassId) (D : va_G) (H : Heap), va_P D am_cl (am_ws S0 ad cy h1) H → va_P D am_cl (am_ws S0 ad cy h1') H) ∧ am_lr (false, L, xs) n2 (100, 304, pc1, L1, st1, h1') = some (100, 304, 1345, L2, [.int 1], h2) ∧ h2.1 = 179 ∧ n2 ≤ 300000
theorem am_G_same2 {p : Program} {l : Launch} {e : Env} {R : Room} {s : State} {m : MethodId} {args : Array Value} {below : List Frame} {meth : Method} {c : Code} {Q : State → Prop} {S0 : Nat} {ad : Nat → Nat} {cy : Nat → ClassId} {D : va_G} {n0 nL cx sx d mid pc : Nat} {L : am_L} {st : List Value} {h h' : am_H} (h1 : h.1 = h'.1) (h2 : ∀ H, va_P D am_cl (am_ws S0 ad cy h) H → va_P D am_cl (am_ws S0 ad cy h') H)
    (k : am_G p l e R s m args below meth c Q S0 ad cy D n0 nL cx sx (d, mid, pc, L, st, h')) : am_G p l e R s m args below meth c Q S0 ad cy D n0 nL cx sx (d, mid, pc, L, st, h) := by
  intro H locs ls hP hz hS hl hL hn
  dsimp only at hP hz hn ⊢
  have hP := h2 H hP
  rw [h1] at hz hn ⊢
  exact k H locs ls hP hz hS hl hL hn
section AML3
variable {p : Program} {l : Launch} {e : Env} {R : Room} {s : State} {m : MethodId} {args : Array Value} {below : List Frame} {meth : Method} {c : Code} {Q : State → Prop} {S0 : Nat} {ad : Nat → Nat} {cy : Nat → ClassId} {D : va_G} {n0 nL cx sx : Nat} {env : am_E}
theorem al_run2 (HC : ∀ a, a < 304 → am_chk a = true) (HL : am_chkT 304 0 (am_tab 304) = true)
    (HP : ∀ (p : Program) (l : Launch) (e : Env) (R : Room) (s : State) (m : MethodId) (args : Array Value) (below : List Frame) (meth : Method) (c : Code) (Q : State → Prop) (S0 : Nat) (ad : Nat → Nat) (cy : Nat → ClassId) (D : va_G) (n0 nL cx sx d mid : Nat), am_C p R s m args meth c S0 ad cy D env d mid → nL = (am_mi mid).2.2.2.1 → am_PR p l e R s m args below meth c Q S0 ad cy D n0 nL cx sx d mid)
    (HT : ∀ d, am_C p R s m args meth c S0 ad cy D env d 304 → am_TR2 env p l e R s m args below meth c Q S0 ad cy D n0 nL d 304) (ho : env.1 = false)
    {d : Nat} (C0 : am_C p R s m args meth c S0 ad cy D env d 304) (hnL : nL = (am_mi 304).2.2.2.1) {t : am_S} (hb1 : t.2.2.2.2.2.1 ≤ 1000) {nn : Nat} (hrm : t.2.2.2.2.2.1 - n0 + (cx + nn + 1) ≤ R.cells ∧ am_sz t.2.2.2.2.2.1 - am_sz n0 + (sx + 20 * (nn + 1)) ≤ R.slots) :
    ∀ (n cx' sx' pc : Nat) (L : am_L) (st : List Value) (h : am_H), am_lr env n (d, 304, pc, L, st, h) = some t → cx' + n ≤ cx + nn → sx' + 20 * n ≤ sx + 20 * nn → am_G p l e R s m args below meth c Q S0 ad cy D n0 nL (cx' + n) (sx' + 20 * n) t → h.1 ≤ t.2.2.2.2.2.1 ∧ am_G p l e R s m args below meth c Q S0 ad cy D n0 nL cx' sx' (d, 304, pc, L, st, h) := by
  intro n
  induction n with
  | zero =>
    intro cx' sx' pc L st h hr hc hs k
    cases hr
    exact ⟨Nat.le_refl _, k⟩
  | succ n ih =>
    intro cx' sx' pc L st h hr hc hs k
    replace hr : (am_ls env (d, 304, pc, L, st, h)).bind (am_lr env n) = some t := hr
    cases hls : am_ls env (d, 304, pc, L, st, h) with
    | none => rw [hls] at hr; cases hr
    | some u =>
      rw [hls] at hr
      have hls0 := hls
      obtain ⟨e1, e2, e3⟩ := am_ls_same hls
      obtain ⟨ud, um, upc, uL, ust, uh⟩ := u
      replace e1 : ud = d := e1
      replace e2 : um = 304 := e2
      subst e1
      subst e2
      replace hr : am_lr env n (ud, 304, upc, uL, ust, uh) = some t := hr
      obtain ⟨i1, i2⟩ := ih (cx' + 1) (sx' + 20) upc uL ust uh hr (by omega) (by omega) (by
        rw [show cx' + 1 + n = cx' + (n + 1) by omega, show sx' + 20 + 20 * n = sx' + 20 * (n + 1) by omega]
        exact k)
      replace e3 : h.1 ≤ uh.1 := e3
      have hmz := am_sz_mono i1
      have hmz2 := am_sz_mono e3
      have r1 := hrm.1
      have r2 := hrm.2
      refine ⟨Nat.le_trans e3 i1, ?_⟩
      by_cases htry : ∃ i len a b cp, am_cd 304 pc = some (.invokestatic i, len, a, b, cp) ∧ (a = 9006 ∨ a = 9007)
      · obtain ⟨i, len, a, b, cp, hcd, ha⟩ := htry
        have hact : am_act env (ud, 304, pc, L, st, h) = am_stat ud 304 pc L st h a b := by
          unfold am_act
          dsimp only
          rw [hcd]
          rfl
        have hq : ∃ q, (a = 9006 ∧ q = 120 ∨ a = 9007 ∧ q = 143) ∧ (am_stat ud 304 pc L st h a b = am_try ud 304 pc L st h q ∨ am_stat ud 304 pc L st h a b = am_bad) := by
          rcases ha with rfl | rfl
          · refine ⟨120, Or.inl ⟨rfl, rfl⟩, ?_⟩
            cases ud with
            | zero => exact Or.inr rfl
            | succ d' => exact Or.inl rfl
          · refine ⟨143, Or.inr ⟨rfl, rfl⟩, ?_⟩
            cases ud with
            | zero => exact Or.inr rfl
            | succ d' => exact Or.inl rfl
        obtain ⟨q, hq1, hq2⟩ := hq
        unfold am_ls at hls
        rw [hact] at hls
        rcases hq2 with hq2 | hq2
        · rw [hq2] at hls
          rcases am_try_form ud 304 pc L st h q with e | ⟨d1, o1, y1, x1, p1, r0, hd, hst, e⟩
          · rw [e] at hls; cases hls
          · rw [e] at hls
            dsimp only at hls
            cases hgd : (decide (p1 < h.1) && Nat.beq (am_K p1).1 10 && decide (o1 < h.1) && Nat.beq (am_K o1).1 101 && Nat.beq (am_K o1).2 1 && Nat.ble (am_cats r0) 8) with
            | false => rw [hgd] at hls; cases hls
            | true =>
              rw [hgd] at hls
              dsimp only [cond_true] at hls
              cases h1 : am_ev env (d1, q, 0, am_loc0 [.ref p1, .int x1, .int y1] (am_mi q).2.2.2.1, [], h) with
              | none => rw [h1] at hls; cases hls
              | some rr =>
                rw [h1] at hls
                replace hls : am_tryK ud 304 pc L r0 o1 rr = some (ud, 304, upc, uL, ust, uh) := hls
                obtain ⟨hgd, g6⟩ := am_and3 hgd
                obtain ⟨hgd, g5⟩ := am_and3 hgd
                obtain ⟨hgd, g4⟩ := am_and3 hgd
                obtain ⟨hgd, g3⟩ := am_and3 hgd
                obtain ⟨g1, g2⟩ := am_and3 hgd
                have hu : uh.1 = rr.2.2.1 := am_tryK_use hls
                subst hst
                exact HT ud C0 pc i len a b cp q d1 o1 p1 cx' sx' L y1 x1 r0 h rr _ hcd hq1 hd (of_decide_eq_true g3) (Nat.eq_of_beq_eq_true g4) (Nat.eq_of_beq_eq_true g5) (of_decide_eq_true g1) (Nat.eq_of_beq_eq_true g2) (Nat.le_of_ble_eq_true g6) h1 hls ⟨by rw [← hu]; omega, by rw [← hu]; omega⟩ (by rw [← hu]; exact Nat.le_trans i1 hb1) i2
        · rw [hq2] at hls; cases hls
      · refine al_step_open HC HL HP C0 hnL (fun q => by rw [ho] at q; cases q) hls0 (fun i len a b cp hcd => ⟨fun z => htry ⟨i, len, a, b, cp, hcd, Or.inl z⟩, fun z => htry ⟨i, len, a, b, cp, hcd, Or.inr z⟩⟩) ⟨?_, ?_⟩ (Nat.le_trans i1 hb1) (am_G_widen (Nat.le_add_right _ _) (Nat.le_add_right _ _) i2)
        · show uh.1 - n0 + cx' ≤ R.cells
          omega
        · show am_sz uh.1 - am_sz n0 + sx' ≤ R.slots
          omega
end AML3
theorem whole_start2 (HC : ∀ a, a < 304 → am_chk a = true) (HL : am_chkT 304 0 (am_tab 304) = true) (HW : ∀ w ∈ wsL_law0, w ∈ lw_tbl) (HP : ∀ env, am_HP env)
    (HT : ∀ (env : am_E) (p : Program) (l : Launch) (e : Env) (R : Room) (s : State) (m : MethodId) (args : Array Value) (below : List Frame) (meth : Method) (c : Code) (Q : State → Prop) (S0 : Nat) (ad : Nat → Nat) (cy : Nat → ClassId) (D : va_G) (n0 nL d : Nat), env.1 = false → nL = (am_mi 304).2.2.2.1 → l.flags = flags0 → (∀ w ∈ lw_tbl, w.before args s = true) → am_C p R s m args meth c S0 ad cy D env d 304 → am_TR2 env p l e R s m args below meth c Q S0 ad cy D n0 nL d 304)
    (HU : am_Pure2) {p : Program} {e : Env} {s : State} {m : MethodId} {below : List Frame} {meth : Method} {c : Code} (l : Launch) (hflags : l.flags = flags0) {b L : Nat} {xs : Nat → Int32} (hL : L ≤ 3072) (C0 : lw_At p s m meth c b L xs) : W p l e room_1 s m #[Value.ref b] below meth c s.heap [] 0 0 (lw_Z below #[Value.ref b] s) (entryFrame m ([Value.ref b] : List Value).toArray 7) := by
  obtain ⟨hx, hb, hr, hml, hown, hts, hX, hbl, hlocks, hgv⟩ := id C0
  obtain ⟨ad, cy, D, hST, hab⟩ := am_start true hts HW hgv hX hbl
  obtain ⟨n1, n2, pc1, L1, L2, st1, h1, h1', h2, e1, ⟨eq1, eq2⟩, e2, e3, e4⟩ := HU L xs hL
  have hC : ∀ o : Bool, am_C p room_1 s m #[Value.ref b] meth c s.heap.size ad cy D (o, L, xs) 100 304 := fun o => ⟨⟨hx, hb, hml, hown⟩, fun w hw => hts w (HW w hw), hST, ⟨by decide, by decide⟩, fun q => absurd q (by decide)⟩
  have hend : am_G p l e room_1 s m #[Value.ref b] below meth c (lw_Z below #[Value.ref b] s) s.heap.size ad cy D 0 7 (0 + n2) (0 + 20 * n2) (100, 304, 1345, L2, [.int 1], h2) := by
    intro H locs ls hP hz hS hl hL hn
    have hs := am_sz179
    refine W.widen (k := 601024) (n := 7293034) ?_ ?_ (va_forget (fun q hq => hS.2.2 q hq) (lw_ret hx hb hr hlocks wd_law_1345))
    · show h2.1 - 0 + (0 + n2) ≤ 601024
      omega
    · show am_sz h2.1 - am_sz 0 + (0 + 20 * n2) ≤ 7293034
      rw [e3]
      omega
  have hs := am_sz179
  have hR1 : room_1.cells = 601024 := rfl
  have hR2 : room_1.slots = 7293034 := rfl
  obtain ⟨i1, k1⟩ := al_run2 (cx := 0) (sx := 0) (nn := n2) HC HL (HP (false, L, xs)) (fun d hc => HT (false, L, xs) p l e room_1 s m _ below meth c _ _ ad cy D 0 7 d rfl rfl hflags hts hc) rfl (hC false) rfl (show h2.1 ≤ 1000 by omega) ⟨by show h2.1 - 0 + (0 + n2 + 1) ≤ room_1.cells; omega, by show am_sz h2.1 - am_sz 0 + (0 + 20 * (n2 + 1)) ≤ room_1.slots; rw [e3]; omega⟩ n2 0 0 pc1 L1 st1 h1' e2 (Nat.le_refl _) (Nat.le_refl _) hend
  have i1 : h1'.1 ≤ h2.1 := i1
  rw [← eq1] at i1
  replace k1 := am_G_same2 eq1 (fun H hH => eq2 _ _ _ _ H hH) k1
  have hmz := am_sz_mono i1
  have hh : am_sz h2.1 ≤ 100000 := by rw [e3]; exact hs
  obtain ⟨i2, k2⟩ := al_pre_open (cx := 0) (sx := 0) HC HL (HP (true, L, xs)) (hC true) rfl (fun _ => ⟨rfl, rfl⟩) (t := (100, 304, pc1, L1, st1, h1)) ⟨by show h1.1 - 0 + 0 ≤ room_1.cells; omega, by show am_sz h1.1 - am_sz 0 + 0 ≤ room_1.slots; omega⟩ (show h1.1 ≤ 1000 by omega) k1 n1 0 _ [] am_h0 e1
  have hent := am_entry ad (vs := [.ref 60000]) (n := 7) (by decide)
  have eb : ([Value.ref 60000] : List Value).map (am_cv ad) = [Value.ref b] := by
    show [Value.ref (ad 60000)] = _
    rw [hab]
  rw [eb] at hent
  rw [lg_entry_eq]
  exact k2 s.heap [] _ (fun k q h => by cases h) (Nat.zero_le _) va_S.rf hent rfl (Nat.le_refl _)
