/-! the throw in its method; the law's own reader and mean -/
section VYT
variable {p : Program} {l : Launch} {e : Env} {R : Room} {s : State} {m : MethodId} {args : Array Value} {below : List Frame} {meth : Method} {c : Code} {H : Heap} {locs : List Loc} {cells slots : Nat}
variable {free : Addr → Prop} {ls : Array Slot} {rest : List Value} {Qc : Array Value → State → Outcome → State → Prop} {XC : String → State → State → Prop}
set_option maxHeartbeats 2000000 in
theorem vy_thrS {cc : ByteArray} {pc : Nat} (hexec : p.tables.exec = Jvm.exec) (hb : c.code = cc) (hl : l.stackTraces = false) {text : String} {is mc ms sa : Nat} {A : Nat → Prop}
    (hown : s.vm.findClass RX11 = some m.cls) (hstr : vk_R RX11 is text sa s) (hat : ∀ w ∈ vy_l, w.before args s = true)
    (hU : vx_Zq Bundle.tN "UNASSIGNED_STACK" Bundle.steD A s s.heap) (hN : vx_Zq Bundle.tN "SUPPRESSED_SENTINEL" Bundle.listD A s s.heap) (hS : va_S A s.heap H locs) (hsize : ls.size = c.maxLocals)
    (d0 : decode cc pc = .ok (.new 159, 3)) (d3 : decode cc (pc + 3) = .ok (.dup, 1)) (d4 : decode cc (pc + 4) = .ok (.ldc is, 2)) (d6 : decode cc (pc + 6) = .ok (.invokespecial 163, 3)) (d9 : decode cc (pc + 9) = .ok (.athrow, 1))
    (hout : ∀ x ∈ c.exceptionTable.toList, False) (hfr : 5 < R.frames) (hlo : (rest.map fun v => v.category).sum + 110 ≤ R.locals) (hRc : cells + 1 ≤ R.cells) (hRs : slots + 6 ≤ R.slots) (hlocks : meth.locks = false)
    (hx : ∀ t : State, s.vm.Alike t.vm → H.size ≤ t.heap.size → (∀ q : Nat, q < H.size → t.heap[q]? = H[q]?) → XC vy_X s t) (hf : ∀ z ∈ locs, free z.base) (hc : cells + 1 ≤ mc) (hs : slots + 6 ≤ ms) :
    W p l e R s m args below meth c H locs cells slots (vx_MQ below Qc XC args s mc ms free) (F0 m pc ls rest) := by
  intro T hT X
  have htr : e.platform.stackTraces = false := (show e.platform.stackTraces = l.stackTraces by rw [X.admits.platform]).trans hl
  have Y := vx_rebase X (R' := { frames := R.frames, locals := R.locals, cells := 1, slots := 6 }) (Nat.le_refl _) (Nat.le_refl _) hRc hRs
  obtain ⟨s', hA⟩ : ∃ z, z = (T.setVm s.vm).setFrames (.invoking m args :: below) := ⟨_, rfl⟩
  rw [← hA] at Y
  have hvm : s'.vm = s.vm := by rw [hA]; rfl
  have hhp : s'.heap = H := by rw [hA]; exact hT
  have hW0 : s.WarmedH s'.vm := by rw [hvm]; exact State.WarmedH.refl s
  have hat' : ∀ w ∈ vy_l, w.before args s' = true := fun w hw => vx_ot_at hW0 hvm.symm (List.all_eq_true.mp vy_ot w hw) (hat w hw)
  have hU' : vx_Zq Bundle.tN "UNASSIGNED_STACK" Bundle.steD A s' s'.heap := by rw [hhp]; exact vx_Zq.moved hW0.alike (hU.kept hS.2.1)
  have hN' : vx_Zq Bundle.tN "SUPPRESSED_SENTINEL" Bundle.listD A s' s'.heap := by rw [hhp]; exact vx_Zq.moved hW0.alike (hN.kept hS.2.1)
  have h : ∀ w ∈ vy_w, w.before args s' = true := vx_own (fun w hw => hat' w (List.mem_cons_of_mem _ (List.mem_cons_of_mem _ hw))) (vx_isRefq hU'.1) (vx_isRefq hN'.1) hU'.2.word hN'.2.word
  have hown' : s'.vm.findClass RX11 = some m.cls := by rw [hvm]; exact hown
  have hins : (Cond.instantiable vy_X 6).before args s' = true := h _ (List.mem_append_right _ (List.mem_append_right _ (List.mem_append_right _ (List.mem_append_right _ (by simp [vy_e])))))
  obtain ⟨vm₁, cX, kX, hfX, hkX, -, -, X₁, st1⟩ := Y.newCold hexec (own := RX11) (C := vy_X) (index := 159) (n := 6) hown' (hat' _ List.mem_cons_self) hins (hat' _ (List.mem_cons_of_mem _ List.mem_cons_self))
    (g := F0 m pc ls rest) rfl (by rw [hb]; exact d0) (Nat.le_refl _) (Nat.le_refl _)
  generalize hT1 : (T.setVm vm₁).pushCell { cls := cX, slots := kX.instanceTypes.map defaultValue, vm := .none } = T1 at X₁ st1
  have hcat : (Value.ref T.heap.size).category = 1 := rfl
  have hcellA : T1.heap[T.heap.size]? = some (freshCell cX kX) := by rw [← hT1]; exact State.heap_pushCell_size _ _
  have d3' : decode c.code (pc + 3) = .ok (.dup, 1) := by rw [hb]; exact d3
  have d4' : decode c.code (pc + 4) = .ok (.ldc is, 2) := by rw [hb]; exact d4
  have hstr' : vk_R RX11 is text sa s' := vk_R.warm hW0 hstr
  obtain ⟨U, hsteps, hrun, hend, hW, hsame, ce, hce, hcv, hcc⟩ := vy_ctor X₁ hexec htr hown' h hfX hkX hcellA (by rw [hhp, hT]; exact Nat.le_refl _) (sa := sa) (pc := pc + 6) (ls := ls) (rest := rest) hsize (by rw [hb]; exact d6) (by rw [hb]; exact d9) (fun x hx => (hout x hx).elim) hfr (Nat.le_trans (Nat.add_le_add_left (by decide) _) hlo) hlocks
  obtain ⟨f1, f2⟩ := vx_frame hsame
  rw [hhp] at f1 f2
  have hWs : s.WarmedH U.vm := State.WarmedH.trans hW0 hW
  have hcl : s.vm.findClass vy_X = some ce.cls := by
    rw [hvm] at hcc
    exact hcc
  have hall : s.sameButNew ({ U with vm := s.vm } : State) locs mc ms := by
    subst hA
    obtain ⟨e1, e2⟩ := hsame
    rw [State.setFrames_setFrames] at e1
    have h2 : (T.setVm s.vm).sameButNew ({ U with vm := s.vm } : State) [] (0 + 1) (0 + 6) := ⟨e1, e2⟩
    have h3 := X.same.trans h2
    rw [List.append_nil] at h3
    exact h3.mono hc hs
  refine ⟨U, ?_, .threw T.heap.size, hrun, hend, Or.inr ⟨T.heap.size, rfl, vy_X, ce, locs, hx U hWs.alike f1 (fun q hq => f2 q hq (fun z hz => nomatch hz)), hce, hcv, hcl, hWs, hall, hf⟩⟩
  refine st1 _ ?_
  show Steps p.tables e below (T1.setTop { method := m, pc := pc + 3, locals := ls, stack := .ref T.heap.size :: rest, locked := none }) _
  jvm_step X₁.here [X₁.here.top, hexec, d3', Value.category]
  exact X₁.ldcString hexec (own := RX11) (text := text) (index := is) (a := sa) hown' hstr'.1 hstr'.2
    (g := { method := m, pc := pc + 4, locals := ls, stack := .ref T.heap.size :: .ref T.heap.size :: rest, locked := none }) rfl d4' _ hsteps
set_option maxHeartbeats 2000000 in
theorem vy_thrW {cc : ByteArray} {pc : Nat} (hexec : p.tables.exec = Jvm.exec) (hb : c.code = cc) (hl : l.stackTraces = false) {text : String} {is mc ms sa : Nat} {A : Nat → Prop}
    (hown : s.vm.findClass RX11 = some m.cls) (hstr : vk_R RX11 is text sa s) (hat : ∀ w ∈ vy_l, w.before args s = true)
    (hU : vx_Zq Bundle.tN "UNASSIGNED_STACK" Bundle.steD A s s.heap) (hN : vx_Zq Bundle.tN "SUPPRESSED_SENTINEL" Bundle.listD A s s.heap) (hS : va_S A s.heap H locs) (hsize : ls.size = c.maxLocals)
    (d0 : decode cc pc = .ok (.new 159, 3)) (d3 : decode cc (pc + 3) = .ok (.dup, 1)) (d4 : decode cc (pc + 4) = .ok (.ldc_w is, 3)) (d6 : decode cc (pc + 7) = .ok (.invokespecial 163, 3)) (d9 : decode cc (pc + 10) = .ok (.athrow, 1))
    (hout : ∀ x ∈ c.exceptionTable.toList, False) (hfr : 5 < R.frames) (hlo : (rest.map fun v => v.category).sum + 110 ≤ R.locals) (hRc : cells + 1 ≤ R.cells) (hRs : slots + 6 ≤ R.slots) (hlocks : meth.locks = false)
    (hx : ∀ t : State, s.vm.Alike t.vm → H.size ≤ t.heap.size → (∀ q : Nat, q < H.size → t.heap[q]? = H[q]?) → XC vy_X s t) (hf : ∀ z ∈ locs, free z.base) (hc : cells + 1 ≤ mc) (hs : slots + 6 ≤ ms) :
    W p l e R s m args below meth c H locs cells slots (vx_MQ below Qc XC args s mc ms free) (F0 m pc ls rest) := by
  intro T hT X
  have htr : e.platform.stackTraces = false := (show e.platform.stackTraces = l.stackTraces by rw [X.admits.platform]).trans hl
  have Y := vx_rebase X (R' := { frames := R.frames, locals := R.locals, cells := 1, slots := 6 }) (Nat.le_refl _) (Nat.le_refl _) hRc hRs
  obtain ⟨s', hA⟩ : ∃ z, z = (T.setVm s.vm).setFrames (.invoking m args :: below) := ⟨_, rfl⟩
  rw [← hA] at Y
  have hvm : s'.vm = s.vm := by rw [hA]; rfl
  have hhp : s'.heap = H := by rw [hA]; exact hT
  have hW0 : s.WarmedH s'.vm := by rw [hvm]; exact State.WarmedH.refl s
  have hat' : ∀ w ∈ vy_l, w.before args s' = true := fun w hw => vx_ot_at hW0 hvm.symm (List.all_eq_true.mp vy_ot w hw) (hat w hw)
  have hU' : vx_Zq Bundle.tN "UNASSIGNED_STACK" Bundle.steD A s' s'.heap := by rw [hhp]; exact vx_Zq.moved hW0.alike (hU.kept hS.2.1)
  have hN' : vx_Zq Bundle.tN "SUPPRESSED_SENTINEL" Bundle.listD A s' s'.heap := by rw [hhp]; exact vx_Zq.moved hW0.alike (hN.kept hS.2.1)
  have h : ∀ w ∈ vy_w, w.before args s' = true := vx_own (fun w hw => hat' w (List.mem_cons_of_mem _ (List.mem_cons_of_mem _ hw))) (vx_isRefq hU'.1) (vx_isRefq hN'.1) hU'.2.word hN'.2.word
  have hown' : s'.vm.findClass RX11 = some m.cls := by rw [hvm]; exact hown
  have hins : (Cond.instantiable vy_X 6).before args s' = true := h _ (List.mem_append_right _ (List.mem_append_right _ (List.mem_append_right _ (List.mem_append_right _ (by simp [vy_e])))))
  obtain ⟨vm₁, cX, kX, hfX, hkX, -, -, X₁, st1⟩ := Y.newCold hexec (own := RX11) (C := vy_X) (index := 159) (n := 6) hown' (hat' _ List.mem_cons_self) hins (hat' _ (List.mem_cons_of_mem _ List.mem_cons_self))
    (g := F0 m pc ls rest) rfl (by rw [hb]; exact d0) (Nat.le_refl _) (Nat.le_refl _)
  generalize hT1 : (T.setVm vm₁).pushCell { cls := cX, slots := kX.instanceTypes.map defaultValue, vm := .none } = T1 at X₁ st1
  have hcat : (Value.ref T.heap.size).category = 1 := rfl
  have hcellA : T1.heap[T.heap.size]? = some (freshCell cX kX) := by rw [← hT1]; exact State.heap_pushCell_size _ _
  have d3' : decode c.code (pc + 3) = .ok (.dup, 1) := by rw [hb]; exact d3
  have d4' : decode c.code (pc + 4) = .ok (.ldc_w is, 3) := by rw [hb]; exact d4
  have hstr' : vk_R RX11 is text sa s' := vk_R.warm hW0 hstr
  obtain ⟨U, hsteps, hrun, hend, hW, hsame, ce, hce, hcv, hcc⟩ := vy_ctor X₁ hexec htr hown' h hfX hkX hcellA (by rw [hhp, hT]; exact Nat.le_refl _) (sa := sa) (pc := pc + 7) (ls := ls) (rest := rest) hsize (by rw [hb]; exact d6) (by rw [hb]; exact d9) (fun x hx => (hout x hx).elim) hfr (Nat.le_trans (Nat.add_le_add_left (by decide) _) hlo) hlocks
  obtain ⟨f1, f2⟩ := vx_frame hsame
  rw [hhp] at f1 f2
  have hWs : s.WarmedH U.vm := State.WarmedH.trans hW0 hW
  have hcl : s.vm.findClass vy_X = some ce.cls := by
    rw [hvm] at hcc
    exact hcc
  have hall : s.sameButNew ({ U with vm := s.vm } : State) locs mc ms := by
    subst hA
    obtain ⟨e1, e2⟩ := hsame
    rw [State.setFrames_setFrames] at e1
    have h2 : (T.setVm s.vm).sameButNew ({ U with vm := s.vm } : State) [] (0 + 1) (0 + 6) := ⟨e1, e2⟩
    have h3 := X.same.trans h2
    rw [List.append_nil] at h3
    exact h3.mono hc hs
  refine ⟨U, ?_, .threw T.heap.size, hrun, hend, Or.inr ⟨T.heap.size, rfl, vy_X, ce, locs, hx U hWs.alike f1 (fun q hq => f2 q hq (fun z hz => nomatch hz)), hce, hcv, hcl, hWs, hall, hf⟩⟩
  refine st1 _ ?_
  show Steps p.tables e below (T1.setTop { method := m, pc := pc + 3, locals := ls, stack := .ref T.heap.size :: rest, locked := none }) _
  jvm_step X₁.here [X₁.here.top, hexec, d3', Value.category]
  exact X₁.ldcStringW hexec (own := RX11) (text := text) (index := is) (a := sa) hown' hstr'.1 hstr'.2
    (g := { method := m, pc := pc + 4, locals := ls, stack := .ref T.heap.size :: .ref T.heap.size :: rest, locked := none }) rfl d4' _ hsteps
end VYT
theorem am_throw_form {env : am_E} {d mid pc : Nat} {L : am_L} {st : List Value} {h h1 : am_H} {v : Option Value} (ha : am_act env (d, mid, pc, L, st, h) = .inl (some (false, v, h1))) : (h1 = h ∧ st = []) ∧ ∃ i len b cp, am_cd mid pc = some (.new i, len, 9999, b, cp) := by
  unfold am_act at ha
  dsimp only at ha
  cases hcd : am_cd mid pc with
  | none => rw [hcd] at ha; cases ha
  | some q =>
    obtain ⟨raw, len, a, b, cp⟩ := q
    rw [hcd] at ha
    dsimp only at ha
    by_cases h3 : (∃ i, raw = .invokevirtual i) ∨ (∃ i, raw = .invokespecial i) ∨ (∃ i, raw = .invokestatic i)
    · exfalso
      rcases h3 with ⟨i, rfl⟩ | ⟨i, rfl⟩ | ⟨i, rfl⟩
      · dsimp only [am_do] at ha
        unfold am_virt at ha
        cases ha' : Nat.blt a 9000 with
        | true => rw [ha'] at ha; dsimp only [cond_true] at ha; unfold am_call at ha; split at ha <;> cases ha
        | false =>
          rw [ha'] at ha; dsimp only [cond_false] at ha
          split at ha
          · cases ha
          · split at ha <;> cases ha
      · dsimp only [am_do] at ha
        unfold am_spec at ha
        cases ha' : Nat.blt a 9000 with
        | true => rw [ha'] at ha; dsimp only [cond_true] at ha; unfold am_call at ha; split at ha <;> cases ha
        | false =>
          rw [ha'] at ha; dsimp only [cond_false] at ha
          split at ha
          · cases ha
          · split at ha <;> cases ha
      · dsimp only [am_do] at ha
        unfold am_stat at ha
        cases ha' : Nat.blt a 9000 with
        | true => rw [ha'] at ha; dsimp only [cond_true] at ha; unfold am_call at ha; split at ha <;> cases ha
        | false =>
          rw [ha'] at ha; dsimp only [cond_false] at ha
          split at ha
          · cases ha
          · split at ha
            · rename_i r; cases hq : Nat.ble (am_cats r) 8 <;> (rw [hq] at ha; cases ha)
            · rename_i r; cases hq : Nat.ble (am_cats r) 8 <;> (rw [hq] at ha; cases ha)
            · cases ha
            · unfold am_try at ha; split at ha <;> cases ha
            · unfold am_try at ha; split at ha <;> cases ha
            · cases ha
            · cases ha
            · cases ha
    · cases raw
      case new i =>
        dsimp only [am_do] at ha
        cases hq : Nat.beq a 9999 with
        | false => rw [hq] at ha; cases ha
        | true =>
          rw [hq] at ha
          have ea : a = 9999 := Nat.eq_of_beq_eq_true hq
          subst ea
          dsimp only [cond_true] at ha
          cases he : st.isEmpty with
          | false => rw [he] at ha; cases ha
          | true =>
            rw [he] at ha
            have ha : (Sum.inl (some (false, none, h)) : am_A) = Sum.inl (some (false, v, h1)) := ha
            cases ha
            exact ⟨⟨rfl, List.isEmpty_iff.mp he⟩, i, len, b, cp, rfl⟩
      all_goals exfalso
      case return_ =>
        dsimp only [am_do] at ha
        split at ha <;> cases ha
      case ireturn =>
        dsimp only [am_do] at ha
        split at ha
        · rename_i x
          cases hq : (decide ((am_mi mid).2.2.2.2.1 = some .int) || decide (x &&& 1 = x)) with
          | false => rw [hq] at ha; cases ha
          | true => rw [hq] at ha; cases ha
        · cases ha
      case lreturn =>
        dsimp only [am_do] at ha
        split at ha <;> cases ha
      case invokevirtual i => exact h3 (Or.inl ⟨i, rfl⟩)
      case invokespecial i => exact h3 (Or.inr (Or.inl ⟨i, rfl⟩))
      case invokestatic i => exact h3 (Or.inr (Or.inr ⟨i, rfl⟩))
      all_goals refine absurd ha ?_
      all_goals dsimp only [am_do]
      all_goals first
        | exact ns_bad _
        | exact ns_ld _
        | exact ns_sto _
        | exact ns_b2 _
        | exact ns_l2 _
        | exact ns_go _
        | exact ns_gd _
        | exact ns_bif ns_go ns_bad _
        | exact ns_bif ns_go ns_go _
        | (split <;> first
            | exact ns_bad _
            | exact ns_go _
            | exact ns_gd _
            | exact ns_get _
            | exact ns_put _
            | exact ns_bif ns_jp ns_bad _
            | exact ns_bif ns_sw ns_bad _
            | exact ns_bif ns_bad ns_mk _
            | exact ns_bif ns_gd ns_gd _)
theorem am_cd_lt {mid pc : Nat} {o : am_I} (h : am_cd mid pc = some o) : pc < 16 * (am_tab mid).length := by
  have h2 : ((am_tab mid).getD (pc / 16) []).getD (pc % 16) none = some o := h
  rcases Nat.lt_or_ge (pc / 16) (am_tab mid).length with q | q
  · omega
  · rw [List.getD_eq_getElem?_getD (l := am_tab mid), List.getElem?_eq_none q] at h2
    cases h2
def vy_pc (mid p : Nat) (o : Option am_I) (pc : Nat) : Bool := match o with
  | some (.new _, _, a, _, _) => !(Nat.beq a 9999) || Nat.beq pc p
  | _ => true
set_option maxRecDepth 100000 in
theorem vy_pc120 : ((List.range (16 * (am_tab 120).length)).all fun pc => vy_pc 120 24 (am_cd 120 pc) pc) = true := by decide +kernel
set_option maxRecDepth 100000 in
theorem vy_pc143 : ((List.range (16 * (am_tab 143).length)).all fun pc => vy_pc 143 18 (am_cd 143 pc) pc) = true := by decide +kernel
theorem vy_at {mid p pc i len b cp : Nat} (ht : ((List.range (16 * (am_tab mid).length)).all fun pc => vy_pc mid p (am_cd mid pc) pc) = true) (h : am_cd mid pc = some (.new i, len, 9999, b, cp)) : pc = p := by
  have h1 := st_range ht (am_cd_lt h)
  rw [h] at h1
  have h1 : (!(Nat.beq 9999 9999) || Nat.beq pc p) = true := h1
  rcases am_or h1 with z | z
  · cases z
  · exact Nat.eq_of_beq_eq_true z
theorem vd_120_24 : decode (am_mi 120).2.2.1 24 = .ok (.new 159, 3) := by decide +kernel
theorem vd_120_27 : decode (am_mi 120).2.2.1 27 = .ok (.dup, 1) := by decide +kernel
theorem vd_120_28 : decode (am_mi 120).2.2.1 28 = .ok (.ldc 161, 2) := by decide +kernel
theorem vd_120_30 : decode (am_mi 120).2.2.1 30 = .ok (.invokespecial 163, 3) := by decide +kernel
theorem vd_120_33 : decode (am_mi 120).2.2.1 33 = .ok (.athrow, 1) := by decide +kernel
theorem vd_143_18 : decode (am_mi 143).2.2.1 18 = .ok (.new 159, 3) := by decide +kernel
theorem vd_143_21 : decode (am_mi 143).2.2.1 21 = .ok (.dup, 1) := by decide +kernel
theorem vd_143_22 : decode (am_mi 143).2.2.1 22 = .ok (.ldc_w 327, 3) := by decide +kernel
theorem vd_143_25 : decode (am_mi 143).2.2.1 25 = .ok (.invokespecial 163, 3) := by decide +kernel
theorem vd_143_28 : decode (am_mi 143).2.2.1 28 = .ok (.athrow, 1) := by decide +kernel
