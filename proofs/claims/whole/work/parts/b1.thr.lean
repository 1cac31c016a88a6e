/-! 'throw new NoSuchElementException(text)': its words, its constructors' run (the first link by entry 13), what is thrown -/
def vy_X : String := "java/util/NoSuchElementException"
def vy_R : String := "java/lang/RuntimeException"
def vy_b : ByteArray := ⟨#[0x2a, 0x2b, 0xb7, 0x00, 0x0d, 0xb1]⟩
def vy_e : List Cond := [.methodLink RX11 163 (Bundle.initS vy_X), .instantiable vy_X 6, .castable vy_X vy_X, .selects vy_X Bundle.tFill0 Bundle.tFill0, .selects vy_X Bundle.tFill Bundle.tFill,
  .lays vy_X Bundle.tN "cause" "Ljava/lang/Throwable;", .lays vy_X Bundle.tN "stackTrace" Bundle.steD, .lays vy_X Bundle.tN "suppressedExceptions" Bundle.listD, .lays vy_X Bundle.tN "detailMessage" "Ljava/lang/String;",
  .fieldLink Bundle.tN 198 Bundle.tN "backtrace" "Ljava/lang/Object;", .lays Bundle.tN Bundle.tN "backtrace" "Ljava/lang/Object;", .lays vy_X Bundle.tN "backtrace" "Ljava/lang/Object;", .isRef (.static Bundle.tN "UNASSIGNED_STACK" Bundle.steD), .isRef (.static Bundle.tN "SUPPRESSED_SENTINEL" Bundle.listD)]
def vy_w : List Cond := Bundle.throwableAtoms ++ (Bundle.throwableSAtoms ++ (Bundle.passSAtoms vy_X vy_R 13 vy_b ++ (Bundle.chainSAtoms vy_R ["java/lang/Exception"] ++ vy_e)))
def vy_l : List Cond := Cond.classLink RX11 159 vy_X :: Cond.initialized vy_X :: vy_w.filter vx_no
def vy_g : List Cond := vy_l.filter goodWord
def vy_n : List Cond := [.declares (Bundle.initS vy_R), .declares (Bundle.initS "java/lang/Exception"), .declares (Bundle.initS Bundle.tN), .castable vy_X vy_X]
theorem vy_good {w : Cond} (h : w ∈ vy_g) : goodWord w = true := (List.mem_filter.mp h).2
set_option maxRecDepth 100000 in
theorem vy_in : (vy_l.all fun w => decide (w ∈ lw_tbl)) = true := by decide +kernel
set_option maxRecDepth 100000 in
theorem vy_ot : (vy_l.all fun w => vx_ot w) = true := by decide +kernel
set_option maxRecDepth 100000 in
theorem vy_nin : (vy_n.all fun w => decide (w ∈ vy_l)) = true := by decide +kernel
set_option maxRecDepth 100000 in
theorem vy_ng : ((vy_l.filter fun w => !goodWord w).all fun w => decide (w ∈ vy_n)) = true := by decide +kernel
theorem vy_d0 : decode vy_b 0 = .ok (.aload_n 0, 1) := by decide +kernel
theorem vy_d1 : decode vy_b 1 = .ok (.aload_n 1, 1) := by decide +kernel
theorem vy_d2 : decode vy_b 2 = .ok (.invokespecial 13, 3) := by decide +kernel
theorem vy_d5 : decode vy_b 5 = .ok (.return_, 1) := by decide +kernel
section VY
variable {p : Program} {l : Launch} {e : Env} {R : Room} {s : State} {m : MethodId} {args : Array Value} {below : List Frame} {meth : Method} {c : Code}
set_option maxHeartbeats 2000000 in
/-- the constructor's run, and the throw behind it -/
theorem vy_ctor {G : State} (X : Stand p l e R s m args below meth c G [] 1 6) (hexec : p.tables.exec = Jvm.exec) (htr : e.platform.stackTraces = false) (hown : s.vm.findClass RX11 = some m.cls)
    (hw : ∀ w ∈ vy_w, w.before args s = true) {a : Addr} {cX : ClassId} {kX : Class} (hfX : s.vm.findClass vy_X = some cX) (hkX : s.vm.classes[cX]? = some kX) (hcell : G.heap[a]? = some (freshCell cX kX)) (hnew : s.heap.size ≤ a) {sa : Nat}
    {pc : Nat} {ls : Array Slot} {rest : List Value} (hsize : ls.size = c.maxLocals) (d6 : decode c.code pc = .ok (.invokespecial 163, 3)) (d9 : decode c.code (pc + 3) = .ok (.athrow, 1)) (hout : ∀ x ∈ c.exceptionTable.toList, covers x (pc + 3) = false)
    (hfr : 5 < R.frames) (hlo : (rest.map fun v => v.category).sum + 100 ≤ R.locals) (hlocks : meth.locks = false) :
    ∃ U : State, Steps p.tables e below (G.setTop { method := m, pc := pc, locals := ls, stack := .ref sa :: .ref a :: .ref a :: rest, locked := none }) U ∧ U.status = .running ∧ Ended U below (.threw a) ∧ s.WarmedH U.vm ∧ s.sameButNew ({ U with vm := s.vm } : State) [] 1 6 ∧ ∃ ce : Cell, U.heap[a]? = some ce ∧ ce.vm = .none ∧ s.vm.findClass vy_X = some ce.cls := by
  have hpl : e.platform.magicAccessors = ({} : Platform).magicAccessors := by rw [X.admits.platform]
  have hE : ∀ w ∈ vy_e, w.holds args s none s [] = true := fun w h => hw w (List.mem_append_right _ (List.mem_append_right _ (List.mem_append_right _ (List.mem_append_right _ h))))
  have hP13 : ∀ w ∈ Bundle.passSAtoms vy_X vy_R 13 vy_b, w.before args s = true := fun w h => hw w (List.mem_append_right _ (List.mem_append_right _ (List.mem_append_left _ h)))
  obtain ⟨T, Z0, L, -, Y⟩ := ThrowableC.of_atoms (args := args) (s := s) (pl := e.platform) (by rw [X.admits.platform]) (by rw [X.admits.platform]) hpl (fun w h => hw w (List.mem_append_left _ h))
  obtain ⟨Z, M, LZ, LM, hnZ⟩ := Init0T.ofS_atoms (args := args) hpl L Y (fun w h => hw w (List.mem_append_right _ (List.mem_append_left _ h)))
  obtain ⟨P, LP, hPm, hPs⟩ := PassC.ofS_atoms (args := args) (s := s) (pl := e.platform) hpl (X := vy_X) (Y := vy_R) (by decide) (by decide) vy_d0 vy_d1 vy_d2 vy_d5 hP13
  obtain ⟨P', Ps, hlen, LP', hPL, hPm', hsup', hpass⟩ := Bundle.chainS (args := args) (s := s) (pl := e.platform) hpl hnZ ["java/lang/Exception"] vy_R (by decide) (fun n hn => by cases hn with | head => decide | tail _ h => cases h) (fun w h => hw w (List.mem_append_right _ (List.mem_append_right _ (List.mem_append_right _ (List.mem_append_left _ h)))))
  have hlen1 : Ps.length = 1 := hlen
  have hfound : s.vm.findClass vy_X = some P.m.cls := findClass_of_methodNamed hPm
  cases Option.some.inj (hfX.symm.trans hfound)
  obtain ⟨c1, k1, hc1, hk1, hord, -, -, hn6⟩ := Cond.instantiable_spec (hE (.instantiable vy_X 6) (by simp [vy_e]))
  cases Option.some.inj (hc1.symm.trans hfound)
  cases Option.some.inj (hkX.symm.trans hk1)
  have hs0 : selectMethod e.platform s.vm P.m.cls T.fill0 = .method T.fill0 := by
    obtain ⟨c2, r2, m2, q1, q2, q3, q4, -⟩ := Cond.selects_spec (hE (.selects vy_X Bundle.tFill0 Bundle.tFill0) (by simp [vy_e]))
    cases Option.some.inj (q1.symm.trans hfound)
    cases Option.some.inj (q2.symm.trans (State.methodFound?_of_named Y.fill0 (by decide)))
    cases Option.some.inj (q3.symm.trans Y.fill0)
    rw [Launch.admits_selectMethod X.admits]; exact q4
  have hsF : selectMethod e.platform s.vm P.m.cls T.fill = .method T.fill := by
    obtain ⟨c2, r2, m2, q1, q2, q3, q4, -⟩ := Cond.selects_spec (hE (.selects vy_X Bundle.tFill Bundle.tFill) (by simp [vy_e]))
    cases Option.some.inj (q1.symm.trans hfound)
    cases Option.some.inj (q2.symm.trans (State.methodFound?_of_named Y.fill (by decide)))
    cases Option.some.inj (q3.symm.trans Y.fill)
    rw [Launch.admits_selectMethod X.admits]; exact q4
  obtain ⟨cellS0, hcS0, hiss⟩ := Y.statics
  obtain ⟨u0, hu0⟩ := Cond.staticRefV Y.unassigned L.unassignedStatic L.statics hcS0 hiss (hE (.isRef (.static Bundle.tN "UNASSIGNED_STACK" Bundle.steD)) (by simp [vy_e]))
  obtain ⟨sen, hsen⟩ := Cond.staticRefV Y.sentinel L.sentinelStatic L.statics hcS0 hiss (hE (.isRef (.static Bundle.tN "SUPPRESSED_SENTINEL" Bundle.listD)) (by simp [vy_e]))
  obtain ⟨ci198, i198, fB, hk198, hg198, ha198, hsB, -, hnB, htB, hffB⟩ := Cond.ownField (t := .object "java/lang/Object") Y.found L.cls (by decide +kernel) (hE (.fieldLink Bundle.tN 198 Bundle.tN "backtrace" "Ljava/lang/Object;") (by simp [vy_e])) (hE (.lays Bundle.tN Bundle.tN "backtrace" "Ljava/lang/Object;") (by simp [vy_e])) e.platform hpl
  obtain ⟨cellS, hcS, heS, -, hkeep⟩ := X.same.2.2.2.2.2 T.aS cellS0 hcS0
  have hcS : G.heap[T.aS]? = some cellS := hcS
  have hkn : cellS.vm ≠ .unknown := by
    rw [heS]
    intro z
    rw [show cellS0.vm = .unknown from z] at hiss
    cases hiss
  have hne : T.aS ≠ a := Nat.ne_of_lt (Nat.lt_of_lt_of_le (Array.getElem?_eq_some_iff.mp hcS0).1 hnew)
  obtain ⟨iM, hffM⟩ := Y.msg
  obtain ⟨tyC, dC, hdC, hdnC⟩ := Cond.laysAt hfound hk1 Y.cause (hE (.lays vy_X Bundle.tN "cause" "Ljava/lang/Throwable;") (by simp [vy_e]))
  obtain ⟨tyS, dS, hdS, hdnS⟩ := Cond.laysAt hfound hk1 Y.stack (hE (.lays vy_X Bundle.tN "stackTrace" Bundle.steD) (by simp [vy_e]))
  obtain ⟨tyP, dP, hdP, hdnP⟩ := Cond.laysAt hfound hk1 Y.supp (hE (.lays vy_X Bundle.tN "suppressedExceptions" Bundle.listD) (by simp [vy_e]))
  obtain ⟨tyM, dM, hdM, hdnM⟩ := Cond.laysAt hfound hk1 hffM (hE (.lays vy_X Bundle.tN "detailMessage" "Ljava/lang/String;") (by simp [vy_e]))
  obtain ⟨tyB, dB, hdB, hdnB⟩ := Cond.laysAt hfound hk1 hffB (hE (.lays vy_X Bundle.tN "backtrace" "Ljava/lang/Object;") (by simp [vy_e]))
  have bC := Cond.laysApart hdB hdC hdnB hdnC (by rw [hnB, Y.causeName]; decide)
  have bS := Cond.laysApart hdB hdS hdnB hdnS (by rw [hnB, Y.stackName]; decide)
  have bP := Cond.laysApart hdB hdP hdnB hdnP (by rw [hnB, Y.suppName]; decide)
  have hskip : SkipFacts T e.platform s (fun u => u) u0 ((preparedCellV T.toThrowableT (freshCell P.m.cls kX) a u0 sen).withEntry G.cur) := by
    refine ⟨{ ci198 := ci198, i198 := i198, fBack := fB }, ⟨hk198, hg198, ha198, hsB⟩, ?_, fun _ _ => rfl⟩
    have z := fresh_default (c := P.m.cls) tyB
    rw [htB] at z
    simpa [preparedCellV, Cell.setSlot, Cell.withEntry, Array.getElem?_setIfInBounds, bC, bS, bP, bC.symm, bS.symm, bP.symm, defaultValue] using z
  obtain ⟨tm, methC, cdC, kC, vm₁, hnC, -, -, -, -, -, -, -, hW₁, st1⟩ := Steps.initColdS (tb := p.tables) (e := e) (below := below) (s := s) (U := G) X.here hexec X.warmed hpl hown (t := Bundle.initS vy_X) rfl rfl (by decide)
    (hE (.methodLink RX11 163 (Bundle.initS vy_X)) (by simp [vy_e])) (hP13 (.instanceMethod (Bundle.initS vy_X)) (by simp [Bundle.passSAtoms])) (bytes := vy_b) (maxL := 2) (hP13 (.code (Bundle.initS vy_X) vy_b 2 none) (by simp [Bundle.passSAtoms]))
    (f := { method := m, pc := pc, locals := ls, stack := .ref sa :: .ref a :: .ref a :: rest, locked := none }) rfl (a := a) (msg := .ref sa) (rest := .ref a :: rest) rfl d6
  cases Option.some.inj (hnC.symm.trans hPm)
  obtain ⟨vm₂, X₂, st2⟩ := (X.noted hW₁).ctorMessageOffV hexec (g := { method := m, pc := pc, locals := ls, stack := .ref a :: rest, locked := none }) rfl hsize T L Z LZ M LM (P :: P' :: Ps)
    (fun Q hQ => by
      rcases List.mem_cons.mp hQ with rfl | hQ
      · exact LP
      · rcases List.mem_cons.mp hQ with rfl | hQ
        · exact LP'
        · exact hPL Q hQ) ⟨Option.some.inj (hPs.symm.trans hPm'), hsup', hpass⟩ (u0 := u0) (sen := sen) (self := a) (msg := .ref sa) rfl (cell := freshCell P.m.cls kX) (cellS := cellS)
    hcell (fun _ => by simp) (by simp) rfl rfl hs0 hsF hcS hne hkn (by rw [hkeep _ (fun h => nomatch h)]; exact hu0) (by rw [hkeep _ (fun h => nomatch h)]; exact hsen)
    (Takes.of_laid hk1 hord tyC (by rw [Y.causeType]; rfl)) (Takes.of_laid hk1 hord tyS (by rw [Y.stackType]; exact fits_refV_array _ u0)) (Takes.of_laid hk1 hord tyP (by rw [Y.suppType]; exact fits_refV_object _ sen))
    (Takes.of_laid hk1 hord tyM (by rw [Y.msgType]; exact fits_refV_object _ ⟨.ref sa, rfl⟩)) Y.objLocals hskip htr [] d6
    (by simp only [List.length_cons, hlen1]; omega) (by
      have hm0 : (JFrame.monitorRoom { method := m, pc := pc, locals := ls, stack := .ref a :: rest, locked := none }) = 0 := rfl
      rw [hm0]
      simp only [List.length_cons, hlen1, List.map_cons, List.sum_cons]
      have hc1 : (Value.ref a).category = 1 := rfl
      omega)
  obtain ⟨hwalk, hrun, hend, hWU, hsame⟩ := X₂.athrowLeaves hexec (g := { method := m, pc := pc + 3, locals := ls, stack := .ref a :: rest, locked := none }) rfl rfl rfl hout (a := a) (rest := rest) rfl d9
  have hlt : a < ((G.setVm vm₁).setVm vm₂).heap.size := (Array.getElem?_eq_some_iff.mp hcell).1
  have hU := heapAt_setCell_self (s := (G.setVm vm₁).setVm vm₂) (plainBareV T.toThrowableT (freshCell P.m.cls kX) a u0 sen (.ref sa)) hlt
  refine ⟨_, st1 _ (fun acts => ?_), hrun, hend, hWU, hsame.weaken (fun y hy hlt' => ?_) (Nat.le_refl _) (Nat.le_refl _), _, hU, rfl, hfound⟩
  · rw [doInvoke_state]
    exact st2 _ hwalk
  · exfalso
    have hb : y.base = a := by
      simp only [List.nil_append, List.mem_cons, List.not_mem_nil, or_false] at hy
      rcases hy with rfl | rfl | rfl | rfl | rfl <;> rfl
    rw [hb] at hlt'
    exact Nat.not_lt.mpr hnew hlt'
end VY
