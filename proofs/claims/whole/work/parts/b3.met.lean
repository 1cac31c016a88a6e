/-! methods that throw; the law's own reader and mean -/
def vy_ws : List Cond := wsL_law0 ++ vy_g
theorem vy_goodIn {Ts ws : List Cond} (hT : ∀ w ∈ vy_ws, w ∈ Ts) (h : ∀ w ∈ ws, w ∈ vy_ws) : GoodIn Ts ws := fun w hw => ⟨hT w (h w hw), by
  rcases List.mem_append.mp (h w hw) with q | q
  · exact good_of_word (List.all_eq_true.mp am_goodW w q)
  · exact good_of_word (vy_good q)⟩
theorem vy_n_moved {s U : State} (hW : s.WarmedH U.vm) (h : ∀ w ∈ vy_n, va_Nw w s) : ∀ w ∈ vy_n, va_Nw w U := by
  have hd : ∀ x, va_Nw (.declares x) s → va_Nw (.declares x) U := fun x hZ => va_tabs rfl (rfl : (s.setVm U.vm).vm = U.vm) (by rw [Cond.declares_setVm hW.alike]; exact hZ)
  intro w hw
  have h0 := h w hw
  unfold vy_n at hw
  rcases List.mem_cons.mp hw with rfl | hw
  · exact hd _ h0
  rcases List.mem_cons.mp hw with rfl | hw
  · exact hd _ h0
  rcases List.mem_cons.mp hw with rfl | hw
  · exact hd _ h0
  rcases List.mem_cons.mp hw with rfl | hw
  · exact va_Nw.warmC hW h0
  · cases hw
theorem vy_n_calling {U : State} (h : ∀ w ∈ vy_n, va_Nw w U) (g : JFrame) (mk : MethodId) (a : Array Value) : ∀ w ∈ vy_n, va_Nw w (U.calling g mk a) := by
  intro w hw
  have h0 := h w hw
  have ht : w.onTables = true := by
    unfold vy_n at hw
    rcases List.mem_cons.mp hw with rfl | hw
    · rfl
    rcases List.mem_cons.mp hw with rfl | hw
    · rfl
    rcases List.mem_cons.mp hw with rfl | hw
    · rfl
    rcases List.mem_cons.mp hw with rfl | hw
    · rfl
    · cases hw
  exact va_tabs ht (show U.vm = (U.calling g mk a).vm from rfl) h0
theorem vy_n_use {args : Array Value} {U : State} (h : ∀ w ∈ vy_n, va_Nw w U) {w : Cond} (hw : w ∈ vy_n) (ht : w.onTables = true) : w.before args U = true := va_tabs ht rfl (h w hw)
def vy_P (S0 : Nat) (ad : Nat → Nat) (cy : Nat → ClassId) (D : va_G) (env : am_E) (vs : List Value) (h : am_H) : Array Value → State → Prop := fun a U => am_Pcc S0 ad cy D env vs h a U ∧ ∀ w ∈ vy_n, va_Nw w U
theorem vy_blind {S0 : Nat} {ad : Nat → Nat} {cy : Nat → ClassId} {D : va_G} {env : am_E} {vs : List Value} {h : am_H} : FrameBlind (vy_P S0 ad cy D env vs h) := fun a U g mk q => ⟨am_blind a U g mk q.1, vy_n_calling q.2 g mk a⟩
def vy_rm (d mc ms : Nat) : Room := { frames := d + 8, cells := mc, slots := ms, locals := 64 * (d + 8) }
def vy_XC (S0 : Nat) (ad : Nat → Nat) (cy : Nat → ClassId) (D : va_G) (h : am_H) : String → State → State → Prop := fun E st t => E = vy_X ∧ va_P D am_cl (am_ws S0 ad cy h) t.heap ∧ va_F (am_AA S0) st t
def vy_cw (q : Nat) : List Cond := .code (am_mi q).2.1 (am_mi q).2.2.1 (am_mi q).2.2.2.1 (am_mi q).2.2.2.2.1 :: vy_ws
set_option maxHeartbeats 2000000 in
/-- a method of the table that throws -/
theorem vy_met {env : am_E} {q d : Nat} (hq : q = 120 ∨ q = 143) {vs : List Value} {h h1 : am_H} {v : Option Value} (hck : am_chk q = true) (hlen : (am_loc vs).length ≤ (am_mi q).2.2.2.1) (hS : am_Sm env d q 0 (am_loc0 vs (am_mi q).2.2.2.1) [] h (false, v, h1)) (henv : env.1 = false) (hle : h.1 ≤ h1.1) (hb1 : h1.1 ≤ 1000)
    (l : Launch) (hl : l.stackTraces = false) (S0 : Nat) (ad : Nat → Nat) (cy : Nat → ClassId) (D : va_G) :
    vx_Met l (am_mi q).2.1 (vy_cw q) (vy_rm d (h1.1 - h.1 + 1) (am_sz h1.1 - am_sz h.1 + 6)) (vy_P S0 ad cy D env vs h) (fun _ _ _ _ => False) (vy_XC S0 ad cy D h1) (h1.1 - h.1 + 1) (am_sz h1.1 - am_sz h.1 + 6) (am_AA S0) := by
  obtain ⟨hcode, hini, h40, hpl, hmh, hownc, hkd⟩ := am_mok_use hck
  refine vx_ofW (cc := (am_mi q).2.2.1) (maxL := (am_mi q).2.2.2.1) (ret := (am_mi q).2.2.2.2.1) hpl rfl ?_
  intro p e s m args below meth c s₁ B hml htab hv
  obtain ⟨⟨rfl, hST, hP, hsz⟩, hN⟩ := hv
  have hts := atoms_spec (ws := vy_cw q) B.pre
  have hown : s.vm.findClass (am_mi q).1 = some m.cls := by rw [hownc]; exact findClass_of_methodNamed B.named
  have hown11 : s.vm.findClass RX11 = some m.cls := by
    rcases hq with rfl | rfl
    · exact hown
    · exact hown
  have hlocks := B.notSynchronized
  have hmn : meth.name = (am_mi q).2.1.name := (name_of_methodNamed B.named B.method).1
  have hat : ∀ w ∈ vy_l, w.before ((vs.map (am_cv ad)).toArray) s = true := by
    refine vx_hat (B := vy_n) (fun w hw => hts w (List.mem_cons_of_mem _ (List.mem_append_right _ hw))) (fun w hw => of_decide_eq_true (List.all_eq_true.mp vy_ng w hw)) (fun w hw => ?_)
    have ht : w.onTables = true := by
      unfold vy_n at hw
      rcases List.mem_cons.mp hw with rfl | hw
      · rfl
      rcases List.mem_cons.mp hw with rfl | hw
      · rfl
      rcases List.mem_cons.mp hw with rfl | hw
      · rfl
      rcases List.mem_cons.mp hw with rfl | hw
      · rfl
      · cases hw
    exact vy_n_use hN hw ht
  have C0 : am_C p (headSpec (vy_cw q) (vy_rm d (h1.1 - h.1 + 1) (am_sz h1.1 - am_sz h.1 + 6))).room s m ((vs.map (am_cv ad)).toArray) meth c S0 ad cy D env d q := ⟨⟨B.exec, B.bytes, hml, hown⟩, fun w hw => hts w (List.mem_cons_of_mem _ (List.mem_append_left _ hw)), hST, ⟨Nat.le_refl _, Nat.le_refl _⟩, fun q => hmn.trans q⟩
  have hss := sq_ss hST
  have hG := hS p l e (headSpec (vy_cw q) (vy_rm d (h1.1 - h.1 + 1) (am_sz h1.1 - am_sz h.1 + 6))).room s m ((vs.map (am_cv ad)).toArray) below meth c (vx_MQ below (fun _ _ _ _ => False) (vy_XC S0 ad cy D h1) ((vs.map (am_cv ad)).toArray) s (h1.1 - h.1 + 1) (am_sz h1.1 - am_sz h.1 + 6) (am_AA S0)) S0 ad cy D h.1 (am_mi q).2.2.2.1 0 0 C0 rfl (fun ho => by rw [henv] at ho; cases ho) ⟨Nat.le_succ _, Nat.le_add_right _ _⟩ hb1
    (fun pc' L' st' h' hact => by
      obtain ⟨⟨rfl, rfl⟩, i, len, b, cp, hcd⟩ := am_throw_form hact
      intro H locs ls hP' hz' hS' hl' hL' hn'
      have hx : ∀ t : State, s.vm.Alike t.vm → H.size ≤ t.heap.size → (∀ q : Nat, q < H.size → t.heap[q]? = H[q]?) → vy_XC S0 ad cy D h1 vy_X s t := fun t _ f1 f2 => ⟨rfl, hP'.kept (fun k x hk => f2 _ (vx_lt hP' hk)), Nat.le_trans hS'.1 f1, fun q q1 q2 => (f2 q (Nat.lt_of_lt_of_le q1 hS'.1)).trans (hS'.2.1 q q1 q2)⟩
      have hsize : ls.size = c.maxLocals := by rw [hl'.1, hL', hml]
      rcases hq with rfl | rfl
      · have hpc := vy_at vy_pc120 hcd
        subst hpc
        exact vy_thrS B.exec B.bytes hl hown11 (hss.2.1 5 (by decide)) hat hss.2.2.2.2.1 hss.2.2.2.2.2 hS' hsize vd_120_24 vd_120_27 vd_120_28 vd_120_30 vd_120_33 htab (by show 5 < d + 8; omega) (by show 0 + 110 ≤ 64 * (d + 8); omega) (Nat.le_refl _) (Nat.le_refl _) hlocks hx hS'.2.2 (Nat.le_refl _) (Nat.le_refl _)
      · have hpc := vy_at vy_pc143 hcd
        subst hpc
        exact vy_thrW B.exec B.bytes hl hown11 (hss.2.1 4 (by decide)) hat hss.2.2.2.2.1 hss.2.2.2.2.2 hS' hsize vd_143_18 vd_143_21 vd_143_22 vd_143_25 vd_143_28 htab (by show 5 < d + 8; omega) (by show 0 + 110 ≤ 64 * (d + 8); omega) (Nat.le_refl _) (Nat.le_refl _) hlocks hx hS'.2.2 (Nat.le_refl _) (Nat.le_refl _))
  rw [lg_entry_eq]
  have hll : (am_loc0 vs (am_mi q).2.2.2.1).length = (am_mi q).2.2.2.1 := by
    unfold am_loc0
    rw [List.length_append, List.length_replicate]
    omega
  have := hG s.heap [] _ hP (Nat.le_trans hle hb1) va_S.rf (am_entry ad hlen) hll (Nat.le_refl _)
  dsimp only at this
  rw [Nat.sub_self, Nat.sub_self] at this
  exact this
