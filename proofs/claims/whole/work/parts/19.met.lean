/-! contracts of the table's methods -/
theorem am_nw_form : ∀ w ∈ am_nw, ∃ a i x q, w = Cond.methodLinkNest a i x q := by
  unfold am_nw
  repeat' first | exact List.forall_mem_cons.mpr ⟨⟨_, _, _, _, rfl⟩, fun _ h => absurd h List.not_mem_nil⟩ | refine List.forall_mem_cons.mpr ⟨⟨_, _, _, _, rfl⟩, ?_⟩
theorem am_nw_moved {s U : State} (hW : s.WarmedH U.vm) (h : ∀ w ∈ am_nw, va_Nw w s) : ∀ w ∈ am_nw, va_Nw w U := by
  intro w hw
  have h1 := h w hw
  obtain ⟨a, i, x, q, rfl⟩ := am_nw_form w hw
  exact va_Nw.warmM hW h1
theorem am_nw_calling {U : State} (h : ∀ w ∈ am_nw, va_Nw w U) (g : JFrame) (mk : MethodId) (z : Array Value) : ∀ w ∈ am_nw, va_Nw w (U.calling g mk z) := by
  intro w hw
  have h1 := h w hw
  obtain ⟨a, i, x, q, rfl⟩ := am_nw_form w hw
  exact va_Nw.same rfl (show U.vm = (U.calling g mk z).vm from rfl) h1
def am_ns (A : am_A) : Prop := ∀ r, A ≠ .inl (some r)
theorem ns_bad : am_ns am_bad := fun r q => by cases q
theorem ns_go {t : am_S} : am_ns (am_go t) := fun r q => by cases q
theorem ns_gd {b : Bool} {t : am_S} : am_ns (am_gd b t) := fun r q => by cases q
theorem ns_jp {d mid pc : Nat} {L : am_L} {st : List Value} {h : am_H} {off : Int} {b : Bool} : am_ns (am_jp d mid pc L st h off b) := fun r q => by cases q
theorem ns_sw {d mid pc : Nat} {L : am_L} {st : List Value} {h : am_H} {x : Int32} {l : List (Int × Int)} {dflt : Int} : am_ns (am_sw d mid pc L st h x l dflt) := fun r q => by cases q
theorem ns_bif {b : Bool} {A B : am_A} (h1 : am_ns A) (h2 : am_ns B) : am_ns (bif b then A else B) := by cases b <;> assumption
theorem ns_ld {d mid pc len : Nat} {L : am_L} {st : List Value} {h : am_H} {i ty : Nat} : am_ns (am_ld d mid pc len L st h i ty) := by
  unfold am_ld
  split <;> first | exact ns_bad | exact ns_go
theorem ns_sto {d mid pc len : Nat} {L : am_L} {st : List Value} {h : am_H} {i ty : Nat} : am_ns (am_sto d mid pc len L st h i ty) := by
  unfold am_sto
  split <;> first | exact ns_bad | exact ns_gd
theorem ns_b2 {d mid pc : Nat} {L : am_L} {st : List Value} {h : am_H} {f : Int32 → Int32 → Int32} : am_ns (am_b2 d mid pc L st h f) := by
  unfold am_b2
  split <;> first | exact ns_bad | exact ns_go
theorem ns_l2 {d mid pc : Nat} {L : am_L} {st : List Value} {h : am_H} {f : Int64 → Int64 → Int64} : am_ns (am_l2 d mid pc L st h f) := by
  unfold am_l2
  split <;> first | exact ns_bad | exact ns_go
theorem ns_get {d mid pc : Nat} {L : am_L} {r : List Value} {h : am_H} {p ci k : Nat} : am_ns (am_get d mid pc L r h p ci k) := by
  unfold am_get
  split <;> first | exact ns_bad | exact ns_gd
theorem ns_put {d mid pc : Nat} {L : am_L} {r : List Value} {h : am_H} {p ci k : Nat} {v : Value} : am_ns (am_put d mid pc L r h p ci k v) := by
  unfold am_put
  split <;> first | exact ns_bad | exact ns_gd
theorem ns_mk {o : Bool} {d mid pc len : Nat} {L : am_L} {r : List Value} {h : am_H} {kd ln : Nat} : am_ns (am_mk o d mid pc len L r h kd ln) := ns_gd
theorem am_kc_moved {u U : State} (hvm : u.vm.Alike U.vm) {cC : ClassId} {kC : Class} (h1 : u.vm.findClass RX10 = some cC) (h2 : u.vm.classes[cC]? = some kC) : ∃ (cC : ClassId) (kC : Class), U.vm.findClass RX10 = some cC ∧ U.vm.classes[cC]? = some kC := by
  obtain ⟨k', hk', -⟩ := hvm.2.2 _ _ h2
  exact ⟨cC, k', by rw [hvm.findClass]; exact h1, hk'⟩
theorem am_ST_moved {S0 : Nat} {ad : Nat → Nat} {cy : Nat → ClassId} {D : va_G} {env : am_E} {s U : State} (h : am_ST S0 ad cy D env s) (hW : s.WarmedH U.vm) (hsz : s.heap.size ≤ U.heap.size) (hk : ∀ q : Nat, q < s.heap.size → ¬ am_AA S0 q → U.heap[q]? = s.heap[q]?) : am_ST S0 ad cy D env U := by
  obtain ⟨hK, hnw, hen, ⟨hX, hXl⟩, hAO, hS0, had, hinj, ⟨aA, hz, hT⟩, hof, ho, cC, kC, hc1, hc2, hss⟩ := h
  have al := hW.alike
  refine ⟨hK.moved al, am_nw_moved hW hnw, fun i hi => ((hen i hi).kept hk).moved al, ⟨(hX.kept (hk _ (by omega) (show ¬ S0 ≤ ad 60000 by omega))).moved al, hXl⟩, fun C hC => va_AO.moved al (hAO C hC), by omega, had, hinj, ⟨aA, (hz.kept hk).moved al, (hT.kept hk).moved al⟩, fun i hi => ((hof i hi).kept hk).moved al, fun i hi => ((ho i hi).kept hk).moved al, (let ⟨c1, k1, q1, q2⟩ := am_kc_moved al hc1 hc2; ⟨c1, k1, q1, q2, am_SSt_moved hss hW hk⟩)⟩
theorem am_refl (vm : Vm) (n : Nat) (c : ClassId) : vm.assignableAux (n + 1) c c = true := by
  unfold Vm.assignableAux
  simp
theorem am_ST_any {S0 : Nat} {ad : Nat → Nat} {cy : Nat → ClassId} {D : va_G} {env : am_E} {s : State} (h : am_ST S0 ad cy D env s) : ∀ (H : Heap) (locs : List Loc) (x : Nat), va_S (am_AA S0) s.heap H locs → x < 24 → va_Any RX10 s H (ad (100000 + x)) := by
  obtain ⟨hK, hnw, hen, ⟨hX, hXl⟩, hAO, hS0, had, hinj, hAT, hof, ho, cC, kC, hc1, hc2, hss⟩ := h
  intro H locs x hS hx
  obtain ⟨cell, h1, h2, h3, h4⟩ := (ho x hx).kept (fun a ha hA => hS.2.1 a ha hA)
  have e : cell.cls = cC := Option.some.inj (h3.symm.trans hc1)
  refine ⟨cell, h1, h2, ⟨kC, by rw [e]; exact hc2⟩, fun comp hcomp => ?_⟩
  have e2 : comp = cC := Option.some.inj (hcomp.symm.trans hc1)
  rw [e, e2]
  unfold Vm.assignable
  exact am_refl s.vm 255 cC
def am_rm (d mc ms : Nat) : Room := { frames := d + 8, cells := mc, slots := ms, locals := 64 * (d + 8) }
def am_wsm (mid : Nat) : List Cond := .code (am_mi mid).2.1 (am_mi mid).2.2.1 (am_mi mid).2.2.2.1 (am_mi mid).2.2.2.2.1 :: wsL_law0
def am_Pcc (S0 : Nat) (ad : Nat → Nat) (cy : Nat → ClassId) (D : va_G) (env : am_E) (vs : List Value) (h : am_H) : Array Value → State → Prop := va_Pc (vs.map (am_cv ad)) (fun U => am_ST S0 ad cy D env U ∧ va_P D am_cl (am_ws S0 ad cy h) U.heap ∧ (env.1 = true → U.heap.size = S0 + h.1))
def am_Qcc (S0 : Nat) (ad : Nat → Nat) (cy : Nat → ClassId) (D : va_G) (v : Option Value) (h' : am_H) : Array Value → State → Outcome → State → Prop := fun _ st oc t => oc = .returned (v.map (am_cv ad)) ∧ va_P D am_cl (am_ws S0 ad cy h') t.heap ∧ va_F (am_AA S0) st t
def am_Met (l : Launch) (S0 : Nat) (ad : Nat → Nat) (cy : Nat → ClassId) (D : va_G) (env : am_E) (d mid : Nat) (vs : List Value) (h : am_H) (v : Option Value) (h' : am_H) : Prop :=
  Met l (am_mi mid).2.1 (am_wsm mid) (am_rm d (h'.1 - h.1) (am_sz h'.1 - am_sz h.1)) (am_Pcc S0 ad cy D env vs h) (am_Qcc S0 ad cy D v h') (h'.1 - h.1) (am_sz h'.1 - am_sz h.1) (am_AA S0)
theorem am_ST_calling {S0 : Nat} {ad : Nat → Nat} {cy : Nat → ClassId} {D : va_G} {env : am_E} {U : State} (h : am_ST S0 ad cy D env U) (g : JFrame) (mk : MethodId) (a : Array Value) : am_ST S0 ad cy D env (U.calling g mk a) := by
  obtain ⟨hK, hnw, hen, ⟨hX, hXl⟩, hAO, hS0, had, hinj, ⟨aA, hz, hT⟩, hof, ho, cC, kC, hc1, hc2, hss⟩ := h
  have al : U.vm.Alike (U.calling g mk a).vm := Vm.Alike.refl U.vm
  exact ⟨hK.moved al, am_nw_calling hnw g mk a, fun i hi => (hen i hi).moved al, ⟨hX.moved al, hXl⟩, fun C hC => va_AO.moved al (hAO C hC), hS0, had, hinj, ⟨aA, hz.moved al, hT.moved al⟩, fun i hi => (hof i hi).moved al, fun i hi => (ho i hi).moved al, (let ⟨c1, k1, q1, q2⟩ := am_kc_moved al hc1 hc2; ⟨c1, k1, q1, q2, am_SSt_calling hss g mk a⟩)⟩
theorem am_blind {S0 : Nat} {ad : Nat → Nat} {cy : Nat → ClassId} {D : va_G} {env : am_E} {vs : List Value} {h : am_H} : FrameBlind (am_Pcc S0 ad cy D env vs h) := by
  intro a U g mk q
  obtain ⟨q1, q2, q3, q4⟩ := q
  exact ⟨q1, am_ST_calling q2 g mk a, q3, q4⟩
section AMM
variable {p : Program} {l : Launch} {e : Env} {R : Room} {s : State} {m : MethodId} {args : Array Value} {below : List Frame} {meth : Method} {c : Code} {Q : State → Prop} {S0 : Nat} {ad : Nat → Nat} {cy : Nat → ClassId} {D : va_G} {n0 nL cx sx : Nat} {env : am_E}
/-- behind a call -/
theorem am_after {H : Heap} {locs : List Loc} {cells slots mc ms : Nat} {pc : Nat} {ls : Array Slot} {st0 rest : List Value} {a : Array Value} {v : Option Value} {h' : am_H}
    (hr : va_Run p l e R s m args below meth c H locs cells slots mc ms (F0 m pc ls st0) rest (am_Qcc S0 ad cy D v h' a) (am_AA S0)) (hS : va_S (am_AA S0) s.heap H locs)
    (kk : ∀ (H1 : Heap) (locs1 : List Loc), va_P D am_cl (am_ws S0 ad cy h') H1 → va_S (am_AA S0) s.heap H1 locs1 → W p l e R s m args below meth c H1 locs1 (cells + mc) (slots + ms) Q (F0 m (pc + 3) ls ((v.map (am_cv ad)).toList ++ rest))) : W p l e R s m args below meth c H locs cells slots Q (F0 m pc ls st0) := by
  intro T hT X
  obtain ⟨v', st₀, t, T', L, h0, X', hL, e1, e2, ⟨hv, hP1, hz, hk⟩, st⟩ := hr T hT X
  have hv : v' = v.map (am_cv ad) := by cases hv; rfl
  subst hv
  rw [h0] at hz hk
  obtain ⟨t2, a1, b1⟩ := kk T'.heap (locs ++ L) (by rw [e1]; exact hP1)
    ⟨Nat.le_trans hS.1 (by rw [e1]; exact hz), fun q h1 h2 => by rw [e1, hk q (Nat.lt_of_lt_of_le h1 hS.1) h2]; exact hS.2.1 q h1 h2, fun q hq => by
      rcases List.mem_append.mp hq with h | h
      · exact hS.2.2 q h
      · exact hL q h⟩ T' rfl X'
  exact ⟨t2, st t2 a1, b1⟩
/-- the ends of a method -/
theorem am_end {d mid pc : Nat} {L : am_L} {st : List Value} {h h0 : am_H} {v : Option Value} {h1 : am_H} (hx : p.tables.exec = Jvm.exec) (hb : c.code = (am_mi mid).2.2.1) (hr : meth.sig.returnType = (am_mi mid).2.2.2.2.1) (hlocks : meth.locks = false) (hck : am_chkT mid 0 (am_tab mid) = true)
    (ha : am_act env (d, mid, pc, L, st, h) = .inl (some (true, v, h1))) (hn0 : n0 = h0.1) : am_G p l e R s m args below meth c (MQ below (am_Qcc S0 ad cy D v h1) args s (h1.1 - h0.1) (am_sz h1.1 - am_sz h0.1) (am_AA S0)) S0 ad cy D n0 nL 0 0 (d, mid, pc, L, st, h) := by
  subst hn0
  unfold am_act at ha
  dsimp only at ha
  cases hcd : am_cd mid pc with
  | none => rw [hcd] at ha; cases ha
  | some q =>
    obtain ⟨raw, len, a, b, cp⟩ := q
    rw [hcd] at ha
    dsimp only at ha
    obtain ⟨hdec, hlk⟩ := am_cd_use hck hcd
    have fin : ∀ (H : Heap) (locs : List Loc), va_P D am_cl (am_ws S0 ad cy h) H → va_S (am_AA S0) s.heap H locs → h = h1 → ∀ t : State, t.heap = H → s.WarmedH t.vm → am_Qcc S0 ad cy D v h1 args s (.returned (v.map (am_cv ad))) t := by
      intro H locs hP hS hh t ht _
      subst hh
      exact ⟨rfl, by rw [ht]; exact hP, hS.F ht⟩
    have hcase : (raw = .return_ ∧ st = [] ∧ v = none ∧ h = h1) ∨ (∃ x : Int32, raw = .ireturn ∧ st = [.int x] ∧ v = some (.int x) ∧ h = h1 ∧ ((am_mi mid).2.2.2.2.1 = some .int ∨ x &&& 1 = x)) ∨ (∃ x : Int64, raw = .lreturn ∧ st = [.long x] ∧ v = some (.long x) ∧ h = h1) := by
      by_cases h3 : (∃ i, raw = .invokevirtual i) ∨ (∃ i, raw = .invokespecial i) ∨ (∃ i, raw = .invokestatic i)
      · exfalso
        rcases h3 with ⟨i, rfl⟩ | ⟨i, rfl⟩ | ⟨i, rfl⟩
        · dsimp only [am_do] at ha
          unfold am_virt at ha
          cases ha' : Nat.blt a 9000 with
          | true => rw [ha'] at ha; dsimp only [cond_true] at ha; unfold am_call at ha; split at ha <;> cases ha
          | false =>
            rw [ha'] at ha; dsimp only [cond_false] at ha
            split at ha
            · cases ha
            · split at ha <;> cases ha
        · dsimp only [am_do] at ha
          unfold am_spec at ha
          cases ha' : Nat.blt a 9000 with
          | true => rw [ha'] at ha; dsimp only [cond_true] at ha; unfold am_call at ha; split at ha <;> cases ha
          | false =>
            rw [ha'] at ha; dsimp only [cond_false] at ha
            split at ha
            · cases ha
            · split at ha <;> cases ha
        · dsimp only [am_do] at ha
          unfold am_stat at ha
          cases ha' : Nat.blt a 9000 with
          | true => rw [ha'] at ha; dsimp only [cond_true] at ha; unfold am_call at ha; split at ha <;> cases ha
          | false =>
            rw [ha'] at ha; dsimp only [cond_false] at ha
            split at ha
            · cases ha
            · split at ha
              · rename_i r; cases hq : Nat.ble (am_cats r) 8 <;> (rw [hq] at ha; cases ha)
              · rename_i r; cases hq : Nat.ble (am_cats r) 8 <;> (rw [hq] at ha; cases ha)
              · cases ha
              · unfold am_try at ha; split at ha <;> cases ha
              · unfold am_try at ha; split at ha <;> cases ha
              · cases ha
              · cases ha
              · cases ha
      · cases raw
        case return_ =>
          dsimp only [am_do] at ha
          split at ha
          · cases ha; exact Or.inl ⟨rfl, rfl, rfl, rfl⟩
          · cases ha
        case ireturn =>
          dsimp only [am_do] at ha
          split at ha
          · rename_i x
            cases hq : (decide ((am_mi mid).2.2.2.2.1 = some .int) || decide (x &&& 1 = x)) with
            | false => rw [hq] at ha; cases ha
            | true =>
              rw [hq] at ha
              have ha : (Sum.inl (some (true, some (Value.int x), h)) : am_A) = Sum.inl (some (true, v, h1)) := ha
              cases ha
              refine Or.inr (Or.inl ⟨x, rfl, rfl, rfl, rfl, ?_⟩)
              rcases am_or hq with q | q
              · exact Or.inl (of_decide_eq_true q)
              · exact Or.inr (of_decide_eq_true q)
          · cases ha
        case lreturn =>
          dsimp only [am_do] at ha
          split at ha
          · cases ha; exact Or.inr (Or.inr ⟨_, rfl, rfl, rfl, rfl⟩)
          · cases ha
        all_goals exfalso
        case invokevirtual i => exact h3 (Or.inl ⟨i, rfl⟩)
        case invokespecial i => exact h3 (Or.inr (Or.inl ⟨i, rfl⟩))
        case invokestatic i => exact h3 (Or.inr (Or.inr ⟨i, rfl⟩))
        case new i =>
          dsimp only [am_do] at ha
          cases hq : Nat.beq a 9999 with
          | false => rw [hq] at ha; cases ha
          | true =>
            rw [hq] at ha
            dsimp only [cond_true] at ha
            cases he : st.isEmpty <;> (rw [he] at ha; cases ha)
        all_goals refine absurd ha ?_
        all_goals dsimp only [am_do]
        all_goals first
          | exact ns_bad _
          | exact ns_ld _
          | exact ns_sto _
          | exact ns_b2 _
          | exact ns_l2 _
          | exact ns_go _
          | exact ns_gd _
          | exact ns_bif ns_go ns_bad _
          | exact ns_bif ns_go ns_go _
          | (split <;> first
              | exact ns_bad _
              | exact ns_go _
              | exact ns_gd _
              | exact ns_get _
              | exact ns_put _
              | exact ns_bif ns_jp ns_bad _
              | exact ns_bif ns_sw ns_bad _
              | exact ns_bif ns_bad ns_mk _
              | exact ns_bif ns_gd ns_gd _)
    rcases hcase with ⟨rfl, rfl, rfl, rfl⟩ | ⟨x, rfl, rfl, rfl, rfl, hret⟩ | ⟨x, rfl, rfl, rfl, rfl⟩
    · intro H locs ls hP hz hS hl hL hn
      exact W.vret hx hb (hr.trans (of_decide_eq_true hlk)) (fun t ht hW => fin H locs hP hS rfl t ht hW) hS.2.2 hdec hlocks
    · intro H locs ls hP hz hS hl hL hn
      have hlk : (decide ((am_mi mid).2.2.2.2.1 = some .int) || decide ((am_mi mid).2.2.2.2.1 = some .boolean)) = true := hlk
      rcases am_or hlk with q | q
      · exact W.iret hx hb (hr.trans (of_decide_eq_true q)) (fun t ht hW => fin H locs hP hS rfl t ht hW) hS.2.2 hdec hlocks
      · have q := of_decide_eq_true q
        have hx1 : x &&& 1 = x := by
          rcases hret with z | z
          · rw [z] at q; cases q
          · exact z
        exact W.zret (ty := .boolean) hx hb (hr.trans q) (by show Value.int (x &&& 1) = Value.int x; rw [hx1]) (fun t ht hW => fin H locs hP hS rfl t ht hW) hS.2.2 hdec hlocks
    · intro H locs ls hP hz hS hl hL hn
      exact W.lret hx hb (hr.trans (of_decide_eq_true hlk)) (fun t ht hW => fin H locs hP hS rfl t ht hW) hS.2.2 hdec hlocks
end AMM
