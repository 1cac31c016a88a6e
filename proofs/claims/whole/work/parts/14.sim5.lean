/-! what is made -/
section AMN
variable {p : Program} {l : Launch} {e : Env} {R : Room} {s : State} {m : MethodId} {args : Array Value} {below : List Frame} {meth : Method} {c : Code} {Q : State → Prop} {S0 : Nat} {ad : Nat → Nat} {cy : Nat → ClassId} {D : va_G} {n0 nL cx sx : Nat} {cc : ByteArray}
variable {d mid pc : Nat} {L : am_L} {st : List Value} {h : am_H} {t : am_S}
theorem am_sz_mono {a b : Nat} (hab : a ≤ b) : am_sz a ≤ am_sz b := by
  induction hab with
  | refl => exact Nat.le_refl _
  | step _ ih => exact Nat.le_trans ih (Nat.le_add_right _ _)
theorem am_size {H : Heap} {locs : List Loc} {T : State} (hP : va_P D am_cl (am_ws S0 ad cy h) H) (hS : va_S (am_AA S0) s.heap H locs) (hs0 : s.heap.size = S0 + n0 ∧ cx = 0) (hn : n0 ≤ h.1) (hT : T.heap = H) (X : Stand p l e R s m args below meth c T locs (h.1 - n0 + cx) (am_sz h.1 - am_sz n0 + sx)) : H.size = S0 + h.1 := by
  have h1 : T.heap.size ≤ s.heap.size + (h.1 - n0 + cx) := X.same.2.2.1
  have hs1 := hs0.1
  have hs2 := hs0.2
  rw [hT] at h1
  have h2 : S0 + h.1 ≤ H.size := by
    by_cases h0 : h.1 = 0
    · have := hS.1
      omega
    · have := (hP (h.1 - 1) _ (am_ws_at (by omega))).lt
      dsimp only at this
      omega
  omega
theorem am_ur_ne {α : Type} {f : Nat → Nat → α} {p : Nat} {r : Nat → α} {q : Nat} (h : q ≠ p) : am_ur f p r q = f q := by
  funext j
  simp [am_ur, h]
theorem am_ur_same {α : Type} {f : Nat → Nat → α} {p : Nat} {r : Nat → α} : am_ur f p r p = r := by
  funext j
  simp [am_ur]
theorem am_ws_new : am_ws S0 ad cy (am_new h) = am_ws S0 ad cy h ++ [(S0 + h.1, am_ce ad cy (am_new h) h.1)] := by
  obtain ⟨n, Z, I, J, E⟩ := h
  unfold am_ws
  show (List.range (n + 1)).map _ = _
  rw [List.range_succ, List.map_append]
  congr 1
  apply List.map_congr_left
  intro q hq
  have hq : q ≠ n := Nat.ne_of_lt (List.mem_range.mp hq)
  rw [am_ce_other (h' := am_new (n, Z, I, J, E)) (h := (n, Z, I, J, E)) (am_ur_ne hq) (am_ur_ne hq) (am_ur_ne hq) (am_ur_ne hq)]
theorem am_new_P {H H1 : Heap} (hP : va_P D am_cl (am_ws S0 ad cy h) H) (hsz : H.size = S0 + h.1) (hk : ∀ q, q < S0 + h.1 → H1[q]? = H[q]?) (hnew : va_at D am_cl (S0 + h.1, am_ce ad cy (am_new h) h.1) H1) : va_P D am_cl (am_ws S0 ad cy (am_new h)) H1 := by
  rw [am_ws_new]
  refine va_P.app (hP.kept (fun k x hx => hk x.1 (by rw [← hsz]; exact (hP k x hx).lt))) (fun k x hx => ?_)
  have hz : k < 1 := (List.getElem?_eq_some_iff.mp hx).1
  rw [show k = 0 by omega] at hx
  cases hx
  exact hnew
theorem am_new_S {H H1 : Heap} {locs : List Loc} (hS : va_S (am_AA S0) s.heap H locs) (hsz : H.size = S0 + h.1) (h1 : H1.size = S0 + h.1 + 1) (hk : ∀ q, q < S0 + h.1 → H1[q]? = H[q]?) : va_S (am_AA S0) s.heap H1 locs :=
  ⟨Nat.le_trans hS.1 (by omega), fun q h2 h3 => (hk q (by have := hS.1; omega)).trans (hS.2.1 q h2 h3), hS.2.2⟩
theorem am_new_fin {H1 : Heap} {locs : List Loc} {ls : Array Slot} {r : List Value} {pc' N : Nat} (hP1 : va_P D am_cl (am_ws S0 ad cy (am_new h)) H1) (hS1 : va_S (am_AA S0) s.heap H1 locs) (hl : am_lh ad ls L) (hL : L.length = nL) (hn : n0 ≤ h.1) (hz : h.1 < 1000) (hN : am_sl (am_K h.1) = N) (had : ∀ a, a < 2000 → ad a = S0 + a)
    (k : am_G p l e R s m args below meth c Q S0 ad cy D n0 nL cx sx (d, mid, pc', L, .ref h.1 :: r, am_new h)) : W p l e R s m args below meth c H1 locs (h.1 - n0 + cx + 1) (am_sz h.1 - am_sz n0 + sx + N) Q (F0 m pc' ls (.ref (S0 + h.1) :: r.map (am_cv ad))) := by
  have e1 : (am_new h).1 = h.1 + 1 := rfl
  have := k H1 locs ls hP1 (by show (am_new h).1 ≤ 1000; rw [e1]; omega) hS1 hl hL (by show n0 ≤ (am_new h).1; rw [e1]; omega)
  dsimp only at this
  rw [e1] at this
  have e2 : h.1 + 1 - n0 + cx = h.1 - n0 + cx + 1 := by omega
  have e3 : am_sz (h.1 + 1) - am_sz n0 + sx = am_sz h.1 - am_sz n0 + sx + N := by
    have h1 := am_sz_mono hn
    show am_sz h.1 + am_sl (am_K h.1) - am_sz n0 + sx = _
    rw [hN]
    omega
  rw [e2, e3] at this
  have e4 : (Value.ref h.1 :: r).map (am_cv ad) = Value.ref (S0 + h.1) :: r.map (am_cv ad) := by
    show Value.ref (ad h.1) :: _ = _
    rw [had h.1 (by omega)]
  rw [e4] at this
  exact this
theorem am_mk_use {o : Bool} {len kd ln : Nat} {r : List Value} (hnx : am_nx (am_mk o d mid pc len L r h kd ln) = some t) : o = true ∧ h.1 < 1000 ∧ (am_K h.1).1 = kd ∧ (am_K h.1).2 = ln ∧ t = (d, mid, pc + len, L, .ref h.1 :: r, am_new h) := by
  obtain ⟨hg, ht⟩ := am_nx_gd hnx
  obtain ⟨hg, h4⟩ := am_and3 hg
  obtain ⟨hg, h3⟩ := am_and3 hg
  obtain ⟨h1, h2⟩ := am_and3 hg
  exact ⟨h1, Nat.le_of_ble_eq_true h2, Nat.eq_of_beq_eq_true h3, Nat.eq_of_beq_eq_true h4, ht⟩
theorem ag_new {o : Bool} (hx : p.tables.exec = Jvm.exec) (hb : c.code = cc) (hts : ∀ w ∈ wsL_law0, w.before args s = true) {own : String} (hown : s.vm.findClass own = some m.cls) (hK : va_K D am_cl (am_tys cy) s) (had : ∀ a, a < 2000 → ad a = S0 + a) (hs0 : o = true → s.heap.size = S0 + n0 ∧ cx = 0)
    {idx ci : Nat} {C : String} {T : u_T} {N : Nat} {r : List Value} (hc : am_cl[ci]? = some (C, T, N)) (hcl : am_clOk ci C T N) (hft : ∀ k, k < N → am_ft ci k ≤ 4) (hw1 : Cond.classLink own idx C ∈ wsL_law0) (hw2 : Cond.instantiable C N ∈ wsL_law0) (hw3 : Cond.initialized C ∈ wsL_law0) (hd : decode cc pc = .ok (.new idx, 3))
    (hnx : am_nx (am_mk o d mid pc 3 L r h ci 0) = some t) (hrm : t.2.2.2.2.2.1 - n0 + cx ≤ R.cells ∧ am_sz t.2.2.2.2.2.1 - am_sz n0 + sx ≤ R.slots) (k : am_G p l e R s m args below meth c Q S0 ad cy D n0 nL cx sx t) : am_G p l e R s m args below meth c Q S0 ad cy D n0 nL cx sx (d, mid, pc, L, r, h) := by
  obtain ⟨ho, hlt, hk1, hk2, ht⟩ := am_mk_use hnx
  subst ht
  obtain ⟨hin, hty, htk, hnm, hN, hci⟩ := hcl
  have hsl : am_sl (am_K h.1) = N := by
    unfold am_sl
    rw [hk1]
    have : Nat.blt ci 100 = true := Nat.ble_eq_true_of_le (by omega)
    rw [this, hN]
    rfl
  intro H locs ls hP hz hS hl hL hn TT hT X
  have hn : n0 ≤ h.1 := hn
  have hsz := am_size hP hS (hs0 ho) hn hT X
  have hKn := hK.1 ci _ hc
  have hrm1 : h.1 + 1 - n0 + cx ≤ R.cells := hrm.1
  have hrm2 : am_sz h.1 + am_sl (am_K h.1) - am_sz n0 + sx ≤ R.slots := hrm.2
  have hmono := am_sz_mono hn
  suffices hW : W p l e R s m args below meth c H locs (h.1 - n0 + cx) (am_sz h.1 - am_sz n0 + sx) Q (F0 m pc ls (r.map (am_cv ad))) from hW TT hT X
  refine W.newcK (g := F0 m pc ls (r.map (am_cv ad))) (C := C) (n := N) hx hb hown (hts _ hw1) (hts _ hw2) (hts _ hw3) rfl hd (show h.1 - n0 + cx + 1 ≤ R.cells by omega) (show am_sz h.1 - am_sz n0 + sx + N ≤ R.slots by rw [hsl] at hrm2; omega) hKn.2.1 hsz fun H1 kC hkC e1 z1 o1 => ?_
  refine am_new_fin (am_new_P hP hsz o1 ?_) (am_new_S hS hsz z1 o1) hl hL hn hlt hsl had k
  rw [am_ce_obj hk1 hci]
  refine ⟨_, hc, (u_born (am_tyf ci) hts hin hKn hkC e1 hty).to (fun j hj => ?_)⟩
  have ej : vp_V ((List.range (am_nf ci)).map (am_fv ad (am_new h) h.1 ci)) j = am_fv ad (am_new h) h.1 ci j := by
    unfold vp_V
    rw [List.getD_eq_getElem?_getD, List.getElem?_map, List.getElem?_range (by rw [← hN]; exact hj)]
    rfl
  rw [ej]
  have hj4 := hft j hj
  have hto := htk j hj
  obtain ⟨n, Z, I, J, E⟩ := h
  have eZ : (am_new (n, Z, I, J, E)).2.1 n j = false := congrFun (am_ur_same (f := Z) (p := n) (r := fun _ => false)) j
  have eI : (am_new (n, Z, I, J, E)).2.2.1 n j = 0 := congrFun (am_ur_same (f := I) (p := n) (r := fun _ => 0)) j
  have eJ : (am_new (n, Z, I, J, E)).2.2.2.1 n j = 0 := congrFun (am_ur_same (f := J) (p := n) (r := fun _ => 0)) j
  have eE : (am_new (n, Z, I, J, E)).2.2.2.2 n j = 0 := congrFun (am_ur_same (f := E) (p := n) (r := fun _ => 0)) j
  unfold am_fv
  rcases (show am_ft ci j = 0 ∨ am_ft ci j = 1 ∨ am_ft ci j = 2 ∨ am_ft ci j = 3 ∨ am_ft ci j = 4 by omega) with hf | hf | hf | hf | hf
  · rw [hf, hto.1 hf]; dsimp only; rw [eI]; rfl
  · rw [hf, hto.2.1 hf]; dsimp only; rw [eJ]; rfl
  · rw [hf]; dsimp only; rw [eZ]
    rcases hto.2.2.1 hf with ⟨C', q⟩ | ⟨C', q⟩ <;> rw [q] <;> rfl
  · rw [hf]; dsimp only; rw [eE]
    obtain ⟨C', q⟩ := hto.2.2.2.1 hf
    rw [q]; rfl
  · rw [hf, hto.2.2.2.2 hf]; dsimp only; rw [eI]; rfl
theorem am_kd_sl {q : Nat × Nat} (h1 : 100 ≤ q.1) : am_sl q = q.2 := by
  unfold am_sl
  have : Nat.blt q.1 100 = false := by
    cases hb : Nat.blt q.1 100 with
    | false => rfl
    | true =>
      have : q.1 < 100 := Nat.le_of_ble_eq_true hb
      omega
  rw [this]
  rfl
theorem ag_newa {o : Bool} (hx : p.tables.exec = Jvm.exec) (hb : c.code = cc) (hts : ∀ w ∈ wsL_law0, w.before args s = true) (hK : va_K D am_cl (am_tys cy) s) (had : ∀ a, a < 2000 → ad a = S0 + a) (hs0 : o = true → s.heap.size = S0 + n0 ∧ cx = 0)
    {at' : ArrayType} {kd : Nat} {r : List Value} {n : Int32} (hkd : (at' = .int ∧ kd = 100) ∨ (at' = .long ∧ kd = 101) ∨ (at' = .boolean ∧ kd = 102)) (hw : Cond.arrayClass (newarray.typeOf at') ∈ wsL_law0) (hd : decode cc pc = .ok (.newarray at', 2)) (hln : ∀ q, (am_K q).2 ≤ 1000)
    (hnx : am_nx (bif decide (n < 0) then am_bad else am_mk o d mid pc 2 L r h kd n.toNatClampNeg) = some t) (hrm : t.2.2.2.2.2.1 - n0 + cx ≤ R.cells ∧ am_sz t.2.2.2.2.2.1 - am_sz n0 + sx ≤ R.slots) (k : am_G p l e R s m args below meth c Q S0 ad cy D n0 nL cx sx t) : am_G p l e R s m args below meth c Q S0 ad cy D n0 nL cx sx (d, mid, pc, L, .int n :: r, h) := by
  by_cases hneg : n < 0
  · rw [decide_eq_true hneg] at hnx
    exact (am_nx_bad hnx).elim
  rw [decide_eq_false hneg] at hnx
  obtain ⟨ho, hlt, hk1, hk2, ht⟩ := am_mk_use hnx
  subst ht
  have h100 : 100 ≤ (am_K h.1).1 := by rcases hkd with ⟨-, q⟩ | ⟨-, q⟩ | ⟨-, q⟩ <;> omega
  have hsl : am_sl (am_K h.1) = n.toNatClampNeg := by rw [am_kd_sl h100, hk2]
  intro H locs ls hP hz hS hl hL hn TT hT X
  have hn : n0 ≤ h.1 := hn
  have hsz := am_size hP hS (hs0 ho) hn hT X
  have hrm1 : h.1 + 1 - n0 + cx ≤ R.cells := hrm.1
  have hrm2 : am_sz h.1 + am_sl (am_K h.1) - am_sz n0 + sx ≤ R.slots := hrm.2
  have hmono := am_sz_mono hn
  have hbig := hln h.1
  have hby : n.toNatClampNeg * componentBytes (newarray.typeOf at') ≤ 536870912 := by
    have : componentBytes (newarray.typeOf at') ≤ 8 := by rcases hkd with ⟨q, -⟩ | ⟨q, -⟩ | ⟨q, -⟩ <;> rw [q] <;> decide
    calc n.toNatClampNeg * componentBytes (newarray.typeOf at') ≤ 1000 * 8 := Nat.mul_le_mul (by omega) this
      _ ≤ 536870912 := by decide
  suffices hW : W p l e R s m args below meth c H locs (h.1 - n0 + cx) (am_sz h.1 - am_sz n0 + sx) Q (F0 m pc ls (Value.int n :: r.map (am_cv ad))) from hW TT hT X
  refine va_newaK (g := F0 m pc ls (Value.int n :: r.map (am_cv ad))) hx hb (hts _ hw) rfl hd rfl hneg rfl hby (show h.1 - n0 + cx + 1 ≤ R.cells by omega) (show am_sz h.1 - am_sz n0 + sx + n.toNatClampNeg ≤ R.slots by rw [hsl] at hrm2; omega) hsz fun H1 cA e1 z1 o1 hAr hNm => ?_
  refine am_new_fin (am_new_P hP hsz o1 ?_) (am_new_S hS hsz z1 o1) hl hL hn hlt hsl had k
  obtain ⟨nn, Z, I, J, E⟩ := h
  have eI : (am_new (nn, Z, I, J, E)).2.2.1 nn = fun _ => 0 := am_ur_same
  have eJ : (am_new (nn, Z, I, J, E)).2.2.2.1 nn = fun _ => 0 := am_ur_same
  rcases hkd with ⟨q1, q2⟩ | ⟨q1, q2⟩ | ⟨q1, q2⟩
  · subst q1
    have ec : cA = cy 0 := Option.some.inj (hNm.symm.trans (hK.2 0 _ rfl).2)
    rw [am_ce_i (hk1.trans q2), eI]
    show H1[S0 + nn]? = some (vp_cell (cy 0) _)
    rw [e1, hk2, ec]
    rfl
  · subst q1
    have ec : cA = cy 1 := Option.some.inj (hNm.symm.trans (hK.2 1 _ rfl).2)
    rw [am_ce_l (hk1.trans q2), eJ]
    show H1[S0 + nn]? = some (vp_cell (cy 1) _)
    rw [e1, hk2, ec]
    rfl
  · subst q1
    have ec : cA = cy 2 := Option.some.inj (hNm.symm.trans (hK.2 2 _ rfl).2)
    rw [am_ce_z (hk1.trans q2), eI]
    show H1[S0 + nn]? = some (vp_cell (cy 2) _)
    rw [e1, hk2, ec]
    rfl
theorem ag_anew {o : Bool} (hx : p.tables.exec = Jvm.exec) (hb : c.code = cc) (hts : ∀ w ∈ wsL_law0, w.before args s = true) {own : String} (hown : s.vm.findClass own = some m.cls) (hK : va_K D am_cl (am_tys cy) s) (hAO : ∀ C ∈ [RX7, RX6, RX10], va_AO C s) (had : ∀ a, a < 2000 → ad a = S0 + a) (hs0 : o = true → s.heap.size = S0 + n0 ∧ cx = 0)
    {idx kd : Nat} {C : String} {r : List Value} {n : Int32} (hkd : (C = RX7 ∧ kd = 103) ∨ (C = RX6 ∧ kd = 104) ∨ (C = RX10 ∧ kd = 105)) (hw : Cond.classLink own idx C ∈ wsL_law0) (hd : decode cc pc = .ok (.anewarray idx, 3)) (hln : ∀ q, (am_K q).2 ≤ 1000)
    (hnx : am_nx (bif decide (n < 0) then am_bad else am_mk o d mid pc 3 L r h kd n.toNatClampNeg) = some t) (hrm : t.2.2.2.2.2.1 - n0 + cx ≤ R.cells ∧ am_sz t.2.2.2.2.2.1 - am_sz n0 + sx ≤ R.slots) (k : am_G p l e R s m args below meth c Q S0 ad cy D n0 nL cx sx t) : am_G p l e R s m args below meth c Q S0 ad cy D n0 nL cx sx (d, mid, pc, L, .int n :: r, h) := by
  by_cases hneg : n < 0
  · rw [decide_eq_true hneg] at hnx
    exact (am_nx_bad hnx).elim
  rw [decide_eq_false hneg] at hnx
  obtain ⟨ho, hlt, hk1, hk2, ht⟩ := am_mk_use hnx
  subst ht
  have h100 : 100 ≤ (am_K h.1).1 := by rcases hkd with ⟨-, q⟩ | ⟨-, q⟩ | ⟨-, q⟩ <;> omega
  have hsl : am_sl (am_K h.1) = n.toNatClampNeg := by rw [am_kd_sl h100, hk2]
  intro H locs ls hP hz hS hl hL hn TT hT X
  have hn : n0 ≤ h.1 := hn
  have hsz := am_size hP hS (hs0 ho) hn hT X
  have hrm1 : h.1 + 1 - n0 + cx ≤ R.cells := hrm.1
  have hrm2 : am_sz h.1 + am_sl (am_K h.1) - am_sz n0 + sx ≤ R.slots := hrm.2
  have hmono := am_sz_mono hn
  have hbig := hln h.1
  have hmem : C ∈ [RX7, RX6, RX10] := by rcases hkd with ⟨q, -⟩ | ⟨q, -⟩ | ⟨q, -⟩ <;> rw [q] <;> simp
  suffices hW : W p l e R s m args below meth c H locs (h.1 - n0 + cx) (am_sz h.1 - am_sz n0 + sx) Q (F0 m pc ls (Value.int n :: r.map (am_cv ad))) from hW TT hT X
  refine W.anew (g := F0 m pc ls (Value.int n :: r.map (am_cv ad))) hx hb hown (hts _ hw) (va_AO.use (hAO C hmem)) rfl hd rfl hneg (by omega) (show h.1 - n0 + cx + 1 ≤ R.cells by omega) (show am_sz h.1 - am_sz n0 + sx + n.toNatClampNeg ≤ R.slots by rw [hsl] at hrm2; omega) fun cA kA comp f1 f2 f3 f4 => ?_
  generalize hH1 : H.push ({ cls := cA, slots := Array.replicate n.toNatClampNeg .null, vm := .none } : Cell) = H1
  have z1 : H1.size = S0 + h.1 + 1 := by rw [← hH1, Array.size_push, hsz]
  have e1 : H1[S0 + h.1]? = some (arrV cA n.toNatClampNeg (fun _ => .null)) := by rw [← hH1, ← hsz, Array.getElem?_push_size, ← arrV_new]
  have o1 : ∀ q, q < S0 + h.1 → H1[q]? = H[q]? := fun q hq => by rw [← hH1, Array.getElem?_push, if_neg (fun z => by rw [z, hsz] at hq; exact absurd hq (Nat.lt_irrefl _))]
  rw [hsz]
  refine am_new_fin (am_new_P hP hsz o1 ?_) (am_new_S hS hsz z1 o1) hl hL hn hlt hsl had k
  obtain ⟨nn, Z, I, J, E⟩ := h
  have eZ : (am_new (nn, Z, I, J, E)).2.1 nn = fun _ => false := am_ur_same
  have eE : (am_new (nn, Z, I, J, E)).2.2.2.2 nn = fun _ => 0 := am_ur_same
  rcases hkd with ⟨q1, q2⟩ | ⟨q1, q2⟩ | ⟨q1, q2⟩
  · subst q1
    obtain ⟨_, _, _, _, _, q5⟩ := (hK.2 3 _ rfl).2
    have ec : cA = cy 3 := Option.some.inj (f1.symm.trans q5)
    rw [am_ce_q3 (hk1.trans q2), eZ]
    show H1[S0 + nn]? = some (vp_cell (cy 3) _)
    rw [e1, hk2, ec]
    rfl
  · subst q1
    obtain ⟨_, _, _, _, _, q5⟩ := (hK.2 4 _ rfl).2
    have ec : cA = cy 4 := Option.some.inj (f1.symm.trans q5)
    rw [am_ce_q4 (hk1.trans q2), eZ]
    show H1[S0 + nn]? = some (vp_cell (cy 4) _)
    rw [e1, hk2, ec]
    rfl
  · subst q1
    obtain ⟨_, _, _, _, _, q5⟩ := (hK.2 5 _ rfl).2
    have ec : cA = cy 5 := Option.some.inj (f1.symm.trans q5)
    rw [am_ce_e (hk1.trans q2), eE]
    show H1[S0 + nn]? = some (vp_cell (cy 5) _)
    rw [e1, hk2, ec]
    rfl
end AMN
