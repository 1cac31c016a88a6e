/-! switches, constants, the machine's own methods -/
theorem am_ofInt_toInt {v : Int} (h1 : -2147483648 ≤ v) (h2 : v ≤ 2147483647) (x : Int32) : x = Int32.ofInt v ↔ x.toInt = v := by
  constructor
  · rintro rfl
    rw [Int32.toInt_ofInt, show Int32.size = 4294967296 from rfl, Int.bmod_eq_of_le (by omega) (by omega)]
  · rintro rfl
    exact (Int32.ofInt_toInt x).symm
section AMX
variable {p : Program} {l : Launch} {e : Env} {R : Room} {s : State} {m : MethodId} {args : Array Value} {below : List Frame} {meth : Method} {c : Code} {Q : State → Prop} {S0 : Nat} {ad : Nat → Nat} {cy : Nat → ClassId} {D : va_G} {n0 nL cx sx : Nat} {cc : ByteArray}
variable {d mid pc : Nat} {L : am_L} {st : List Value} {h : am_H} {t : am_S}
theorem am_sw_sel {r : List Value} {x : Int32} {dflt : Int} : ∀ (ps : List (Int × Int)) {t : am_S}, am_nx (am_sw d mid pc L r h x ps dflt) = some t → (∀ q ∈ ps, -2147483648 ≤ q.1 ∧ q.1 ≤ 2147483647) → t = (d, mid, am_tg pc (Op.lookupswitch.offset ps dflt x.toInt), L, r, h) := by
  intro ps
  induction ps with
  | nil => intro t ht _; cases ht; rfl
  | cons q ps ih =>
    intro t ht hr
    obtain ⟨v, o⟩ := q
    have hv := hr (v, o) List.mem_cons_self
    have ht : (bif decide (x = Int32.ofInt v) then some (d, mid, am_tg pc o, L, r, h) else am_nx (am_sw d mid pc L r h x ps dflt)) = some t := ht
    by_cases hx : x = Int32.ofInt v
    · rw [decide_eq_true hx] at ht
      cases ht
      have hx := (am_ofInt_toInt hv.1 hv.2 x).mp hx
      simp [Op.lookupswitch.offset, hx]
    · rw [decide_eq_false hx] at ht
      have := ih ht (fun q hq => hr q (List.mem_cons_of_mem _ hq))
      have hx : ¬ x.toInt = v := fun q => hx ((am_ofInt_toInt hv.1 hv.2 x).mpr q)
      have hx' : ¬ v = x.toInt := fun q => hx q.symm
      rw [this]
      simp [Op.lookupswitch.offset, hx']
theorem ag_lsw (hx : p.tables.exec = Jvm.exec) (hb : c.code = cc) {dflt : Int} {ps : Array (Int × Int)} {len : Nat} (hd : decode cc pc = .ok (.lookupswitch dflt ps, len)) {x : Int32} {r : List Value}
    (hnx : am_nx (bif ps.toList.all (fun q => decide (0 ≤ (pc : Int) + q.2) && decide (-2147483648 ≤ q.1) && decide (q.1 ≤ 2147483647)) && decide (0 ≤ (pc : Int) + dflt) && (ps.toList.zip (ps.toList.drop 1)).all (fun q => decide (q.1.1 < q.2.1)) then am_sw d mid pc L r h x ps.toList dflt else am_bad) = some t) (k : am_G p l e R s m args below meth c Q S0 ad cy D n0 nL cx sx t) : am_G p l e R s m args below meth c Q S0 ad cy D n0 nL cx sx (d, mid, pc, L, .int x :: r, h) := by
  cases hg : (ps.toList.all (fun q => decide (0 ≤ (pc : Int) + q.2) && decide (-2147483648 ≤ q.1) && decide (q.1 ≤ 2147483647)) && decide (0 ≤ (pc : Int) + dflt) && (ps.toList.zip (ps.toList.drop 1)).all (fun q => decide (q.1.1 < q.2.1))) with
  | false => rw [hg] at hnx; exact (am_nx_bad hnx).elim
  | true =>
    rw [hg] at hnx
    have hnx : am_nx (am_sw d mid pc L r h x ps.toList dflt) = some t := hnx
    obtain ⟨hg, h3⟩ := am_and3 hg
    obtain ⟨h1, h2⟩ := am_and3 hg
    have h2 := of_decide_eq_true h2
    have hall : ∀ q ∈ ps.toList, 0 ≤ (pc : Int) + q.2 ∧ -2147483648 ≤ q.1 ∧ q.1 ≤ 2147483647 := by
      intro q hq
      have := List.all_eq_true.mp h1 q hq
      obtain ⟨ha, hc⟩ := am_and3 this
      obtain ⟨ha, hb'⟩ := am_and3 ha
      exact ⟨of_decide_eq_true ha, of_decide_eq_true hb', of_decide_eq_true hc⟩
    have ht := am_sw_sel ps.toList hnx (fun q hq => (hall q hq).2)
    subst ht
    have hoff : 0 ≤ (pc : Int) + Op.lookupswitch.offset ps.toList dflt x.toInt := by
      have gen : ∀ (qs : List (Int × Int)), (∀ q ∈ qs, 0 ≤ (pc : Int) + q.2) → 0 ≤ (pc : Int) + Op.lookupswitch.offset qs dflt x.toInt := by
        intro qs
        induction qs with
        | nil => intro _; exact h2
        | cons q qs ih =>
          intro hq
          obtain ⟨v, o⟩ := q
          by_cases hv : v = x.toInt
          · have := hq (v, o) List.mem_cons_self
            simpa [Op.lookupswitch.offset, hv] using this
          · have := ih (fun q z => hq q (List.mem_cons_of_mem _ z))
            simpa [Op.lookupswitch.offset, hv] using this
      exact gen ps.toList (fun q hq => (hall q hq).1)
    intro H locs ls hP hz hS hl hL hn
    exact lv_lookup hx hb hd h3 rfl (am_tg_eq hoff) (k H locs ls hP hz hS hl hL hn)
theorem am_lvl_at : ∀ (offs : List Int) (lo : Int) (x dflt : Int), (x < lo ∨ lo + offs.length ≤ x → Op.lookupswitch.offset (am_lvl lo offs) dflt x = dflt) ∧ (lo ≤ x → x < lo + offs.length → offs[(x - lo).toNat]? = some (Op.lookupswitch.offset (am_lvl lo offs) dflt x)) := by
  intro offs
  induction offs with
  | nil => intro lo x dflt; exact ⟨fun _ => rfl, fun h1 h2 => by simp at h2; omega⟩
  | cons o t ih =>
    intro lo x dflt
    have := ih (lo + 1) x dflt
    by_cases hx : lo = x
    · subst hx
      refine ⟨fun q => ?_, fun _ _ => ?_⟩
      · rcases q with q | q
        · omega
        · simp at q; omega
      · simp [am_lvl, Op.lookupswitch.offset]
    · have e : Op.lookupswitch.offset (am_lvl lo (o :: t)) dflt x = Op.lookupswitch.offset (am_lvl (lo + 1) t) dflt x := by simp [am_lvl, Op.lookupswitch.offset, hx]
      rw [e]
      refine ⟨fun q => this.1 ?_, fun q1 q2 => ?_⟩
      · rcases q with q | q
        · exact Or.inl (by omega)
        · simp at q
          exact Or.inr (by omega)
      · simp at q2
        have := this.2 (by omega) (by omega)
        rw [show (x - lo).toNat = (x - (lo + 1)).toNat + 1 by omega]
        exact this
theorem am_lvl_mem : ∀ (offs : List Int) (lo : Int) (q : Int × Int), q ∈ am_lvl lo offs → lo ≤ q.1 ∧ q.1 < lo + offs.length := by
  intro offs
  induction offs with
  | nil => intro lo q hq; cases hq
  | cons o t ih =>
    intro lo q hq
    rcases List.mem_cons.mp hq with rfl | hq
    · simp; omega
    · have := ih (lo + 1) q hq
      simp; omega
theorem ag_tsw (hx : p.tables.exec = Jvm.exec) (hb : c.code = cc) {dflt lo hi : Int} {offs : Array Int} {len : Nat} (hd : decode cc pc = .ok (.tableswitch dflt lo hi offs, len)) {x : Int32} {r : List Value}
    (hnx : am_nx (bif decide (hi + 1 = lo + (offs.size : Int)) && decide (-2147483648 ≤ lo) && decide (hi ≤ 2147483647) && decide (0 ≤ (pc : Int) + dflt) && offs.toList.all (fun o => decide (0 ≤ (pc : Int) + o)) then am_sw d mid pc L r h x (am_lvl lo offs.toList) dflt else am_bad) = some t) (k : am_G p l e R s m args below meth c Q S0 ad cy D n0 nL cx sx t) : am_G p l e R s m args below meth c Q S0 ad cy D n0 nL cx sx (d, mid, pc, L, .int x :: r, h) := by
  cases hg : (decide (hi + 1 = lo + (offs.size : Int)) && decide (-2147483648 ≤ lo) && decide (hi ≤ 2147483647) && decide (0 ≤ (pc : Int) + dflt) && offs.toList.all (fun o => decide (0 ≤ (pc : Int) + o))) with
  | false => rw [hg] at hnx; exact (am_nx_bad hnx).elim
  | true =>
    rw [hg] at hnx
    have hnx : am_nx (am_sw d mid pc L r h x (am_lvl lo offs.toList) dflt) = some t := hnx
    obtain ⟨hg, h5⟩ := am_and3 hg
    obtain ⟨hg, h4⟩ := am_and3 hg
    obtain ⟨hg, h3⟩ := am_and3 hg
    obtain ⟨h1, h2⟩ := am_and3 hg
    have h1 := of_decide_eq_true h1
    have h2 := of_decide_eq_true h2
    have h3 := of_decide_eq_true h3
    have h4 := of_decide_eq_true h4
    have hsz : (offs.toList.length : Int) = offs.size := by rw [Array.length_toList]
    have ht := am_sw_sel (am_lvl lo offs.toList) hnx (fun q hq => by have := am_lvl_mem _ _ _ hq; rw [hsz] at this; omega)
    subst ht
    have hat := am_lvl_at offs.toList lo x.toInt dflt
    rw [hsz] at hat
    intro H locs ls hP hz hS hl hL hn
    have kk := k H locs ls hP hz hS hl hL hn
    by_cases hc : x.toInt < lo ∨ hi < x.toInt
    · have e1 := hat.1 (by omega)
      rw [e1] at kk
      exact lv_tableOut hx hb hd hc (am_tg_eq h4) kk
    · have hin := hat.2 (by omega) (by omega)
      have hmem : 0 ≤ (pc : Int) + Op.lookupswitch.offset (am_lvl lo offs.toList) dflt x.toInt := of_decide_eq_true (List.all_eq_true.mp h5 _ (List.mem_of_getElem? hin))
      exact lv_tableIn hx hb hd (by omega) (by omega) (by rw [← Array.getElem?_toList]; exact hin) (am_tg_eq hmem) kk
theorem ag_copy (hx : p.tables.exec = Jvm.exec) (hb : c.code = cc) (hml : c.maxLocals = nL) (hts : ∀ w ∈ wsL_law0, w.before args s = true) {own : String} (hown : s.vm.findClass own = some m.cls) (hK : va_K D am_cl (am_tys cy) s) (had : ∀ a, a < 2000 → ad a = S0 + a) (hfr : 1 ≤ R.frames ∧ 64 ≤ R.locals)
    (hw : Cond.native arraycopyName ∈ wsL_law0 ∧ Cond.static arraycopyName ∈ wsL_law0 ∧ Cond.initialized "java/lang/System" ∈ wsL_law0) {idx : Nat} (hlink : Cond.methodLink own idx arraycopyName ∈ wsL_law0) (hd : decode cc pc = .ok (.invokestatic idx, 3)) {r : List Value} {u v : Nat} {sp dp n : Int32} (hcat : am_cats r ≤ 8)
    (hnx : am_nx (am_cpi d mid pc L r h u v sp dp n) = some t ∨ am_nx (am_cpl d mid pc L r h u v sp dp n) = some t) (k : am_G p l e R s m args below meth c Q S0 ad cy D n0 nL cx sx t) : am_G p l e R s m args below meth c Q S0 ad cy D n0 nL cx sx (d, mid, pc, L, .int n :: .int dp :: .ref v :: .int sp :: .ref u :: r, h) := by
  have ecat : ((r.map (am_cv ad)).map fun v => v.category).sum = am_cats r := by
    unfold am_cats
    rw [List.map_map]
    congr 2
    funext w
    exact am_cat ad w
  have hlo : ((r.map (am_cv ad)).map fun v => v.category).sum + (nativeFrameWords "java/lang/System" "arraycopy" 5 + 11) ≤ R.locals := by
    rw [ecat]
    have : nativeFrameWords "java/lang/System" "arraycopy" 5 = 7 := by decide +kernel
    rw [this]
    omega
  have neg : ∀ {z : Int32}, (!(decide (z < 0))) = true → ¬ z < 0 := fun {z} q w => by rw [decide_eq_true w] at q; cases q
  have urow : ∀ {α : Type} (f : Nat → Nat → α) (g : Nat → α), am_ur f v g v = g := fun f g => am_ur_same
  rcases hnx with hnx | hnx
  · obtain ⟨hg, ht⟩ := am_nx_gd hnx
    subst ht
    obtain ⟨hg, g9⟩ := am_and3 hg
    obtain ⟨hg, g8⟩ := am_and3 hg
    obtain ⟨hg, g7⟩ := am_and3 hg
    obtain ⟨hg, g6⟩ := am_and3 hg
    obtain ⟨hg, g5⟩ := am_and3 hg
    obtain ⟨hg, g4⟩ := am_and3 hg
    obtain ⟨hg, g3⟩ := am_and3 hg
    obtain ⟨g1, g2⟩ := am_and3 hg
    have g1 := of_decide_eq_true g1
    have g3 := of_decide_eq_true g3
    have g2 := Nat.eq_of_beq_eq_true g2
    have g4 := Nat.eq_of_beq_eq_true g4
    intro H locs ls hP hz hS hl hL hn
    have e1 : ad u = S0 + u := had u (by have : h.1 ≤ 1000 := hz; omega)
    have e2 : ad v = S0 + v := had v (by have : h.1 ≤ 1000 := hz; omega)
    show W p l e R s m args below meth c H locs _ _ Q (F0 m pc ls (Value.int n :: Value.int dp :: Value.ref (ad v) :: Value.int sp :: Value.ref (ad u) :: r.map (am_cv ad)))
    rw [e1, e2]
    exact va_copyi hx hb (by rw [hml, ← hL]; exact hl.1.symm) hown (hts _ hlink) (hts _ hw.1) (hts _ hw.2.1) (hts _ hw.2.2) hK hP am_ws_D hS u v 0 0 (ty := .int) (show (am_ws S0 ad cy h)[u]? = some (S0 + u, .inl (cy 0, (am_K u).2, .inl (h.2.2.1 u))) by rw [am_ws_at g1, am_ce_i g2]) (show (am_ws S0 ad cy h)[v]? = some (S0 + v, .inl (cy 0, (am_K v).2, .inl (h.2.2.1 v))) by rw [am_ws_at g3, am_ce_i g4]) rfl rfl rfl (neg g5) (neg g6) (neg g7) (Nat.le_of_ble_eq_true g8) (Nat.le_of_ble_eq_true g9) (fun _ _ => rfl) hfr.1 hlo hd
      (ag_fin (h := h) (h' := (h.1, h.2.1, am_ur h.2.2.1 v (va_cpy (h.2.2.1 u) (h.2.2.1 v) sp.toNatClampNeg dp.toNatClampNeg n.toNatClampNeg), h.2.2.2)) (H := H) rfl (by rw [am_ce_i g4]; simp only [urow]) (fun q' hq' => am_ce_other rfl (am_ur_ne hq') rfl rfl) hz hl hL hn k)
  · obtain ⟨hg, ht⟩ := am_nx_gd hnx
    subst ht
    obtain ⟨hg, g9⟩ := am_and3 hg
    obtain ⟨hg, g8⟩ := am_and3 hg
    obtain ⟨hg, g7⟩ := am_and3 hg
    obtain ⟨hg, g6⟩ := am_and3 hg
    obtain ⟨hg, g5⟩ := am_and3 hg
    obtain ⟨hg, g4⟩ := am_and3 hg
    obtain ⟨hg, g3⟩ := am_and3 hg
    obtain ⟨g1, g2⟩ := am_and3 hg
    have g1 := of_decide_eq_true g1
    have g3 := of_decide_eq_true g3
    have g2 := Nat.eq_of_beq_eq_true g2
    have g4 := Nat.eq_of_beq_eq_true g4
    intro H locs ls hP hz hS hl hL hn
    have e1 : ad u = S0 + u := had u (by have : h.1 ≤ 1000 := hz; omega)
    have e2 : ad v = S0 + v := had v (by have : h.1 ≤ 1000 := hz; omega)
    show W p l e R s m args below meth c H locs _ _ Q (F0 m pc ls (Value.int n :: Value.int dp :: Value.ref (ad v) :: Value.int sp :: Value.ref (ad u) :: r.map (am_cv ad)))
    rw [e1, e2]
    exact va_copyl hx hb (by rw [hml, ← hL]; exact hl.1.symm) hown (hts _ hlink) (hts _ hw.1) (hts _ hw.2.1) (hts _ hw.2.2) hK hP am_ws_D hS u v 1 1 (ty := .long) (show (am_ws S0 ad cy h)[u]? = some (S0 + u, .inl (cy 1, (am_K u).2, .inr (.inl (h.2.2.2.1 u)))) by rw [am_ws_at g1, am_ce_l g2]) (show (am_ws S0 ad cy h)[v]? = some (S0 + v, .inl (cy 1, (am_K v).2, .inr (.inl (h.2.2.2.1 v)))) by rw [am_ws_at g3, am_ce_l g4]) rfl rfl rfl (neg g5) (neg g6) (neg g7) (Nat.le_of_ble_eq_true g8) (Nat.le_of_ble_eq_true g9) (fun _ _ => rfl) hfr.1 hlo hd
      (ag_fin (h := h) (h' := (h.1, h.2.1, h.2.2.1, am_ur h.2.2.2.1 v (va_cpy (h.2.2.2.1 u) (h.2.2.2.1 v) sp.toNatClampNeg dp.toNatClampNeg n.toNatClampNeg), h.2.2.2.2)) (H := H) rfl (by rw [am_ce_l g4]; simp only [urow]) (fun q' hq' => am_ce_other rfl rfl (am_ur_ne hq') rfl) hz hl hL hn k)
theorem am_cats_cv (ad : Nat → Nat) (r : List Value) : ((r.map (am_cv ad)).map fun v => v.category).sum = am_cats r := by
  unfold am_cats
  rw [List.map_map]
  congr 2
  funext w
  exact am_cat ad w
end AMX
