/-! rows of numbers and of references -/
section AMR
variable {p : Program} {l : Launch} {e : Env} {R : Room} {s : State} {m : MethodId} {args : Array Value} {below : List Frame} {meth : Method} {c : Code} {Q : State → Prop} {S0 : Nat} {ad : Nat → Nat} {cy : Nat → ClassId} {D : va_G} {n0 nL cx sx : Nat} {cc : ByteArray}
variable {d mid pc : Nat} {L : am_L} {st : List Value} {h : am_H} {t : am_S}
theorem am_ce_i {p : Nat} (hK : (am_K p).1 = 100) : am_ce ad cy h p = .inl (cy 0, (am_K p).2, .inl (h.2.2.1 p)) := by unfold am_ce; rw [hK]; rfl
theorem am_ce_l {p : Nat} (hK : (am_K p).1 = 101) : am_ce ad cy h p = .inl (cy 1, (am_K p).2, .inr (.inl (h.2.2.2.1 p))) := by unfold am_ce; rw [hK]; rfl
theorem am_ce_z {p : Nat} (hK : (am_K p).1 = 102) : am_ce ad cy h p = .inl (cy 2, (am_K p).2, .inl (h.2.2.1 p)) := by unfold am_ce; rw [hK]; rfl
theorem am_ce_q3 {p : Nat} (hK : (am_K p).1 = 103) : am_ce ad cy h p = .inl (cy 3, (am_K p).2, .inr (.inr (.inr (.inr (fun k => bif h.2.1 p k then some (ad (am_SR p k)) else none))))) := by unfold am_ce; rw [hK]; rfl
theorem am_ce_q4 {p : Nat} (hK : (am_K p).1 = 104) : am_ce ad cy h p = .inl (cy 4, (am_K p).2, .inr (.inr (.inr (.inr (fun k => bif h.2.1 p k then some (ad (am_SR p k)) else none))))) := by unfold am_ce; rw [hK]; rfl
theorem am_ce_e {p : Nat} (hK : (am_K p).1 = 105) : am_ce ad cy h p = .inl (cy 5, (am_K p).2, .inr (.inr (.inr (.inr (fun k => am_eo ad (h.2.2.2.2 p k)))))) := by unfold am_ce; rw [hK]; rfl
theorem am_u_row {α : Type} {f : Nat → Nat → α} {p k : Nat} {x : α} : am_u f p k x p = fun j => if j = k then x else f p j := by
  funext j
  simp [am_u]
theorem ag_iald (hx : p.tables.exec = Jvm.exec) (hb : c.code = cc) (hK : va_K D am_cl (am_tys cy) s) (had : ∀ a, a < 2000 → ad a = S0 + a) {q : Nat} {i : Int32} {r : List Value} (hd : decode cc pc = .ok (.iaload, 1))
    (hnx : am_nx (am_gd (decide (q < h.1) && Nat.beq (am_K q).1 100 && am_in i (am_K q).2) (d, mid, pc + 1, L, .int (h.2.2.1 q i.toNatClampNeg) :: r, h)) = some t) (k : am_G p l e R s m args below meth c Q S0 ad cy D n0 nL cx sx t) : am_G p l e R s m args below meth c Q S0 ad cy D n0 nL cx sx (d, mid, pc, L, .int i :: .ref q :: r, h) := by
  obtain ⟨hg, ht⟩ := am_nx_gd hnx
  subst ht
  obtain ⟨hg, hi⟩ := am_and3 hg
  obtain ⟨hq, hk⟩ := am_and3 hg
  have hq := of_decide_eq_true hq
  intro H locs ls hP hz hS hl hL hn
  have e1 : ad q = S0 + q := had q (by have : h.1 ≤ 1000 := hz; omega)
  show W p l e R s m args below meth c H locs _ _ Q (F0 m pc ls (Value.int i :: Value.ref (ad q) :: r.map (am_cv ad)))
  rw [e1]
  exact va_iald hx hb hK hP q 0 (by rw [am_ws_at hq, am_ce_i (Nat.eq_of_beq_eq_true hk)]) rfl (am_in_vp hi) hd (k H locs ls hP hz hS hl hL hn)
theorem ag_lald (hx : p.tables.exec = Jvm.exec) (hb : c.code = cc) (hK : va_K D am_cl (am_tys cy) s) (had : ∀ a, a < 2000 → ad a = S0 + a) {q : Nat} {i : Int32} {r : List Value} (hd : decode cc pc = .ok (.laload, 1))
    (hnx : am_nx (am_gd (decide (q < h.1) && Nat.beq (am_K q).1 101 && am_in i (am_K q).2) (d, mid, pc + 1, L, .long (h.2.2.2.1 q i.toNatClampNeg) :: r, h)) = some t) (k : am_G p l e R s m args below meth c Q S0 ad cy D n0 nL cx sx t) : am_G p l e R s m args below meth c Q S0 ad cy D n0 nL cx sx (d, mid, pc, L, .int i :: .ref q :: r, h) := by
  obtain ⟨hg, ht⟩ := am_nx_gd hnx
  subst ht
  obtain ⟨hg, hi⟩ := am_and3 hg
  obtain ⟨hq, hk⟩ := am_and3 hg
  have hq := of_decide_eq_true hq
  intro H locs ls hP hz hS hl hL hn
  have e1 : ad q = S0 + q := had q (by have : h.1 ≤ 1000 := hz; omega)
  show W p l e R s m args below meth c H locs _ _ Q (F0 m pc ls (Value.int i :: Value.ref (ad q) :: r.map (am_cv ad)))
  rw [e1]
  exact va_lald hx hb hK hP q 1 (by rw [am_ws_at hq, am_ce_l (Nat.eq_of_beq_eq_true hk)]) rfl (am_in_vp hi) hd (k H locs ls hP hz hS hl hL hn)
theorem ag_zald (hx : p.tables.exec = Jvm.exec) (hb : c.code = cc) (hK : va_K D am_cl (am_tys cy) s) (had : ∀ a, a < 2000 → ad a = S0 + a) {q : Nat} {i : Int32} {r : List Value} (hd : decode cc pc = .ok (.baload, 1))
    (hnx : am_nx (am_gd (decide (q < h.1) && Nat.beq (am_K q).1 102 && am_in i (am_K q).2) (d, mid, pc + 1, L, .int (h.2.2.1 q i.toNatClampNeg) :: r, h)) = some t) (k : am_G p l e R s m args below meth c Q S0 ad cy D n0 nL cx sx t) : am_G p l e R s m args below meth c Q S0 ad cy D n0 nL cx sx (d, mid, pc, L, .int i :: .ref q :: r, h) := by
  obtain ⟨hg, ht⟩ := am_nx_gd hnx
  subst ht
  obtain ⟨hg, hi⟩ := am_and3 hg
  obtain ⟨hq, hk⟩ := am_and3 hg
  have hq := of_decide_eq_true hq
  intro H locs ls hP hz hS hl hL hn
  have e1 : ad q = S0 + q := had q (by have : h.1 ≤ 1000 := hz; omega)
  show W p l e R s m args below meth c H locs _ _ Q (F0 m pc ls (Value.int i :: Value.ref (ad q) :: r.map (am_cv ad)))
  rw [e1]
  exact va_zald hx hb hK hP q 2 (by rw [am_ws_at hq, am_ce_z (Nat.eq_of_beq_eq_true hk)]) rfl (am_in_vp hi) hd (k H locs ls hP hz hS hl hL hn)
/-- what a store leaves -/
theorem ag_fin {h' : am_H} {q pc' : Nat} {v : va_E} {r : List Value} {H : Heap} {ls : Array Slot} (hn1 : h'.1 = h.1) (hv : am_ce ad cy h' q = v) (ho : ∀ q', q' ≠ q → am_ce ad cy h' q' = am_ce ad cy h q') (hz : h.1 ≤ 1000) (hl : am_lh ad ls L) (hL : L.length = nL) (hn : n0 ≤ h.1)
    (k : am_G p l e R s m args below meth c Q S0 ad cy D n0 nL cx sx (d, mid, pc', L, r, h')) : ∀ (H1 : Heap) (locs1 : List Loc), va_P D am_cl ((am_ws S0 ad cy h).set q (S0 + q, v)) H1 → va_D (am_AA S0) ((am_ws S0 ad cy h).set q (S0 + q, v)) → va_S (am_AA S0) s.heap H1 locs1 → W p l e R s m args below meth c H1 locs1 (h.1 - n0 + cx) (am_sz h.1 - am_sz n0 + sx) Q (F0 m pc' ls (r.map (am_cv ad))) := by
  intro H1 locs1 hP1 _ hS1
  rw [am_ws_set hn1 hv ho] at hP1
  have := k H1 locs1 ls hP1 (by show h'.1 ≤ 1000; rw [hn1]; exact hz) hS1 hl hL (by show n0 ≤ h'.1; rw [hn1]; exact hn)
  dsimp only at this
  rw [hn1] at this
  exact this
theorem ag_iast (hx : p.tables.exec = Jvm.exec) (hb : c.code = cc) (hK : va_K D am_cl (am_tys cy) s) (had : ∀ a, a < 2000 → ad a = S0 + a) {q : Nat} {i x : Int32} {r : List Value} (hd : decode cc pc = .ok (.iastore, 1))
    (hnx : am_nx (am_gd (decide (q < h.1) && Nat.beq (am_K q).1 100 && am_in i (am_K q).2) (d, mid, pc + 1, L, r, (h.1, h.2.1, am_u h.2.2.1 q i.toNatClampNeg x, h.2.2.2))) = some t) (k : am_G p l e R s m args below meth c Q S0 ad cy D n0 nL cx sx t) : am_G p l e R s m args below meth c Q S0 ad cy D n0 nL cx sx (d, mid, pc, L, .int x :: .int i :: .ref q :: r, h) := by
  obtain ⟨hg, ht⟩ := am_nx_gd hnx
  subst ht
  obtain ⟨hg, hi⟩ := am_and3 hg
  obtain ⟨hq, hk⟩ := am_and3 hg
  have hq := of_decide_eq_true hq
  have hk := Nat.eq_of_beq_eq_true hk
  intro H locs ls hP hz hS hl hL hn
  have e1 : ad q = S0 + q := had q (by have : h.1 ≤ 1000 := hz; omega)
  show W p l e R s m args below meth c H locs _ _ Q (F0 m pc ls (Value.int x :: Value.int i :: Value.ref (ad q) :: r.map (am_cv ad)))
  rw [e1]
  exact va_iast hx hb hK hP am_ws_D hS q 0 (by rw [am_ws_at hq, am_ce_i hk]) rfl (am_in_vp hi) hd (ag_fin (h := h) (h' := (h.1, h.2.1, am_u h.2.2.1 q i.toNatClampNeg x, h.2.2.2)) (H := H) rfl (by rw [am_ce_i hk]; simp only [am_u_row]; rfl) (fun q' hq' => am_ce_other rfl (am_u_ne hq') rfl rfl) hz hl hL hn k)
theorem ag_last (hx : p.tables.exec = Jvm.exec) (hb : c.code = cc) (hK : va_K D am_cl (am_tys cy) s) (had : ∀ a, a < 2000 → ad a = S0 + a) {q : Nat} {i : Int32} {x : Int64} {r : List Value} (hd : decode cc pc = .ok (.lastore, 1))
    (hnx : am_nx (am_gd (decide (q < h.1) && Nat.beq (am_K q).1 101 && am_in i (am_K q).2) (d, mid, pc + 1, L, r, (h.1, h.2.1, h.2.2.1, am_u h.2.2.2.1 q i.toNatClampNeg x, h.2.2.2.2))) = some t) (k : am_G p l e R s m args below meth c Q S0 ad cy D n0 nL cx sx t) : am_G p l e R s m args below meth c Q S0 ad cy D n0 nL cx sx (d, mid, pc, L, .long x :: .int i :: .ref q :: r, h) := by
  obtain ⟨hg, ht⟩ := am_nx_gd hnx
  subst ht
  obtain ⟨hg, hi⟩ := am_and3 hg
  obtain ⟨hq, hk⟩ := am_and3 hg
  have hq := of_decide_eq_true hq
  have hk := Nat.eq_of_beq_eq_true hk
  intro H locs ls hP hz hS hl hL hn
  have e1 : ad q = S0 + q := had q (by have : h.1 ≤ 1000 := hz; omega)
  show W p l e R s m args below meth c H locs _ _ Q (F0 m pc ls (Value.long x :: Value.int i :: Value.ref (ad q) :: r.map (am_cv ad)))
  rw [e1]
  exact va_last hx hb hK hP am_ws_D hS q 1 (by rw [am_ws_at hq, am_ce_l hk]) rfl (am_in_vp hi) hd (ag_fin (h := h) (h' := (h.1, h.2.1, h.2.2.1, am_u h.2.2.2.1 q i.toNatClampNeg x, h.2.2.2.2)) (H := H) rfl (by rw [am_ce_l hk]; simp only [am_u_row]; rfl) (fun q' hq' => am_ce_other rfl rfl (am_u_ne hq') rfl) hz hl hL hn k)
theorem ag_zast (hx : p.tables.exec = Jvm.exec) (hb : c.code = cc) (hK : va_K D am_cl (am_tys cy) s) (had : ∀ a, a < 2000 → ad a = S0 + a) {q : Nat} {i x : Int32} {r : List Value} (hd : decode cc pc = .ok (.bastore, 1))
    (hnx : am_nx (am_gd (decide (q < h.1) && Nat.beq (am_K q).1 102 && am_in i (am_K q).2 && decide (x &&& 1 = x)) (d, mid, pc + 1, L, r, (h.1, h.2.1, am_u h.2.2.1 q i.toNatClampNeg x, h.2.2.2))) = some t) (k : am_G p l e R s m args below meth c Q S0 ad cy D n0 nL cx sx t) : am_G p l e R s m args below meth c Q S0 ad cy D n0 nL cx sx (d, mid, pc, L, .int x :: .int i :: .ref q :: r, h) := by
  obtain ⟨hg, ht⟩ := am_nx_gd hnx
  subst ht
  obtain ⟨hg, hx1⟩ := am_and3 hg
  obtain ⟨hg, hi⟩ := am_and3 hg
  obtain ⟨hq, hk⟩ := am_and3 hg
  have hq := of_decide_eq_true hq
  have hk := Nat.eq_of_beq_eq_true hk
  have hx1 : x &&& 1 = x := of_decide_eq_true hx1
  have hx2 : vp_nar .boolean x = x := hx1
  intro H locs ls hP hz hS hl hL hn
  have e1 : ad q = S0 + q := had q (by have : h.1 ≤ 1000 := hz; omega)
  show W p l e R s m args below meth c H locs _ _ Q (F0 m pc ls (Value.int x :: Value.int i :: Value.ref (ad q) :: r.map (am_cv ad)))
  rw [e1]
  exact va_zast hx hb hK hP am_ws_D hS q 2 (by rw [am_ws_at hq, am_ce_z hk]) rfl (am_in_vp hi) hd (ag_fin (h := h) (h' := (h.1, h.2.1, am_u h.2.2.1 q i.toNatClampNeg x, h.2.2.2)) (H := H) rfl (by rw [am_ce_z hk]; simp only [am_u_row, hx2]; rfl) (fun q' hq' => am_ce_other rfl (am_u_ne hq') rfl rfl) hz hl hL hn k)
theorem ag_aldE (hx : p.tables.exec = Jvm.exec) (hb : c.code = cc) (hK : va_K D am_cl (am_tys cy) s) (had : ∀ a, a < 2000 → ad a = S0 + a) {q : Nat} {i : Int32} {r : List Value} (hd : decode cc pc = .ok (.aaload, 1))
    (hnx : am_nx (am_gd (decide (q < h.1) && Nat.beq (am_K q).1 105 && am_in i (am_K q).2) (d, mid, pc + 1, L, .retAddr (h.2.2.2.2 q i.toNatClampNeg) :: r, h)) = some t) (k : am_G p l e R s m args below meth c Q S0 ad cy D n0 nL cx sx t) : am_G p l e R s m args below meth c Q S0 ad cy D n0 nL cx sx (d, mid, pc, L, .int i :: .ref q :: r, h) := by
  obtain ⟨hg, ht⟩ := am_nx_gd hnx
  subst ht
  obtain ⟨hg, hi⟩ := am_and3 hg
  obtain ⟨hq, hk⟩ := am_and3 hg
  have hq := of_decide_eq_true hq
  intro H locs ls hP hz hS hl hL hn
  have e1 : ad q = S0 + q := had q (by have : h.1 ≤ 1000 := hz; omega)
  show W p l e R s m args below meth c H locs _ _ Q (F0 m pc ls (Value.int i :: Value.ref (ad q) :: r.map (am_cv ad)))
  rw [e1]
  exact va_aldq hx hb hK hP q 5 (C := RX10) (show (am_ws S0 ad cy h)[q]? = some (S0 + q, .inl (cy 5, (am_K q).2, .inr (.inr (.inr (.inr (fun k => am_eo ad (h.2.2.2.2 q k)))))) ) by rw [am_ws_at hq, am_ce_e (Nat.eq_of_beq_eq_true hk)]) rfl (am_in_vp hi) hd (k H locs ls hP hz hS hl hL hn)
theorem ag_aldR (hx : p.tables.exec = Jvm.exec) (hb : c.code = cc) (hK : va_K D am_cl (am_tys cy) s) (had : ∀ a, a < 2000 → ad a = S0 + a) {q : Nat} {i : Int32} {r : List Value} (hd : decode cc pc = .ok (.aaload, 1))
    (hnx : am_nx (am_gd (decide (q < h.1) && (Nat.beq (am_K q).1 103 || Nat.beq (am_K q).1 104) && am_in i (am_K q).2 && h.2.1 q i.toNatClampNeg) (d, mid, pc + 1, L, .ref (am_SR q i.toNatClampNeg) :: r, h)) = some t) (k : am_G p l e R s m args below meth c Q S0 ad cy D n0 nL cx sx t) : am_G p l e R s m args below meth c Q S0 ad cy D n0 nL cx sx (d, mid, pc, L, .int i :: .ref q :: r, h) := by
  obtain ⟨hg, ht⟩ := am_nx_gd hnx
  subst ht
  obtain ⟨hg, hZ⟩ := am_and3 hg
  obtain ⟨hg, hi⟩ := am_and3 hg
  obtain ⟨hq, hk⟩ := am_and3 hg
  have hq := of_decide_eq_true hq
  intro H locs ls hP hz hS hl hL hn
  have e1 : ad q = S0 + q := had q (by have : h.1 ≤ 1000 := hz; omega)
  show W p l e R s m args below meth c H locs _ _ Q (F0 m pc ls (Value.int i :: Value.ref (ad q) :: r.map (am_cv ad)))
  rw [e1]
  have kk := k H locs ls hP hz hS hl hL hn
  have ev : va_rf (bif h.2.1 q i.toNatClampNeg then some (ad (am_SR q i.toNatClampNeg)) else none) = Value.ref (ad (am_SR q i.toNatClampNeg)) := by rw [hZ]; rfl
  rcases am_or hk with hk | hk
  · exact va_aldq hx hb hK hP q 3 (C := RX7) (by rw [am_ws_at hq, am_ce_q3 (Nat.eq_of_beq_eq_true hk)]) rfl (am_in_vp hi) hd (by rw [ev]; exact kk)
  · exact va_aldq hx hb hK hP q 4 (C := RX6) (by rw [am_ws_at hq, am_ce_q4 (Nat.eq_of_beq_eq_true hk)]) rfl (am_in_vp hi) hd (by rw [ev]; exact kk)
theorem ag_alen (hx : p.tables.exec = Jvm.exec) (hb : c.code = cc) (hK : va_K D am_cl (am_tys cy) s) (had : ∀ a, a < 2000 → ad a = S0 + a) {q : Nat} {r : List Value} (hd : decode cc pc = .ok (.arraylength, 1))
    (hnx : am_nx (am_gd (decide (q < h.1) && Nat.ble 100 (am_K q).1 && Nat.blt (am_K q).1 106) (d, mid, pc + 1, L, .int (Int32.ofNat (am_K q).2) :: r, h)) = some t) (k : am_G p l e R s m args below meth c Q S0 ad cy D n0 nL cx sx t) : am_G p l e R s m args below meth c Q S0 ad cy D n0 nL cx sx (d, mid, pc, L, .ref q :: r, h) := by
  obtain ⟨hg, ht⟩ := am_nx_gd hnx
  subst ht
  obtain ⟨hg, h2⟩ := am_and3 hg
  obtain ⟨hq, h1⟩ := am_and3 hg
  have hq := of_decide_eq_true hq
  have h1 : 100 ≤ (am_K q).1 := Nat.le_of_ble_eq_true h1
  have h2 : (am_K q).1 < 106 := Nat.le_of_ble_eq_true h2
  intro H locs ls hP hz hS hl hL hn
  have e1 : ad q = S0 + q := had q (by have : h.1 ≤ 1000 := hz; omega)
  show W p l e R s m args below meth c H locs _ _ Q (F0 m pc ls (Value.ref (ad q) :: r.map (am_cv ad)))
  rw [e1]
  have kk := k H locs ls hP hz hS hl hL hn
  have hc : (am_K q).1 = 100 ∨ (am_K q).1 = 101 ∨ (am_K q).1 = 102 ∨ (am_K q).1 = 103 ∨ (am_K q).1 = 104 ∨ (am_K q).1 = 105 := by omega
  rcases hc with hc | hc | hc | hc | hc | hc
  · exact va_alen hx hb hK hP q 0 (show (am_ws S0 ad cy h)[q]? = some (S0 + q, .inl (cy 0, (am_K q).2, .inl (h.2.2.1 q))) by rw [am_ws_at hq, am_ce_i hc]) rfl rfl hd kk
  · exact va_alen hx hb hK hP q 1 (show (am_ws S0 ad cy h)[q]? = some (S0 + q, .inl (cy 1, (am_K q).2, .inr (.inl (h.2.2.2.1 q)))) by rw [am_ws_at hq, am_ce_l hc]) rfl rfl hd kk
  · exact va_alen hx hb hK hP q 2 (show (am_ws S0 ad cy h)[q]? = some (S0 + q, .inl (cy 2, (am_K q).2, .inl (h.2.2.1 q))) by rw [am_ws_at hq, am_ce_z hc]) rfl rfl hd kk
  · exact va_alen hx hb hK hP q 3 (show (am_ws S0 ad cy h)[q]? = some (S0 + q, .inl (cy 3, (am_K q).2, .inr (.inr (.inr (.inr (fun k => bif h.2.1 q k then some (ad (am_SR q k)) else none)))))) by rw [am_ws_at hq, am_ce_q3 hc]) rfl rfl hd kk
  · exact va_alen hx hb hK hP q 4 (show (am_ws S0 ad cy h)[q]? = some (S0 + q, .inl (cy 4, (am_K q).2, .inr (.inr (.inr (.inr (fun k => bif h.2.1 q k then some (ad (am_SR q k)) else none)))))) by rw [am_ws_at hq, am_ce_q4 hc]) rfl rfl hd kk
  · exact va_alen hx hb hK hP q 5 (show (am_ws S0 ad cy h)[q]? = some (S0 + q, .inl (cy 5, (am_K q).2, .inr (.inr (.inr (.inr (fun k => am_eo ad (h.2.2.2.2 q k))))))) by rw [am_ws_at hq, am_ce_e hc]) rfl rfl hd kk
theorem ag_astE (hx : p.tables.exec = Jvm.exec) (hb : c.code = cc) (hK : va_K D am_cl (am_tys cy) s) (had : ∀ a, a < 2000 → ad a = S0 + a) (hany : ∀ (H : Heap) (locs : List Loc) (x : Nat), va_S (am_AA S0) s.heap H locs → x < 24 → va_Any RX10 s H (ad (100000 + x))) {q x : Nat} {i : Int32} {r : List Value} (hd : decode cc pc = .ok (.aastore, 1))
    (hnx : am_nx (am_gd (decide (q < h.1) && Nat.beq (am_K q).1 105 && am_in i (am_K q).2 && Nat.ble x 24) (d, mid, pc + 1, L, r, (h.1, h.2.1, h.2.2.1, h.2.2.2.1, am_u h.2.2.2.2 q i.toNatClampNeg x))) = some t) (k : am_G p l e R s m args below meth c Q S0 ad cy D n0 nL cx sx t) : am_G p l e R s m args below meth c Q S0 ad cy D n0 nL cx sx (d, mid, pc, L, .retAddr x :: .int i :: .ref q :: r, h) := by
  obtain ⟨hg, ht⟩ := am_nx_gd hnx
  subst ht
  obtain ⟨hg, hx1⟩ := am_and3 hg
  obtain ⟨hg, hi⟩ := am_and3 hg
  obtain ⟨hq, hk⟩ := am_and3 hg
  have hq := of_decide_eq_true hq
  have hk := Nat.eq_of_beq_eq_true hk
  have hx1 : x ≤ 24 := Nat.le_of_ble_eq_true hx1
  intro H locs ls hP hz hS hl hL hn
  have e1 : ad q = S0 + q := had q (by have : h.1 ≤ 1000 := hz; omega)
  show W p l e R s m args below meth c H locs _ _ Q (F0 m pc ls (va_rf (am_eo ad x) :: Value.int i :: Value.ref (ad q) :: r.map (am_cv ad)))
  rw [e1]
  have hrow : ∀ j : Nat, (fun k => am_eo ad ((am_u h.2.2.2.2 q i.toNatClampNeg x) q k)) j = va_up (fun k => am_eo ad (h.2.2.2.2 q k)) i.toNatClampNeg (am_eo ad x) j := by
    intro j
    rw [am_u_row]
    by_cases hj : j = i.toNatClampNeg <;> simp [va_up, hj]
  have hce : ∀ y, am_eo ad x = y → am_ce ad cy (h.1, h.2.1, h.2.2.1, h.2.2.2.1, am_u h.2.2.2.2 q i.toNatClampNeg x) q = .inl (cy 5, (am_K q).2, .inr (.inr (.inr (.inr (va_up (fun k => am_eo ad (h.2.2.2.2 q k)) i.toNatClampNeg y))))) := by
    intro y hy
    subst hy
    rw [am_ce_e hk, funext hrow]
  cases x with
  | zero => exact va_astqN hx hb hK hP am_ws_D hS q 5 (C := RX10) (by rw [am_ws_at hq, am_ce_e hk]) rfl (am_in_vp hi) hd (ag_fin (h := h) (h' := (h.1, h.2.1, h.2.2.1, h.2.2.2.1, am_u h.2.2.2.2 q i.toNatClampNeg 0)) (H := H) rfl (hce none rfl) (fun q' hq' => am_ce_other rfl rfl rfl (am_u_ne hq')) hz hl hL hn k)
  | succ x => exact va_astqM hx hb hK hP am_ws_D hS q 5 (E := RX10) (by rw [am_ws_at hq, am_ce_e hk]) rfl (hany H locs x hS (by omega)) (am_in_vp hi) hd (ag_fin (h := h) (h' := (h.1, h.2.1, h.2.2.1, h.2.2.2.1, am_u h.2.2.2.2 q i.toNatClampNeg (x + 1))) (H := H) rfl (hce _ rfl) (fun q' hq' => am_ce_other rfl rfl rfl (am_u_ne hq')) hz hl hL hn k)
theorem ag_astR (hx : p.tables.exec = Jvm.exec) (hb : c.code = cc) (hK : va_K D am_cl (am_tys cy) s) (had : ∀ a, a < 2000 → ad a = S0 + a) {q x : Nat} {i : Int32} {r : List Value} (hd : decode cc pc = .ok (.aastore, 1))
    (hnx : am_nx (am_gd (decide (q < h.1) && decide (x < h.1) && (Nat.beq (am_K q).1 103 && Nat.beq (am_K x).1 7 || Nat.beq (am_K q).1 104 && Nat.beq (am_K x).1 6) && am_in i (am_K q).2 && Nat.beq x (am_SR q i.toNatClampNeg)) (d, mid, pc + 1, L, r, (h.1, am_u h.2.1 q i.toNatClampNeg true, h.2.2))) = some t) (k : am_G p l e R s m args below meth c Q S0 ad cy D n0 nL cx sx t) : am_G p l e R s m args below meth c Q S0 ad cy D n0 nL cx sx (d, mid, pc, L, .ref x :: .int i :: .ref q :: r, h) := by
  obtain ⟨hg, ht⟩ := am_nx_gd hnx
  subst ht
  obtain ⟨hg, hsr⟩ := am_and3 hg
  obtain ⟨hg, hi⟩ := am_and3 hg
  obtain ⟨hg, hk⟩ := am_and3 hg
  obtain ⟨hq, hxx⟩ := am_and3 hg
  have hq := of_decide_eq_true hq
  have hxx := of_decide_eq_true hxx
  have hsr := Nat.eq_of_beq_eq_true hsr
  intro H locs ls hP hz hS hl hL hn
  have e1 : ad q = S0 + q := had q (by have : h.1 ≤ 1000 := hz; omega)
  have e2 : ad x = S0 + x := had x (by have : h.1 ≤ 1000 := hz; omega)
  show W p l e R s m args below meth c H locs _ _ Q (F0 m pc ls (Value.ref (ad x) :: Value.int i :: Value.ref (ad q) :: r.map (am_cv ad)))
  rw [e1, e2]
  have hrow : ∀ j : Nat, (bif (am_u h.2.1 q i.toNatClampNeg true) q j then some (ad (am_SR q j)) else none) = va_up (fun k => bif h.2.1 q k then some (ad (am_SR q k)) else none) i.toNatClampNeg (some (S0 + x)) j := by
    intro j
    rw [am_u_row]
    by_cases hj : j = i.toNatClampNeg
    · subst hj
      simp [va_up, ← hsr, e2]
    · simp [va_up, hj]
  rcases am_or hk with hk | hk
  · obtain ⟨k1, k2⟩ := am_and3 hk
    have k1 := Nat.eq_of_beq_eq_true k1
    have k2 := Nat.eq_of_beq_eq_true k2
    exact va_astq hx hb hK hP am_ws_D hS q 3 x 7 (r := (RX7, TX7, 10)) (by rw [am_ws_at hq, am_ce_q3 k1]) rfl (by rw [am_ws_at hxx, am_ce_obj k2 (by decide)]) rfl (am_in_vp hi) hd (ag_fin (h := h) (h' := (h.1, am_u h.2.1 q i.toNatClampNeg true, h.2.2)) (H := H) rfl (by rw [am_ce_q3 k1]; dsimp only; rw [funext hrow]) (fun q' hq' => am_ce_other (am_u_ne hq') rfl rfl rfl) hz hl hL hn k)
  · obtain ⟨k1, k2⟩ := am_and3 hk
    have k1 := Nat.eq_of_beq_eq_true k1
    have k2 := Nat.eq_of_beq_eq_true k2
    exact va_astq hx hb hK hP am_ws_D hS q 4 x 6 (r := (RX6, TX6, 4)) (by rw [am_ws_at hq, am_ce_q4 k1]) rfl (by rw [am_ws_at hxx, am_ce_obj k2 (by decide)]) rfl (am_in_vp hi) hd (ag_fin (h := h) (h' := (h.1, am_u h.2.1 q i.toNatClampNeg true, h.2.2)) (H := H) rfl (by rw [am_ce_q4 k1]; dsimp only; rw [funext hrow]) (fun q' hq' => am_ce_other (am_u_ne hq') rfl rfl rfl) hz hl hL hn k)
end AMR
