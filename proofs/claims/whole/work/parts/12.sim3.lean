/-! fields and rows -/
theorem am_ao_obj {ad : Nat → Nat} {cy : Nat → ClassId} {h : am_H} {p ci n : Nat} (hci : ci < 12) : am_ao ad cy h p ci n = .inr (ci, (List.range (am_nf ci)).map (am_fv ad h p ci)) := by
  unfold am_ao
  split <;> first | omega | rfl
theorem am_ce_obj {ad : Nat → Nat} {cy : Nat → ClassId} {h : am_H} {p ci : Nat} (hK : (am_K p).1 = ci) (hci : ci < 12) : am_ce ad cy h p = .inr (ci, (List.range (am_nf ci)).map (am_fv ad h p ci)) := by
  unfold am_ce
  rw [hK]
  exact am_ao_obj hci
/-- what is known of a class: its words, its fields' types, their names -/
def am_tyOk (f : Nat) (ty : FieldType) : Prop := (f = 0 → ty = .int) ∧ (f = 1 → ty = .long) ∧ (f = 2 → (∃ C, ty = .object C) ∨ ∃ x, ty = .array x) ∧ (f = 3 → ∃ C, ty = .object C) ∧ (f = 4 → ty = .boolean)
def am_clOk (ci : Nat) (C : String) (T : u_T) (N : Nat) : Prop := (∀ w ∈ u_ws C T N, w ∈ wsL_law0) ∧ (∀ k, k < N → parseFieldDescriptor (T k).2.2.1 = some (am_tyf ci k)) ∧ (∀ k, k < N → am_tyOk (am_ft ci k) (am_tyf ci k)) ∧ (∀ a, a < N → ∀ b, b < N → a ≠ b → (T a).2.1 ≠ (T b).2.1) ∧ N = am_nf ci ∧ ci < 12
theorem am_and3 {a b : Bool} (h : (a && b) = true) : a = true ∧ b = true := by
  cases a <;> cases b <;> first | exact ⟨rfl, rfl⟩ | cases h
theorem am_in_vp {i : Int32} {n : Nat} (h : am_in i n = true) : vp_in i n := by
  unfold am_in at h
  obtain ⟨h1, h2⟩ := am_and3 h
  have h1 : ¬ i < 0 := by
    intro q
    rw [decide_eq_true q] at h1
    cases h1
  have h2 := of_decide_eq_true h2
  unfold vp_in
  rintro (q | q)
  · exact h1 q
  · omega
theorem am_bit {x : Int32} (h : x &&& 1 = x) : (x == 0 || x == 1) = true := by
  have h2 : x.toBitVec &&& 1#32 = x.toBitVec := congrArg Int32.toBitVec h
  have h3 : x.toBitVec = 0#32 ∨ x.toBitVec = 1#32 := by
    generalize x.toBitVec = b at h2
    have h4 := congrArg BitVec.toNat h2
    rw [BitVec.toNat_and, show (1#32 : BitVec 32).toNat = 1 from rfl, Nat.and_one_is_mod] at h4
    have h5 : b.toNat = 0 ∨ b.toNat = 1 := by omega
    rcases h5 with q | q
    · exact Or.inl (BitVec.eq_of_toNat_eq q)
    · exact Or.inr (BitVec.eq_of_toNat_eq q)
  rcases h3 with q | q
  · have : x = 0 := Int32.toBitVec_inj.mp q
    rw [this]; rfl
  · have : x = 1 := Int32.toBitVec_inj.mp q
    rw [this]; rfl
section AMH
variable {p : Program} {l : Launch} {e : Env} {R : Room} {s : State} {m : MethodId} {args : Array Value} {below : List Frame} {meth : Method} {c : Code} {Q : State → Prop} {S0 : Nat} {ad : Nat → Nat} {cy : Nat → ClassId} {D : va_G} {n0 nL cx sx : Nat} {cc : ByteArray}
variable {d mid pc : Nat} {L : am_L} {st : List Value} {h : am_H} {t : am_S}
theorem ag_get (hx : p.tables.exec = Jvm.exec) (hb : c.code = cc) (hts : ∀ w ∈ wsL_law0, w.before args s = true) {own : String} (hown : s.vm.findClass own = some m.cls) (hK : va_K D am_cl (am_tys cy) s) (had : ∀ a, a < 2000 → ad a = S0 + a)
    {idx ci k q : Nat} {C : String} {T : u_T} {N : Nat} {r : List Value} (hc : am_cl[ci]? = some (C, T, N)) (hk : k < N) (hlink : Cond.fieldLink own idx (T k).1 (T k).2.1 (T k).2.2.1 ∈ wsL_law0) (hcl : am_clOk ci C T N) (hd : decode cc pc = .ok (.getfield idx, 3))
    (hnx : am_nx (am_get d mid pc L r h q ci k) = some t) (kk : am_G p l e R s m args below meth c Q S0 ad cy D n0 nL cx sx t) : am_G p l e R s m args below meth c Q S0 ad cy D n0 nL cx sx (d, mid, pc, L, .ref q :: r, h) := by
  obtain ⟨hin, hty, htk, hnm, hN, hci⟩ := hcl
  have main : ∀ v : Value, q < h.1 → (am_K q).1 = ci → am_cv ad v = am_fv ad h q ci k → am_G p l e R s m args below meth c Q S0 ad cy D n0 nL cx sx (d, mid, pc + 3, L, v :: r, h) → am_G p l e R s m args below meth c Q S0 ad cy D n0 nL cx sx (d, mid, pc, L, .ref q :: r, h) := by
    intro v hq hKq hv k1 H locs ls hP hz hS hl hL hn
    have he : (am_ws S0 ad cy h)[q]? = some (S0 + q, .inr (ci, (List.range (am_nf ci)).map (am_fv ad h q ci))) := by rw [am_ws_at hq, am_ce_obj hKq hci]
    have hf : ((List.range (am_nf ci)).map (am_fv ad h q ci))[k]? = some (am_cv ad v) := by
      rw [List.getElem?_map, List.getElem?_range (by rw [← hN]; exact hk), hv]
      rfl
    have e1 : ad q = S0 + q := had q (by have : h.1 ≤ 1000 := hz; omega)
    show W p l e R s m args below meth c H locs _ _ Q (F0 m pc ls (Value.ref (ad q) :: r.map (am_cv ad)))
    rw [e1]
    exact va_get hx hb hts hin hown hK hP q he hc k hk (hts _ hlink) (fun x z => z) hf hd (k1 H locs ls hP hz hS hl hL hn)
  unfold am_get at hnx
  have e2 : ∀ {b1 b2 : Bool}, (b1 && b2) = true → b1 = true ∧ b2 = true := am_and3
  split at hnx
  · rename_i hft
    obtain ⟨hg, ht⟩ := am_nx_gd hnx
    subst ht
    exact main _ (of_decide_eq_true (am_and3 hg).1) (Nat.eq_of_beq_eq_true (am_and3 hg).2) (by unfold am_fv; rw [hft]; rfl) kk
  · rename_i hft
    obtain ⟨hg, ht⟩ := am_nx_gd hnx
    subst ht
    exact main _ (of_decide_eq_true (am_and3 hg).1) (Nat.eq_of_beq_eq_true (am_and3 hg).2) (by unfold am_fv; rw [hft]; rfl) kk
  · rename_i hft
    obtain ⟨hg, ht⟩ := am_nx_gd hnx
    subst ht
    exact main _ (of_decide_eq_true (am_and3 hg).1) (Nat.eq_of_beq_eq_true (am_and3 hg).2) (by unfold am_fv; rw [hft]; rfl) kk
  · rename_i hft
    obtain ⟨hg, ht⟩ := am_nx_gd hnx
    subst ht
    obtain ⟨hg1, hg2⟩ := am_and3 hg
    exact main _ (of_decide_eq_true (am_and3 hg1).1) (Nat.eq_of_beq_eq_true (am_and3 hg1).2) (by unfold am_fv; rw [hft]; rw [hg2]; rfl) kk
  · rename_i hft
    obtain ⟨hg, ht⟩ := am_nx_gd hnx
    subst ht
    exact main _ (of_decide_eq_true (am_and3 hg).1) (Nat.eq_of_beq_eq_true (am_and3 hg).2) (by unfold am_fv; rw [hft]; rfl) kk
  · exact (am_nx_bad hnx).elim
/-- a cell changes, the others stay -/
theorem am_ce_other {ad : Nat → Nat} {cy : Nat → ClassId} {h h' : am_H} {q : Nat} (h1 : h'.2.1 q = h.2.1 q) (h2 : h'.2.2.1 q = h.2.2.1 q) (h3 : h'.2.2.2.1 q = h.2.2.2.1 q) (h4 : h'.2.2.2.2 q = h.2.2.2.2 q) : am_ce ad cy h' q = am_ce ad cy h q := by
  have e : ∀ ci, am_fv ad h' q ci = am_fv ad h q ci := by
    intro ci
    funext k
    unfold am_fv
    rw [h1, h2, h3, h4]
  unfold am_ce am_ao
  rw [h1, h2, h3, h4]
  split <;> first | rfl | (rw [e])
theorem am_u_ne {α : Type} {f : Nat → Nat → α} {p k : Nat} {x : α} {q : Nat} (h : q ≠ p) : am_u f p k x q = f q := by
  funext j
  simp [am_u, h]
theorem am_u_same {α : Type} {f : Nat → Nat → α} {p k : Nat} {x : α} : am_u f p k x p k = x := by simp [am_u]
theorem am_u_nk {α : Type} {f : Nat → Nat → α} {p k : Nat} {x : α} {q j : Nat} (h : j ≠ k) : am_u f p k x q j = f q j := by simp [am_u, h]
theorem ag_put (hx : p.tables.exec = Jvm.exec) (hb : c.code = cc) (hts : ∀ w ∈ wsL_law0, w.before args s = true) {own : String} (hown : s.vm.findClass own = some m.cls) (hK : va_K D am_cl (am_tys cy) s) (had : ∀ a, a < 2000 → ad a = S0 + a)
    {idx ci k q : Nat} {C : String} {T : u_T} {N : Nat} {r : List Value} {v : Value} (hc : am_cl[ci]? = some (C, T, N)) (hk : k < N) (hlink : Cond.fieldLink own idx (T k).1 (T k).2.1 (T k).2.2.1 ∈ wsL_law0) (hcl : am_clOk ci C T N) (hfin : (T k).2.2.2 = true → meth.name = "<init>" ∧ (T k).1 = own) (hd : decode cc pc = .ok (.putfield idx, 3))
    (hnx : am_nx (am_put d mid pc L r h q ci k v) = some t) (kk : am_G p l e R s m args below meth c Q S0 ad cy D n0 nL cx sx t) : am_G p l e R s m args below meth c Q S0 ad cy D n0 nL cx sx (d, mid, pc, L, v :: .ref q :: r, h) := by
  obtain ⟨hin, hty, htk, hnm, hN, hci⟩ := hcl
  have main : ∀ h' : am_H, q < h.1 → (am_K q).1 = ci → h'.1 = h.1 → (∀ q', q' ≠ q → am_ce ad cy h' q' = am_ce ad cy h q') → am_fv ad h' q ci k = am_cv ad v → (∀ j, j ≠ k → am_fv ad h' q ci j = am_fv ad h q ci j) → narrow (am_tyf ci k) (am_cv ad v) = am_cv ad v → fits (am_tyf ci k) (am_cv ad v) = true →
      am_G p l e R s m args below meth c Q S0 ad cy D n0 nL cx sx (d, mid, pc + 3, L, r, h') → am_G p l e R s m args below meth c Q S0 ad cy D n0 nL cx sx (d, mid, pc, L, v :: .ref q :: r, h) := by
    intro h' hq hKq hn1 hoth hv hvo hnar hfit k1 H locs ls hP hz hS hl hL hn
    have he : (am_ws S0 ad cy h)[q]? = some (S0 + q, .inr (ci, (List.range (am_nf ci)).map (am_fv ad h q ci))) := by rw [am_ws_at hq, am_ce_obj hKq hci]
    have hlen : k < ((List.range (am_nf ci)).map (am_fv ad h q ci)).length := by rw [List.length_map, List.length_range, ← hN]; exact hk
    have hset : ((List.range (am_nf ci)).map (am_fv ad h q ci)).set k (am_cv ad v) = (List.range (am_nf ci)).map (am_fv ad h' q ci) := am_set_map hv (fun j _ hj => hvo j hj)
    have hws : (am_ws S0 ad cy h).set q (S0 + q, .inr (ci, ((List.range (am_nf ci)).map (am_fv ad h q ci)).set k (am_cv ad v))) = am_ws S0 ad cy h' := by
      rw [hset]
      exact am_ws_set hn1 (am_ce_obj hKq hci) hoth
    have e1 : ad q = S0 + q := had q (by have : h.1 ≤ 1000 := hz; omega)
    have fin : ∀ (H1 : Heap) (locs1 : List Loc), va_P D am_cl ((am_ws S0 ad cy h).set q (S0 + q, .inr (ci, ((List.range (am_nf ci)).map (am_fv ad h q ci)).set k (am_cv ad v)))) H1 → va_D (am_AA S0) ((am_ws S0 ad cy h).set q (S0 + q, .inr (ci, ((List.range (am_nf ci)).map (am_fv ad h q ci)).set k (am_cv ad v)))) → va_S (am_AA S0) s.heap H1 locs1 → W p l e R s m args below meth c H1 locs1 (h.1 - n0 + cx) (am_sz h.1 - am_sz n0 + sx) Q (F0 m (pc + 3) ls (r.map (am_cv ad))) := by
      intro H1 locs1 hP1 _ hS1
      rw [hws] at hP1
      have := k1 H1 locs1 ls hP1 (by show h'.1 ≤ 1000; rw [hn1]; exact hz) hS1 hl hL (by show n0 ≤ h'.1; rw [hn1]; exact hn)
      dsimp only at this
      rw [hn1] at this
      exact this
    show W p l e R s m args below meth c H locs _ _ Q (F0 m pc ls (am_cv ad v :: Value.ref (ad q) :: r.map (am_cv ad)))
    rw [e1]
    cases hf : (T k).2.2.2 with
    | false => exact va_put hx hb hts hin (am_tyf ci) hty hnm hown hK hP am_ws_D hS q he hc k hk (hts _ hlink) (fun x z => z) hf (hty k hk) hnar hfit hlen hd fin
    | true => exact va_putF hx hb hts hin (am_tyf ci) hty hnm hown hK hP am_ws_D hS q he hc k hk (hts _ hlink) (fun x z => z) hf (hfin hf).1 (hfin hf).2 (hty k hk) hnar hfit hlen hd fin
  have htO := htk k hk
  unfold am_put at hnx
  split at hnx
  · rename_i x hft
    obtain ⟨hg, ht⟩ := am_nx_gd hnx
    subst ht
    have et := htO.1 hft
    refine main (h.1, h.2.1, am_u h.2.2.1 q k x, h.2.2.2) (of_decide_eq_true (am_and3 hg).1) (Nat.eq_of_beq_eq_true (am_and3 hg).2) rfl (fun q' hq' => am_ce_other rfl (am_u_ne hq') rfl rfl) ?_ (fun j hj => ?_) (by rw [et]; rfl) (by rw [et]; rfl) kk
    · unfold am_fv; rw [hft]; simp only [am_u_same]; rfl
    · unfold am_fv; simp only [am_u_nk hj]
  · rename_i x hft
    obtain ⟨hg, ht⟩ := am_nx_gd hnx
    subst ht
    have et := htO.2.2.2.2 hft
    obtain ⟨hg1, hg2⟩ := am_and3 hg
    have hx1 : x &&& 1 = x := of_decide_eq_true hg2
    refine main (h.1, h.2.1, am_u h.2.2.1 q k x, h.2.2.2) (of_decide_eq_true (am_and3 hg1).1) (Nat.eq_of_beq_eq_true (am_and3 hg1).2) rfl (fun q' hq' => am_ce_other rfl (am_u_ne hq') rfl rfl) ?_ (fun j hj => ?_) ?_ ?_ kk
    · unfold am_fv; rw [hft]; simp only [am_u_same]; rfl
    · unfold am_fv; simp only [am_u_nk hj]
    · rw [et]; show Value.int (x &&& 1) = Value.int x; rw [hx1]
    · rw [et]; show (x == 0 || x == 1) = true; exact am_bit hx1
  · rename_i x hft
    obtain ⟨hg, ht⟩ := am_nx_gd hnx
    subst ht
    have et := htO.2.1 hft
    refine main (h.1, h.2.1, h.2.2.1, am_u h.2.2.2.1 q k x, h.2.2.2.2) (of_decide_eq_true (am_and3 hg).1) (Nat.eq_of_beq_eq_true (am_and3 hg).2) rfl (fun q' hq' => am_ce_other rfl rfl (am_u_ne hq') rfl) ?_ (fun j hj => ?_) (by rw [et]; rfl) (by rw [et]; rfl) kk
    · unfold am_fv; rw [hft]; simp only [am_u_same]; rfl
    · unfold am_fv; simp only [am_u_nk hj]
  · rename_i x hft
    obtain ⟨hg, ht⟩ := am_nx_gd hnx
    subst ht
    have et := htO.2.2.1 hft
    obtain ⟨hg1, hg2⟩ := am_and3 hg
    have hx1 : x = am_SR q k := Nat.eq_of_beq_eq_true hg2
    refine main (h.1, am_u h.2.1 q k true, h.2.2) (of_decide_eq_true (am_and3 hg1).1) (Nat.eq_of_beq_eq_true (am_and3 hg1).2) rfl (fun q' hq' => am_ce_other (am_u_ne hq') rfl rfl rfl) ?_ (fun j hj => ?_) ?_ ?_ kk
    · unfold am_fv; rw [hft]; simp only [am_u_same, hx1]; rfl
    · unfold am_fv; simp only [am_u_nk hj]
    · rcases et with ⟨C, et⟩ | ⟨C, et⟩ <;> rw [et] <;> rfl
    · rcases et with ⟨C, et⟩ | ⟨C, et⟩ <;> rw [et] <;> rfl
  · rename_i x hft
    obtain ⟨hg, ht⟩ := am_nx_gd hnx
    subst ht
    obtain ⟨C', et⟩ := htO.2.2.2.1 hft
    refine main (h.1, h.2.1, h.2.2.1, h.2.2.2.1, am_u h.2.2.2.2 q k x) (of_decide_eq_true (am_and3 hg).1) (Nat.eq_of_beq_eq_true (am_and3 hg).2) rfl (fun q' hq' => am_ce_other rfl rfl rfl (am_u_ne hq')) ?_ (fun j hj => ?_) ?_ ?_ kk
    · unfold am_fv; rw [hft]; simp only [am_u_same]; rfl
    · unfold am_fv; simp only [am_u_nk hj]
    · rw [et]; cases x <;> rfl
    · rw [et]; cases x <;> rfl
  · exact (am_nx_bad hnx).elim
end AMH
