section AMT
variable {p : Program} {l : Launch} {e : Env} {R : Room} {s : State} {m : MethodId} {args : Array Value} {below : List Frame} {meth : Method} {c : Code} {Q : State → Prop} {S0 : Nat} {ad : Nat → Nat} {cy : Nat → ClassId} {D : va_G} {n0 nL cx sx : Nat} {cc : ByteArray}
variable {d mid pc : Nat} {L : am_L} {st : List Value} {h : am_H} {t : am_S}
theorem ag_b2 {f : Int32 → Int32 → Int32} (hnx : am_nx (am_b2 d mid pc L st h f) = some t) (k : am_G p l e R s m args below meth c Q S0 ad cy D n0 nL cx sx t)
    (hrow : ∀ (x y : Int32) (H : Heap) (locs : List Loc) (cells slots : Nat) (ls : Array Slot) (rest : List Value), W p l e R s m args below meth c H locs cells slots Q (F0 m (pc + 1) ls (.int (f x y) :: rest)) → W p l e R s m args below meth c H locs cells slots Q (F0 m pc ls (.int y :: .int x :: rest))) : am_G p l e R s m args below meth c Q S0 ad cy D n0 nL cx sx (d, mid, pc, L, st, h) := by
  unfold am_b2 at hnx
  split at hnx
  · have ht := am_nx_go hnx
    subst ht
    intro H locs ls hP hz hS hl hL hn
    exact hrow _ _ H locs _ _ ls _ (k H locs ls hP hz hS hl hL hn)
  · exact (am_nx_bad hnx).elim
theorem ag_l2 {f : Int64 → Int64 → Int64} (hnx : am_nx (am_l2 d mid pc L st h f) = some t) (k : am_G p l e R s m args below meth c Q S0 ad cy D n0 nL cx sx t)
    (hrow : ∀ (x y : Int64) (H : Heap) (locs : List Loc) (cells slots : Nat) (ls : Array Slot) (rest : List Value), W p l e R s m args below meth c H locs cells slots Q (F0 m (pc + 1) ls (.long (f x y) :: rest)) → W p l e R s m args below meth c H locs cells slots Q (F0 m pc ls (.long y :: .long x :: rest))) : am_G p l e R s m args below meth c Q S0 ad cy D n0 nL cx sx (d, mid, pc, L, st, h) := by
  unfold am_l2 at hnx
  split at hnx
  · have ht := am_nx_go hnx
    subst ht
    intro H locs ls hP hz hS hl hL hn
    exact hrow _ _ H locs _ _ ls _ (k H locs ls hP hz hS hl hL hn)
  · exact (am_nx_bad hnx).elim
/-- one step with nothing but the stack -/
theorem ag_go {pc' : Nat} {st' : List Value} (hnx : am_nx (am_go (d, mid, pc', L, st', h)) = some t) (k : am_G p l e R s m args below meth c Q S0 ad cy D n0 nL cx sx t)
    (hrow : ∀ (H : Heap) (locs : List Loc) (cells slots : Nat) (ls : Array Slot), W p l e R s m args below meth c H locs cells slots Q (F0 m pc' ls (st'.map (am_cv ad))) → W p l e R s m args below meth c H locs cells slots Q (F0 m pc ls (st.map (am_cv ad)))) : am_G p l e R s m args below meth c Q S0 ad cy D n0 nL cx sx (d, mid, pc, L, st, h) := by
  have ht := am_nx_go hnx
  subst ht
  intro H locs ls hP hz hS hl hL hn
  exact hrow H locs _ _ ls (k H locs ls hP hz hS hl hL hn)
theorem ag_gd {b : Bool} {pc' : Nat} {st' : List Value} (hnx : am_nx (am_gd b (d, mid, pc', L, st', h)) = some t) (k : am_G p l e R s m args below meth c Q S0 ad cy D n0 nL cx sx t)
    (hrow : b = true → ∀ (H : Heap) (locs : List Loc) (cells slots : Nat) (ls : Array Slot), W p l e R s m args below meth c H locs cells slots Q (F0 m pc' ls (st'.map (am_cv ad))) → W p l e R s m args below meth c H locs cells slots Q (F0 m pc ls (st.map (am_cv ad)))) : am_G p l e R s m args below meth c Q S0 ad cy D n0 nL cx sx (d, mid, pc, L, st, h) := by
  obtain ⟨hg, ht⟩ := am_nx_gd hnx
  subst ht
  intro H locs ls hP hz hS hl hL hn
  exact hrow hg H locs _ _ ls (k H locs ls hP hz hS hl hL hn)
theorem am_tg_eq {pc : Nat} {off : Int} (h : 0 ≤ (pc : Int) + off) : (pc : Int) + off = (am_tg pc off : Int) := (Int.toNat_of_nonneg h).symm
/-- a jump on a condition -/
theorem ag_jp {st' : List Value} {off : Int} {b : Bool} (hnx : am_nx (bif decide (0 ≤ (pc : Int) + off) then am_jp d mid pc L st' h off b else am_bad) = some t) (k : am_G p l e R s m args below meth c Q S0 ad cy D n0 nL cx sx t)
    (hrow : (pc : Int) + off = (am_tg pc off : Int) → ∀ (H : Heap) (locs : List Loc) (cells slots : Nat) (ls : Array Slot), (b = true → W p l e R s m args below meth c H locs cells slots Q (F0 m (am_tg pc off) ls (st'.map (am_cv ad)))) → (b = false → W p l e R s m args below meth c H locs cells slots Q (F0 m (pc + 3) ls (st'.map (am_cv ad)))) → W p l e R s m args below meth c H locs cells slots Q (F0 m pc ls (st.map (am_cv ad)))) : am_G p l e R s m args below meth c Q S0 ad cy D n0 nL cx sx (d, mid, pc, L, st, h) := by
  by_cases ho : 0 ≤ (pc : Int) + off
  · rw [decide_eq_true ho] at hnx
    have hnx : am_nx (am_jp d mid pc L st' h off b) = some t := hnx
    intro H locs ls hP hz hS hl hL hn
    cases b with
    | true =>
      cases hnx
      exact hrow (am_tg_eq ho) H locs _ _ ls (fun _ => k H locs ls hP hz hS hl hL hn) (fun q => by cases q)
    | false =>
      cases hnx
      exact hrow (am_tg_eq ho) H locs _ _ ls (fun q => by cases q) (fun _ => k H locs ls hP hz hS hl hL hn)
  · rw [decide_eq_false ho] at hnx
    exact (am_nx_bad hnx).elim
theorem ag_icmp (hx : p.tables.exec = Jvm.exec) (hb : c.code = cc) {cd : Jvm.ClassFile.Cond} {off : Int} (hd : decode cc pc = .ok (.if_icmp cd off, 3)) {x y : Int32} {st' : List Value}
    (hnx : am_nx (bif decide (0 ≤ (pc : Int) + off) then am_jp d mid pc L st' h off (am_cmp cd x y) else am_bad) = some t) (k : am_G p l e R s m args below meth c Q S0 ad cy D n0 nL cx sx t) : am_G p l e R s m args below meth c Q S0 ad cy D n0 nL cx sx (d, mid, pc, L, .int y :: .int x :: st', h) := by
  refine ag_jp hnx k (fun ht H locs cells slots ls k1 k2 => ?_)
  cases cd with
  | eq => exact lv_icmp_eq hx hb hd ht (fun q => k1 (decide_eq_true q)) (fun q => k2 (decide_eq_false q))
  | ne => exact lv_icmp_ne hx hb hd ht (fun q => k1 (by show (!(decide (x = y))) = true; rw [decide_eq_false q]; rfl)) (fun q => k2 (by show (!(decide (x = y))) = false; first | (rw [decide_eq_true q]; rfl) | (rw [decide_eq_true (Classical.not_not.mp q)]; rfl)))
  | lt => exact lv_icmp_lt hx hb hd ht (fun q => k1 (decide_eq_true q)) (fun q => k2 (decide_eq_false q))
  | ge => exact lv_icmp_ge hx hb hd ht (fun q => k1 (decide_eq_true q)) (fun q => k2 (decide_eq_false q))
  | gt => exact lv_icmp_gt hx hb hd ht (fun q => k1 (decide_eq_true q)) (fun q => k2 (decide_eq_false q))
  | le => exact lv_icmp_le hx hb hd ht (fun q => k1 (decide_eq_true q)) (fun q => k2 (decide_eq_false q))
theorem ag_ifc (hx : p.tables.exec = Jvm.exec) (hb : c.code = cc) {cd : Jvm.ClassFile.Cond} {off : Int} (hd : decode cc pc = .ok (.ifCond cd off, 3)) {x : Int32} {st' : List Value}
    (hnx : am_nx (bif decide (0 ≤ (pc : Int) + off) then am_jp d mid pc L st' h off (am_cmp cd x 0) else am_bad) = some t) (k : am_G p l e R s m args below meth c Q S0 ad cy D n0 nL cx sx t) : am_G p l e R s m args below meth c Q S0 ad cy D n0 nL cx sx (d, mid, pc, L, .int x :: st', h) := by
  refine ag_jp hnx k (fun ht H locs cells slots ls k1 k2 => ?_)
  cases cd with
  | eq => exact lv_if_eq hx hb hd ht (fun q => k1 (decide_eq_true q)) (fun q => k2 (decide_eq_false q))
  | ne => exact lv_if_ne hx hb hd ht (fun q => k1 (by show (!(decide (x = 0))) = true; rw [decide_eq_false q]; rfl)) (fun q => k2 (by show (!(decide (x = 0))) = false; first | (rw [decide_eq_true q]; rfl) | (rw [decide_eq_true (Classical.not_not.mp q)]; rfl)))
  | lt => exact lv_if_lt hx hb hd ht (fun q => k1 (decide_eq_true q)) (fun q => k2 (decide_eq_false q))
  | ge => exact lv_if_ge hx hb hd ht (fun q => k1 (decide_eq_true q)) (fun q => k2 (decide_eq_false q))
  | gt => exact lv_if_gt hx hb hd ht (fun q => k1 (decide_eq_true q)) (fun q => k2 (decide_eq_false q))
  | le => exact lv_if_le hx hb hd ht (fun q => k1 (decide_eq_true q)) (fun q => k2 (decide_eq_false q))
theorem am_eo_inj {ad : Nat → Nat} (hi : ∀ a b, ad (100000 + a) = ad (100000 + b) → a = b) {x y : Nat} : am_eo ad x = am_eo ad y ↔ x = y := by
  constructor
  · intro q
    cases x with
    | zero => cases y with
      | zero => rfl
      | succ y => cases q
    | succ x => cases y with
      | zero => cases q
      | succ y => rw [hi x y (Option.some.inj q)]
  · rintro rfl; rfl
theorem ag_acmp (hx : p.tables.exec = Jvm.exec) (hb : c.code = cc) {cd : ACond} {off : Int} (hd : decode cc pc = .ok (.if_acmp cd off, 3)) (hi : ∀ a b, ad (100000 + a) = ad (100000 + b) → a = b) {x y : Nat} {st' : List Value} {b : Bool} (hbb : b = match cd with | .eq => decide (x = y) | .ne => !(decide (x = y)))
    (hnx : am_nx (bif decide (0 ≤ (pc : Int) + off) then am_jp d mid pc L st' h off b else am_bad) = some t) (k : am_G p l e R s m args below meth c Q S0 ad cy D n0 nL cx sx t) : am_G p l e R s m args below meth c Q S0 ad cy D n0 nL cx sx (d, mid, pc, L, .retAddr y :: .retAddr x :: st', h) := by
  refine ag_jp hnx k (fun ht H locs cells slots ls k1 k2 => ?_)
  subst hbb
  cases cd with
  | eq => exact lv_acmp_eq hx hb hd ht (fun q => k1 (decide_eq_true ((am_eo_inj hi).mp q))) (fun q => k2 (decide_eq_false (fun z => q ((am_eo_inj hi).mpr z))))
  | ne => exact lv_acmp_ne hx hb hd ht (fun q => k1 (by show (!(decide (x = y))) = true; rw [decide_eq_false (fun z => q ((am_eo_inj hi).mpr z))]; rfl)) (fun q => k2 (by show (!(decide (x = y))) = false; first | (rw [decide_eq_true ((am_eo_inj hi).mp q)]; rfl) | (rw [decide_eq_true ((am_eo_inj hi).mp (Classical.not_not.mp q))]; rfl)))
theorem ag_ifnn (hx : p.tables.exec = Jvm.exec) (hb : c.code = cc) {off : Int} (hd : decode cc pc = .ok (.ifnonnull off, 3)) {x : Nat} {st' : List Value}
    (hnx : am_nx (bif decide (0 ≤ (pc : Int) + off) then am_jp d mid pc L st' h off (!(decide (x = 0))) else am_bad) = some t) (k : am_G p l e R s m args below meth c Q S0 ad cy D n0 nL cx sx t) : am_G p l e R s m args below meth c Q S0 ad cy D n0 nL cx sx (d, mid, pc, L, .retAddr x :: st', h) := by
  refine ag_jp hnx k (fun ht H locs cells slots ls k1 k2 => ?_)
  cases x with
  | zero => exact lv_ifnonnullN hx hb hd (k2 rfl)
  | succ x => exact lv_ifnonnull hx hb hd ht (k1 rfl)
end AMT
