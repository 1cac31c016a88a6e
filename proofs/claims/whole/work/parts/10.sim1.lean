/-! the machine does what the abstract one does: instruction by instruction -/
def am_sel : List (Bool × am_S) → Option am_S → Option am_S
  | [], o => o
  | (b, s) :: t, o => bif b then some s else am_sel t o
theorem am_br_sel (ev : am_S → Option am_R) (l : List (Bool × am_S)) (o : Option am_S) : am_br ev l o = (am_sel l o).bind ev := by
  induction l with
  | nil => cases o <;> rfl
  | cons q t ih =>
    obtain ⟨b, s⟩ := q
    cases b with
    | true => rfl
    | false => exact ih
def am_nx (A : am_A) : Option am_S := match A with
  | .inr (.inl (l, o)) => am_sel l o
  | _ => none
theorem am_nx_bad {t : am_S} (h : am_nx am_bad = some t) : False := by cases h
theorem am_nx_go {s t : am_S} (h : am_nx (am_go s) = some t) : t = s := by cases h; rfl
theorem am_nx_gd {b : Bool} {s t : am_S} (h : am_nx (am_gd b s) = some t) : b = true ∧ t = s := by
  cases b with
  | true => cases h; exact ⟨rfl, rfl⟩
  | false => cases h
def am_sl (q : Nat × Nat) : Nat := bif Nat.blt q.1 100 then am_nf q.1 else q.2
def am_sz : Nat → Nat
  | 0 => 0
  | n + 1 => am_sz n + am_sl (am_K n)
/-! texts: where they lie, what they hold; what a throw reads -/
def am_six : List Nat := [378, 386, 391, 393, 327, 161]
def am_stx : List String := [" has ", " ", " idle", " owes ", "no such BOOK or number, or a RING is in its way", "no such READER, or nothing such of him"]
def am_sln : List Nat := [5, 1, 5, 6]
def am_sby : List (List Int32) := [[32, 104, 97, 115, 32], [32], [32, 105, 100, 108, 101], [32, 111, 119, 101, 115, 32]]
def am_SSt (S0 : Nat) (ad : Nat → Nat) (U : State) : Prop := vk_S 4 am_sln am_sby (fun i => ad (50000 + i)) (fun i => ad (51000 + i)) (am_AA S0) U U.heap ∧ (∀ i : Nat, i < 6 → vk_R RX11 (am_six.getD i 0) (am_stx.getD i "") (ad (50000 + i)) U) ∧ va_Z "java/lang/String" "COMPACT_STRINGS" "Z" (.int 1) (am_AA S0) U U.heap ∧ va_Zq "jdk/internal/util/Preconditions" "SIOOBE_FORMATTER" "Ljava/util/function/BiFunction;" (am_AA S0) U U.heap ∧ vx_Zq Bundle.tN "UNASSIGNED_STACK" Bundle.steD (am_AA S0) U U.heap ∧ vx_Zq Bundle.tN "SUPPRESSED_SENTINEL" Bundle.listD (am_AA S0) U U.heap
theorem am_SSt_moved {S0 : Nat} {ad : Nat → Nat} {s U : State} (h : am_SSt S0 ad s) (hW : s.WarmedH U.vm) (hk : ∀ q : Nat, q < s.heap.size → ¬ am_AA S0 q → U.heap[q]? = s.heap[q]?) : am_SSt S0 ad U := by
  obtain ⟨h1, h2, h3, h6, h4, h5⟩ := h
  have al := hW.alike
  exact ⟨vk_S.moved al (h1.kept hk), fun i hi => vk_R.warm hW (h2 i hi), (h3.kept hk).moved al, va_Zq.moved al (h6.kept hk), vx_Zq.moved al (h4.kept hk), vx_Zq.moved al (h5.kept hk)⟩
theorem am_SSt_calling {S0 : Nat} {ad : Nat → Nat} {U : State} (h : am_SSt S0 ad U) (g : JFrame) (mk : MethodId) (a : Array Value) : am_SSt S0 ad (U.calling g mk a) := by
  obtain ⟨h1, h2, h3, h6, h4, h5⟩ := h
  have al : U.vm.Alike (U.calling g mk a).vm := Vm.Alike.refl U.vm
  exact ⟨vk_S.moved al h1, fun i hi => vk_R.same rfl (h2 i hi), h3.moved al, va_Zq.moved al h6, vx_Zq.moved al h4, vx_Zq.moved al h5⟩
/-- the row of all words, and their numbers -/
def am_SX (S0 : Nat) (ad : Nat → Nat) (U : State) : Prop := (∃ aA : Nat, va_Z RX10 "ALL" "[LSequelShelf$Word;" (.ref aA) (am_AA S0) U U.heap ∧ va_T (.object RX10) aA 24 (fun j => .ref (ad (100000 + j))) (am_AA S0) U U.heap) ∧ (∀ i : Nat, i < 24 → va_OF RX10 "packed" "J" (.long (am_pk.getD i 0)) (ad (100000 + i)) (am_AA S0) U U.heap) ∧ (∀ i : Nat, i < 24 → va_O RX10 (ad (100000 + i)) (am_AA S0) U U.heap) ∧ ∃ (cC : ClassId) (kC : Class), U.vm.findClass RX10 = some cC ∧ U.vm.classes[cC]? = some kC ∧ am_SSt S0 ad U
/-- what holds of a state's tables, of the constants, of the script -/
def am_ST (S0 : Nat) (ad : Nat → Nat) (cy : Nat → ClassId) (D : va_G) (env : am_E) (U : State) : Prop :=
  va_K D am_cl (am_tys cy) U ∧ (∀ w ∈ am_nw, va_Nw w U) ∧ (∀ i : Nat, i < 24 → va_Z RX10 (am_wns.getD i "") "LSequelShelf$Word;" (.ref (ad (100000 + i))) (am_AA S0) U U.heap) ∧ (va_X (ad 60000) env.2.1 env.2.2 U U.heap ∧ ad 60000 < S0) ∧ (∀ C ∈ [RX7, RX6, RX10], va_AO C U) ∧ S0 ≤ U.heap.size ∧ (∀ a, a < 2000 → ad a = S0 + a) ∧ (∀ a b, ad (100000 + a) = ad (100000 + b) → a = b) ∧ am_SX S0 ad U
def am_C (p : Program) (R : Room) (s : State) (m : MethodId) (args : Array Value) (meth : Method) (c : Code) (S0 : Nat) (ad : Nat → Nat) (cy : Nat → ClassId) (D : va_G) (env : am_E) (d mid : Nat) : Prop :=
  (p.tables.exec = Jvm.exec ∧ c.code = (am_mi mid).2.2.1 ∧ c.maxLocals = (am_mi mid).2.2.2.1 ∧ s.vm.findClass (am_mi mid).1 = some m.cls) ∧ (∀ w ∈ wsL_law0, w.before args s = true) ∧ am_ST S0 ad cy D env s ∧ (d + 8 ≤ R.frames ∧ 64 * (d + 8) ≤ R.locals) ∧ ((am_mi mid).2.1.name = "<init>" → meth.name = "<init>")
/-- the machine comes to its end from every state that is told so -/
def am_G (p : Program) (l : Launch) (e : Env) (R : Room) (s : State) (m : MethodId) (args : Array Value) (below : List Frame) (meth : Method) (c : Code) (Q : State → Prop) (S0 : Nat) (ad : Nat → Nat) (cy : Nat → ClassId) (D : va_G) (n0 nL cx sx : Nat) (σ : am_S) : Prop :=
  ∀ (H : Heap) (locs : List Loc) (ls : Array Slot), va_P D am_cl (am_ws S0 ad cy σ.2.2.2.2.2) H → σ.2.2.2.2.2.1 ≤ 1000 → va_S (am_AA S0) s.heap H locs → am_lh ad ls σ.2.2.2.1 → σ.2.2.2.1.length = nL → n0 ≤ σ.2.2.2.2.2.1 →
    W p l e R s m args below meth c H locs (σ.2.2.2.2.2.1 - n0 + cx) (am_sz σ.2.2.2.2.2.1 - am_sz n0 + sx) Q (F0 m σ.2.2.1 ls (σ.2.2.2.2.1.map (am_cv ad)))
section AMS
variable {p : Program} {l : Launch} {e : Env} {R : Room} {s : State} {m : MethodId} {args : Array Value} {below : List Frame} {meth : Method} {c : Code} {Q : State → Prop} {S0 : Nat} {ad : Nat → Nat} {cy : Nat → ClassId} {D : va_G} {n0 nL cx sx : Nat} {cc : ByteArray}
variable {d mid pc : Nat} {L : am_L} {st : List Value} {h : am_H} {t : am_S}
theorem ag_ld (hx : p.tables.exec = Jvm.exec) (hb : c.code = cc) {len i ty : Nat} (hnx : am_nx (am_ld d mid pc len L st h i ty) = some t) (k : am_G p l e R s m args below meth c Q S0 ad cy D n0 nL cx sx t)
    (hI : ty = 0 → (∃ k : Fin 4, k.val = i ∧ len = 1 ∧ decode cc pc = .ok (.iload_n k, 1)) ∨ (len = 2 ∧ decode cc pc = .ok (.iload i, 2)))
    (hJ : ty = 1 → (∃ k : Fin 4, k.val = i ∧ len = 1 ∧ decode cc pc = .ok (.lload_n k, 1)) ∨ (len = 2 ∧ decode cc pc = .ok (.lload i, 2)))
    (hA : ty = 2 → (∃ k : Fin 4, k.val = i ∧ len = 1 ∧ decode cc pc = .ok (.aload_n k, 1)) ∨ (len = 2 ∧ decode cc pc = .ok (.aload i, 2))) : am_G p l e R s m args below meth c Q S0 ad cy D n0 nL cx sx (d, mid, pc, L, st, h) := by
  intro H locs ls hP hz hS hl hL hn
  unfold am_ld at hnx
  split at hnx
  · rename_i x hLi
    have ht := am_nx_go hnx
    subst ht
    have h1 := hl.2.2 i _ hLi
    rcases hI rfl with ⟨q, hq, hl1, hd⟩ | ⟨hl1, hd⟩
    · subst hl1; exact lv_iload_n hx hb hd hq h1 (k H locs ls hP hz hS hl hL hn)
    · subst hl1; exact lv_iload hx hb hd h1 (k H locs ls hP hz hS hl hL hn)
  · rename_i x hLi
    have ht := am_nx_go hnx
    subst ht
    have h1 := hl.2.2 i _ hLi
    rcases hJ rfl with ⟨q, hq, hl1, hd⟩ | ⟨hl1, hd⟩
    · subst hl1; exact lv_lload_n hx hb hd hq h1 (k H locs ls hP hz hS hl hL hn)
    · subst hl1; exact lv_lload hx hb hd h1 (k H locs ls hP hz hS hl hL hn)
  · rename_i x hLi
    have ht := am_nx_go hnx
    subst ht
    have h1 := hl.2.2 i _ hLi
    rcases hA rfl with ⟨q, hq, hl1, hd⟩ | ⟨hl1, hd⟩
    · subst hl1; exact lv_aload_n hx hb hd hq h1 (k H locs ls hP hz hS hl hL hn)
    · subst hl1; exact lv_aload hx hb hd h1 (k H locs ls hP hz hS hl hL hn)
  · rename_i x hLi
    have ht := am_nx_go hnx
    subst ht
    have h1 := hl.2.2 i _ hLi
    have kk := k H locs ls hP hz hS hl hL hn
    cases x with
    | zero =>
      rcases hA rfl with ⟨q, hq, hl1, hd⟩ | ⟨hl1, hd⟩
      · subst hl1; exact lv_aload_nN hx hb hd hq h1 kk
      · subst hl1; exact lv_aloadN hx hb hd h1 kk
    | succ x =>
      rcases hA rfl with ⟨q, hq, hl1, hd⟩ | ⟨hl1, hd⟩
      · subst hl1; exact lv_aload_n hx hb hd hq h1 kk
      · subst hl1; exact lv_aload hx hb hd h1 kk
  · exact (am_nx_bad hnx).elim
theorem ag_sto (hx : p.tables.exec = Jvm.exec) (hb : c.code = cc) {len i ty : Nat} (hnx : am_nx (am_sto d mid pc len L st h i ty) = some t) (k : am_G p l e R s m args below meth c Q S0 ad cy D n0 nL cx sx t)
    (hI : ty = 0 → (∃ k : Fin 4, k.val = i ∧ len = 1 ∧ decode cc pc = .ok (.istore_n k, 1)) ∨ (len = 2 ∧ decode cc pc = .ok (.istore i, 2)))
    (hJ : ty = 1 → (∃ k : Fin 4, k.val = i ∧ len = 1 ∧ decode cc pc = .ok (.lstore_n k, 1)) ∨ (len = 2 ∧ decode cc pc = .ok (.lstore i, 2)))
    (hA : ty = 2 → (∃ k : Fin 4, k.val = i ∧ len = 1 ∧ decode cc pc = .ok (.astore_n k, 1)) ∨ (len = 2 ∧ decode cc pc = .ok (.astore i, 2))) : am_G p l e R s m args below meth c Q S0 ad cy D n0 nL cx sx (d, mid, pc, L, st, h) := by
  intro H locs ls hP hz hS hl hL hn
  have hh := am_lh_has hl
  have hblt : ∀ {a b : Nat}, Nat.blt a b = true → a < b := fun {a b} h => Nat.lt_of_lt_of_le (Nat.lt_succ_self a) (Nat.le_of_ble_eq_true h)
  have hlen1 : ∀ v, (am_st1 L i v).length = nL := fun v => by rw [← hL]; simp [am_st1, am_kill_len]
  have hlen2 : ∀ v, (am_st2 L i v).length = nL := fun v => by rw [← hL]; simp [am_st2, am_kill_len]
  unfold am_sto at hnx
  split at hnx
  · rename_i x r
    obtain ⟨hg, ht⟩ := am_nx_gd hnx
    subst ht
    have hi := hblt hg
    have kk : ∀ ls' : Array Slot, lv_has ls' L.length ((i, Value.int x) :: (am_lv ad L).filter (fun q => !(q.1 == i) && !(q.1 + 1 == i && q.2.category == 2))) → W p l e R s m args below meth c H locs (h.1 - n0 + cx) (am_sz h.1 - am_sz n0 + sx) Q (F0 m (pc + len) ls' (r.map (am_cv ad))) := fun ls' hl' => k H locs ls' hP hz hS (am_store1 (v := .int x) hi hl' (am_cat ad)) (hlen1 _) hn
    rcases hI rfl with ⟨q, hq, hl1, hd⟩ | ⟨hl1, hd⟩
    · subst hl1; exact lv_istore_n hx hb hd hq hh hi rfl kk
    · subst hl1; exact lv_istore hx hb hd hh hi rfl kk
  · rename_i x r
    obtain ⟨hg, ht⟩ := am_nx_gd hnx
    subst ht
    have hi := hblt hg
    have kk : ∀ ls' : Array Slot, lv_has ls' L.length ((i, Value.long x) :: (am_lv ad L).filter (fun q => !(q.1 == i) && (!(q.1 == i + 1) && !(q.1 + 1 == i && q.2.category == 2)))) → W p l e R s m args below meth c H locs (h.1 - n0 + cx) (am_sz h.1 - am_sz n0 + sx) Q (F0 m (pc + len) ls' (r.map (am_cv ad))) := fun ls' hl' => k H locs ls' hP hz hS (am_store2 (v := .long x) hi hl' (am_cat ad)) (hlen2 _) hn
    rcases hJ rfl with ⟨q, hq, hl1, hd⟩ | ⟨hl1, hd⟩
    · subst hl1; exact lv_lstore_n hx hb hd hq hh hi rfl kk
    · subst hl1; exact lv_lstore hx hb hd hh hi rfl kk
  · rename_i x r
    obtain ⟨hg, ht⟩ := am_nx_gd hnx
    subst ht
    have hi := hblt hg
    have kk : ∀ ls' : Array Slot, lv_has ls' L.length ((i, Value.ref (ad x)) :: (am_lv ad L).filter (fun q => !(q.1 == i) && !(q.1 + 1 == i && q.2.category == 2))) → W p l e R s m args below meth c H locs (h.1 - n0 + cx) (am_sz h.1 - am_sz n0 + sx) Q (F0 m (pc + len) ls' (r.map (am_cv ad))) := fun ls' hl' => k H locs ls' hP hz hS (am_store1 (v := .ref x) hi hl' (am_cat ad)) (hlen1 _) hn
    rcases hA rfl with ⟨q, hq, hl1, hd⟩ | ⟨hl1, hd⟩
    · subst hl1; exact lv_astore_n hx hb hd hq hh hi rfl kk
    · subst hl1; exact lv_astore hx hb hd hh hi rfl kk
  · rename_i x r
    obtain ⟨hg, ht⟩ := am_nx_gd hnx
    subst ht
    have hi := hblt hg
    have kk : ∀ ls' : Array Slot, lv_has ls' L.length ((i, am_cv ad (.retAddr x)) :: (am_lv ad L).filter (fun q => !(q.1 == i) && !(q.1 + 1 == i && q.2.category == 2))) → W p l e R s m args below meth c H locs (h.1 - n0 + cx) (am_sz h.1 - am_sz n0 + sx) Q (F0 m (pc + len) ls' (r.map (am_cv ad))) := fun ls' hl' => k H locs ls' hP hz hS (am_store1 (v := .retAddr x) hi hl' (am_cat ad)) (hlen1 _) hn
    cases x with
    | zero =>
      rcases hA rfl with ⟨q, hq, hl1, hd⟩ | ⟨hl1, hd⟩
      · subst hl1; exact lv_astore_nN hx hb hd hq hh hi rfl kk
      · subst hl1; exact lv_astoreN hx hb hd hh hi rfl kk
    | succ x =>
      rcases hA rfl with ⟨q, hq, hl1, hd⟩ | ⟨hl1, hd⟩
      · subst hl1; exact lv_astore_n hx hb hd hq hh hi rfl kk
      · subst hl1; exact lv_astore hx hb hd hh hi rfl kk
  · exact (am_nx_bad hnx).elim
end AMS
