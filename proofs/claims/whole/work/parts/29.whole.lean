/-! the claim out of the abstract machine's run of the law -/
theorem wd_law_1345 : decode code 1345 = .ok (.ireturn, 1) := by decide +kernel
/-- what is left to show, of the abstract machine alone -/
def am_Pure : Prop := ∀ (L : Nat) (xs : Nat → Int32), L ≤ 3072 → ∃ (n1 n2 pc1 : Nat) (L1 L2 : am_L) (st1 : List Value) (h1 h1' h2 : am_H),
  am_lo (true, L, xs) n1 (100, 304, 0, am_loc0 [.ref 60000] 7, [], am_h0) = some (100, 304, pc1, L1, st1, h1) ∧ (h1.1 = h1'.1 ∧ ∀ (S0 : Nat) (ad : Nat → Nat) (cy : Nat → ClassId), am_ws S0 ad cy h1 = am_ws S0 ad cy h1') ∧ am_lr (false, L, xs) n2 (100, 304, pc1, L1, st1, h1') = some (100, 304, 1345, L2, [.int 1], h2) ∧ h2.1 = 179 ∧ n2 ≤ 300000
theorem am_G_same {p : Program} {l : Launch} {e : Env} {R : Room} {s : State} {m : MethodId} {args : Array Value} {below : List Frame} {meth : Method} {c : Code} {Q : State → Prop} {S0 : Nat} {ad : Nat → Nat} {cy : Nat → ClassId} {D : va_G} {n0 nL cx sx d mid pc : Nat} {L : am_L} {st : List Value} {h h' : am_H} (h1 : h.1 = h'.1) (h2 : am_ws S0 ad cy h = am_ws S0 ad cy h')
    (k : am_G p l e R s m args below meth c Q S0 ad cy D n0 nL cx sx (d, mid, pc, L, st, h')) : am_G p l e R s m args below meth c Q S0 ad cy D n0 nL cx sx (d, mid, pc, L, st, h) := by
  intro H locs ls hP hz hS hl hL hn
  dsimp only at hP hz hn ⊢
  rw [h2] at hP
  rw [h1] at hz hn ⊢
  exact k H locs ls hP hz hS hl hL hn
theorem am_sz179 : am_sz 179 ≤ 100000 := by decide +kernel
def am_HP (env : am_E) : Prop := ∀ (p : Program) (l : Launch) (e : Env) (R : Room) (s : State) (m : MethodId) (args : Array Value) (below : List Frame) (meth : Method) (c : Code) (Q : State → Prop) (S0 : Nat) (ad : Nat → Nat) (cy : Nat → ClassId) (D : va_G) (n0 nL cx sx d mid : Nat), am_C p R s m args meth c S0 ad cy D env d mid → nL = (am_mi mid).2.2.2.1 → am_PR p l e R s m args below meth c Q S0 ad cy D n0 nL cx sx d mid
theorem whole_start_open (HC : ∀ a, a < 304 → am_chk a = true) (HL : am_chkT 304 0 (am_tab 304) = true) (HW : ∀ w ∈ wsL_law0, w ∈ lw_tbl) (HP : ∀ env, am_HP env)
    (HT : ∀ (env : am_E) (p : Program) (l : Launch) (e : Env) (R : Room) (s : State) (m : MethodId) (args : Array Value) (below : List Frame) (meth : Method) (c : Code) (Q : State → Prop) (S0 : Nat) (ad : Nat → Nat) (cy : Nat → ClassId) (D : va_G) (n0 nL d : Nat), l.flags = flags0 → (∀ w ∈ lw_tbl, w.before args s = true) → am_C p R s m args meth c S0 ad cy D env d 304 → am_TR env p l e R s m args below meth c Q S0 ad cy D n0 nL d 304)
    (HU : am_Pure) {p : Program} {e : Env} {s : State} {m : MethodId} {below : List Frame} {meth : Method} {c : Code} (l : Launch) (hflags : l.flags = flags0) {b L : Nat} {xs : Nat → Int32} (hL : L ≤ 3072) (C0 : lw_At p s m meth c b L xs) : W p l e room_1 s m #[Value.ref b] below meth c s.heap [] 0 0 (lw_Z below #[Value.ref b] s) (entryFrame m ([Value.ref b] : List Value).toArray 7) := by
  obtain ⟨hx, hb, hr, hml, hown, hts, hX, hbl, hlocks, hgv⟩ := id C0
  obtain ⟨ad, cy, D, hST, hab⟩ := am_start true hts HW hgv hX hbl
  obtain ⟨n1, n2, pc1, L1, L2, st1, h1, h1', h2, e1, ⟨eq1, eq2⟩, e2, e3, e4⟩ := HU L xs hL
  have hC : ∀ o : Bool, am_C p room_1 s m #[Value.ref b] meth c s.heap.size ad cy D (o, L, xs) 100 304 := fun o => ⟨⟨hx, hb, hml, hown⟩, fun w hw => hts w (HW w hw), hST, ⟨by decide, by decide⟩, fun q => absurd q (by decide)⟩
  have hend : am_G p l e room_1 s m #[Value.ref b] below meth c (lw_Z below #[Value.ref b] s) s.heap.size ad cy D 0 7 (0 + n2) (0 + 20 * n2) (100, 304, 1345, L2, [.int 1], h2) := by
    intro H locs ls hP hz hS hl hL hn
    have hs := am_sz179
    refine W.widen (k := 601024) (n := 7293034) ?_ ?_ (va_forget (fun q hq => hS.2.2 q hq) (lw_ret hx hb hr hlocks wd_law_1345))
    · show h2.1 - 0 + (0 + n2) ≤ 601024
      omega
    · show am_sz h2.1 - am_sz 0 + (0 + 20 * n2) ≤ 7293034
      rw [e3]
      omega
  have hs := am_sz179
  have hR1 : room_1.cells = 601024 := rfl
  have hR2 : room_1.slots = 7293034 := rfl
  obtain ⟨i1, k1⟩ := al_run_open (cx := 0) (sx := 0) (nn := n2) HC HL (HP (false, L, xs)) (fun d hc => HT (false, L, xs) p l e room_1 s m _ below meth c _ _ ad cy D 0 7 d hflags hts hc) rfl (hC false) rfl (show h2.1 ≤ 1000 by omega) ⟨by show h2.1 - 0 + (0 + n2 + 1) ≤ room_1.cells; omega, by show am_sz h2.1 - am_sz 0 + (0 + 20 * (n2 + 1)) ≤ room_1.slots; rw [e3]; omega⟩ n2 0 0 pc1 L1 st1 h1' e2 (Nat.le_refl _) (Nat.le_refl _) hend
  have i1 : h1'.1 ≤ h2.1 := i1
  rw [← eq1] at i1
  replace k1 := am_G_same eq1 (eq2 _ _ _) k1
  have hmz := am_sz_mono i1
  have hh : am_sz h2.1 ≤ 100000 := by rw [e3]; exact hs
  obtain ⟨i2, k2⟩ := al_pre_open (cx := 0) (sx := 0) HC HL (HP (true, L, xs)) (hC true) rfl (fun _ => ⟨rfl, rfl⟩) (t := (100, 304, pc1, L1, st1, h1)) ⟨by show h1.1 - 0 + 0 ≤ room_1.cells; omega, by show am_sz h1.1 - am_sz 0 + 0 ≤ room_1.slots; omega⟩ (show h1.1 ≤ 1000 by omega) k1 n1 0 _ [] am_h0 e1
  have hent := am_entry ad (vs := [.ref 60000]) (n := 7) (by decide)
  have eb : ([Value.ref 60000] : List Value).map (am_cv ad) = [Value.ref b] := by
    show [Value.ref (ad 60000)] = _
    rw [hab]
  rw [eb] at hent
  rw [lg_entry_eq]
  exact k2 s.heap [] _ (fun k q h => by cases h) (Nat.zero_le _) va_S.rf hent rfl (Nat.le_refl _)
