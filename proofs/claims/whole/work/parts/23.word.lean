/-! the row of the words: which word a number is -/
def wo_ws : List Cond := .code yX10_of cX10_of 3 (some (.object "SequelShelf$Word")) :: wsL_law0
theorem wd_of_0 : decode cX10_of 0 = .ok (.iconst 0, 1) := by decide +kernel
theorem wd_of_1 : decode cX10_of 1 = .ok (.istore_n 2, 1) := by decide +kernel
theorem wd_of_2 : decode cX10_of 2 = .ok (.iload_n 2, 1) := by decide +kernel
theorem wd_of_3 : decode cX10_of 3 = .ok (.getstatic 113, 3) := by decide +kernel
theorem wd_of_6 : decode cX10_of 6 = .ok (.arraylength, 1) := by decide +kernel
theorem wd_of_7 : decode cX10_of 7 = .ok (.if_icmp .ge 28, 3) := by decide +kernel
theorem wd_of_10 : decode cX10_of 10 = .ok (.getstatic 113, 3) := by decide +kernel
theorem wd_of_13 : decode cX10_of 13 = .ok (.iload_n 2, 1) := by decide +kernel
theorem wd_of_14 : decode cX10_of 14 = .ok (.aaload, 1) := by decide +kernel
theorem wd_of_15 : decode cX10_of 15 = .ok (.getfield 109, 3) := by decide +kernel
theorem wd_of_18 : decode cX10_of 18 = .ok (.lload_n 0, 1) := by decide +kernel
theorem wd_of_19 : decode cX10_of 19 = .ok (.lcmp, 1) := by decide +kernel
theorem wd_of_20 : decode cX10_of 20 = .ok (.ifCond .ne 9, 3) := by decide +kernel
theorem wd_of_23 : decode cX10_of 23 = .ok (.getstatic 113, 3) := by decide +kernel
theorem wd_of_26 : decode cX10_of 26 = .ok (.iload_n 2, 1) := by decide +kernel
theorem wd_of_27 : decode cX10_of 27 = .ok (.aaload, 1) := by decide +kernel
theorem wd_of_28 : decode cX10_of 28 = .ok (.areturn, 1) := by decide +kernel
theorem wd_of_29 : decode cX10_of 29 = .ok (.iinc 2 1, 3) := by decide +kernel
theorem wd_of_32 : decode cX10_of 32 = .ok (.goto (-30), 3) := by decide +kernel
theorem wd_of_35 : decode cX10_of 35 = .ok (.aconst_null, 1) := by decide +kernel
theorem wd_of_36 : decode cX10_of 36 = .ok (.areturn, 1) := by decide +kernel
theorem aw_of : Cond.code yX10_of cX10_of 3 (some (.object "SequelShelf$Word")) ∈ wsL_law0 := List.mem_of_getElem? (i := 280) (by decide +kernel)
theorem aw_ofS : Cond.static yX10_of ∈ wsL_law0 := List.mem_of_getElem? (i := 279) (by decide +kernel)
theorem aw_ofI : Cond.initialized RX10 ∈ wsL_law0 := List.mem_of_getElem? (i := 276) (by decide +kernel)
theorem aw_ofA : Cond.fieldLink RX10 113 "SequelShelf$Word" "ALL" "[LSequelShelf$Word;" ∈ wsL_law0 := List.mem_of_getElem? (i := 281) (by decide +kernel)
theorem aw_ofP : Cond.fieldLink RX10 109 "SequelShelf$Word" "packed" "J" ∈ wsL_law0 := List.mem_of_getElem? (i := 282) (by decide +kernel)
theorem lg_cmp0 (a b : Int64) : lg_cmp a b = 0 ↔ a = b := by
  unfold lg_cmp
  by_cases h1 : a > b
  · rw [if_pos h1]
    constructor
    · intro h; exact absurd h (by decide)
    · intro h; subst h; exact absurd h1 (by simp [Int64.lt_iff_toInt_lt])
  · rw [if_neg h1]
    by_cases h2 : a = b
    · rw [if_pos h2]; exact ⟨fun _ => h2, fun _ => rfl⟩
    · rw [if_neg h2]
      exact ⟨fun h => absurd h (by decide), fun h => absurd h h2⟩
theorem wo_find (x : Int64) {i : Nat} (hi : i < 24) : am_find x (am_pk.drop i) (i + 1) = bif decide (am_pk.getD i 0 = x) then i + 1 else am_find x (am_pk.drop (i + 1)) (i + 2) := by
  have hl : am_pk.length = 24 := by decide
  have : am_pk.drop i = am_pk.getD i 0 :: am_pk.drop (i + 1) := by
    rw [List.drop_eq_getElem_cons (by omega), List.getD_eq_getElem?_getD, List.getElem?_eq_getElem (by omega)]
    rfl
  rw [this]
  rfl
set_option maxHeartbeats 4000000 in
theorem wo_met (l : Launch) (S0 : Nat) (ad : Nat → Nat) (cy : Nat → ClassId) (D : va_G) (env : am_E) (x : Int64) (h : am_H) : Met l yX10_of wo_ws (am_rm 0 0 0) (am_Pcc S0 ad cy D env [.long x] h) (am_Qcc S0 ad cy D (some (.retAddr (am_wordOf x))) h) 0 0 (am_AA S0) := by
  refine Met.ofW (cc := cX10_of) (maxL := 3) (ret := some (.object "SequelShelf$Word")) (by decide) rfl ?_
  intro p e s m args below meth c s₁ B hml hv
  obtain ⟨rfl, hST, hP, hsz⟩ := hv
  have hx := B.exec
  have hb := B.bytes
  have hr := B.returns
  have hts0 := atoms_spec (ws := wo_ws) B.pre
  have hts : ∀ w ∈ wsL_law0, w.before _ s = true := fun w hw => hts0 w (List.mem_cons_of_mem _ hw)
  have hown : s.vm.findClass RX10 = some m.cls := findClass_of_methodNamed B.named
  have hlocks := B.notSynchronized
  obtain ⟨hK, hnw, hen, ⟨hX, hXl⟩, hAO, hS0, had, hinj, ⟨aA, hZ, hT⟩, hof, ho, hkc⟩ := hST
  have hS : va_S (am_AA S0) s.heap s.heap [] := va_S.rf
  have hl := lv_entry ([.long x] : List Value) (n := 3) (Nat.le_of_ble_eq_true rfl)
  show W p l e _ s m _ below meth c s.heap [] 0 0 _ (entryFrame m ([Value.long x] : List Value).toArray 3)
  rw [lg_entry_eq]
  generalize (lg_sl ([.long x] : List Value) ++ List.replicate (3 - (lg_sl ([.long x] : List Value)).length) Slot.unset).toArray = ls at hl ⊢
  have hl : lv_has ls 3 [(0, .long x)] := hl
  have fin : ∀ (v : Option Nat) (pc : Nat) (ls : Array Slot), decode cX10_of pc = .ok (.areturn, 1) → v = am_eo ad (am_wordOf x) → W p l e (headSpec wo_ws (am_rm 0 0 0)).room s m ((List.map (am_cv ad) [Value.long x]).toArray) below meth c s.heap [] 0 0 (MQ below (am_Qcc S0 ad cy D (some (.retAddr (am_wordOf x))) h) ((List.map (am_cv ad) [Value.long x]).toArray) s 0 0 (am_AA S0)) (F0 m pc ls [va_rf v]) := by
    intro v pc ls hd hv
    refine W.aret (rt := .object "SequelShelf$Word") hx hb hr (Or.inl ⟨_, rfl⟩) (by cases v; exact Or.inl rfl; exact Or.inr ⟨_, rfl⟩) (fun t ht hW => ?_) hS.2.2 hd hlocks
    subst hv
    exact ⟨rfl, by rw [ht]; exact hP, hS.F ht⟩
  have loop : ∀ (k i : Nat), i + k = 24 → am_find x (am_pk.drop i) (i + 1) = am_wordOf x → ∀ ls : Array Slot, lv_has ls 3 [(2, .int (nI i)), (0, .long x)] → W p l e (headSpec wo_ws (am_rm 0 0 0)).room s m ((List.map (am_cv ad) [Value.long x]).toArray) below meth c s.heap [] 0 0 (MQ below (am_Qcc S0 ad cy D (some (.retAddr (am_wordOf x))) h) ((List.map (am_cv ad) [Value.long x]).toArray) s 0 0 (am_AA S0)) (F0 m 2 ls []) := by
    intro k
    induction k with
    | zero =>
      intro i hi hf ls hl
      have hi : i = 24 := by omega
      subst hi
      refine lv_iload_n hx hb wd_of_2 rfl (lv_at hl 0 rfl) ?_
      refine va_gets hx hb hZ hS hown (hts _ aw_ofA) (fun x z => z) wd_of_3 ?_
      refine va_tlen hx hb hT hS (v := 24) rfl wd_of_6 ?_
      refine lv_icmp_ge (tgt := 35) hx hb wd_of_7 (by decide) (fun _ => ?_) (fun q => absurd (show (24 : Int32) ≤ nI 24 from by decide) q)
      refine lv_null hx hb wd_of_35 ?_
      refine fin none 36 ls wd_of_36 ?_
      rw [← hf]
      rfl
    | succ k ih =>
      intro i hi hf ls hl
      have hi24 : i < 24 := by omega
      have hin : vp_in (nI i) 24 := vp_in_nI hi24 (by decide)
      have hcl2 : (nI i).toNatClampNeg = i := nI_clamp (by omega)
      refine lv_iload_n hx hb wd_of_2 rfl (lv_at hl 0 rfl) ?_
      refine va_gets hx hb hZ hS hown (hts _ aw_ofA) (fun x z => z) wd_of_3 ?_
      refine va_tlen hx hb hT hS (v := nI 24) rfl wd_of_6 ?_
      refine lv_icmp_ge (tgt := 35) hx hb wd_of_7 (by decide) (fun q => absurd q (nI_ge hi24 (by decide))) (fun _ => ?_)
      refine va_gets hx hb hZ hS hown (hts _ aw_ofA) (fun x z => z) wd_of_10 ?_
      refine lv_iload_n hx hb wd_of_13 rfl (lv_at hl 0 rfl) ?_
      refine vb_tq hx hb hT hS hin (v := .ref (ad (100000 + i))) (by rw [hcl2]) wd_of_14 ?_
      refine vk_getf hx hb (hof i hi24) hS hown (hts _ aw_ofP) (fun x z => z) wd_of_15 ?_
      refine lv_lload_n hx hb wd_of_18 rfl (lv_at hl 1 rfl) ?_
      refine W.lcmp hx hb wd_of_19 ?_
      have hw := wo_find x hi24
      refine lv_if_ne (tgt := 29) hx hb wd_of_20 (by decide) (fun q => ?_) (fun q => ?_)
      · have hne : ¬ am_pk.getD i 0 = x := fun z => q ((lg_cmp0 _ _).mpr z)
        rw [decide_eq_false hne] at hw
        refine lv_iinc (v := nI (i + 1)) (lv' := [(2, .int (nI (i + 1))), (0, .long x)]) hx hb wd_of_29 hl (k := 0) rfl (by rw [nI_succ]; rfl) (by decide) rfl (fun ls hl => ?_)
        refine lv_goto (tgt := 2) hx hb wd_of_32 (by decide) ?_
        exact ih (i + 1) (by omega) (by rw [← hf, hw]; rfl) ls hl
      · have heq : am_pk.getD i 0 = x := (lg_cmp0 _ _).mp q
        rw [decide_eq_true heq] at hw
        refine va_gets hx hb hZ hS hown (hts _ aw_ofA) (fun x z => z) wd_of_23 ?_
        refine lv_iload_n hx hb wd_of_26 rfl (lv_at hl 0 rfl) ?_
        refine vb_tq hx hb hT hS hin (v := .ref (ad (100000 + i))) (by rw [hcl2]) wd_of_27 ?_
        refine fin (some (ad (100000 + i))) 28 ls wd_of_28 ?_
        rw [← hf, hw]
        rfl
  refine lv_iconst (v := 0) hx hb wd_of_0 (by decide) ?_
  refine lv_istore_n (lv' := [(2, .int 0), (0, .long x)]) hx hb wd_of_1 rfl hl (by decide) rfl (fun ls hl => ?_)
  exact loop 24 0 rfl rfl ls hl
