/-! the start -/
def am_ad (S0 b : Nat) (en str : Nat → Nat) (a : Nat) : Nat := if a < 2000 then S0 + a else if a < 100000 then (if a = 60000 then b else str (a - 50000)) else if a < 100024 then en (a - 100000) else S0 + a
theorem am_ad_en (S0 b : Nat) (en str : Nat → Nat) (a : Nat) : am_ad S0 b en str (100000 + a) = if a < 24 then en a else S0 + (100000 + a) := by
  unfold am_ad
  rw [if_neg (by omega), if_neg (by omega), Nat.add_sub_cancel_left]
  by_cases h : a < 24
  · rw [if_pos h, if_pos (by omega)]
  · rw [if_neg h, if_neg (by omega)]
set_option maxRecDepth 100000 in
theorem st_sex : ((List.range 6).all fun i => decide (Cond.exactly (.string RX11 (am_six.getD i 0)) "java/lang/String" ∈ am_NF)) = true := by decide +kernel
set_option maxRecDepth 100000 in
theorem st_sco : ((List.range 4).all fun i => decide (Cond.eq (.field (.string RX11 (am_six.getD i 0)) "java/lang/String" "coder" "B") (.int 0) ∈ am_NF)) = true := by decide +kernel
set_option maxRecDepth 100000 in
theorem st_sar : ((List.range 4).all fun i => decide (Cond.arrayOf (.field (.string RX11 (am_six.getD i 0)) "java/lang/String" "value" "[B") .byte ∈ am_NF)) = true := by decide +kernel
set_option maxRecDepth 100000 in
theorem st_sle : ((List.range 4).all fun i => decide (Cond.eq (.length (.field (.string RX11 (am_six.getD i 0)) "java/lang/String" "value" "[B")) (.int (Int32.ofNat (am_sln.getD i 0))) ∈ am_NF)) = true := by decide +kernel
set_option maxRecDepth 100000 in
theorem st_sel : ((List.range 4).all fun i => (List.range (am_sln.getD i 0)).all fun j => decide (Cond.eq (.elem (.field (.string RX11 (am_six.getD i 0)) "java/lang/String" "value" "[B") (.int (Int32.ofNat j))) (.int ((am_sby.getD i []).getD j 0)) ∈ am_NF)) = true := by decide +kernel
set_option maxRecDepth 100000 in
theorem st_sne : ((List.range 4).all fun i => (List.range 4).all fun j => Nat.beq i j || decide (Cond.not (Cond.eq (.string RX11 (am_six.getD i 0)) (.string RX11 (am_six.getD j 0))) ∈ am_NF) || decide (Cond.not (Cond.eq (.string RX11 (am_six.getD j 0)) (.string RX11 (am_six.getD i 0))) ∈ am_NF)) = true := by decide +kernel
set_option maxRecDepth 100000 in
theorem st_srf : ((List.range 6).all fun i => decide (Cond.stringRef RX11 (am_six.getD i 0) (am_stx.getD i "") ∈ lw_tbl)) = true := by decide +kernel
set_option maxRecDepth 100000 in
theorem st_csl : decide (Cond.laysStatic "java/lang/String" "COMPACT_STRINGS" "Z" ∈ lw_tbl) = true := by decide +kernel
set_option maxRecDepth 100000 in
theorem st_csi : decide (Cond.initialized "java/lang/String" ∈ lw_tbl) = true := by decide +kernel
set_option maxRecDepth 100000 in
theorem st_cse : decide (Cond.eq (.static "java/lang/String" "COMPACT_STRINGS" "Z") (.int 1) ∈ am_NF) = true := by decide +kernel
set_option maxRecDepth 100000 in
theorem st_thi : decide (Cond.initialized Bundle.tN ∈ lw_tbl) = true := by decide +kernel
set_option maxRecDepth 100000 in
theorem st_thl : (decide (Cond.laysStatic Bundle.tN "UNASSIGNED_STACK" Bundle.steD ∈ lw_tbl) && decide (Cond.laysStatic Bundle.tN "SUPPRESSED_SENTINEL" Bundle.listD ∈ lw_tbl)) = true := by decide +kernel
set_option maxRecDepth 100000 in
theorem st_thr : (decide (Cond.isRef (.static Bundle.tN "UNASSIGNED_STACK" Bundle.steD) ∈ am_NF) && decide (Cond.isRef (.static Bundle.tN "SUPPRESSED_SENTINEL" Bundle.listD) ∈ am_NF)) = true := by decide +kernel
set_option maxRecDepth 100000 in
theorem st_pcl : (decide (Cond.laysStatic "jdk/internal/util/Preconditions" "SIOOBE_FORMATTER" "Ljava/util/function/BiFunction;" ∈ lw_tbl) && decide (Cond.initialized "jdk/internal/util/Preconditions" ∈ lw_tbl)) = true := by decide +kernel
set_option maxRecDepth 100000 in
theorem st_pcr : decide (Cond.isRef (.static "jdk/internal/util/Preconditions" "SIOOBE_FORMATTER" "Ljava/util/function/BiFunction;") ∈ am_NF) = true := by decide +kernel
theorem am_sby_len : ((List.range 4).all fun i => Nat.ble (am_sln.getD i 0) 6) = true := by decide
/-- the texts, as the start has them -/
theorem am_texts {args : Array Value} {s : State} (b : Nat) (en : Nat → Nat) (hts : ∀ w ∈ lw_tbl, w.before args s = true) (hf : ∀ w ∈ am_NF, w.before args s = true) : ∃ str : Nat → Nat, am_SSt s.heap.size (am_ad s.heap.size b en str) s := by
  have hA : ∀ a : Nat, a < s.heap.size → ¬ am_AA s.heap.size a := fun a ha => Nat.not_le.mpr ha
  obtain ⟨adK, adV, hS, hev⟩ := vk_Sof (args := args) (s := s) (N := 4) (tm := fun i => .string RX11 (am_six.getD i 0)) (len := am_sln) (byt := am_sby) (A := am_AA s.heap.size)
    (fun i hi => by have := Nat.le_of_ble_eq_true (st_range am_sby_len hi); exact Nat.lt_of_le_of_lt this (by decide))
    (fun i hi => hf _ (of_decide_eq_true (st_range st_sex (show i < 6 by omega))))
    (fun i hi => hf _ (of_decide_eq_true (st_range st_sco hi)))
    (fun i hi => hf _ (of_decide_eq_true (st_range st_sar hi)))
    (fun i hi => hf _ (of_decide_eq_true (st_range st_sle hi)))
    (fun i hi j hj => hf _ (of_decide_eq_true (st_range (st_range st_sel hi) hj)))
    (fun i j hi hj hne => by
      rcases am_or (st_range (st_range st_sne hi) hj) with q | q
      · rcases am_or q with q | q
        · exact absurd (Nat.eq_of_beq_eq_true q) hne
        · exact Or.inl (hf _ (of_decide_eq_true q))
      · exact Or.inr (hf _ (of_decide_eq_true q))) hA
  have hx : ∀ i, i < 6 → ∃ a : Nat, (Term.string RX11 (am_six.getD i 0)).eval args s none [] s = some (.ref a) := by
    intro i hi
    obtain ⟨a, cC, cell, kC, q1, -⟩ := Cond.exactly_spec (hf _ (of_decide_eq_true (st_range st_sex hi)))
    exact ⟨a, q1⟩
  obtain ⟨a4, h4⟩ := hx 4 (by decide)
  obtain ⟨a5, h5⟩ := hx 5 (by decide)
  refine ⟨fun i => if i = 4 then a4 else if i = 5 then a5 else if 1000 ≤ i then adV (i - 1000) else adK i, ?_, fun i hi => ?_, ?_, ?_, ?_, ?_⟩
  · have e : ∀ i, i < 4 → am_ad s.heap.size b en (fun i => if i = 4 then a4 else if i = 5 then a5 else if 1000 ≤ i then adV (i - 1000) else adK i) (50000 + i) = adK i := by
      intro i hi
      unfold am_ad
      rw [if_neg (by omega), if_pos (by omega), if_neg (by omega), Nat.add_sub_cancel_left]
      dsimp only
      rw [if_neg (by omega), if_neg (by omega), if_neg (by omega)]
    have eV : ∀ i, i < 4 → am_ad s.heap.size b en (fun i => if i = 4 then a4 else if i = 5 then a5 else if 1000 ≤ i then adV (i - 1000) else adK i) (51000 + i) = adV i := by
      intro i hi
      unfold am_ad
      rw [if_neg (by omega), if_pos (by omega), if_neg (by omega)]
      dsimp only
      rw [if_neg (by omega), if_neg (by omega), if_pos (by omega), show 51000 + i - 50000 - 1000 = i by omega]
    refine ⟨fun i hi => ?_, fun i j hi hj hij => ?_⟩
    · dsimp only
      rw [e i hi, eV i hi]
      exact hS.1 i hi
    · dsimp only at hij
      rw [e i hi, e j hj] at hij
      exact hS.2 i j hi hj hij
  · have e : am_ad s.heap.size b en (fun i => if i = 4 then a4 else if i = 5 then a5 else if 1000 ≤ i then adV (i - 1000) else adK i) (50000 + i) = if i = 4 then a4 else if i = 5 then a5 else if 1000 ≤ i then adV (i - 1000) else adK i := by
      unfold am_ad
      rw [if_neg (by omega), if_pos (by omega), if_neg (by omega), Nat.add_sub_cancel_left]
    rw [e]
    refine vk_R.of (hts _ (of_decide_eq_true (st_range st_srf hi))) ?_
    rcases (show i < 4 ∨ i = 4 ∨ i = 5 by omega) with q | rfl | rfl
    · rw [if_neg (by omega), if_neg (by omega), if_neg (by omega)]
      exact hev i q
    · rw [if_pos rfl]
      exact h4
    · rw [if_neg (by decide), if_pos rfl]
      exact h5
  · exact va_Zof (hts _ (of_decide_eq_true st_csl)) (hts _ (of_decide_eq_true st_csi)) (va_eqt (hf _ (of_decide_eq_true st_cse))) hA
  · exact (vx_Zqof (hts _ (of_decide_eq_true (am_and3 st_pcl).1)) (hts _ (of_decide_eq_true (am_and3 st_pcl).2)) (hf _ (of_decide_eq_true st_pcr)) hA).1
  · exact vx_Zqof (hts _ (of_decide_eq_true (am_and3 st_thl).1)) (hts _ (of_decide_eq_true st_thi)) (hf _ (of_decide_eq_true (am_and3 st_thr).1)) hA
  · exact vx_Zqof (hts _ (of_decide_eq_true (am_and3 st_thl).2)) (hts _ (of_decide_eq_true st_thi)) (hf _ (of_decide_eq_true (am_and3 st_thr).2)) hA
theorem am_start {args : Array Value} {s : State} {b L : Nat} {xs : Nat → Int32} (o : Bool) (hts : ∀ w ∈ lw_tbl, w.before args s = true) (hW0 : ∀ w ∈ wsL_law0, w ∈ lw_tbl) (hgv : (Jvm.Cond.and given_1 narrow_1).before args s = true) (hX : va_X b L xs s s.heap) (hbl : b < s.heap.size) : ∃ (ad : Nat → Nat) (cy : Nat → ClassId) (D : va_G), am_ST s.heap.size ad cy D (o, L, xs) s ∧ ad 60000 = b := by
  have hf := flat_of_before _ hgv
  have hf : ∀ w ∈ am_NF, w.before args s = true := hf
  have hA : ∀ a : Nat, a < s.heap.size → ¬ am_AA s.heap.size a := fun a ha => Nat.not_le.mpr ha
  have hw24 : am_wns.length = 24 := rfl
  have hini : (Cond.initialized RX10).before args s = true := hts _ (of_decide_eq_true st_ini)
  obtain ⟨en, hen, hev⟩ := va_Enof2 (args := args) (s := s) (E := RX10) (d := "LSequelShelf$Word;") (nm := am_wns) (F := []) (A := am_AA s.heap.size)
    (fun i hi => hts _ (of_decide_eq_true (st_range st_lay (by rw [hw24] at hi; exact hi)))) hini
    (fun i hi => hf _ (of_decide_eq_true (st_range st_ex (by rw [hw24] at hi; exact hi)))) (fun q hq => by cases hq)
    (fun i j hi hj hne => by
      rw [hw24] at hi hj
      rcases Nat.lt_or_gt_of_ne hne with q | q
      · rcases st_ne q hj with z | z
        · exact Or.inl (hf _ z)
        · exact Or.inr (hf _ z)
      · rcases st_ne q hi with z | z
        · exact Or.inr (hf _ z)
        · exact Or.inl (hf _ z)) hA
  have hlen : (Term.length (.static RX10 "ALL" "[LSequelShelf$Word;")).eval args s none [] s = some (.int (Int32.ofNat 24)) := va_eqt (hf _ (of_decide_eq_true st_len))
  obtain ⟨aA, haA, hT⟩ := va_Tof (args := args) (s := s) (tm := .static RX10 "ALL" "[LSequelShelf$Word;") (ty := .object RX10) (N := 24) (f := fun j => .ref (en j)) (A := am_AA s.heap.size) (by decide) (hf _ (of_decide_eq_true st_arr)) hlen
    (fun j hj => va_eqv (hf _ (of_decide_eq_true (st_range st_el hj))) (hev j hj)) hA
  have hZA : va_Z RX10 "ALL" "[LSequelShelf$Word;" (.ref aA) (am_AA s.heap.size) s s.heap := va_Zof (hts _ (of_decide_eq_true st_layA)) hini haA hA
  have hpk := va_Efof (args := args) (s := s) (N := 24) (E := RX10) (d0 := "LSequelShelf$Word;") (o := RX10) (n := "packed") (d := "J") (nm := am_wns) (v := fun i => .long (am_pk.getD i 0)) (tm := fun i => .long (am_pk.getD i 0)) (ad := en) (A := am_AA s.heap.size) (fun i hi => hev i hi) (fun i hi => hf _ (of_decide_eq_true (st_range st_pk hi))) (fun i hi => rfl) hA
  have hao : ∀ C ∈ [RX7, RX6, RX10], (Cond.arrayOver (.object C)).before args s = true := fun C hC => hts _ (of_decide_eq_true (List.all_eq_true.mp st_ao C hC))
  have hac : ∀ C ∈ [FieldType.int, .long, .boolean], (Cond.arrayClass C).before args s = true := fun C hC => hts _ (of_decide_eq_true (List.all_eq_true.mp st_ac C hC))
  obtain ⟨c0, k0, m0, e01, e02, e03⟩ := Cond.arrayClass_spec (hac .int (by simp))
  obtain ⟨c1, k1, m1, e11, e12, e13⟩ := Cond.arrayClass_spec (hac .long (by simp))
  obtain ⟨c2, k2, m2, e21, e22, e23⟩ := Cond.arrayClass_spec (hac .boolean (by simp))
  obtain ⟨m3, c3, k3, e31, -, e32, e33, e34⟩ := Cond.arrayOver_spec (hao RX7 (by simp))
  obtain ⟨m4, c4, k4, e41, -, e42, e43, e44⟩ := Cond.arrayOver_spec (hao RX6 (by simp))
  obtain ⟨m5, c5, k5, e51, -, e52, e53, e54⟩ := Cond.arrayOver_spec (hao RX10 (by simp))
  have hkn : ∀ ci : Nat, ∃ q : ClassId × (Nat → Nat), ∀ C T N, am_cl[ci]? = some (C, T, N) → u_Kn s C T N q.1 q.2 := by
    intro ci
    cases hc : am_cl[ci]? with
    | none => exact ⟨(c0, fun k => k), fun C T N h => by cases h⟩
    | some q =>
      obtain ⟨C, T, N⟩ := q
      obtain ⟨hcl, hft, hw2, hw3⟩ := am_cls hc
      obtain ⟨cC, iS, hK⟩ := u_known (n := N) hts (fun w hw => hW0 w (hcl.1 w hw)) (hts _ (hW0 _ hw2))
      exact ⟨(cC, iS), fun C' T' N' h => by cases h; exact hK⟩
  obtain ⟨f, hf2⟩ := Classical.axiomOfChoice hkn
  have hwin : ∀ i, i < 24 → en i < s.heap.size := by
    intro i hi
    obtain ⟨cell, h1, -⟩ := (hen.1 i hi).2.1
    exact (Array.getElem?_eq_some_iff.mp h1).1
  obtain ⟨str, hSS⟩ := am_texts (args := args) b en hts hf
  have ha0 : ∀ i, i < 24 → am_ad s.heap.size b en str (100000 + i) = en i := by
    intro i hi
    unfold am_ad
    rw [if_neg (by omega), if_neg (by omega), if_pos (by omega), Nat.add_sub_cancel_left]
  refine ⟨am_ad s.heap.size b en str, fun k => if k = 0 then c0 else if k = 1 then c1 else if k = 2 then c2 else if k = 3 then c3 else if k = 4 then c4 else c5, (fun k => (f k).1, fun k => (f k).2), ⟨⟨fun ci q hq => hf2 ci q.1 q.2.1 q.2.2 hq, ?_⟩, ?_, ?_, ⟨?_, ?_⟩, ?_, Nat.le_refl _, ?_, ?_, ⟨aA, hZA, ?_⟩, ?_, ?_, ?_⟩, ?_⟩
  · intro k q hq
    have hk6 : k < 6 := (List.getElem?_eq_some_iff.mp hq).1
    rcases (show k = 0 ∨ k = 1 ∨ k = 2 ∨ k = 3 ∨ k = 4 ∨ k = 5 by omega) with rfl | rfl | rfl | rfl | rfl | rfl
    · cases hq; exact ⟨fun n z => ⟨fun k h => (by cases h), k0, e02, m0, e03⟩, e01⟩
    · cases hq; exact ⟨fun n z => ⟨fun k h => (by cases h), k1, e12, m1, e13⟩, e11⟩
    · cases hq; exact ⟨fun n z => ⟨fun k h => (by cases h), k2, e22, m2, e23⟩, e21⟩
    · cases hq; exact ⟨fun n z => ⟨fun k h => (by cases h), k3, e32, m3, e33⟩, k3, m3, e32, e33, e31, e34⟩
    · cases hq; exact ⟨fun n z => ⟨fun k h => (by cases h), k4, e42, m4, e43⟩, k4, m4, e42, e43, e41, e44⟩
    · cases hq; exact ⟨fun n z => ⟨fun k h => (by cases h), k5, e52, m5, e53⟩, k5, m5, e52, e53, e51, e54⟩
  · intro w hw
    have h1 := hts w (of_decide_eq_true (List.all_eq_true.mp st_nw w hw))
    obtain ⟨a, i, x, q, rfl⟩ := am_nw_form w hw
    exact va_Nw.of rfl h1
  · intro i hi
    rw [ha0 i hi]
    exact (hen.1 i hi).1
  · exact hX
  · exact hbl
  · intro C hC
    exact va_AO.of (hao C hC)
  · intro a ha
    unfold am_ad
    rw [if_pos ha]
  · intro a c hac
    rw [am_ad_en, am_ad_en] at hac
    by_cases h1 : a < 24
    · by_cases h2 : c < 24
      · rw [if_pos h1, if_pos h2] at hac
        exact hen.2 a c h1 h2 hac
      · rw [if_pos h1, if_neg h2] at hac
        have := hwin a h1
        omega
    · by_cases h2 : c < 24
      · rw [if_neg h1, if_pos h2] at hac
        have := hwin c h2
        omega
      · rw [if_neg h1, if_neg h2] at hac
        omega
  · obtain ⟨cell, h1, h2, h3, h4, h5, h6, h7⟩ := hT
    refine ⟨cell, h1, h2, h3, h4, h5, fun j hj => ?_, h7⟩
    show cell.slots[j]? = some (Value.ref (am_ad s.heap.size b en str (100000 + j)))
    rw [ha0 j hj]
    exact h6 j hj
  · intro i hi
    rw [ha0 i hi]
    exact hpk i hi
  · intro i hi
    rw [ha0 i hi]
    exact (hen.1 i hi).2.1
  · obtain ⟨a, cC, cell, kC, -, q2, -, q4, -⟩ := Cond.exactly_spec (hf _ (of_decide_eq_true (st_range st_ex (i := 0) (by decide))))
    exact ⟨cC, kC, q2, q4, hSS⟩
  · rfl
