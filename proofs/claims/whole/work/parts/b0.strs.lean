/-! the texts: String.length and String.charAt over the four that are written; ldc of them; which word a number is: what the machine's own rows ask -/
def sq_P (S0 : Nat) (ad : Nat → Nat) (cy : Nat → ClassId) (D : va_G) (env : am_E) (vs : List Value) (h : am_H) : Array Value → State → Prop := va_Pc vs (fun U => am_ST S0 ad cy D env U ∧ va_P D am_cl (am_ws S0 ad cy h) U.heap)
theorem sq_blind {S0 : Nat} {ad : Nat → Nat} {cy : Nat → ClassId} {D : va_G} {env : am_E} {vs : List Value} {h : am_H} : FrameBlind (sq_P S0 ad cy D env vs h) := by
  intro a U g mk q
  obtain ⟨q1, q2, q3⟩ := q
  exact ⟨q1, am_ST_calling q2 g mk a, q3⟩
def sq_rm (n : Nat) : Room := { frames := n, cells := 0, slots := 0, locals := 64 * n }
theorem sq_ss {S0 : Nat} {ad : Nat → Nat} {cy : Nat → ClassId} {D : va_G} {env : am_E} {s : State} (h : am_ST S0 ad cy D env s) : am_SSt S0 ad s := by
  obtain ⟨-, -, -, -, -, -, -, -, -, -, -, cC, kC, -, -, hss⟩ := h
  exact hss
theorem sq_moved {S0 : Nat} {ad : Nat → Nat} {cy : Nat → ClassId} {D : va_G} {env : am_E} {s U : State} {H : Heap} {locs : List Loc} (hST : am_ST S0 ad cy D env s) (hS : va_S (am_AA S0) s.heap H locs) (hU : U.heap = H) (hW : s.WarmedH U.vm) : am_ST S0 ad cy D env U := am_ST_moved hST hW (Nat.le_trans hS.1 (Nat.le_of_eq (by rw [hU]))) (fun q q1 q2 => by rw [hU]; exact hS.2.1 q q1 q2)
theorem sq_recv {S0 : Nat} {ad : Nat → Nat} {s : State} {H : Heap} {locs : List Loc} (hE : am_SSt S0 ad s) {i : Nat} (hi : i < 4) (hS : va_S (am_AA S0) s.heap H locs) : ∃ cell : Cell, H[ad (50000 + i)]? = some cell ∧ cell.vm.isStatics = false ∧ s.vm.findClass "java/lang/String" = some cell.cls := vk_recv (adK := fun i => ad (50000 + i)) hE.1 hi hS
theorem sq_goodV {own : String} {idx : Nat} {C : String} {y : MethodName} {b : ByteArray} {n : Nat} {r : Option FieldType} (h1 : Cond.methodLink own idx y ∈ wsL_law0) (h2 : Cond.instanceMethod y ∈ wsL_law0) (h3 : Cond.selects C y y ∈ wsL_law0) (h4 : Cond.initialized C ∈ wsL_law0) (h5 : Cond.code y b n r ∈ wsL_law0) : GoodIn wsL_law0 (wsV own idx C y (.code y b n r :: wsL_law0)) := am_goodIn (fun w hw => by
  rcases List.mem_append.mp hw with hw | hw
  · rcases List.mem_cons.mp hw with rfl | hw
    · exact h1
    rcases List.mem_cons.mp hw with rfl | hw
    · exact h2
    rcases List.mem_cons.mp hw with rfl | hw
    · exact h3
    rcases List.mem_cons.mp hw with rfl | hw
    · exact h4
    · cases hw
  · rcases List.mem_cons.mp hw with rfl | hw
    · exact h5
    · exact hw)
theorem sq_goodS {y : MethodName} {b : ByteArray} {n : Nat} {r : Option FieldType} (h5 : Cond.code y b n r ∈ wsL_law0) : GoodIn wsL_law0 (.code y b n r :: wsL_law0) := am_goodIn (fun w hw => by
  rcases List.mem_cons.mp hw with rfl | hw
  · exact h5
  · exact hw)
theorem aj_1156 : Cond.methodLink RX11 395 yJ0_length_8abf5 ∈ wsL_law0 := am_wd_mem (i := 1156) (by decide +kernel)
theorem aj_1157 : Cond.instanceMethod yJ0_length_8abf5 ∈ wsL_law0 := am_wd_mem (i := 1157) (by decide +kernel)
theorem aj_1158 : Cond.selects RJ0 yJ0_length_8abf5 yJ0_length_8abf5 ∈ wsL_law0 := am_wd_mem (i := 1158) (by decide +kernel)
theorem aj_1159 : Cond.initialized RJ0 ∈ wsL_law0 := am_wd_mem (i := 1159) (by decide +kernel)
theorem aj_1160 : Cond.code yJ0_length_8abf5 cJ0_length_8abf5 1 (some .int) ∈ wsL_law0 := am_wd_mem (i := 1160) (by decide +kernel)
theorem aj_1161 : Cond.fieldLink RJ0 9 "java/lang/String" "value" "[B" ∈ wsL_law0 := am_wd_mem (i := 1161) (by decide +kernel)
theorem aj_1162 : Cond.methodLink RJ0 335 yJ0_coder_7d493 ∈ wsL_law0 := am_wd_mem (i := 1162) (by decide +kernel)
theorem aj_1163 : Cond.instanceMethod yJ0_coder_7d493 ∈ wsL_law0 := am_wd_mem (i := 1163) (by decide +kernel)
theorem aj_1164 : Cond.selects RJ0 yJ0_coder_7d493 yJ0_coder_7d493 ∈ wsL_law0 := am_wd_mem (i := 1164) (by decide +kernel)
theorem aj_1165 : Cond.code yJ0_coder_7d493 cJ0_coder_7d493 1 (some .byte) ∈ wsL_law0 := am_wd_mem (i := 1165) (by decide +kernel)
theorem aj_1166 : Cond.fieldLink RJ0 38 "java/lang/String" "COMPACT_STRINGS" "Z" ∈ wsL_law0 := am_wd_mem (i := 1166) (by decide +kernel)
theorem aj_1167 : Cond.fieldLink RJ0 15 "java/lang/String" "coder" "B" ∈ wsL_law0 := am_wd_mem (i := 1167) (by decide +kernel)
theorem aj_1168 : Cond.methodLink RX11 400 yJ0_charAt_5068e ∈ wsL_law0 := am_wd_mem (i := 1168) (by decide +kernel)
theorem aj_1169 : Cond.instanceMethod yJ0_charAt_5068e ∈ wsL_law0 := am_wd_mem (i := 1169) (by decide +kernel)
theorem aj_1170 : Cond.selects RJ0 yJ0_charAt_5068e yJ0_charAt_5068e ∈ wsL_law0 := am_wd_mem (i := 1170) (by decide +kernel)
theorem aj_1171 : Cond.code yJ0_charAt_5068e cJ0_charAt_5068e 2 (some .char) ∈ wsL_law0 := am_wd_mem (i := 1171) (by decide +kernel)
theorem aj_1172 : Cond.methodLink RJ0 492 yJ0_isLatin1_aae02 ∈ wsL_law0 := am_wd_mem (i := 1172) (by decide +kernel)
theorem aj_1173 : Cond.instanceMethod yJ0_isLatin1_aae02 ∈ wsL_law0 := am_wd_mem (i := 1173) (by decide +kernel)
theorem aj_1174 : Cond.selects RJ0 yJ0_isLatin1_aae02 yJ0_isLatin1_aae02 ∈ wsL_law0 := am_wd_mem (i := 1174) (by decide +kernel)
theorem aj_1175 : Cond.code yJ0_isLatin1_aae02 cJ0_isLatin1_aae02 1 (some .boolean) ∈ wsL_law0 := am_wd_mem (i := 1175) (by decide +kernel)
theorem aj_1176 : Cond.methodLink RJ0 495 yJ1_charAt_3b067 ∈ wsL_law0 := am_wd_mem (i := 1176) (by decide +kernel)
theorem aj_1177 : Cond.static yJ1_charAt_3b067 ∈ wsL_law0 := am_wd_mem (i := 1177) (by decide +kernel)
theorem aj_1178 : Cond.initialized RJ1 ∈ wsL_law0 := am_wd_mem (i := 1178) (by decide +kernel)
theorem aj_1179 : Cond.code yJ1_charAt_3b067 cJ1_charAt_3b067 2 (some .char) ∈ wsL_law0 := am_wd_mem (i := 1179) (by decide +kernel)
theorem aj_1180 : Cond.methodLink RJ1 9 yJ0_checkIndex_df160 ∈ wsL_law0 := am_wd_mem (i := 1180) (by decide +kernel)
theorem aj_1181 : Cond.static yJ0_checkIndex_df160 ∈ wsL_law0 := am_wd_mem (i := 1181) (by decide +kernel)
theorem aj_1182 : Cond.code yJ0_checkIndex_df160 cJ0_checkIndex_df160 2 none ∈ wsL_law0 := am_wd_mem (i := 1182) (by decide +kernel)
theorem aj_1183 : Cond.fieldLink RJ0 1053 "jdk/internal/util/Preconditions" "SIOOBE_FORMATTER" "Ljava/util/function/BiFunction;" ∈ wsL_law0 := am_wd_mem (i := 1183) (by decide +kernel)
theorem aj_1184 : Cond.methodLink RJ0 1059 yJ3_checkIndex_8e157 ∈ wsL_law0 := am_wd_mem (i := 1184) (by decide +kernel)
theorem aj_1185 : Cond.static yJ3_checkIndex_8e157 ∈ wsL_law0 := am_wd_mem (i := 1185) (by decide +kernel)
theorem aj_1186 : Cond.initialized RJ3 ∈ wsL_law0 := am_wd_mem (i := 1186) (by decide +kernel)
theorem aj_1187 : Cond.code yJ3_checkIndex_8e157 cJ3_checkIndex_8e157 3 (some .int) ∈ wsL_law0 := am_wd_mem (i := 1187) (by decide +kernel)
theorem dj_coder_0 : decode cJ0_coder_7d493 0 = .ok (.getstatic 38, 3) := by decide +kernel
theorem dj_coder_3 : decode cJ0_coder_7d493 3 = .ok (.ifCond .eq 10, 3) := by decide +kernel
theorem dj_coder_6 : decode cJ0_coder_7d493 6 = .ok (.aload_n 0, 1) := by decide +kernel
theorem dj_coder_7 : decode cJ0_coder_7d493 7 = .ok (.getfield 15, 3) := by decide +kernel
theorem dj_coder_10 : decode cJ0_coder_7d493 10 = .ok (.goto 4, 3) := by decide +kernel
theorem dj_coder_14 : decode cJ0_coder_7d493 14 = .ok (.ireturn, 1) := by decide +kernel
theorem dj_isl_0 : decode cJ0_isLatin1_aae02 0 = .ok (.getstatic 38, 3) := by decide +kernel
theorem dj_isl_3 : decode cJ0_isLatin1_aae02 3 = .ok (.ifCond .eq 14, 3) := by decide +kernel
theorem dj_isl_6 : decode cJ0_isLatin1_aae02 6 = .ok (.aload_n 0, 1) := by decide +kernel
theorem dj_isl_7 : decode cJ0_isLatin1_aae02 7 = .ok (.getfield 15, 3) := by decide +kernel
theorem dj_isl_10 : decode cJ0_isLatin1_aae02 10 = .ok (.ifCond .ne 7, 3) := by decide +kernel
theorem dj_isl_13 : decode cJ0_isLatin1_aae02 13 = .ok (.iconst 1, 1) := by decide +kernel
theorem dj_isl_14 : decode cJ0_isLatin1_aae02 14 = .ok (.goto 4, 3) := by decide +kernel
theorem dj_isl_18 : decode cJ0_isLatin1_aae02 18 = .ok (.ireturn, 1) := by decide +kernel
theorem dj_len_0 : decode cJ0_length_8abf5 0 = .ok (.aload_n 0, 1) := by decide +kernel
theorem dj_len_1 : decode cJ0_length_8abf5 1 = .ok (.getfield 9, 3) := by decide +kernel
theorem dj_len_4 : decode cJ0_length_8abf5 4 = .ok (.arraylength, 1) := by decide +kernel
theorem dj_len_5 : decode cJ0_length_8abf5 5 = .ok (.aload_n 0, 1) := by decide +kernel
theorem dj_len_6 : decode cJ0_length_8abf5 6 = .ok (.invokevirtual 335, 3) := by decide +kernel
theorem dj_len_9 : decode cJ0_length_8abf5 9 = .ok (.ishr, 1) := by decide +kernel
theorem dj_len_10 : decode cJ0_length_8abf5 10 = .ok (.ireturn, 1) := by decide +kernel
theorem dj_cha_0 : decode cJ0_charAt_5068e 0 = .ok (.aload_n 0, 1) := by decide +kernel
theorem dj_cha_1 : decode cJ0_charAt_5068e 1 = .ok (.invokevirtual 492, 3) := by decide +kernel
theorem dj_cha_4 : decode cJ0_charAt_5068e 4 = .ok (.ifCond .eq 12, 3) := by decide +kernel
theorem dj_cha_7 : decode cJ0_charAt_5068e 7 = .ok (.aload_n 0, 1) := by decide +kernel
theorem dj_cha_8 : decode cJ0_charAt_5068e 8 = .ok (.getfield 9, 3) := by decide +kernel
theorem dj_cha_11 : decode cJ0_charAt_5068e 11 = .ok (.iload_n 1, 1) := by decide +kernel
theorem dj_cha_12 : decode cJ0_charAt_5068e 12 = .ok (.invokestatic 495, 3) := by decide +kernel
theorem dj_cha_15 : decode cJ0_charAt_5068e 15 = .ok (.ireturn, 1) := by decide +kernel
theorem dj_lch_0 : decode cJ1_charAt_3b067 0 = .ok (.iload_n 1, 1) := by decide +kernel
theorem dj_lch_1 : decode cJ1_charAt_3b067 1 = .ok (.aload_n 0, 1) := by decide +kernel
theorem dj_lch_2 : decode cJ1_charAt_3b067 2 = .ok (.arraylength, 1) := by decide +kernel
theorem dj_lch_3 : decode cJ1_charAt_3b067 3 = .ok (.invokestatic 9, 3) := by decide +kernel
theorem dj_lch_6 : decode cJ1_charAt_3b067 6 = .ok (.aload_n 0, 1) := by decide +kernel
theorem dj_lch_7 : decode cJ1_charAt_3b067 7 = .ok (.iload_n 1, 1) := by decide +kernel
theorem dj_lch_8 : decode cJ1_charAt_3b067 8 = .ok (.baload, 1) := by decide +kernel
theorem dj_lch_9 : decode cJ1_charAt_3b067 9 = .ok (.sipush 255, 3) := by decide +kernel
theorem dj_lch_12 : decode cJ1_charAt_3b067 12 = .ok (.iand, 1) := by decide +kernel
theorem dj_lch_13 : decode cJ1_charAt_3b067 13 = .ok (.i2c, 1) := by decide +kernel
theorem dj_lch_14 : decode cJ1_charAt_3b067 14 = .ok (.ireturn, 1) := by decide +kernel
theorem dj_chk_0 : decode cJ0_checkIndex_df160 0 = .ok (.iload_n 0, 1) := by decide +kernel
theorem dj_chk_1 : decode cJ0_checkIndex_df160 1 = .ok (.iload_n 1, 1) := by decide +kernel
theorem dj_chk_2 : decode cJ0_checkIndex_df160 2 = .ok (.getstatic 1053, 3) := by decide +kernel
theorem dj_chk_5 : decode cJ0_checkIndex_df160 5 = .ok (.invokestatic 1059, 3) := by decide +kernel
theorem dj_chk_8 : decode cJ0_checkIndex_df160 8 = .ok (.pop, 1) := by decide +kernel
theorem dj_chk_9 : decode cJ0_checkIndex_df160 9 = .ok (.return_, 1) := by decide +kernel
theorem dj_pre_0 : decode cJ3_checkIndex_8e157 0 = .ok (.iload_n 0, 1) := by decide +kernel
theorem dj_pre_1 : decode cJ3_checkIndex_8e157 1 = .ok (.ifCond .lt 8, 3) := by decide +kernel
theorem dj_pre_4 : decode cJ3_checkIndex_8e157 4 = .ok (.iload_n 0, 1) := by decide +kernel
theorem dj_pre_5 : decode cJ3_checkIndex_8e157 5 = .ok (.iload_n 1, 1) := by decide +kernel
theorem dj_pre_6 : decode cJ3_checkIndex_8e157 6 = .ok (.if_icmp .lt 10, 3) := by decide +kernel
theorem dj_pre_16 : decode cJ3_checkIndex_8e157 16 = .ok (.iload_n 0, 1) := by decide +kernel
theorem dj_pre_17 : decode cJ3_checkIndex_8e157 17 = .ok (.ireturn, 1) := by decide +kernel
set_option maxHeartbeats 4000000 in
theorem sq_coder (l : Launch) (S0 : Nat) (ad : Nat → Nat) (cy : Nat → ClassId) (D : va_G) (env : am_E) (h : am_H) {i : Nat} (hi : i < 4) : Met l yJ0_coder_7d493 (.code yJ0_coder_7d493 cJ0_coder_7d493 1 (some .byte) :: wsL_law0) (sq_rm 0) (sq_P S0 ad cy D env [.ref (ad (50000 + i))] h) (am_Qcc S0 ad cy D (some (.int 0)) h) 0 0 (am_AA S0) := by
  refine Met.ofW (cc := cJ0_coder_7d493) (maxL := 1) (ret := (some .byte)) (by decide) rfl ?_
  intro p e s m args below meth c s₁ B hml hv
  obtain ⟨rfl, hST, hP⟩ := hv
  have hx := B.exec
  have hb := B.bytes
  have hr := B.returns
  have hts0 := atoms_spec (ws := .code yJ0_coder_7d493 cJ0_coder_7d493 1 (some .byte) :: wsL_law0) B.pre
  have hts : ∀ w ∈ wsL_law0, w.before _ s = true := fun w hw => hts0 w (List.mem_cons_of_mem _ hw)
  have hown : s.vm.findClass RJ0 = some m.cls := findClass_of_methodNamed B.named
  have hlocks := B.notSynchronized
  have hss0 := sq_ss hST
  obtain ⟨hstr, hvr, hcs, hpz, -, -⟩ := id hss0
  have hS : va_S (am_AA S0) s.heap s.heap [] := va_S.rf
  have hl := lv_entry ([.ref (ad (50000 + i))] : List Value) (n := 1) (Nat.le_of_ble_eq_true rfl)
  show W p l e _ s m _ below meth c s.heap [] 0 0 _ (entryFrame m ([.ref (ad (50000 + i))] : List Value).toArray 1)
  rw [lg_entry_eq]
  generalize (lg_sl ([.ref (ad (50000 + i))] : List Value) ++ List.replicate (1 - (lg_sl ([.ref (ad (50000 + i))] : List Value)).length) Slot.unset).toArray = ls at hl ⊢
  have hl : lv_has ls 1 [(0, .ref (ad (50000 + i)))] := hl
  refine va_gets hx hb hcs hS hown (hts _ aj_1166) (fun x z => z) dj_coder_0 ?_
  refine lv_if_eq (tgt := 13) hx hb dj_coder_3 (by decide) (fun q => absurd q (by decide)) (fun _ => ?_)
  refine lv_aload_n hx hb dj_coder_6 rfl (lv_at hl 0 rfl) ?_
  refine vk_getf hx hb (hstr.1 i hi).2.1 hS hown (hts _ aj_1167) (fun x z => z) dj_coder_7 ?_
  refine lv_goto (tgt := 14) hx hb dj_coder_10 (by decide) ?_
  exact W.zret (ty := .byte) hx hb hr rfl (fun t ht hW => ⟨rfl, by rw [ht]; exact hP, hS.F ht⟩) hS.2.2 dj_coder_14 hlocks
set_option maxHeartbeats 4000000 in
theorem sq_isl (l : Launch) (S0 : Nat) (ad : Nat → Nat) (cy : Nat → ClassId) (D : va_G) (env : am_E) (h : am_H) {i : Nat} (hi : i < 4) : Met l yJ0_isLatin1_aae02 (.code yJ0_isLatin1_aae02 cJ0_isLatin1_aae02 1 (some .boolean) :: wsL_law0) (sq_rm 0) (sq_P S0 ad cy D env [.ref (ad (50000 + i))] h) (am_Qcc S0 ad cy D (some (.int 1)) h) 0 0 (am_AA S0) := by
  refine Met.ofW (cc := cJ0_isLatin1_aae02) (maxL := 1) (ret := (some .boolean)) (by decide) rfl ?_
  intro p e s m args below meth c s₁ B hml hv
  obtain ⟨rfl, hST, hP⟩ := hv
  have hx := B.exec
  have hb := B.bytes
  have hr := B.returns
  have hts0 := atoms_spec (ws := .code yJ0_isLatin1_aae02 cJ0_isLatin1_aae02 1 (some .boolean) :: wsL_law0) B.pre
  have hts : ∀ w ∈ wsL_law0, w.before _ s = true := fun w hw => hts0 w (List.mem_cons_of_mem _ hw)
  have hown : s.vm.findClass RJ0 = some m.cls := findClass_of_methodNamed B.named
  have hlocks := B.notSynchronized
  have hss0 := sq_ss hST
  obtain ⟨hstr, hvr, hcs, hpz, -, -⟩ := id hss0
  have hS : va_S (am_AA S0) s.heap s.heap [] := va_S.rf
  have hl := lv_entry ([.ref (ad (50000 + i))] : List Value) (n := 1) (Nat.le_of_ble_eq_true rfl)
  show W p l e _ s m _ below meth c s.heap [] 0 0 _ (entryFrame m ([.ref (ad (50000 + i))] : List Value).toArray 1)
  rw [lg_entry_eq]
  generalize (lg_sl ([.ref (ad (50000 + i))] : List Value) ++ List.replicate (1 - (lg_sl ([.ref (ad (50000 + i))] : List Value)).length) Slot.unset).toArray = ls at hl ⊢
  have hl : lv_has ls 1 [(0, .ref (ad (50000 + i)))] := hl
  refine va_gets hx hb hcs hS hown (hts _ aj_1166) (fun x z => z) dj_isl_0 ?_
  refine lv_if_eq (tgt := 17) hx hb dj_isl_3 (by decide) (fun q => absurd q (by decide)) (fun _ => ?_)
  refine lv_aload_n hx hb dj_isl_6 rfl (lv_at hl 0 rfl) ?_
  refine vk_getf hx hb (hstr.1 i hi).2.1 hS hown (hts _ aj_1167) (fun x z => z) dj_isl_7 ?_
  refine lv_if_ne (tgt := 17) hx hb dj_isl_10 (by decide) (fun q => absurd rfl q) (fun _ => ?_)
  refine lv_iconst (v := 1) hx hb dj_isl_13 (by decide) ?_
  refine lv_goto (tgt := 18) hx hb dj_isl_14 (by decide) ?_
  exact W.zret (ty := .boolean) hx hb hr rfl (fun t ht hW => ⟨rfl, by rw [ht]; exact hP, hS.F ht⟩) hS.2.2 dj_isl_18 hlocks
set_option maxHeartbeats 4000000 in
theorem sq_length (l : Launch) (S0 : Nat) (ad : Nat → Nat) (cy : Nat → ClassId) (D : va_G) (env : am_E) (h : am_H) {i : Nat} (hi : i < 4) : Met l yJ0_length_8abf5 (.code yJ0_length_8abf5 cJ0_length_8abf5 1 (some .int) :: wsL_law0) (sq_rm 1) (sq_P S0 ad cy D env [.ref (ad (50000 + i))] h) (am_Qcc S0 ad cy D (some (.int (nI (am_sln.getD i 0)))) h) 0 0 (am_AA S0) := by
  refine Met.ofW (cc := cJ0_length_8abf5) (maxL := 1) (ret := (some .int)) (by decide) rfl ?_
  intro p e s m args below meth c s₁ B hml hv
  obtain ⟨rfl, hST, hP⟩ := hv
  have hx := B.exec
  have hb := B.bytes
  have hr := B.returns
  have hts0 := atoms_spec (ws := .code yJ0_length_8abf5 cJ0_length_8abf5 1 (some .int) :: wsL_law0) B.pre
  have hts : ∀ w ∈ wsL_law0, w.before _ s = true := fun w hw => hts0 w (List.mem_cons_of_mem _ hw)
  have hown : s.vm.findClass RJ0 = some m.cls := findClass_of_methodNamed B.named
  have hlocks := B.notSynchronized
  have hss0 := sq_ss hST
  obtain ⟨hstr, hvr, hcs, hpz, -, -⟩ := id hss0
  have hS : va_S (am_AA S0) s.heap s.heap [] := va_S.rf
  have hl := lv_entry ([.ref (ad (50000 + i))] : List Value) (n := 1) (Nat.le_of_ble_eq_true rfl)
  show W p l e _ s m _ below meth c s.heap [] 0 0 _ (entryFrame m ([.ref (ad (50000 + i))] : List Value).toArray 1)
  rw [lg_entry_eq]
  generalize (lg_sl ([.ref (ad (50000 + i))] : List Value) ++ List.replicate (1 - (lg_sl ([.ref (ad (50000 + i))] : List Value)).length) Slot.unset).toArray = ls at hl ⊢
  have hl : lv_has ls 1 [(0, .ref (ad (50000 + i)))] := hl
  have hlt : am_sln.getD i 0 < 2 ^ 31 := Nat.lt_of_le_of_lt (Nat.le_of_ble_eq_true (st_range am_sby_len hi)) (by decide)
  refine lv_aload_n hx hb dj_len_0 rfl (lv_at hl 0 rfl) ?_
  refine vk_getf hx hb (hstr.1 i hi).2.2.1 hS hown (hts _ aj_1161) (fun x z => z) dj_len_1 ?_
  refine va_tlen hx hb (hstr.1 i hi).2.2.2 hS (v := nI (am_sln.getD i 0)) rfl dj_len_4 ?_
  refine lv_aload_n hx hb dj_len_5 rfl (lv_at hl 0 rfl) ?_
  refine am_after (va_runV (C := RJ0) (As := ([] : List Value)) (rest := [.int (nI (am_sln.getD i 0))]) (b := ad (50000 + i)) (show CallFix p m c cJ0_length_8abf5 1 s _ wsL_law0 RJ0 from ⟨hx, hb, hml, hown, hts⟩) (sq_coder l S0 ad cy D env h hi) (cwV 0 hts (sq_goodV aj_1162 aj_1163 aj_1164 aj_1159 aj_1165) rfl rfl rfl ⟨rfl, by decide, by decide, by decide⟩ ⟨Nat.le_of_ble_eq_true rfl, Nat.le_of_ble_eq_true rfl⟩) ⟨sq_blind, sq_recv hss0 hi hS, (fun U hU hW => ⟨rfl, sq_moved hST hS hU hW, by rw [hU]; exact hP⟩)⟩ rfl rfl hl.1 rfl (lv_room (Nat.le_of_ble_eq_true rfl)) dj_len_6 ⟨Nat.le_of_ble_eq_true rfl, Nat.le_of_ble_eq_true rfl⟩) hS ?_
  intro H1 locs1 hP1 hS1
  show W p l e _ s m _ below meth c H1 locs1 0 0 _ (F0 m 9 ls [.int 0, .int (nI (am_sln.getD i 0))])
  refine lv_ishr hx hb dj_len_9 ?_
  rw [sc_shr0 hlt]
  exact W.iret hx hb hr (fun t ht hW => ⟨rfl, by rw [ht]; exact hP1, hS1.F ht⟩) hS1.2.2 dj_len_10 hlocks
set_option maxHeartbeats 4000000 in
theorem sq_pre0 (l : Launch) (S0 : Nat) (ad : Nat → Nat) (cy : Nat → ClassId) (D : va_G) (env : am_E) (h : am_H) (k n : Int32) (h0 : ¬ k < 0) (hk : k < n) : Met l yJ3_checkIndex_8e157 (.code yJ3_checkIndex_8e157 cJ3_checkIndex_8e157 3 (some .int) :: wsL_law0) (sq_rm 0) (sq_P S0 ad cy D env [.int k, .int n, .null] h) (am_Qcc S0 ad cy D (some (.int k)) h) 0 0 (am_AA S0) := by
  refine Met.ofW (cc := cJ3_checkIndex_8e157) (maxL := 3) (ret := (some .int)) (by decide) rfl ?_
  intro p e s m args below meth c s₁ B hml hv
  obtain ⟨rfl, hST, hP⟩ := hv
  have hx := B.exec
  have hb := B.bytes
  have hr := B.returns
  have hts0 := atoms_spec (ws := .code yJ3_checkIndex_8e157 cJ3_checkIndex_8e157 3 (some .int) :: wsL_law0) B.pre
  have hts : ∀ w ∈ wsL_law0, w.before _ s = true := fun w hw => hts0 w (List.mem_cons_of_mem _ hw)
  have hown : s.vm.findClass RJ3 = some m.cls := findClass_of_methodNamed B.named
  have hlocks := B.notSynchronized
  have hss0 := sq_ss hST
  obtain ⟨hstr, hvr, hcs, hpz, -, -⟩ := id hss0
  have hS : va_S (am_AA S0) s.heap s.heap [] := va_S.rf
  have hl := lv_entry ([.int k, .int n, .null] : List Value) (n := 3) (Nat.le_of_ble_eq_true rfl)
  show W p l e _ s m _ below meth c s.heap [] 0 0 _ (entryFrame m ([.int k, .int n, .null] : List Value).toArray 3)
  rw [lg_entry_eq]
  generalize (lg_sl ([.int k, .int n, .null] : List Value) ++ List.replicate (3 - (lg_sl ([.int k, .int n, .null] : List Value)).length) Slot.unset).toArray = ls at hl ⊢
  have hl : lv_has ls 3 [(0, .int k), (1, .int n), (2, .null)] := hl
  refine lv_iload_n hx hb dj_pre_0 rfl (lv_at hl 0 rfl) ?_
  refine lv_if_lt (tgt := 9) hx hb dj_pre_1 (by decide) (fun q => absurd q h0) (fun _ => ?_)
  refine lv_iload_n hx hb dj_pre_4 rfl (lv_at hl 0 rfl) ?_
  refine lv_iload_n hx hb dj_pre_5 rfl (lv_at hl 1 rfl) ?_
  refine lv_icmp_lt (tgt := 16) hx hb dj_pre_6 (by decide) (fun _ => ?_) (fun q => absurd hk q)
  refine lv_iload_n hx hb dj_pre_16 rfl (lv_at hl 0 rfl) ?_
  exact W.iret hx hb hr (fun t ht hW => ⟨rfl, by rw [ht]; exact hP, hS.F ht⟩) hS.2.2 dj_pre_17 hlocks
set_option maxHeartbeats 4000000 in
theorem sq_pre1 (l : Launch) (S0 : Nat) (ad : Nat → Nat) (cy : Nat → ClassId) (D : va_G) (env : am_E) (h : am_H) (k n : Int32) (w : Nat) (h0 : ¬ k < 0) (hk : k < n) : Met l yJ3_checkIndex_8e157 (.code yJ3_checkIndex_8e157 cJ3_checkIndex_8e157 3 (some .int) :: wsL_law0) (sq_rm 0) (sq_P S0 ad cy D env [.int k, .int n, .ref w] h) (am_Qcc S0 ad cy D (some (.int k)) h) 0 0 (am_AA S0) := by
  refine Met.ofW (cc := cJ3_checkIndex_8e157) (maxL := 3) (ret := (some .int)) (by decide) rfl ?_
  intro p e s m args below meth c s₁ B hml hv
  obtain ⟨rfl, hST, hP⟩ := hv
  have hx := B.exec
  have hb := B.bytes
  have hr := B.returns
  have hts0 := atoms_spec (ws := .code yJ3_checkIndex_8e157 cJ3_checkIndex_8e157 3 (some .int) :: wsL_law0) B.pre
  have hts : ∀ w ∈ wsL_law0, w.before _ s = true := fun w hw => hts0 w (List.mem_cons_of_mem _ hw)
  have hown : s.vm.findClass RJ3 = some m.cls := findClass_of_methodNamed B.named
  have hlocks := B.notSynchronized
  have hss0 := sq_ss hST
  obtain ⟨hstr, hvr, hcs, hpz, -, -⟩ := id hss0
  have hS : va_S (am_AA S0) s.heap s.heap [] := va_S.rf
  have hl := lv_entry ([.int k, .int n, .ref w] : List Value) (n := 3) (Nat.le_of_ble_eq_true rfl)
  show W p l e _ s m _ below meth c s.heap [] 0 0 _ (entryFrame m ([.int k, .int n, .ref w] : List Value).toArray 3)
  rw [lg_entry_eq]
  generalize (lg_sl ([.int k, .int n, .ref w] : List Value) ++ List.replicate (3 - (lg_sl ([.int k, .int n, .ref w] : List Value)).length) Slot.unset).toArray = ls at hl ⊢
  have hl : lv_has ls 3 [(0, .int k), (1, .int n), (2, .ref w)] := hl
  refine lv_iload_n hx hb dj_pre_0 rfl (lv_at hl 0 rfl) ?_
  refine lv_if_lt (tgt := 9) hx hb dj_pre_1 (by decide) (fun q => absurd q h0) (fun _ => ?_)
  refine lv_iload_n hx hb dj_pre_4 rfl (lv_at hl 0 rfl) ?_
  refine lv_iload_n hx hb dj_pre_5 rfl (lv_at hl 1 rfl) ?_
  refine lv_icmp_lt (tgt := 16) hx hb dj_pre_6 (by decide) (fun _ => ?_) (fun q => absurd hk q)
  refine lv_iload_n hx hb dj_pre_16 rfl (lv_at hl 0 rfl) ?_
  exact W.iret hx hb hr (fun t ht hW => ⟨rfl, by rw [ht]; exact hP, hS.F ht⟩) hS.2.2 dj_pre_17 hlocks
set_option maxHeartbeats 4000000 in
theorem sq_chk (l : Launch) (S0 : Nat) (ad : Nat → Nat) (cy : Nat → ClassId) (D : va_G) (env : am_E) (h : am_H) (k n : Int32) (h0 : ¬ k < 0) (hk : k < n) : Met l yJ0_checkIndex_df160 (.code yJ0_checkIndex_df160 cJ0_checkIndex_df160 2 none :: wsL_law0) (sq_rm 1) (sq_P S0 ad cy D env [.int k, .int n] h) (am_Qcc S0 ad cy D none h) 0 0 (am_AA S0) := by
  refine Met.ofW (cc := cJ0_checkIndex_df160) (maxL := 2) (ret := none) (by decide) rfl ?_
  intro p e s m args below meth c s₁ B hml hv
  obtain ⟨rfl, hST, hP⟩ := hv
  have hx := B.exec
  have hb := B.bytes
  have hr := B.returns
  have hts0 := atoms_spec (ws := .code yJ0_checkIndex_df160 cJ0_checkIndex_df160 2 none :: wsL_law0) B.pre
  have hts : ∀ w ∈ wsL_law0, w.before _ s = true := fun w hw => hts0 w (List.mem_cons_of_mem _ hw)
  have hown : s.vm.findClass RJ0 = some m.cls := findClass_of_methodNamed B.named
  have hlocks := B.notSynchronized
  have hss0 := sq_ss hST
  obtain ⟨hstr, hvr, hcs, hpz, -, -⟩ := id hss0
  have hS : va_S (am_AA S0) s.heap s.heap [] := va_S.rf
  have hl := lv_entry ([.int k, .int n] : List Value) (n := 2) (Nat.le_of_ble_eq_true rfl)
  show W p l e _ s m _ below meth c s.heap [] 0 0 _ (entryFrame m ([.int k, .int n] : List Value).toArray 2)
  rw [lg_entry_eq]
  generalize (lg_sl ([.int k, .int n] : List Value) ++ List.replicate (2 - (lg_sl ([.int k, .int n] : List Value)).length) Slot.unset).toArray = ls at hl ⊢
  have hl : lv_has ls 2 [(0, .int k), (1, .int n)] := hl
  have key : ∀ w : Value, Met l yJ3_checkIndex_8e157 (.code yJ3_checkIndex_8e157 cJ3_checkIndex_8e157 3 (some .int) :: wsL_law0) (sq_rm 0) (sq_P S0 ad cy D env [.int k, .int n, w] h) (am_Qcc S0 ad cy D (some (.int k)) h) 0 0 (am_AA S0) → va_Z "jdk/internal/util/Preconditions" "SIOOBE_FORMATTER" "Ljava/util/function/BiFunction;" w (am_AA S0) s s.heap → W p l e (headSpec (.code yJ0_checkIndex_df160 cJ0_checkIndex_df160 2 none :: wsL_law0) (sq_rm 1)).room s m ([.int k, .int n] : List Value).toArray below meth c s.heap [] 0 0 (MQ below (am_Qcc S0 ad cy D none h) ([.int k, .int n] : List Value).toArray s 0 0 (am_AA S0)) (F0 m 0 ls []) := by
    intro w hw hz
    refine lv_iload_n hx hb dj_chk_0 rfl (lv_at hl 0 rfl) ?_
    refine lv_iload_n hx hb dj_chk_1 rfl (lv_at hl 1 rfl) ?_
    refine va_gets hx hb hz hS hown (hts _ aj_1183) (fun x z => z) dj_chk_2 ?_
    refine am_after (va_runS (As := [.int k, .int n, w]) (rest := ([] : List Value)) (show CallFix p m c cJ0_checkIndex_df160 2 s _ wsL_law0 RJ0 from ⟨hx, hb, hml, hown, hts⟩) hw ⟨callB_of 3 hts (sq_goodS aj_1187) rfl rfl rfl (hts _ aj_1186) (hts _ aj_1184) ⟨by decide, by decide, by decide⟩ ⟨Nat.le_of_ble_eq_true rfl, Nat.le_of_ble_eq_true rfl⟩, hts _ aj_1185⟩ ⟨sq_blind, (fun U hU hW => ⟨rfl, sq_moved hST hS hU hW, by rw [hU]; exact hP⟩)⟩ rfl rfl hl.1 rfl (lv_room (Nat.le_of_ble_eq_true rfl)) dj_chk_5 ⟨Nat.le_of_ble_eq_true rfl, Nat.le_of_ble_eq_true rfl⟩) hS ?_
    intro H1 locs1 hP1 hS1
    show W p l e _ s m _ below meth c H1 locs1 0 0 _ (F0 m 8 ls [.int k])
    refine lv_pop hx hb dj_chk_8 rfl ?_
    exact W.vret hx hb hr (fun t ht hW => ⟨rfl, by rw [ht]; exact hP1, hS1.F ht⟩) hS1.2.2 dj_chk_9 hlocks
  rcases hpz with hz | ⟨t, hz⟩
  · exact key _ (sq_pre0 l S0 ad cy D env h k n h0 hk) hz
  · exact key _ (sq_pre1 l S0 ad cy D env h k n t h0 hk) hz
set_option maxHeartbeats 4000000 in
theorem sq_lch (l : Launch) (S0 : Nat) (ad : Nat → Nat) (cy : Nat → ClassId) (D : va_G) (env : am_E) (h : am_H) {i k : Nat} (hi : i < 4) (hk : k < am_sln.getD i 0) : Met l yJ1_charAt_3b067 (.code yJ1_charAt_3b067 cJ1_charAt_3b067 2 (some .char) :: wsL_law0) (sq_rm 2) (sq_P S0 ad cy D env [.ref (ad (51000 + i)), .int (nI k)] h) (am_Qcc S0 ad cy D (some (.int ((am_sby.getD i []).getD k 0 &&& 255))) h) 0 0 (am_AA S0) := by
  refine Met.ofW (cc := cJ1_charAt_3b067) (maxL := 2) (ret := (some .char)) (by decide) rfl ?_
  intro p e s m args below meth c s₁ B hml hv
  obtain ⟨rfl, hST, hP⟩ := hv
  have hx := B.exec
  have hb := B.bytes
  have hr := B.returns
  have hts0 := atoms_spec (ws := .code yJ1_charAt_3b067 cJ1_charAt_3b067 2 (some .char) :: wsL_law0) B.pre
  have hts : ∀ w ∈ wsL_law0, w.before _ s = true := fun w hw => hts0 w (List.mem_cons_of_mem _ hw)
  have hown : s.vm.findClass RJ1 = some m.cls := findClass_of_methodNamed B.named
  have hlocks := B.notSynchronized
  have hss0 := sq_ss hST
  obtain ⟨hstr, hvr, hcs, hpz, -, -⟩ := id hss0
  have hS : va_S (am_AA S0) s.heap s.heap [] := va_S.rf
  have hl := lv_entry ([.ref (ad (51000 + i)), .int (nI k)] : List Value) (n := 2) (Nat.le_of_ble_eq_true rfl)
  show W p l e _ s m _ below meth c s.heap [] 0 0 _ (entryFrame m ([.ref (ad (51000 + i)), .int (nI k)] : List Value).toArray 2)
  rw [lg_entry_eq]
  generalize (lg_sl ([.ref (ad (51000 + i)), .int (nI k)] : List Value) ++ List.replicate (2 - (lg_sl ([.ref (ad (51000 + i)), .int (nI k)] : List Value)).length) Slot.unset).toArray = ls at hl ⊢
  have hl : lv_has ls 2 [(0, .ref (ad (51000 + i))), (1, .int (nI k))] := hl
  have hT := (hstr.1 i hi).2.2.2
  have hlt : am_sln.getD i 0 < 2 ^ 31 := Nat.lt_of_le_of_lt (Nat.le_of_ble_eq_true (st_range am_sby_len hi)) (by decide)
  refine lv_iload_n hx hb dj_lch_0 rfl (lv_at hl 1 rfl) ?_
  refine lv_aload_n hx hb dj_lch_1 rfl (lv_at hl 0 rfl) ?_
  refine va_tlen hx hb hT hS (v := nI (am_sln.getD i 0)) rfl dj_lch_2 ?_
  refine am_after (va_runS (As := [.int (nI k), .int (nI (am_sln.getD i 0))]) (rest := ([] : List Value)) (show CallFix p m c cJ1_charAt_3b067 2 s _ wsL_law0 RJ1 from ⟨hx, hb, hml, hown, hts⟩) (sq_chk l S0 ad cy D env h (nI k) (nI (am_sln.getD i 0)) (nI_pos (by omega)) (nI_lt hk (by omega))) ⟨callB_of 2 hts (sq_goodS aj_1182) rfl rfl rfl (hts _ aj_1159) (hts _ aj_1180) ⟨by decide, by decide, by decide⟩ ⟨Nat.le_of_ble_eq_true rfl, Nat.le_of_ble_eq_true rfl⟩, hts _ aj_1181⟩ ⟨sq_blind, (fun U hU hW => ⟨rfl, sq_moved hST hS hU hW, by rw [hU]; exact hP⟩)⟩ rfl rfl hl.1 rfl (lv_room (Nat.le_of_ble_eq_true rfl)) dj_lch_3 ⟨Nat.le_of_ble_eq_true rfl, Nat.le_of_ble_eq_true rfl⟩) hS ?_
  intro H1 locs1 hP1 hS1
  show W p l e _ s m _ below meth c H1 locs1 0 0 _ (F0 m 6 ls [])
  refine lv_aload_n hx hb dj_lch_6 rfl (lv_at hl 0 rfl) ?_
  refine lv_iload_n hx hb dj_lch_7 rfl (lv_at hl 1 rfl) ?_
  refine va_tb hx hb hT hS1 (vp_in_nI hk (by omega)) (v := .int ((am_sby.getD i []).getD k 0)) (by rw [nI_clamp (by omega)]) dj_lch_8 ?_
  refine lv_sipush (v := 255) hx hb dj_lch_9 (by decide) ?_
  refine lv_iand hx hb dj_lch_12 ?_
  refine lv_i2c hx hb dj_lch_13 (sc_c2 _) ?_
  exact W.zret (ty := .char) hx hb hr (sc_nar _) (fun t ht hW => ⟨rfl, by rw [ht]; exact hP1, hS1.F ht⟩) hS1.2.2 dj_lch_14 hlocks
/-! charAt -/
set_option maxHeartbeats 4000000 in
theorem sq_charAt (l : Launch) (S0 : Nat) (ad : Nat → Nat) (cy : Nat → ClassId) (D : va_G) (env : am_E) (h : am_H) {i k : Nat} (hi : i < 4) (hk : k < am_sln.getD i 0) : Met l yJ0_charAt_5068e (.code yJ0_charAt_5068e cJ0_charAt_5068e 2 (some .char) :: wsL_law0) (sq_rm 3) (sq_P S0 ad cy D env [.ref (ad (50000 + i)), .int (nI k)] h) (am_Qcc S0 ad cy D (some (.int ((am_sby.getD i []).getD k 0 &&& 255))) h) 0 0 (am_AA S0) := by
  refine Met.ofW (cc := cJ0_charAt_5068e) (maxL := 2) (ret := (some .char)) (by decide) rfl ?_
  intro p e s m args below meth c s₁ B hml hv
  obtain ⟨rfl, hST, hP⟩ := hv
  have hx := B.exec
  have hb := B.bytes
  have hr := B.returns
  have hts0 := atoms_spec (ws := .code yJ0_charAt_5068e cJ0_charAt_5068e 2 (some .char) :: wsL_law0) B.pre
  have hts : ∀ w ∈ wsL_law0, w.before _ s = true := fun w hw => hts0 w (List.mem_cons_of_mem _ hw)
  have hown : s.vm.findClass RJ0 = some m.cls := findClass_of_methodNamed B.named
  have hlocks := B.notSynchronized
  have hss0 := sq_ss hST
  obtain ⟨hstr, hvr, hcs, hpz, -, -⟩ := id hss0
  have hS : va_S (am_AA S0) s.heap s.heap [] := va_S.rf
  have hl := lv_entry ([.ref (ad (50000 + i)), .int (nI k)] : List Value) (n := 2) (Nat.le_of_ble_eq_true rfl)
  show W p l e _ s m _ below meth c s.heap [] 0 0 _ (entryFrame m ([.ref (ad (50000 + i)), .int (nI k)] : List Value).toArray 2)
  rw [lg_entry_eq]
  generalize (lg_sl ([.ref (ad (50000 + i)), .int (nI k)] : List Value) ++ List.replicate (2 - (lg_sl ([.ref (ad (50000 + i)), .int (nI k)] : List Value)).length) Slot.unset).toArray = ls at hl ⊢
  have hl : lv_has ls 2 [(0, .ref (ad (50000 + i))), (1, .int (nI k))] := hl
  refine lv_aload_n hx hb dj_cha_0 rfl (lv_at hl 0 rfl) ?_
  refine am_after (va_runV (C := RJ0) (As := ([] : List Value)) (rest := ([] : List Value)) (b := ad (50000 + i)) (show CallFix p m c cJ0_charAt_5068e 2 s _ wsL_law0 RJ0 from ⟨hx, hb, hml, hown, hts⟩) (sq_isl l S0 ad cy D env h hi) (cwV 0 hts (sq_goodV aj_1172 aj_1173 aj_1174 aj_1159 aj_1175) rfl rfl rfl ⟨rfl, by decide, by decide, by decide⟩ ⟨Nat.le_of_ble_eq_true rfl, Nat.le_of_ble_eq_true rfl⟩) ⟨sq_blind, sq_recv hss0 hi hS, (fun U hU hW => ⟨rfl, sq_moved hST hS hU hW, by rw [hU]; exact hP⟩)⟩ rfl rfl hl.1 rfl (lv_room (Nat.le_of_ble_eq_true rfl)) dj_cha_1 ⟨Nat.le_of_ble_eq_true rfl, Nat.le_of_ble_eq_true rfl⟩) hS ?_
  intro H1 locs1 hP1 hS1
  show W p l e _ s m _ below meth c H1 locs1 0 0 _ (F0 m 4 ls [.int 1])
  refine lv_if_eq (tgt := 16) hx hb dj_cha_4 (by decide) (fun q => absurd q (by decide)) (fun _ => ?_)
  refine lv_aload_n hx hb dj_cha_7 rfl (lv_at hl 0 rfl) ?_
  refine vk_getf hx hb (hstr.1 i hi).2.2.1 hS1 hown (hts _ aj_1161) (fun x z => z) dj_cha_8 ?_
  refine lv_iload_n hx hb dj_cha_11 rfl (lv_at hl 1 rfl) ?_
  refine am_after (va_runS (As := [.ref (ad (51000 + i)), .int (nI k)]) (rest := ([] : List Value)) (show CallFix p m c cJ0_charAt_5068e 2 s _ wsL_law0 RJ0 from ⟨hx, hb, hml, hown, hts⟩) (sq_lch l S0 ad cy D env h hi hk) ⟨callB_of 2 hts (sq_goodS aj_1179) rfl rfl rfl (hts _ aj_1178) (hts _ aj_1176) ⟨by decide, by decide, by decide⟩ ⟨Nat.le_of_ble_eq_true rfl, Nat.le_of_ble_eq_true rfl⟩, hts _ aj_1177⟩ ⟨sq_blind, (fun U hU hW => ⟨rfl, sq_moved hST hS1 hU hW, by rw [hU]; exact hP1⟩)⟩ rfl rfl hl.1 rfl (lv_room (Nat.le_of_ble_eq_true rfl)) dj_cha_12 ⟨Nat.le_of_ble_eq_true rfl, Nat.le_of_ble_eq_true rfl⟩) hS1 ?_
  intro H2 locs2 hP2 hS2
  show W p l e _ s m _ below meth c H2 locs2 0 0 _ (F0 m 15 ls [.int ((am_sby.getD i []).getD k 0 &&& 255)])
  exact W.zret (ty := .char) hx hb hr (sc_nar _) (fun t ht hW => ⟨rfl, by rw [ht]; exact hP2, hS2.F ht⟩) hS2.2.2 dj_cha_15 hlocks
/-! where the machine's own rows stand -/
def am_tk (mid : Nat) (o : Option am_I) : Bool := match o with
  | some (.invokevirtual i, _, a, _, _) => (!(Nat.beq a 9002) || (decide ((am_mi mid).1 = RX11) && Nat.beq i 395)) && (!(Nat.beq a 9003) || (decide ((am_mi mid).1 = RX11) && Nat.beq i 400))
  | some (.ldc_w i, _, a, b, _) => Nat.beq b 0 || (decide ((am_mi mid).1 = RX11) && Nat.blt a 5 && Nat.beq i (am_six.getD a 0))
  | _ => true
set_option maxRecDepth 100000 in
theorem am_tk_all : ((List.range 320).all fun mid => (am_tab mid).all fun r => r.all (am_tk mid)) = true := by decide +kernel
theorem am_tabs_len : am_tabs.length = 20 := by decide +kernel
theorem am_tk_use {mid pc : Nat} {o : am_I} (h : am_cd mid pc = some o) : am_tk mid (some o) = true := by
  have h2 : ((am_tab mid).getD (pc / 16) []).getD (pc % 16) none = some o := h
  rcases Nat.lt_or_ge mid 320 with q | q
  · have h3 := st_range am_tk_all q
    rw [List.getD_eq_getElem?_getD] at h2
    cases hr : ((am_tab mid).getD (pc / 16) [])[pc % 16]? with
    | none => rw [hr] at h2; cases h2
    | some o' =>
      rw [hr] at h2
      have e : o' = some o := h2
      subst e
      have hm := List.mem_of_getElem? hr
      rw [List.getD_eq_getElem?_getD] at hm
      cases ht : (am_tab mid)[pc / 16]? with
      | none => rw [ht] at hm; cases hm
      | some row =>
        rw [ht] at hm
        exact List.all_eq_true.mp (List.all_eq_true.mp h3 row (List.mem_of_getElem? ht)) (some o) hm
  · exfalso
    have h4 : am_tabs[mid / 16]? = none := List.getElem?_eq_none (by rw [am_tabs_len]; omega)
    have h5 : am_tab mid = [] := by
      unfold am_tab
      rw [List.getD_eq_getElem?_getD (l := am_tabs), h4]
      rfl
    rw [h5] at h2
    cases h2
theorem am_sl_eq {i : Nat} (hi : i < 4) : Int32.ofNat (am_strs.getD (50000 + i - 50000) []).length = nI (am_sln.getD i 0) ∧ (am_strs.getD (50000 + i - 50000) []).length = am_sln.getD i 0 := by
  rw [Nat.add_sub_cancel_left]
  rcases (show i = 0 ∨ i = 1 ∨ i = 2 ∨ i = 3 by omega) with rfl | rfl | rfl | rfl <;> exact ⟨rfl, rfl⟩
theorem am_sc_all : ((List.range 4).all fun i => (List.range (am_sln.getD i 0)).all fun k => decide (Int32.ofNat ((am_strs.getD i []).getD k 0) = (am_sby.getD i []).getD k 0 &&& 255)) = true := by decide +kernel
set_option maxHeartbeats 4000000 in
theorem am_HP_all (env : am_E) : am_HP env := by
  intro p l e R s m args below meth c Q S0 ad cy D n0 nL cx sx d mid C0 hnL
  obtain ⟨⟨hx, hb, hml, hown⟩, hts, hST, ⟨hfr, hlo⟩, hmn⟩ := id C0
  have hss := sq_ss hST
  have hST' : am_ST S0 ad cy D (false, env.2) s := hST
  have hfix : CallFix p m c (am_mi mid).2.2.1 nL s args wsL_law0 (am_mi mid).1 := ⟨hx, hb, by rw [hml, hnL], hown, hts⟩
  refine ⟨?_, ?_, ?_, ?_⟩
  · intro pc idx len b cp L r h x hdec hcd hlk hr8 hd hrm k H locs ls hP hz hS hl hL hn
    have hlsz : (F0 m pc ls ((Value.long x :: r).map (am_cv ad))).locals.size = nL := by rw [← hL]; exact hl.1
    have hG : GoodIn wsL_law0 wo_ws := sq_goodS aw_of
    refine am_after (h' := h) (v := some (.retAddr (am_wordOf x))) (va_runS (As := [.long x]) (rest := r.map (am_cv ad)) hfix (wo_met l S0 ad cy D (false, env.2) x h) ⟨callB_of 1 hts hG rfl rfl rfl (hts _ aw_ofI) (hts _ hlk) ⟨by decide, by decide, by decide⟩ ⟨?_, ?_⟩, hts _ aw_ofS⟩ ⟨am_blind, (fun U hU hW => ⟨rfl, sq_moved hST' hS hU hW, by rw [hU]; exact hP, fun q => by cases q⟩)⟩ rfl rfl hlsz rfl (lv_room (by rw [am_cats_cv]; exact hr8)) hdec ⟨hrm.1, hrm.2⟩) hS ?_
    · show 0 + 8 + 1 ≤ R.frames
      omega
    · show 8 + (3 + 11) + 64 * (0 + 8) ≤ R.locals
      omega
    · intro H1 locs1 hP1 hS1
      exact k H1 locs1 ls hP1 hz hS1 hl hL hn
  · intro pc idx len b cp L r h q hdec hcd hq1 hq2 hr8 hd hrm k H locs ls hP hz hS hl hL hn
    have htk := am_tk_use hcd
    have htk : ((!(Nat.beq 9002 9002) || (decide ((am_mi mid).1 = RX11) && Nat.beq idx 395)) && (!(Nat.beq 9002 9003) || (decide ((am_mi mid).1 = RX11) && Nat.beq idx 400))) = true := htk
    have h1 := (am_and3 htk).1
    rcases am_or h1 with z | z
    · cases z
    have ho : (am_mi mid).1 = RX11 := of_decide_eq_true (am_and3 z).1
    have hi5 : idx = 395 := Nat.eq_of_beq_eq_true (am_and3 z).2
    subst hi5
    obtain ⟨i, rfl⟩ : ∃ i, q = 50000 + i := ⟨q - 50000, by omega⟩
    have hi : i < 4 := by omega
    have hlsz : (F0 m pc ls ((Value.ref (50000 + i) :: r).map (am_cv ad))).locals.size = nL := by rw [← hL]; exact hl.1
    rw [(am_sl_eq hi).1] at k
    refine am_after (h' := h) (v := some (.int (nI (am_sln.getD i 0)))) (va_runV (C := RJ0) (As := ([] : List Value)) (rest := r.map (am_cv ad)) (b := ad (50000 + i)) hfix (sq_length l S0 ad cy D (false, env.2) h hi) (cwV 0 hts (sq_goodV (by rw [ho]; exact aj_1156) aj_1157 aj_1158 aj_1159 aj_1160) rfl rfl rfl ⟨rfl, by decide, by decide, by decide⟩ ⟨?_, ?_⟩) ⟨sq_blind, sq_recv hss hi hS, (fun U hU hW => ⟨rfl, sq_moved hST' hS hU hW, by rw [hU]; exact hP⟩)⟩ rfl rfl hlsz rfl (lv_room (by rw [am_cats_cv]; exact hr8)) hdec ⟨hrm.1, hrm.2⟩) hS ?_
    · show 1 + 1 ≤ R.frames
      omega
    · show 8 + (1 + 11) + 64 * 1 ≤ R.locals
      omega
    · intro H1 locs1 hP1 hS1
      exact k H1 locs1 ls hP1 hz hS1 hl hL hn
  · intro pc idx len b cp L r h q j hdec hcd hq1 hq2 hin hr8 hd hrm k H locs ls hP hz hS hl hL hn
    have htk := am_tk_use hcd
    have htk : ((!(Nat.beq 9003 9002) || (decide ((am_mi mid).1 = RX11) && Nat.beq idx 395)) && (!(Nat.beq 9003 9003) || (decide ((am_mi mid).1 = RX11) && Nat.beq idx 400))) = true := htk
    have h1 := (am_and3 htk).2
    rcases am_or h1 with z | z
    · cases z
    have ho : (am_mi mid).1 = RX11 := of_decide_eq_true (am_and3 z).1
    have hi5 : idx = 400 := Nat.eq_of_beq_eq_true (am_and3 z).2
    subst hi5
    obtain ⟨i, rfl⟩ : ∃ i, q = 50000 + i := ⟨q - 50000, by omega⟩
    have hi : i < 4 := by omega
    rw [(am_sl_eq hi).2] at hin
    have hin : (!(decide (j < 0)) && decide (j.toNatClampNeg < am_sln.getD i 0)) = true := hin
    have hj0 : ¬ j < 0 := by
      have := (am_and3 hin).1
      intro z
      rw [decide_eq_true z] at this
      cases this
    have hjk : j.toNatClampNeg < am_sln.getD i 0 := of_decide_eq_true (am_and3 hin).2
    obtain ⟨n, hn9, rfl⟩ := nI_of hj0
    rw [nI_clamp (by omega)] at hjk k
    have hlsz : (F0 m pc ls ((Value.int (nI n) :: Value.ref (50000 + i) :: r).map (am_cv ad))).locals.size = nL := by rw [← hL]; exact hl.1
    rw [Nat.add_sub_cancel_left, of_decide_eq_true (st_range (st_range am_sc_all hi) hjk)] at k
    refine am_after (h' := h) (v := some (.int ((am_sby.getD i []).getD n 0 &&& 255))) (va_runV (C := RJ0) (As := [.int (nI n)]) (rest := r.map (am_cv ad)) (b := ad (50000 + i)) hfix (sq_charAt l S0 ad cy D (false, env.2) h hi hjk) (cwV 1 hts (sq_goodV (by rw [ho]; exact aj_1168) aj_1169 aj_1170 aj_1159 aj_1171) rfl rfl rfl ⟨rfl, by decide, by decide, by decide⟩ ⟨?_, ?_⟩) ⟨sq_blind, sq_recv hss hi hS, (fun U hU hW => ⟨rfl, sq_moved hST' hS hU hW, by rw [hU]; exact hP⟩)⟩ rfl rfl hlsz rfl (lv_room (by rw [am_cats_cv]; exact hr8)) hdec ⟨hrm.1, hrm.2⟩) hS ?_
    · show 3 + 1 ≤ R.frames
      omega
    · show 8 + (2 + 11) + 64 * 3 ≤ R.locals
      omega
    · intro H1 locs1 hP1 hS1
      exact k H1 locs1 ls hP1 hz hS1 hl hL hn
  · intro pc idx len a b cp L st h hdec hcd hb0 k H locs ls hP hz hS hl hL hn
    have htk := am_tk_use hcd
    have htk : (Nat.beq b 0 || (decide ((am_mi mid).1 = RX11) && Nat.blt a 5 && Nat.beq idx (am_six.getD a 0))) = true := htk
    rw [hb0] at htk
    have htk : (decide ((am_mi mid).1 = RX11) && Nat.blt a 5 && Nat.beq idx (am_six.getD a 0)) = true := htk
    have ho : (am_mi mid).1 = RX11 := of_decide_eq_true (am_and3 (am_and3 htk).1).1
    have ha : a < 5 := am_blt (am_and3 (am_and3 htk).1).2
    have hi5 : idx = am_six.getD a 0 := Nat.eq_of_beq_eq_true (am_and3 htk).2
    rw [ho] at hown
    have hZ := hss.2.1 a (by omega)
    rw [← hi5] at hZ
    intro T hT X
    obtain ⟨t, a1, b1⟩ := k H locs ls hP hz hS hl hL hn T hT X
    exact ⟨t, X.ldcStringW hx hown (text := am_stx.getD a "") (a := ad (50000 + a)) hZ.1 hZ.2 (g := F0 m pc ls (st.map (am_cv ad))) rfl (by rw [hb]; exact hdec) t a1, b1⟩
