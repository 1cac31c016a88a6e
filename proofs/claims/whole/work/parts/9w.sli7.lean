/-! slip: a name written by the class -/
theorem pk_dg : ∀ (w : List Nat), gl w → ∀ j, pk 32 w / 32 ^ j % 32 = w.getD j 0 := by
  intro w
  induction w with
  | nil =>
    intro _ j
    have e : pk 32 [] = 0 := rfl
    rw [e, Nat.zero_div]; simp
  | cons x w ih =>
    intro h j
    have hx := gl_hd h
    have e : pk 32 (x :: w) = pk 32 w * 32 + x := rfl
    cases j with
    | zero =>
      rw [Nat.pow_zero, Nat.div_one, e]
      show _ = x
      omega
    | succ j =>
      rw [Nat.pow_succ, Nat.mul_comm, ← Nat.div_div_eq_div_mul, e, show (pk 32 w * 32 + x) / 32 = pk 32 w by omega]
      exact ih (gl_tl h) j
theorem z_sh : ∀ i : Fin 7, ((((6 : Int32) - Int32.ofNat i.1) * 5).toInt64.toUInt64 &&& Int64.toUInt64 63) = UInt64.ofNat ((6 - i.1) * 5) := by decide +kernel
theorem let_at (P i : Nat) (hP : P < 34359738368) (hi : i < 7) : (Int64.toInt32 (am_lushr (Int64.ofNat P) (((6 : Int32) - Int32.ofNat i) * 5))) &&& 31 = Int32.ofNat (P / 32 ^ (6 - i) % 32) := by
  have hs := z_sh ⟨i, hi⟩
  dsimp only at hs
  have hn : ((Int64.ofNat P).toUInt64 >>> UInt64.ofNat ((6 - i) * 5)).toNat = P / 32 ^ (6 - i) := by
    have h1 : (Int64.ofNat P).toUInt64 = UInt64.ofNat P := rfl
    rw [h1, UInt64.toNat_shiftRight, UInt64.toNat_ofNat', UInt64.toNat_ofNat', Nat.mod_eq_of_lt (by omega : P < 2 ^ 64), Nat.mod_eq_of_lt (by omega : (6 - i) * 5 < 2 ^ 64), Nat.mod_eq_of_lt (by omega : (6 - i) * 5 < 64), Nat.shiftRight_eq_div_pow, Nat.mul_comm, Nat.pow_mul]
  show (Int64.toInt32 (((Int64.ofNat P).toUInt64 >>> ((((6 : Int32) - Int32.ofNat i) * 5).toInt64.toUInt64 &&& Int64.toUInt64 63)).toInt64)) &&& 31 = _
  rw [hs]
  generalize (Int64.ofNat P).toUInt64 >>> UInt64.ofNat ((6 - i) * 5) = y at hn
  rw [← hn]
  apply Int32.toBitVec_inj.mp
  apply BitVec.eq_of_toNat_eq
  have a1 : (Int64.toInt32 y.toInt64 &&& 31).toBitVec = (y.toBitVec.signExtend 32) &&& 31#32 := rfl
  have a2 : (Int32.ofNat (y.toNat % 32)).toBitVec = BitVec.ofNat 32 (y.toNat % 32) := rfl
  rw [a1, a2, BitVec.toNat_and, BitVec.signExtend_eq_setWidth_of_le _ (by omega), BitVec.toNat_setWidth, BitVec.toNat_ofNat, BitVec.toNat_ofNat, show y.toBitVec.toNat = y.toNat from rfl, show (31 : Nat) % 2 ^ 32 = 2 ^ 5 - 1 by decide, Nat.and_two_pow_sub_one_eq_mod]
  omega
theorem c_letter (env : am_E) (d : Nat) (P i : Nat) (hP : P < 34359738368) (hi : i < 7) (I : Nat → Nat → Int32) (J : Nat → Nat → Int64) (E : Nat → Nat → Nat) : am_ev env (d + 1, 113, 0, [some (.long (Int64.ofNat P)), none, some (.int (Int32.ofNat i)), none, none], [], am_hp I J E) = some (true, some (.int (if P / 32 ^ (6 - i) % 32 = 0 then 0 else Int32.ofNat (96 + P / 32 ^ (6 - i) % 32))), am_hp I J E) := by
  have start := bk_113_0 env d (Int64.ofNat P) (Int32.ofNat i) I J E
  rw [let_at P i hP hi] at start
  have hv : P / 32 ^ (6 - i) % 32 < 32 := Nat.mod_lt _ (by omega)
  generalize P / 32 ^ (6 - i) % 32 = v at start hv ⊢
  have hz : decide (Int32.ofNat v = (0 : Int32)) = decide (v = 0) := decide_eq_decide.mpr (Iff.of_eq (zI_eq v 0 (by omega) (by omega)))
  rw [hz] at start
  refine start.trans ?_
  by_cases h0 : v = 0
  · rw [decide_eq_true h0, if_pos h0]
    simp only [decide_true, decide_false, Bool.not_true, Bool.not_false, am_cont, Option.bind_some, Option.toList_some, Option.toList_none, List.singleton_append, List.nil_append, cond_true, cond_false, bk_113_32]
  · rw [decide_eq_false h0, if_neg h0]
    have e : (97 : Int32) + Int32.ofNat v - 1 = Int32.ofNat (96 + v) := by
      rw [show (97 : Int32) + Int32.ofNat v = Int32.ofNat (97 + v) from (Int32.ofNat_add 97 v).symm, show (1 : Int32) = Int32.ofNat 1 from rfl, zI_sub (97 + v) 1 (by omega)]
      exact congrArg Int32.ofNat (by omega)
    simp only [decide_true, decide_false, Bool.not_true, Bool.not_false, am_cont, Option.bind_some, Option.toList_some, Option.toList_none, List.singleton_append, List.nil_append, cond_true, cond_false, bk_113_32, e]
theorem c_nameW (env : am_E) (d : Nat) (w : List Nat) (hw : gw w) (L : List Nat) (hL : L.length + 7 ≤ 40) (I : Nat → Nat → Int32) (J : Nat → Nat → Int64) (E : Nat → Nat → Nat) (h : COb I L) : ∃ I', am_ev env (d + 2, 159, 0, [some (.ref 0), some (.long (Int64.ofNat (pk 32 w))), none, none, none], [], am_hp I J E) = some (true, none, am_hp I' J E) ∧ COb I' (L ++ wrd w) ∧ FCb I I' := by
  have hb := pk_big 32 (by omega) (by omega) w hw
  have h7 := hw.2.2
  have loop : ∀ i, i ≤ 7 → ∃ I' o, am_ev env (d + 2, 159, 2, [some (.ref 0), some (.long (Int64.ofNat (pk 32 w))), none, some (.int 0), none], [], am_hp I J E) = am_ev env (d + 2, 159, 2, [some (.ref 0), some (.long (Int64.ofNat (pk 32 w))), none, some (.int (Int32.ofNat i)), o], [], am_hp I' J E) ∧ COb I' (L ++ wrd (w.drop (7 - i))) ∧ FCb I I' := by
    intro i
    induction i with
    | zero =>
      intro _
      refine ⟨I, none, rfl, ?_, ⟨fun _ _ _ => rfl, fun _ _ => rfl⟩⟩
      rw [List.drop_eq_nil_of_le hw.2.2, show wrd [] = [] from rfl, List.append_nil]; exact h
    | succ i ih =>
      intro hi
      obtain ⟨I1, o, e1, e2, e3⟩ := ih (by omega)
      have hl := c_letter env d (pk 32 w) i (by omega) (by omega) I1 J E
      rw [pk_dg w hw.1 (6 - i)] at hl
      have head := bk_159_2 env (d + 1) (Int64.ofNat (pk 32 w)) (Int32.ofNat i) o I1 J E
      rw [show decide ((7 : Int32) ≤ Int32.ofNat i) = false from zle_f 7 i (by omega) (by omega)] at head
      simp only [decide_true, decide_false, Bool.not_true, Bool.not_false, am_cont, Option.bind_some, Option.toList_some, Option.toList_none, List.singleton_append, List.nil_append, cond_true, cond_false, hl] at head
      by_cases hj : 6 - i < w.length
      · have hv : w.getD (6 - i) 0 = w[6 - i] := by rw [List.getD_eq_getElem?_getD, List.getElem?_eq_getElem hj]; rfl
        have hg := hw.1 _ (List.getElem_mem hj)
        have hd : w.drop (7 - (i + 1)) = w.getD (6 - i) 0 :: w.drop (7 - i) := by
          rw [show 7 - (i + 1) = 6 - i by omega, List.drop_eq_getElem_cons hj, hv, show 6 - i + 1 = 7 - i by omega]
        rw [← hv] at hg
        generalize w.getD (6 - i) 0 = v at hl head hg hd
        rw [if_neg (by omega : ¬ v = 0)] at head
        have hlen : (L ++ wrd (w.drop (7 - i))).length < 40 := by rw [List.length_append, wrd_l, List.length_drop]; omega
        obtain ⟨I2, f1, f2, f3⟩ := c_put env d (L ++ wrd (w.drop (7 - i))) hlen (96 + v) _ rfl I1 J E e2
        refine ⟨I2, some (.int (Int32.ofNat (96 + v))), e1.trans (head.trans ((bk_159_13 _ _ _ _ _ _ _ _ _).trans ?_)), ?_, FCb_tr e3 f3⟩
        · have hz : decide (Int32.ofNat (96 + v) = (0 : Int32)) = false := decide_eq_false (fun q => by
            have := (zI_eq (96 + v) 0 (by omega) (by omega)).mp q
            omega)
          rw [hz]
          simp only [decide_true, decide_false, Bool.not_true, Bool.not_false, am_cont, Option.bind_some, Option.toList_some, Option.toList_none, List.singleton_append, List.nil_append, cond_true, cond_false, f1, bk_159_26, zd_1]
        · rw [hd, wrd_c, ← List.append_assoc]; exact f2
      · have hv : w.getD (6 - i) 0 = 0 := by rw [List.getD_eq_getElem?_getD, List.getElem?_eq_none (by omega)]; rfl
        rw [hv, if_pos rfl] at head
        refine ⟨I1, some (.int 0), e1.trans (head.trans ((bk_159_13 _ _ _ _ _ _ _ _ _).trans ?_)), ?_, e3⟩
        · simp only [decide_true, decide_false, Bool.not_true, Bool.not_false, am_cont, Option.bind_some, Option.toList_some, Option.toList_none, List.singleton_append, List.nil_append, cond_true, cond_false, bk_159_26, zd_1]
        · rw [List.drop_eq_nil_of_le (by omega)]
          rw [List.drop_eq_nil_of_le (by omega)] at e2
          exact e2
  obtain ⟨I1, o, e1, e2, e3⟩ := loop 7 (Nat.le_refl _)
  refine ⟨I1, (bk_159_0 _ _ _ _ _ _).trans (e1.trans ((bk_159_2 _ _ _ _ _ _ _ _).trans ?_)), e2, e3⟩
  rw [show decide ((7 : Int32) ≤ Int32.ofNat 7) = true by decide]
  rfl
