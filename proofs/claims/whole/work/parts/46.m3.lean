/-! loops that copy; the reference's pictures of what is so -/
def cpr (m : Nat → Int32) (a n : Nat) (src : Nat → Int32) : Nat → Int32 := fun j => if a ≤ j ∧ j < a + n then src (j - a) else m j
theorem cpr_zero (m : Nat → Int32) (a : Nat) (src : Nat → Int32) : cpr m a 0 src = m := by
  funext j; unfold cpr; exact if_neg (by omega)
theorem cpr_succ (m : Nat → Int32) (a k : Nat) (src : Nat → Int32) : ru (cpr m a k src) (a + k) (src k) = cpr m a (k + 1) src := by
  funext j; unfold cpr ru
  by_cases h : j = a + k
  · rw [if_pos h, if_pos (by omega), h, Nat.add_sub_cancel_left]
  · rw [if_neg h]
    show (if a ≤ j ∧ j < a + k then src (j - a) else m j) = _
    by_cases h2 : a ≤ j ∧ j < a + k
    · rw [if_pos h2, if_pos (by omega)]
    · rw [if_neg h2, if_neg (by omega)]
theorem cpr_in (m : Nat → Int32) (a n : Nat) (src : Nat → Int32) (k : Nat) (h : k < n) : cpr m a n src (a + k) = src k := by
  unfold cpr; rw [if_pos (by omega), Nat.add_sub_cancel_left]
theorem cpr_out (m : Nat → Int32) (a n : Nat) (src : Nat → Int32) (j : Nat) (h : j < a ∨ a + n ≤ j) : cpr m a n src j = m j := by
  unfold cpr; exact if_neg (by omega)
theorem zcopy {β : Type} (F : Nat → (Nat → Nat → Int32) → β) (I : Nat → Nat → Int32) (p a : Nat) (src : Nat → Int32) (N : Nat)
    (step : ∀ k, k < N → F k (am_ur I p (cpr (I p) a k src)) = F (k + 1) (am_ur I p (ru (cpr (I p) a k src) (a + k) (src k)))) :
    F 0 I = F N (am_ur I p (cpr (I p) a N src)) := by
  have key : ∀ n, n ≤ N → F 0 I = F n (am_ur I p (cpr (I p) a n src)) := by
    intro n
    induction n with
    | zero => intro _; rw [cpr_zero, ur_self]
    | succ n ih =>
      intro hn
      rw [ih (by omega), step n (by omega), cpr_succ]
  exact key N (Nat.le_refl _)
theorem zle_f (c k : Nat) (h : k < c) (hc : c < 2147483648) : decide (Int32.ofNat c ≤ Int32.ofNat k) = false := by
  apply decide_eq_false
  rw [zI_le c k hc (by omega)]
  omega
theorem zle_t (c k : Nat) (h : c ≤ k) (hk : k < 2147483648) : decide (Int32.ofNat c ≤ Int32.ofNat k) = true := by
  apply decide_eq_true
  rw [zI_le c k (by omega) hk]
  omega
theorem zlt_f (k c : Nat) (h : c ≤ k) (hk : k < 2147483648) : decide (Int32.ofNat k < Int32.ofNat c) = false := by
  apply decide_eq_false
  rw [zI_lt k c hk (by omega)]
  omega
theorem zlt_t (k c : Nat) (h : k < c) (hc : c < 2147483648) : decide (Int32.ofNat k < Int32.ofNat c) = true := by
  apply decide_eq_true
  rw [zI_lt k c (by omega) hc]
  exact h
theorem zI_mul36 (h : Nat) : 36 * Int32.ofNat h = Int32.ofNat (36 * h) := (Int32.ofNat_mul 36 h).symm
def snr (S m : Nat → Int32) (h : Nat) : Nat → Int32 := if h = 8 then cpr (cpr S 0 252 (fun k => S (k + 36))) 252 36 (fun k => m (34 + k)) else cpr S (36 * h) 36 (fun k => m (34 + k))
def sns (h : Nat) : Nat := if h = 8 then 8 else h + 1
theorem m_snap51 (env : am_E) (d : Nat) (h : Nat) (hh : h < 8) (I : Nat → Nat → Int32) (J : Nat → Nat → Int64) (E : Nat → Nat → Nat) (e : I 156 24 = Int32.ofNat h) : am_ev env (d + 1, 225, 51, [some (.ref 156), some (.int 0)], [], am_hp I J E) = some (true, none, am_hp (am_ur (am_ur I 156 (ru (I 156) 24 (Int32.ofNat (h + 1)))) 161 (cpr (I 161) (36 * h) 36 (fun k => I 158 (34 + k)))) J E) := by
  have hz := zcopy (fun k I => am_ev env (d + 1, 225, 51, [some (.ref 156), some (.int (Int32.ofNat k))], [], am_hp I J E)) I 161 (36 * h) (fun k => I 158 (34 + k)) 36 (fun k hk => by
    have e1 : decide ((36 : Int32) ≤ Int32.ofNat k) = false := zle_f 36 k hk (by omega)
    refine (bk_225_51 _ _ _ _ _ _).trans ?_
    simp (disch := omega) only [e1, ur_ne, e, zI_mul36, zI_add, zc_72, zc_46, zc_52, zc_38, zc_58, zc_64, zc_28, zc_20, zc_34, zc_4, zc_8, zc_50, zc_48, zc_12, zc_96, zd_1, zd_2, zd_3, zd_8, zd_36, zd_20, zI_in, zI_nat, decide_true, decide_false, Bool.not_true, Bool.not_false, am_cont, Option.bind_some, Option.toList_some, Option.toList_none, List.singleton_append, List.nil_append, cond_true, cond_false, am_u_r, ur_ur, ur_at])
  refine Eq.trans hz ?_
  refine (bk_225_51 _ _ _ _ _ _).trans ?_
  have e1 : decide ((36 : Int32) ≤ Int32.ofNat 36) = true := by decide
  simp (disch := omega) only [e1, decide_true, decide_false, Bool.not_true, Bool.not_false, am_cont, Option.bind_some, Option.toList_some, Option.toList_none, List.singleton_append, List.nil_append, cond_true, cond_false, am_u_r, ur_ne, e, zd_1, ur_comm]
theorem m_snap (env : am_E) (d : Nat) (h : Nat) (hh : h ≤ 8) (I : Nat → Nat → Int32) (J : Nat → Nat → Int64) (E : Nat → Nat → Nat) (e : I 156 24 = Int32.ofNat h) : am_ev env (d + 1, 225, 0, [some (.ref 156), none], [], am_hp I J E) = some (true, none, am_hp (am_ur (am_ur I 156 (ru (I 156) 24 (Int32.ofNat (sns h)))) 161 (snr (I 161) (I 158) h)) J E) := by
  have e8 : decide (Int32.ofNat h = 8) = decide (h = 8) := zI_deq h 8 (by omega) (by omega)
  refine (bk_225_0 _ _ _ _ _).trans ?_
  rw [e, e8]
  by_cases h8 : h = 8
  · subst h8
    have e252 : decide ((252 : Int32) ≤ Int32.ofNat 252) = true := by decide
    rw [decide_eq_true rfl]
    have hz := zcopy (fun k I => am_ev env (d + 1, 225, 11, [some (.ref 156), some (.int (Int32.ofNat k))], [], am_hp I J E)) I 161 0 (fun k => I 161 (k + 36)) 252 (fun k hk => by
      have e1 : decide ((252 : Int32) ≤ Int32.ofNat k) = false := zle_f 252 k hk (by omega)
      refine (bk_225_11 _ _ _ _ _ _).trans ?_
      have e2 : cpr (I 161) 0 k (fun k => I 161 (k + 36)) (k + 36) = I 161 (k + 36) := cpr_out _ _ _ _ _ (by omega)
      simp (disch := omega) only [e1, ur_ne, zI_add, zc_72, zc_46, zc_52, zc_38, zc_58, zc_64, zc_28, zc_20, zc_34, zc_4, zc_8, zc_50, zc_48, zc_12, zc_96, zd_1, zd_2, zd_3, zd_8, zd_36, zd_20, zI_in, zI_nat, decide_true, decide_false, Bool.not_true, Bool.not_false, am_cont, Option.bind_some, Option.toList_some, Option.toList_none, List.singleton_append, List.nil_append, cond_true, cond_false, am_u_r, ur_ur, ur_at, e2, Nat.zero_add])
    simp only [Bool.not_true, cond_false]
    refine Eq.trans hz ?_
    refine (bk_225_11 _ _ _ _ _ _).trans ?_
    rw [e252, cond_true]
    refine (bk_225_49 _ _ _ _ _ _).trans ?_
    have e3 : (Int32.ofNat 8 - 1) = Int32.ofNat 7 := by decide
    simp (disch := omega) only [am_u_r, ur_ne, e, e3]
    refine (m_snap51 env d 7 (by omega) _ J E (by simp (disch := omega) only [ur_at, ru_eq])).trans ?_
    simp (disch := omega) only [ur_at, ru_ru, ur_ne, ur_comm, ur_ur]
    rfl
  · rw [decide_eq_false h8]
    simp only [Bool.not_false, cond_true]
    refine (bk_225_49 _ _ _ _ _ _).trans ?_
    refine (m_snap51 env d h (by omega) I J E e).trans ?_
    unfold snr sns
    rw [if_neg h8, if_neg h8]
theorem m_lay (env : am_E) (d : Nat) (I : Nat → Nat → Int32) (J : Nat → Nat → Int64) (E : Nat → Nat → Nat) : am_ev env (d + 1, 276, 0, [some (.ref 156), none], [], am_hp I J E) = some (true, none, am_hp (am_ur I 162 (cpr (I 162) 0 36 (fun k => I 158 (34 + k)))) J E) := by
  refine (bk_276_0 _ _ _ _ _).trans ?_
  have hz := zcopy (fun k I => am_ev env (d + 1, 276, 2, [some (.ref 156), some (.int (Int32.ofNat k))], [], am_hp I J E)) I 162 0 (fun k => I 158 (34 + k)) 36 (fun k hk => by
    have e1 : decide ((36 : Int32) ≤ Int32.ofNat k) = false := zle_f 36 k hk (by omega)
    refine (bk_276_2 _ _ _ _ _ _).trans ?_
    simp (disch := omega) only [e1, ur_ne, zc_72, zc_46, zc_52, zc_38, zc_58, zc_64, zc_28, zc_20, zc_34, zc_4, zc_8, zc_50, zc_48, zc_12, zc_96, zd_1, zd_2, zd_3, zd_8, zd_36, zd_20, zI_in, zI_nat, decide_true, decide_false, Bool.not_true, Bool.not_false, am_cont, Option.bind_some, Option.toList_some, Option.toList_none, List.singleton_append, List.nil_append, cond_true, cond_false, am_u_r, ur_ur, ur_at, Nat.zero_add])
  refine Eq.trans hz ?_
  refine (bk_276_2 _ _ _ _ _ _).trans ?_
  have e1 : decide ((36 : Int32) ≤ Int32.ofNat 36) = true := by decide
  rw [e1, cond_true]
theorem m_takeBack (env : am_E) (d : Nat) (I : Nat → Nat → Int32) (J : Nat → Nat → Int64) (E : Nat → Nat → Nat) : am_ev env (d + 1, 277, 0, [some (.ref 156), none], [], am_hp I J E) = some (true, none, am_hp (am_ur I 158 (cpr (I 158) 34 36 (fun k => I 162 k))) J E) := by
  refine (bk_277_0 _ _ _ _ _).trans ?_
  have hz := zcopy (fun k I => am_ev env (d + 1, 277, 2, [some (.ref 156), some (.int (Int32.ofNat k))], [], am_hp I J E)) I 158 34 (fun k => I 162 k) 36 (fun k hk => by
    have e1 : decide ((36 : Int32) ≤ Int32.ofNat k) = false := zle_f 36 k hk (by omega)
    refine (bk_277_2 _ _ _ _ _ _).trans ?_
    simp (disch := omega) only [e1, ur_ne, zc_72, zc_46, zc_52, zc_38, zc_58, zc_64, zc_28, zc_20, zc_34, zc_4, zc_8, zc_50, zc_48, zc_12, zc_96, zd_1, zd_2, zd_3, zd_8, zd_36, zd_20, zI_in, zI_nat, decide_true, decide_false, Bool.not_true, Bool.not_false, am_cont, Option.bind_some, Option.toList_some, Option.toList_none, List.singleton_append, List.nil_append, cond_true, cond_false, am_u_r, ur_ur, ur_at])
  refine Eq.trans hz ?_
  refine (bk_277_2 _ _ _ _ _ _).trans ?_
  have e1 : decide ((36 : Int32) ≤ Int32.ofNat 36) = true := by decide
  rw [e1, cond_true]
/-- the row 156 with thrown 0 -/
def th0 (I : Nat → Nat → Int32) : Nat → Nat → Int32 := am_ur I 156 (ru (I 156) 0 0)
theorem th0_u (I : Nat → Nat → Int32) : am_u I 156 0 0 = th0 I := am_u_r I 156 0 0
theorem th0_ne (I : Nat → Nat → Int32) (q : Nat) (h : q ≠ 156) : th0 I q = I q := ur_ne I 156 _ q h
theorem th0_at (I : Nat → Nat → Int32) (k : Nat) (h : k ≠ 0) : th0 I 156 k = I 156 k := by
  unfold th0; rw [ur_at, ru_ne _ _ _ _ h]
theorem m_undo0 (env : am_E) (d : Nat) (I : Nat → Nat → Int32) (J : Nat → Nat → Int64) (E : Nat → Nat → Nat) (e : I 156 24 = 0) : am_ev env (d + 1, 239, 0, [some (.ref 156), none], [], am_hp I J E) = some (true, some (.int (-1)), am_hp (th0 I) J E) := by
  refine (bk_239_0 _ _ _ _ _).trans ?_
  rw [th0_u, th0_at I 24 (by omega), e]
  rfl
theorem m_undo (env : am_E) (d : Nat) (h : Nat) (hh : h < 8) (I : Nat → Nat → Int32) (J : Nat → Nat → Int64) (E : Nat → Nat → Nat) (e : I 156 24 = Int32.ofNat (h + 1)) : am_ev env (d + 1, 239, 0, [some (.ref 156), none], [], am_hp I J E) = some (true, some (.int (Int32.ofNat h)), am_hp (am_ur (am_ur I 156 (ru (ru (I 156) 0 0) 24 (Int32.ofNat h))) 158 (cpr (I 158) 34 36 (fun k => I 161 (36 * h + k)))) J E) := by
  refine (bk_239_0 _ _ _ _ _).trans ?_
  have e0 : decide (Int32.ofNat (h + 1) = 0) = false := (zI_deq (h + 1) 0 (by omega) (by omega)).trans (decide_eq_false (by omega))
  have e3 : (Int32.ofNat (h + 1) - 1) = Int32.ofNat h := zI_sub (h + 1) 1 (by omega)
  rw [th0_u, th0_at I 24 (by omega), e, e0, e3]
  simp only [Bool.not_false, cond_true]
  have hz := zcopy (fun k I => am_ev env (d + 1, 239, 26, [some (.ref 156), some (.int (Int32.ofNat k))], [], am_hp I J E)) (am_u (th0 I) 156 24 (Int32.ofNat h)) 158 34 (fun k => I 161 (36 * h + k)) 36 (fun k hk => by
    have e1 : decide ((36 : Int32) ≤ Int32.ofNat k) = false := zle_f 36 k hk (by omega)
    refine (bk_239_26 _ _ _ _ _ _).trans ?_
    simp (disch := omega) only [e1, am_u_r, ur_ne, ur_at, ru_eq, th0_ne, zI_mul36, zI_add, zc_72, zc_46, zc_52, zc_38, zc_58, zc_64, zc_28, zc_20, zc_34, zc_4, zc_8, zc_50, zc_48, zc_12, zc_96, zd_1, zd_2, zd_3, zd_8, zd_36, zd_20, zI_in, zI_nat, decide_true, decide_false, Bool.not_true, Bool.not_false, am_cont, Option.bind_some, Option.toList_some, Option.toList_none, List.singleton_append, List.nil_append, cond_true, cond_false, ur_ur])
  refine Eq.trans hz ?_
  refine (bk_239_26 _ _ _ _ _ _).trans ?_
  have e1 : decide ((36 : Int32) ≤ Int32.ofNat 36) = true := by decide
  rw [e1, cond_true]
  unfold th0
  simp (disch := omega) only [am_u_r, ur_ne, ur_at, ru_eq, ur_ur]
