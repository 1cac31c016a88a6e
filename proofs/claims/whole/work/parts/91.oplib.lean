/-! library: class and reference side by side -/
def opR3 (cf mf : am_O) (I : Nat → Nat → Int32) (J : Nat → Nat → Int64) (E : Nat → Nat → Nat) (P : (Nat → Nat → Int32) → (Nat → Nat → Int64) → (Nat → Nat → Nat) → Prop) : Prop := ∃ v I1 J1 E1 I2 J2 E2, cf (am_hp I J E) = some (true, some (.int v), am_hp I1 J1 E1) ∧ mf (am_hp I1 J1 E1) = some (true, some (.int v), am_hp I2 J2 E2) ∧ P I2 J2 E2
/-- the names of BOOKS and READERS -/
def RN (J : Nat → Nat → Int64) (n k : Nat) : Prop := ∃ T U : Nat → List Nat, (∀ b, b < n → gw (T b) ∧ J 6 b = Int64.ofNat (pk 32 (T b)) ∧ J 163 b = Int64.ofNat (pk 27 (T b))) ∧ ∀ r, r < k → gw (U r) ∧ J 10 r = Int64.ofNat (pk 32 (U r)) ∧ J 163 (8 + r) = Int64.ofNat (pk 27 (U r))
def CJ (q : Nat) : Prop := q = 1 ∨ (24 ≤ q ∧ q ≤ 30) ∨ (37 ≤ q ∧ q ≤ 41) ∨ (99 ≤ q ∧ q ≤ 103) ∨ q = 156 ∨ q = 159 ∨ q = 164
def mLo (I : Nat → Nat → Int32) (J : Nat → Nat → Int64) (I' : Nat → Nat → Int32) (J' : Nat → Nat → Int64) (v : Int32) (res : (Nat × Nat) ⊕ (Lby × Nat)) : Prop := match res with
  | .inl x => v = -1 - Int32.ofNat x.2 ∧ I' 156 10 = Int32.ofNat x.1 ∧ (∀ q, q ≠ 156 → ¬ XM q → I' q = I q) ∧ (∀ j, 14 ≤ j → j ≠ 23 → I' 156 j = I 156 j) ∧ (∀ q, q ≠ 156 → ¬ XM q → J' q = J q)
  | .inr y => v = Int32.ofNat y.2 ∧ I' 156 10 = 0 ∧ I' 156 24 = 0 ∧ (∃ r, I' 158 = soR r ∧ ∀ j, j < 34 → r j = y.1.2.2.2.2.2.2 j) ∧ (∀ b, b < y.1.1 → J' 163 b = Int64.ofNat (pk 27 (y.1.2.2.2.2.1 b))) ∧ (∀ r, r < y.1.2.2.1 → J' 163 (8 + r) = Int64.ofNat (pk 27 (y.1.2.2.2.2.2.1 r))) ∧ (∀ q, q ≠ 156 → q ≠ 158 → ¬ XM q → I' q = I q) ∧ (∀ j, 14 ≤ j → j ≠ 23 → j ≠ 24 → I' 156 j = I 156 j) ∧ (∀ q, q ≠ 156 → q ≠ 163 → ¬ XM q → J' q = J q)
theorem plib_w (c : Nat → Nat) (z lim : Nat) : ∀ (f : Nat) (S : Lby) (u : Cu) (l : Nat), LWy S → u.2.2 ≤ z → u.2.1 ≤ lim → match pLib c z lim f S u l with | .inl x => 1 ≤ x.1 ∧ x.1 ≤ 4 ∧ x.2 ≤ lim | .inr y => LWy y.1 := by
  intro f
  induction f with
  | zero => intro S u l _ _ _; exact ⟨by show 1 ≤ 1; omega, by show 1 ≤ 4; omega, by show 0 ≤ lim; omega⟩
  | succ f ih =>
    intro S u l hw hz ha
    unfold pLib
    by_cases h0 : u.1.1 = 0
    · rw [if_pos h0]; exact hw
    rw [if_neg h0]
    have po := pLine_o c z lim S u hz ha hw
    cases hr : pLine c z lim S u with
    | inl x => rw [hr] at po; exact po
    | inr y =>
      rw [hr] at po
      obtain ⟨p1, p2, p3⟩ := po
      dsimp only
      by_cases hs : isg (lx c z lim y.2.2.2) 59 = true
      · rw [if_pos hs]
        exact ih _ _ _ p3 (lx_le c z lim _ (lx_le c z lim _ p2)) (lx_at c z lim _ (lx_le c z lim _ p2))
      · rw [if_neg hs]; exact ⟨by show 1 ≤ 1; omega, by show 1 ≤ 4; omega, lx_at c z lim _ p2⟩
theorem m_library (env : am_E) (d : Nat) (z : Nat) (hz : z ≤ 940) (c : Nat → Nat) (I : Nat → Nat → Int32) (J : Nat → Nat → Int64) (E : Nat → Nat → Nat) (h2 : I 156 2 = Int32.ofNat z) (ht : Tm I z c) : ∃ v I' J', am_ev env (d + 8, 205, 0, [some (.ref 156), none, none], [], am_hp I J E) = some (true, some (.int v), am_hp I' J' E) ∧ I' 156 2 = 0 ∧ mLo I J I' J' v (pLib c z 900 (z + 1) S00 (lx c z 900 0) 0) := by
  obtain ⟨I1, J1, k1, s1, t10, t0, t2, f1⟩ := m_begin env (d + 4) z 900 hz (by omega) 900 rfl c I J E h2 ht
  have hz1 := zcopy (fun b I => am_ev env (d + 8, 205, 9, [some (.ref 156), some (.int (Int32.ofNat b)), none], [], am_hp I J1 E)) I1 159 0 (fun _ => 0) 34 (fun b hb => by
    refine (bk_205_9 _ _ _ _ _ _).trans ?_
    rw [show decide ((34 : Int32) ≤ Int32.ofNat b) = false from zle_f 34 b hb (by omega)]
    simp (disch := omega) only [decide_true, decide_false, Bool.not_true, Bool.not_false, am_cont, Option.bind_some, Option.toList_some, Option.toList_none, List.singleton_append, List.nil_append, cond_true, cond_false, zI_in, zI_nat, am_u_r, ur_ur, ur_at, zd_1, Nat.zero_add])
  have g42 : am_ev env (d + 8, 205, 0, [some (.ref 156), none, none], [], am_hp I J E) = am_ev env (d + 8, 205, 42, [some (.ref 156), some (.int 0), none], [], am_hp (am_u (am_u (am_ur I1 159 (cpr (I1 159) 0 34 (fun _ => 0))) 156 23 0) 159 3 5) J1 E) := by
    refine (bk_205_0 _ _ _ _ _).trans ?_
    simp only [decide_true, decide_false, Bool.not_true, Bool.not_false, am_cont, Option.bind_some, Option.toList_some, Option.toList_none, List.singleton_append, List.nil_append, cond_true, cond_false, k1, bk_205_7]
    refine Eq.trans hz1 ?_
    refine (bk_205_9 _ _ _ _ _ _).trans ?_
    rw [show decide ((34 : Int32) ≤ Int32.ofNat 34) = true by decide, cond_true]
  have fr : GM (fun q => q = 159) (fun j => j = 23) I1 J1 (am_u (am_u (am_ur I1 159 (cpr (I1 159) 0 34 (fun _ => 0))) 156 23 0) 159 3 5) J1 := ⟨fun q a b => by rw [am_u_ng _ _ _ _ _ b, am_u_ng _ _ _ _ _ a, ur_ne _ _ _ _ b], fun j hj => by rw [am_u_ng _ _ _ _ _ (by omega), am_u_sg, if_neg hj, ur_ne _ _ _ _ (by omega)], fun _ _ _ => rfl⟩
  have s1a := MS_gm s1 fr (fun j hj => by omega) (by omega) rfl
  have l1 : MLy (am_u (am_u (am_ur I1 159 (cpr (I1 159) 0 34 (fun _ => 0))) 156 23 0) 159 3 5) J1 S00 := by
    refine ⟨fun j hj => ?_, ?_, fun b hb => absurd hb (Nat.not_lt_zero _), fun b hb => absurd hb (Nat.not_lt_zero _)⟩
    · show _ = if j = 3 then (5 : Int32) else 0
      have := cpr_in (I1 159) 0 34 (fun _ => 0) j hj
      rw [Nat.zero_add] at this
      rw [am_u_sg, am_u_ng _ _ _ _ _ (by omega), ur_at, this]
    · rw [am_u_ng _ _ _ _ _ (by omega), am_u_at]; rfl
  have hle := (lx_ge c z 900 0 (Nat.zero_le _)).1
  obtain ⟨I2, J2, F2, r2⟩ := m_libLoop env (d + 1) z hz c E (z + 1) S00 0 (lx c z 900 0) 0 _ J1 s1a l1 S00_w (by rw [fr.2.1 10 (by omega)]; exact t10) (Nat.zero_le _) rfl (by omega)
  have FA : GM XM (fun j => j ≤ 13 ∨ j = 23) I J I2 J2 := GM_tr (GM_mono f1 (fun q hq => hq.elim) (fun j hj => by omega)) (GM_tr (GM_mono fr (fun q hq => Or.inl hq) (fun j hj => Or.inr hj)) (GM_mono F2 (fun q hq => hq) (fun j hj => by unfold CM at hj; omega)))
  have e2 : I2 156 2 = 0 := by rw [F2.2.1 2 (by unfold CM; omega), fr.2.1 2 (by omega)]; exact t2
  have pw := plib_w c z 900 (z + 1) S00 (lx c z 900 0) 0 S00_w (lx_le c z 900 0 (Nat.zero_le _)) (lx_at c z 900 0 (Nat.zero_le _))
  cases hr : pLib c z 900 (z + 1) S00 (lx c z 900 0) 0 with
  | inl x =>
    rw [hr] at r2
    obtain ⟨r3, r4⟩ := r2
    exact ⟨-1 - Int32.ofNat x.2, I2, J2, g42.trans r3, e2, rfl, r4, FA.1, fun j a b => FA.2.1 j (by omega), FA.2.2⟩
  | inr y =>
    rw [hr] at r2 pw
    obtain ⟨r3, r4, r5⟩ := r2
    have hn := pw.1.1.2
    have hk := pw.1.2.1.2
    refine ⟨Int32.ofNat y.2, _, _, g42.trans (r3.trans (m_lib78 env (d + 6) (Int32.ofNat y.2) I2 J2 E)), ?_, rfl, ?_, ?_, ⟨cpr (I2 158) 0 34 (I2 159), ?_, fun j hj => ?_⟩, fun b hb => ?_, fun r hr => ?_, fun q a b e => ?_, fun j a b e => ?_, fun q a b e => ?_⟩
    · rw [am_u_sg, if_neg (by omega), ur_ne _ _ _ _ (by omega)]; exact e2
    · rw [am_u_sg, if_neg (by omega), ur_ne _ _ _ _ (by omega)]; exact r5
    · rw [am_u_at]
    · rw [am_u_ng _ _ _ _ _ (by omega), ur_at]
    · have := cpr_in (I2 158) 0 34 (I2 159) j hj
      rw [Nat.zero_add] at this
      rw [this]; exact r4.1 j hj
    · rw [ur_at]; unfold cpg; rw [if_pos (by omega)]; exact r4.2.2.1 b hb
    · rw [ur_at]; unfold cpg; rw [if_pos (by omega)]; exact r4.2.2.2 r hr
    · rw [am_u_ng _ _ _ _ _ a, ur_ne _ _ _ _ b]; exact FA.1 q a e
    · rw [am_u_sg, if_neg e, ur_ne _ _ _ _ (by omega)]; exact FA.2.1 j (by omega)
    · rw [ur_ne _ _ _ _ b]; exact FA.2.2 q a e
def XLf (q j : Nat) : Prop := XT q j ∨ (q = 0 ∧ j = 13) ∨ (q = 156 ∧ j = 10)
def XLs (q j : Nat) : Prop := XLf q j ∨ (5 ≤ q ∧ q ≤ 11) ∨ q = 158 ∨ q = 18
def PLb (I : Nat → Nat → Int32) (J : Nat → Nat → Int64) (E : Nat → Nat → Nat) (n k : Nat) (I2 : Nat → Nat → Int32) (J2 : Nat → Nat → Int64) (E2 : Nat → Nat → Nat) : Prop := RT I2 ∧ RV I2 ∧ (∀ q, ¬ CJ q → E2 q = E q) ∧ (((∃ t h, R1 I2 n k t h) ∧ frX XLf I I2 ∧ ∀ q, ¬ CJ q → J2 q = J q) ∨ ∃ n' k', (∃ t h, R1 I2 n' k' t h) ∧ RN J2 n' k' ∧ (∃ o, I2 5 4 = bi o) ∧ I2 18 0 = 0 ∧ I2 18 1 = 0 ∧ I2 158 70 = 0 ∧ frX XLs I I2 ∧ ∀ q, ¬ CJ q → (q < 5 ∨ 11 < q) → q ≠ 163 → J2 q = J q)
theorem k18 : decide (18 < 179) = true ∧ Nat.beq (am_K 18).1 5 = true := by decide +kernel
theorem op_library (env : am_E) (d : Nat) (I : Nat → Nat → Int32) (J : Nat → Nat → Int64) (E : Nat → Nat → Nat) (n k t h : Nat) (hR : R1 I n k t h) (hv : RT I) : opR3 (fun H => am_ev env (d + 20, 117, 0, [some (.ref 0), none], [], H)) (fun H => am_ev env (d + 20, 205, 0, [some (.ref 156), none, none], [], H)) I J E (PLb I J E n k) := by
  obtain ⟨z, hz, z1, z2, z3⟩ := id hv
  have hcT : Tp I z (fun j => (I 3 j).toNatClampNeg) := by
    refine ⟨z1, fun j hj => ?_⟩
    obtain ⟨c, hc, e⟩ := (z3 j hj).2
    dsimp only
    rw [e, zI_nat c (by omega)]
    exact ⟨rfl, hc⟩
  have hmT : ∀ j, j < z → I 157 j = Int32.ofNat (I 3 j).toNatClampNeg ∧ (I 3 j).toNatClampNeg < 256 := by
    intro j hj
    obtain ⟨c, hc, e⟩ := (z3 j hj).2
    rw [← (z3 j hj).1, e, zI_nat c (by omega)]
    exact ⟨rfl, hc⟩
  generalize hcc : (fun j => (I 3 j).toNatClampNeg) = c at hcT
  replace hmT : Tm I z c := by
    intro j hj
    have := hmT j hj
    rw [← hcc]; exact this
  have h24 : lbq 24 = true := by decide
  obtain ⟨v, I1, J1, E1, e1, F1, r1⟩ := c_readFrom env (d + 13) 24 h24 z hz c I J E hcT
  have g14 : am_ev env (d + 20, 117, 0, [some (.ref 0), none], [], am_hp I J E) = am_ev env (d + 20, 117, 14, [some (.ref 0), none], [.int v], am_hp I1 J1 E1) := by
    refine (bk_117_0 _ _ _ _ _).trans ?_
    rw [am_cont_some e1]
    rfl
  have ia : am_u (am_u I1 2 0 0) 0 13 ((am_u I1 2 0 0) 1 3) = am_u (am_u I1 2 0 0) 0 13 (I1 1 3) := by rw [am_u_ng I1 2 0 0 1 (by omega)]
  have ia13 : am_u (am_u I1 2 0 0) 0 13 (I1 1 3) 1 3 = I1 1 3 := by rw [am_u_ng _ _ _ _ _ (by omega), am_u_ng _ _ _ _ _ (by omega)]
  have ia14 : am_u (am_u I1 2 0 0) 0 13 (I1 1 3) 1 4 = I1 1 4 := by rw [am_u_ng _ _ _ _ _ (by omega), am_u_ng _ _ _ _ _ (by omega)]
  have Fa : ∀ q, q ≠ 0 → q ≠ 2 → am_u (am_u I1 2 0 0) 0 13 (I1 1 3) q = I1 q := fun q a b => by rw [am_u_ng _ _ _ _ _ a, am_u_ng _ _ _ _ _ b]
  have Fa2 : am_u (am_u I1 2 0 0) 0 13 (I1 1 3) 2 0 = 0 := by rw [am_u_ng _ _ _ _ _ (by omega), am_u_at]
  have Fa0 : am_u (am_u I1 2 0 0) 0 13 (I1 1 3) 0 13 = I1 1 3 := am_u_at _ _ _ _
  have Fb0 : ∀ j, j ≠ 13 → am_u (am_u I1 2 0 0) 0 13 (I1 1 3) 0 j = I 0 j := fun j hj => by rw [am_u_sg, if_neg hj, am_u_ng _ _ _ _ _ (by omega), F1.1 0 (by omega)]
  have g14b := bk_117_14 env (d + 19) v I1 J1 E1
  rw [ia, ia13, ia14] at g14b
  have pw := plib_w c z 900 (z + 1) S00 (lx c z 900 0) 0 S00_w (lx_le c z 900 0 (Nat.zero_le _)) (lx_at c z 900 0 (Nat.zero_le _))
  have ml := fun I0 J0 E0 (h2 : I0 156 2 = Int32.ofNat z) (h7 : I0 157 = I 157) => m_library env (d + 12) z hz c I0 J0 E0 h2 (fun j hj => by rw [h7]; exact hmT j hj)
  cases hr : pLib c z 900 (z + 1) S00 (lx c z 900 0) 0 with
  | inl x =>
    rw [hr] at r1 pw ml
    obtain ⟨q1, q2, q3, q4, q5⟩ := r1
    have hne : decide (I1 1 3 = (0 : Int32)) = false := by rw [q1]; exact (zI_deq _ 0 (by omega) (by omega)).trans (decide_eq_false (by omega))
    obtain ⟨w, I2, J2, e2, b2, b3, b4, b5, b6, b7⟩ := ml (am_u (am_u I1 2 0 0) 0 13 (I1 1 3)) J1 E1 (by rw [Fa 156 (by omega) (by omega), F1.1 156 (by omega)]; exact z2) (by rw [Fa 157 (by omega) (by omega), F1.1 157 (by omega)])
    have row : ∀ q j, q ≠ 0 → q ≠ 1 → q ≠ 2 → (q < 24 ∨ 30 < q) → q ≠ 156 → ¬ XM q → I2 q j = I q j := fun q j a1 a2 a3 a4 a5 a6 => by
      rw [b5 q a5 a6, Fa q a1 a3, F1.1 q (by omega)]
    have r156 : ∀ j, 14 ≤ j → j ≠ 23 → I2 156 j = I 156 j := fun j a b => by rw [b6 j a b, Fa 156 (by omega) (by omega), F1.1 156 (by omega)]
    have r0 : ∀ j, j ≠ 13 → I2 0 j = I 0 j := fun j a => by rw [b5 0 (by omega) (by unfold XM; omega), Fb0 j a]
    refine ⟨-1 - Int32.ofNat x.2, _, J1, E1, I2, J2, E1, g14.trans (g14b.trans ?_), e2.trans (by rw [b3]), ⟨0, by omega, ?_, b2, fun j hj => absurd hj (Nat.not_lt_zero _)⟩, ?_, fun q hq => F1.2.2 q (by unfold CJ at hq; omega), Or.inl ⟨⟨t, h, R1_ext I I2 n k t h (fun q j hq => ?_) hR⟩, fun q j hq hx => ?_, fun q hq => ?_⟩⟩
    · rw [hne, q2]; rfl
    · rw [b5 2 (by omega) (by unfold XM; omega)]; exact Fa2
    · show I2 0 13 = I2 156 10
      rw [b5 0 (by omega) (by unfold XM; omega), Fa0, b4, q1]
    · unfold KR at hq
      by_cases e : q = 156
      · subst e; exact r156 j (by omega) (by omega)
      · exact row q j (by omega) (by omega) (by omega) (by omega) e (by unfold XM; omega)
    · unfold C1 at hq
      unfold XLf XT at hx
      by_cases e : q = 156
      · subst e; exact r156 j (by omega) (by omega)
      · by_cases e0 : q = 0
        · subst e0; exact r0 j (by omega)
        · exact row q j e0 (by omega) (by omega) (by omega) e (by unfold XM; omega)
    · rw [b7 q (by unfold CJ at hq; omega) (by unfold CJ at hq; unfold XM; omega)]; exact F1.2.1 q (by unfold CJ at hq; omega)
  | inr y =>
    rw [hr] at r1 pw ml
    obtain ⟨q1, q2, q3, q4⟩ := r1
    have q2a : CLy 24 (am_u (am_u I1 2 0 0) 0 13 (I1 1 3)) J1 y.1 := CLy_fx (E := E1) (E1 := E1) (X := fun q => q = 0 ∨ q = 2) q2 ⟨fun q hq => Fa q (fun e => hq (Or.inl e)) (fun e => hq (Or.inr e)), fun _ _ => rfl, fun _ _ => rfl⟩ (fun q a b => by omega)
    obtain ⟨I3, J3, e3, c1, c2, c3, c4, c5⟩ := c_libCopy env (d + 18) 5 24 (by decide) h24 (by omega) y.1.2.2.2.1 (am_u (am_u I1 2 0 0) 0 13 (I1 1 3)) J1 E1 q2a.2.2.2.2.1
    have l3 : CLy 5 I3 J3 y.1 := CLy_copy q2a q4 c3 c4 c5
    obtain ⟨I4, e4, d1, d2, d3, d4⟩ := c_begin73 env (d + 17) I3 J3 E1
    have hn := pw.1.1.2
    have hk := pw.1.2.1.2
    obtain ⟨w1, w2, w3, w4, w5, w6⟩ := id pw
    obtain ⟨l31, l32, l33, l34, l35, l36, l37⟩ := l3
    generalize hI5 : am_u (am_u (am_u I4 18 0 0) 18 1 0) 43 2 0 = I5 at *
    have f5 : ∀ q, q ≠ 18 → q ≠ 43 → I5 q = I4 q := fun q a b => by rw [← hI5, am_u_ng _ _ _ _ _ b, am_u_ng _ _ _ _ _ a, am_u_ng _ _ _ _ _ a]
    have f5a : I5 18 0 = 0 := by rw [← hI5, am_u_ng _ _ _ _ _ (by omega), am_u_sg, if_neg (by omega), am_u_at]
    have f5b : I5 18 1 = 0 := by rw [← hI5, am_u_ng _ _ _ _ _ (by omega), am_u_at]
    have f5c : ∀ j, I5 43 j = if j = 2 then 0 else I4 43 j := fun j => by rw [← hI5, am_u_sg, am_u_ng _ _ _ _ _ (by omega), am_u_ng _ _ _ _ _ (by omega)]
    have fi : ∀ q, q ≠ 0 → q ≠ 1 → q ≠ 2 → (q < 5 ∨ 18 < q) → (q < 24 ∨ 30 < q) → q ≠ 43 → I5 q = I q := fun q a1 a2 a3 a4 a5 a6 => by
      rw [f5 q (by omega) a6, d1 q (by omega), c1 q (by omega), Fa q a1 a3, F1.1 q (by omega)]
    obtain ⟨w, I2, J2, e2, b2, b3, b4, b5, ⟨rr, b6, b6'⟩, b7, b8, b9, b10, b11⟩ := ml I5 J3 E1 (by rw [fi 156 (by omega) (by omega) (by omega) (by omega) (by omega) (by omega)]; exact z2) (by rw [fi 157 (by omega) (by omega) (by omega) (by omega) (by omega) (by omega)])
    have fq : ∀ q, q ≠ 156 → q ≠ 158 → ¬ XM q → I2 q = I5 q := b9
    have hIL : IvL rr y.1.1 y.1.2.2.1 := IvL_low b6' w1
    refine ⟨Int32.ofNat y.2, I5, J3, E1, I2, J2, E1, g14.trans (g14b.trans ?_), e2.trans (by rw [b3]), ⟨0, by omega, ?_, b2, fun j hj => absurd hj (Nat.not_lt_zero _)⟩, ?_, fun q hq => F1.2.2 q (by unfold CJ at hq; omega), Or.inr ⟨y.1.1, y.1.2.2.1, ⟨t, 0, ?_, ?_, ?_, ?_, ?_⟩, ?_, ?_, ?_, ?_, ?_, ?_, ?_⟩⟩
    · rw [show decide (I1 1 3 = (0 : Int32)) = true from decide_eq_true q3]
      simp only [decide_true, decide_false, Bool.not_true, Bool.not_false, am_cont, Option.bind_some, Option.toList_some, Option.toList_none, List.singleton_append, List.nil_append, cond_true, cond_false, e3, bk_117_71, e4, bk_117_88, bk_54_0, k18.1, k18.2, Bool.and_self, bk_117_98, bk_11_0, bk_117_105, hI5]
      rw [q1]
    · rw [fq 2 (by omega) (by omega) (by unfold XM; omega), f5 2 (by omega) (by omega), d1 2 (by omega), c1 2 (by omega)]; exact Fa2
    · show I2 0 13 = I2 156 10
      rw [fq 0 (by omega) (by omega) (by unfold XM; omega), f5 0 (by omega) (by omega), d1 0 (by omega), c1 0 (by omega), Fa0, b4, q3]
    · rw [b6]; exact IvL_low (fun j hj => soR_lo rr j hj) hIL
    · rw [b6]; exact IvS_start hIL
    · have lib : ∀ q, 5 ≤ q → q ≤ 11 → I2 q = I3 q := fun q a b => by rw [fq q (by omega) (by omega) (by unfold XM; omega), f5 q (by omega) (by omega), d1 q (by omega)]
      have sta : ∀ q, 12 ≤ q → q ≤ 17 → I2 q = I4 q := fun q a b => by rw [fq q (by omega) (by omega) (by unfold XM; omega), f5 q (by omega) (by omega)]
      intro j hj
      unfold rel at hj
      rw [b6]
      unfold rS
      by_cases j1 : j < 4
      · rw [if_pos j1, lib 5 (by omega) (by omega), soR_lo rr j (by omega), b6' j (by omega)]
        rcases (show j = 0 ∨ j = 1 ∨ j = 2 ∨ j = 3 by omega) with rfl | rfl | rfl | rfl
        · rw [l31, w1.1.1]
        · rw [l32, w2]
        · rw [l33, w1.2.1.1]
        · exact l34
      rw [if_neg j1]
      by_cases j2 : j < 12
      · rw [if_pos j2, lib 7 (by omega) (by omega), soR_lo rr j (by omega), b6' j (by omega)]
        have := (l36 (j - 4) (by omega)).1
        rw [show 4 + (j - 4) = j by omega] at this; exact this
      rw [if_neg j2]
      by_cases j3 : j < 20
      · rw [if_pos j3, lib 8 (by omega) (by omega), soR_lo rr j (by omega), b6' j (by omega)]
        have := (l36 (j - 12) (by omega)).2.1
        rw [show 12 + (j - 12) = j by omega] at this; exact this
      rw [if_neg j3]
      by_cases j4 : j < 28
      · rw [if_pos j4, lib 9 (by omega) (by omega), soR_lo rr j (by omega), b6' j (by omega)]
        have := (l36 (j - 20) (by omega)).2.2.1
        rw [show 20 + (j - 20) = j by omega] at this; exact this
      rw [if_neg j4]
      by_cases j5 : j < 34
      · rw [if_pos j5, lib 11 (by omega) (by omega), soR_lo rr j (by omega), b6' j (by omega)]
        have := (l37 (j - 28) (by omega)).1
        rw [show 28 + (j - 28) = j by omega] at this; exact this
      rw [if_neg j5]
      by_cases j6 : j < 38
      · rw [if_pos j6, sta 12 (by omega) (by omega), d2 _ (by omega), soR_0 rr j (by omega)]
      rw [if_neg j6]
      by_cases j7 : j < 46
      · rw [if_pos j7, sta 13 (by omega) (by omega), d3 _ (by omega)]
        have := soR_in rr (j - 38) (by omega)
        rw [show 38 + (j - 38) = j by omega] at this
        rw [this, b6' _ (by omega)]
        exact (l36 (j - 38) (by omega)).2.1
      rw [if_neg j7]
      by_cases j8 : j < 52
      · rw [if_pos j8, sta 14 (by omega) (by omega), (d4 _ (by omega)).1]
        have := soR_has rr (j - 46) (by omega)
        rw [show 46 + (j - 46) = j by omega] at this
        rw [this]
      rw [if_neg j8, soR_0 rr j (by omega)]
      by_cases j9 : j < 58
      · rw [if_pos j9, sta 15 (by omega) (by omega)]; exact (d4 _ (by omega)).2.1
      rw [if_neg j9]
      by_cases j10 : j < 64
      · rw [if_pos j10, sta 16 (by omega) (by omega)]; exact (d4 _ (by omega)).2.2.1
      rw [if_neg j10, if_pos (by omega), sta 17 (by omega) (by omega)]; exact (d4 _ (by omega)).2.2.2
    · obtain ⟨s1, s2, s3, s4, s5⟩ := hR.2.2.2.1
      refine ⟨s1, by omega, ?_, ?_, b5⟩
      · rw [fq 43 (by omega) (by omega) (by unfold XM; omega), f5c, if_neg (by omega), d1 43 (by omega), c1 43 (by omega), Fa 43 (by omega) (by omega), F1.1 43 (by omega)]; exact s3
      · rw [fq 43 (by omega) (by omega) (by unfold XM; omega), f5c, if_pos rfl]; rfl
    · intro i hi; exact absurd hi (Nat.not_lt_zero _)
    · refine ⟨y.1.2.2.2.2.1, y.1.2.2.2.2.2.1, fun b hb => ⟨w5 b hb, ?_, b7 b hb⟩, fun r hr => ⟨w6 r hr, ?_, b8 r hr⟩⟩
      · rw [b11 6 (by omega) (by omega) (by unfold XM; omega)]; exact (l36 b hb).2.2.2
      · rw [b11 10 (by omega) (by omega) (by unfold XM; omega)]; exact (l37 r hr).2
    · exact ⟨y.1.2.2.2.1, by rw [fq 5 (by omega) (by omega) (by unfold XM; omega), f5 5 (by omega) (by omega), d1 5 (by omega)]; exact l35⟩
    · rw [fq 18 (by omega) (by omega) (by unfold XM; omega)]; exact f5a
    · rw [fq 18 (by omega) (by omega) (by unfold XM; omega)]; exact f5b
    · rw [b6]; exact soR_0 rr 70 (by omega)
    · intro q j hq hx
      unfold C1 at hq
      unfold XLs XLf XT at hx
      by_cases e : q = 156
      · subst e
        rw [b10 j (by omega) (by omega) (by omega), fi 156 (by omega) (by omega) (by omega) (by omega) (by omega) (by omega)]
      · rw [fq q e (by omega) (by unfold XM; omega)]
        by_cases e0 : q = 0
        · subst e0
          rw [f5 0 (by omega) (by omega), d1 0 (by omega), c1 0 (by omega)]; exact Fb0 j (by omega)
        · rw [fi q e0 (by omega) (by omega) (by omega) (by omega) (by omega)]
    · intro q hq a e
      rw [b11 q (by unfold CJ at hq; omega) e (by unfold CJ at hq; unfold XM; omega), c2 q a]
      exact F1.2.1 q (by unfold CJ at hq; omega)
