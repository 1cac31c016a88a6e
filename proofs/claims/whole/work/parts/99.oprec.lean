/-! record: class and reference side by side -/
def cRc (I I' : Nat → Nat → Int32) (k lv t h : Nat) (v : Int32) (res : (Nat × Nat) ⊕ (Nat × (Nat → Rl))) : Prop := match res with
  | .inl x => v = -2 - Int32.ofNat x.2 ∧ I' 0 13 = Int32.ofNat x.1 ∧ I' 2 0 = 0 ∧ (∀ j, j ≠ 13 → I' 0 j = I 0 j) ∧ ∀ q, q ≠ 0 → q ≠ 1 → q ≠ 2 → (q < 99 ∨ 103 < q) → I' q = I q
  | .inr y => v = (bif decide ((rgo y.2 k y.1 0 (rS I 12)).2.1 = 0) then -1 else Int32.ofNat (rgo y.2 k y.1 0 (rS I 12)).1) ∧ ∃ Ib, I' = (if lv = 1 ∧ 0 < (rgo y.2 k y.1 0 (rS I 12)).1 then cA Ib t h 0 (rgo y.2 k y.1 0 (rS I 12)).2.2 else Ib) ∧ Ib 0 13 = 0 ∧ Ib 2 0 = 0 ∧ (Ib 115 0 = (rgo y.2 k y.1 0 (rS I 12)).2.1 ∧ Ib 115 1 = Int32.ofNat (rgo y.2 k y.1 0 (rS I 12)).1 ∧ Ib 115 2 = (rgo y.2 k y.1 0 (rS I 12)).2.2 34 ∧ Ib 115 3 = accD (rgo y.2 k y.1 0 (rS I 12)).2.2) ∧ (∀ j, j ≠ 13 → Ib 0 j = I 0 j) ∧ ∀ q, q ≠ 0 → q ≠ 1 → q ≠ 2 → (q < 31 ∨ 36 < q) → (q < 99 ∨ 103 < q) → q ≠ 115 → Ib q = I q
theorem c_record (env : am_E) (d : Nat) (z : Nat) (hz : z ≤ 940) (c : Nat → Nat) (n k : Nat) (T U : Nat → List Nat) (lv : Nat) (hlv : lv < 2) (t h : Nat) (ht9 : t < 9) (hh : h ≤ 8) (I : Nat → Nat → Int32) (J : Nat → Nat → Int64) (E : Nat → Nat → Nat) (htp : Tp I z c) (hm : NMc I J n k T U) (hv : IvL (rS I 12) n k) (hs : IvS (rS I 12) n k) (e1 : I 43 1 = Int32.ofNat t) (e2 : I 43 2 = Int32.ofNat h) : ∃ v I' J' E', am_ev env (d + 20, 162, 0, [some (.ref 0), some (.int (Int32.ofNat lv)), none], [], am_hp I J E) = some (true, some (.int v), am_hp I' J' E') ∧ (∀ q, ¬ X8 q → J' q = J q) ∧ (∀ q, ¬ X8 q → E' q = E q) ∧ cRc I I' k lv t h v (rRec c z 400 n k T U (z + 1) 0 (fun _ => (0, 0, 0, 0)) (lx c z 400 0)) := by
  obtain ⟨I1, J1, E1, k1, F1, r1⟩ := c_recRead env (d + 13) z hz c n k T U I J E htp hm
  have po := rRec_o c z 400 n k T U (z + 1) 0 (fun _ => (0, 0, 0, 0)) (lx c z 400 0) (lx_le c z 400 0 (Nat.zero_le _)) (lx_at c z 400 0 (Nat.zero_le _)) (by omega) (fun a ha => absurd ha (Nat.not_lt_zero _))
  have ia : am_u (am_u I1 2 0 0) 0 13 ((am_u I1 2 0 0) 1 3) = am_u (am_u I1 2 0 0) 0 13 (I1 1 3) := by rw [am_u_ng I1 2 0 0 1 (by omega)]
  generalize hIa : am_u (am_u I1 2 0 0) 0 13 (I1 1 3) = Ia at ia
  have a13 : Ia 1 3 = I1 1 3 := by rw [← hIa, am_u_ng _ _ _ _ _ (by omega), am_u_ng _ _ _ _ _ (by omega)]
  have a14 : Ia 1 4 = I1 1 4 := by rw [← hIa, am_u_ng _ _ _ _ _ (by omega), am_u_ng _ _ _ _ _ (by omega)]
  have aq : ∀ q, q ≠ 0 → q ≠ 2 → Ia q = I1 q := fun q a b => by rw [← hIa, am_u_ng _ _ _ _ _ a, am_u_ng _ _ _ _ _ b]
  have a20 : Ia 2 0 = 0 := by rw [← hIa, am_u_ng _ _ _ _ _ (by omega), am_u_at]
  have a0 : Ia 0 13 = I1 1 3 := by rw [← hIa, am_u_at]
  have a0j : ∀ j, j ≠ 13 → Ia 0 j = I 0 j := fun j hj => by rw [← hIa, am_u_sg, if_neg hj, am_u_ng _ _ _ _ _ (by omega), F1.1 0 (by omega)]
  have ao : ∀ q, q ≠ 0 → q ≠ 1 → q ≠ 2 → (q < 99 ∨ 103 < q) → Ia q = I q := fun q b1 b2 b3 b4 => by rw [aq q b1 b3, F1.1 q (by omega)]
  have g31 : am_ev env (d + 20, 162, 0, [some (.ref 0), some (.int (Int32.ofNat lv)), none], [], am_hp I J E) = (bif decide (I1 1 3 = 0) then am_cont env (d + 19, 74, 0, [some (.ref 31), some (.ref 12)], [], am_hp Ia J1 E1) (d + 20) 162 88 [some (.ref 0), some (.int (Int32.ofNat lv)), none] [] else some (true, some (.int (-2 - I1 1 4)), am_hp Ia J1 E1)) := by
    have s13 : am_ev env (d + 20, 162, 0, [some (.ref 0), some (.int (Int32.ofNat lv)), none], [], am_hp I J E) = am_ev env (d + 20, 162, 13, [some (.ref 0), some (.int (Int32.ofNat lv)), none], [], am_hp I J E) := by
      refine (bk_162_0 _ _ _ _ _ _).trans ?_
      rw [show decide (Int32.ofNat lv = (0 : Int32)) = decide (lv = 0) from zI_deq lv 0 (by omega) (by omega), show decide (Int32.ofNat lv = (1 : Int32)) = decide (lv = 1) from zI_deq lv 1 (by omega) (by omega)]
      by_cases q : lv = 0
      · rw [decide_eq_true q]; rfl
      · rw [decide_eq_false q, decide_eq_true (by omega : lv = 1)]; rfl
    refine s13.trans ((bk_162_13 _ _ _ _ _ _).trans ?_)
    rw [am_cont_some k1]
    refine (bk_162_31 _ _ _ _ _ _).trans ?_
    rw [ia, a13, a14]
  cases hr : rRec c z 400 n k T U (z + 1) 0 (fun _ => (0, 0, 0, 0)) (lx c z 400 0) with
  | inl x =>
    rw [hr] at r1 po
    obtain ⟨q1, q2⟩ := r1
    refine ⟨-2 - Int32.ofNat x.2, Ia, J1, E1, g31.trans ?_, F1.2.1, F1.2.2, rfl, by rw [a0]; exact q1, a20, a0j, ao⟩
    rw [show decide (I1 1 3 = (0 : Int32)) = false by rw [q1]; exact (zI_deq _ 0 (by omega) (by omega)).trans (decide_eq_false (by omega)), q2]
    rfl
  | inr y =>
    rw [hr] at r1 po
    obtain ⟨q1, q2, q3⟩ := r1
    obtain ⟨po1, po2⟩ := po
    have hrs : rS Ia 12 = rS I 12 := rS_congr I Ia 12 (fun q hq => ao q (by omega) (by omega) (by omega) (by omega))
    have hlive := c_live env (d + 12) y.1 po1 n k y.2 po2 Ia J1 E1 (rS Ia 12) (rS_lb Ia 12) (by rw [hrs]; exact hv) (by rw [hrs]; exact hs) (by rw [aq 99 (by omega) (by omega)]; exact q2) (fun i hi => CLn_k (q3 i hi) (fun q a b => by rw [aq q (by omega) (by omega)]))
    have hcp := c_copy env (d + 18) 31 12 st31 st12 (by omega) Ia J1 E1
    rw [hrs] at hlive hcp
    obtain ⟨ok1, ok2, ok3, ok4⟩ := rgo_ok y.2 n k y.1 0 (rS I 12) (fun a ha => po2 a (by omega)) hv hs
    unfold cRc
    dsimp only
    generalize rgo y.2 k y.1 0 (rS I 12) = g at hlive ok1 ok2 ok3 ok4 ⊢
    obtain ⟨gi, gc, gm⟩ := g
    dsimp only at hlive ok1 ok2 ok3 ok4 ⊢
    generalize hIf : am_u (am_u (am_u (am_u (am_u Ia 99 0 gc) 115 0 gc) 115 1 (Int32.ofNat gi)) 115 2 (gm 34)) 115 3 (accD gm) = If
    have fq : ∀ q, q ≠ 99 → q ≠ 115 → If q = Ia q := fun q a b => by rw [← hIf, am_u_ng _ _ _ _ _ b, am_u_ng _ _ _ _ _ b, am_u_ng _ _ _ _ _ b, am_u_ng _ _ _ _ _ b, am_u_ng _ _ _ _ _ a]
    have f99 : If 99 0 = gc := by rw [← hIf, am_u_ng _ _ _ _ _ (by omega), am_u_ng _ _ _ _ _ (by omega), am_u_ng _ _ _ _ _ (by omega), am_u_ng _ _ _ _ _ (by omega), am_u_at]
    have f115 : If 115 0 = gc ∧ If 115 1 = Int32.ofNat gi ∧ If 115 2 = gm 34 ∧ If 115 3 = accD gm := by
      rw [← hIf]
      refine ⟨?_, ?_, ?_, ?_⟩
      · rw [am_u_sg, if_neg (by omega), am_u_sg, if_neg (by omega), am_u_sg, if_neg (by omega), am_u_at]
      · rw [am_u_sg, if_neg (by omega), am_u_sg, if_neg (by omega), am_u_at]
      · rw [am_u_sg, if_neg (by omega), am_u_at]
      · rw [am_u_at]
    have bq : ∀ q, q < 31 ∨ 36 < q → pS If 31 gm q = If q := fun q hq => ps_ne _ _ _ _ (by omega)
    have g161 : am_ev env (d + 20, 162, 0, [some (.ref 0), some (.int (Int32.ofNat lv)), none], [], am_hp I J E) = (bif !(decide (lv = 1)) then am_ev env (d + 20, 162, 209, [some (.ref 0), some (.int (Int32.ofNat lv)), some (.int (Int32.ofNat gi))], [], am_hp (pS If 31 gm) J1 E1) else (bif decide (gi ≤ 0) then am_ev env (d + 20, 162, 209, [some (.ref 0), some (.int (Int32.ofNat lv)), some (.int (Int32.ofNat gi))], [], am_hp (pS If 31 gm) J1 E1) else am_cont env (d + 19, 8, 0, [some (.ref 43), some (.ref 12)], [], am_hp (pS If 31 gm) J1 E1) (d + 20) 162 185 [some (.ref 0), some (.int (Int32.ofNat lv)), some (.int (Int32.ofNat gi))] [])) := by
      refine g31.trans ?_
      rw [decide_eq_true q1, cond_true, am_cont_some hcp]
      refine (bk_162_88 _ _ _ _ _ _).trans ?_
      rw [am_cont_some hlive]
      refine (bk_162_109 _ _ _ _ _ _ _).trans ?_
      have h99 : pS (am_u Ia 99 0 gc) 31 gm 99 0 = gc := by rw [ps_ne _ _ _ _ (by omega), am_u_at]
      rw [h99, ps_setout _ 31 gm 115 0 _ (sx115 0), ps_setout _ 31 gm 115 1 _ (sx115 1), ps_g0, ps_setout _ 31 gm 115 2 _ (sx115 2), am_cont_some (c_readByAny env (d + 18) 31 st31 _ J1 E1 gm)]
      refine (bk_162_161 _ _ _ _ _ _ _ _ _).trans ?_
      rw [zN3.1, zN3.2, ps_setout _ 31 gm 115 3 _ (sx115 3), hIf, show decide (Int32.ofNat lv = (1 : Int32)) = decide (lv = 1) from zI_deq lv 1 (by omega) (by omega), show decide (Int32.ofNat gi ≤ (0 : Int32)) = decide (gi ≤ 0) from zle_d gi 0 (by omega) (by omega)]
      rfl
    have fin : ∀ I0 : Nat → Nat → Int32, I0 99 0 = gc → am_ev env (d + 20, 162, 209, [some (.ref 0), some (.int (Int32.ofNat lv)), some (.int (Int32.ofNat gi))], [], am_hp I0 J1 E1) = some (true, some (.int (bif decide (gc = 0) then -1 else Int32.ofNat gi)), am_hp I0 J1 E1) := by
      intro I0 h0
      refine (bk_162_209 _ _ _ _ _ _ _).trans ?_
      rw [h0]
      simp only [bk_162_224]
      cases decide (gc = 0) <;> rfl
    have ibq : ∀ q, q ≠ 0 → q ≠ 1 → q ≠ 2 → (q < 31 ∨ 36 < q) → (q < 99 ∨ 103 < q) → q ≠ 115 → pS If 31 gm q = I q := fun q b1 b2 b3 b4 b5 b6 => by rw [bq q b4, fq q (by omega) b6]; exact ao q b1 b2 b3 b5
    have b43 : pS If 31 gm 43 = I 43 := ibq 43 (by omega) (by omega) (by omega) (by omega) (by omega) (by omega)
    refine ⟨bif decide (gc = 0) then -1 else Int32.ofNat gi, (if lv = 1 ∧ 0 < gi then cA (pS If 31 gm) t h 0 gm else pS If 31 gm), J1, E1, g161.trans ?_, F1.2.1, F1.2.2, rfl, pS If 31 gm, rfl, ?_, ?_, ?_, ?_, ibq⟩
    · by_cases hl1 : lv = 1
      · by_cases hg0 : gi ≤ 0
        · rw [decide_eq_true hl1, decide_eq_true hg0, if_neg (by omega)]
          exact fin _ (by rw [bq 99 (by omega)]; exact f99)
        · rw [decide_eq_true hl1, decide_eq_false hg0, if_pos (by omega)]
          have hho := c_hold env (d + 17) t ht9 (pS If 31 gm) J1 E1 (by rw [b43]; exact e1)
          have hke := c_keep env (d + 18) t h ht9 hh (hd (pS If 31 gm) t) J1 E1 (by rw [hd_q _ t 43 ht9 (by omega), b43]; exact e1) (by rw [hd_q _ t 43 ht9 (by omega), b43]; exact e2)
          have hc2 := c_copy env (d + 18) 12 31 st12 st31 (by omega) (kp (hd (pS If 31 gm) t) t h) J1 E1
          have hcA : pS (kp (hd (pS If 31 gm) t) t h) 12 (rS (kp (hd (pS If 31 gm) t) t h) 31) = cA (pS If 31 gm) t h 0 gm := by
            show _ = kp (pS (hd (pS If 31 gm) t) 12 gm) t h
            unfold kp
            rw [ps_ne (hd (pS If 31 gm) t) 12 gm 43 (by omega), ps_ur _ 12 gm 43 _ (by omega)]
            refine ps_ext _ 12 _ _ (fun a ha1 ha2 => ?_)
            have hr1 : rS (am_ur (hd (pS If 31 gm) t) 43 (ru (ru (hd (pS If 31 gm) t 43) 1 (Int32.ofNat ((t + 1) % 9))) 2 (Int32.ofNat (sns h)))) 31 = rS (pS If 31 gm) 31 := rS_congr _ _ 31 (fun q hq => by rw [ur_ne _ _ _ _ (by omega), hd_q _ t q ht9 (by omega)])
            rw [hr1, rS_pS If 31 gm (by omega) (fun j hj => ?_) a ha2]
            rw [ok2 j (Or.inl hj), rS_low I 12 31 j hj]
            have : rS If 31 j = rS I 31 j := by
              have e := rS_congr If (fun q => if q < 31 then I q else If q) 31 (fun q hq => by
                by_cases hq2 : q < 31
                · show (if q < 31 then I q else If q) = If q
                  rw [if_pos hq2, fq q (by omega) (by omega), ao q (by omega) (by omega) (by omega) (by omega)]
                · show (if q < 31 then I q else If q) = If q
                  rw [if_neg hq2])
              rw [← e]
              unfold rS
              by_cases j1 : j < 4
              · rw [if_pos j1, if_pos j1]; rfl
              rw [if_neg j1, if_neg j1]
              by_cases j2 : j < 12
              · rw [if_pos j2, if_pos j2]; rfl
              rw [if_neg j2, if_neg j2]
              by_cases j3 : j < 20
              · rw [if_pos j3, if_pos j3]; rfl
              rw [if_neg j3, if_neg j3]
              by_cases j4 : j < 28
              · rw [if_pos j4, if_pos j4]; rfl
              rw [if_neg j4, if_neg j4, if_pos hj, if_pos hj]; rfl
            exact this.symm
          show am_cont _ _ _ _ _ _ _ = _
          rw [am_cont_some hho]
          refine (bk_162_185 _ _ _ _ _ _ _).trans ?_
          rw [am_cont_some hke]
          refine (bk_162_192 _ _ _ _ _ _ _).trans ?_
          rw [am_cont_some hc2, hcA]
          exact fin _ (by rw [cA_hi _ t h ht9 0 gm 99 (by omega), bq 99 (by omega)]; exact f99)
      · rw [decide_eq_false hl1, if_neg (by omega)]
        exact fin _ (by rw [bq 99 (by omega)]; exact f99)
    · rw [bq 0 (by omega), fq 0 (by omega) (by omega), a0]; exact q1
    · rw [bq 2 (by omega), fq 2 (by omega) (by omega)]; exact a20
    · rw [bq 115 (by omega)]; exact f115
    · intro j hj
      rw [bq 0 (by omega), fq 0 (by omega) (by omega)]; exact a0j j hj
def XRc (q j : Nat) : Prop := XLf q j ∨ q = 115 ∨ q = 176 ∨ (q = 156 ∧ j = 46)
def PRc (I : Nat → Nat → Int32) (J : Nat → Nat → Int64) (E : Nat → Nat → Nat) (n k : Nat) (I2 : Nat → Nat → Int32) (J2 : Nat → Nat → Int64) (E2 : Nat → Nat → Nat) : Prop := (∃ t h, R1 I2 n k t h) ∧ RT I2 ∧ RV I2 ∧ RTo I2 ∧ frX XRc I I2 ∧ (∀ q, ¬ CJ q → q ≠ 175 → J2 q = J q) ∧ ∀ q, ¬ CJ q → E2 q = E q
theorem accD_agr {n k : Nat} {m m' : Nat → Int32} (h : Agr n k m m') : accD m = accD m' := by
  unfold accD
  exact lp_congr _ _ _ _ (fun r a hr => by rw [h (64 + r) (by unfold rel; omega)])
theorem op_record (env : am_E) (d : Nat) (I : Nat → Nat → Int32) (J : Nat → Nat → Int64) (E : Nat → Nat → Nat) (n k t h : Nat) (hR : R1 I n k t h) (hv : RT I) (hV : RV I) (hTo : RTo I) (hN : RN J n k) (x : Int32) : opR3 (fun H => am_ev env (d + 20, 162, 0, [some (.ref 0), some (.int x), none], [], H)) (fun H => am_ev env (d + 20, 285, 0, [some (.ref 156), some (.int x), none, none], [], H)) I J E (PRc I J E n k) := by
  obtain ⟨hn, hk, ht, hh, e1, e2, e3, f0, f2, g0, g2⟩ := R1_f I n k t h hR
  obtain ⟨r1, r2, r3, r4, r5⟩ := id hR
  obtain ⟨z, hz, z1, z2, z3⟩ := id hv
  have e31 : (1 : Int32) = Int32.ofNat 2 - 1 := by decide
  rcases zI_tri x 2 (by omega) with ⟨h1, -⟩ | ⟨lv, hlv, rfl⟩
  · have keep : RT (th0 I) := ⟨z, hz, by rw [th0_ne I 2 (by omega)]; exact z1, by rw [th0_at I 2 (by omega)]; exact z2, fun j hj => by rw [th0_ne I 3 (by omega), th0_ne I 157 (by omega)]; exact z3 j hj⟩
    refine ⟨-1000, I, J, E, th0 I, J, E, ?_, ?_, ⟨t, h, R1_th0 I n k t h hR⟩, keep, ?_, ?_, fun q j hq _ => th0_fr I q j hq, fun _ _ _ => rfl, fun _ _ => rfl⟩
    · refine (bk_162_0 _ _ _ _ _ _).trans ?_
      rw [decide_eq_false (fun e => by rw [e] at h1; exact absurd h1 (by decide)), decide_eq_false (fun e => by rw [e] at h1; exact absurd h1 (by decide))]
      rfl
    · refine (bk_285_0 _ _ _ _ _ _).trans ?_
      have hin : (!decide (x < (0 : Int32)) && !decide ((1 : Int32) < x)) = false := by rw [e31, zI_inb x 2 (by omega)]; exact h1
      rw [th0_u]
      simp only [decide_true, decide_false, Bool.not_true, Bool.not_false, am_cont, Option.bind_some, Option.toList_some, Option.toList_none, List.singleton_append, List.nil_append, cond_true, cond_false, m_isIn, hin, bk_285_11, bi_f, zq_0_0]
    · show th0 I 0 13 = th0 I 156 10
      rw [th0_ne I 0 (by omega), th0_at I 10 (by omega)]; exact hV
    · unfold RTo
      rw [th0_at I 46 (by omega), th0_ne I 115 (by omega), th0_ne I 176 (by omega)]; exact hTo
  · obtain ⟨T, U, nT, nU⟩ := hN
    have hcT : Tp I z (fun j => (I 3 j).toNatClampNeg) := by
      refine ⟨z1, fun j hj => ?_⟩
      obtain ⟨c, hc, e⟩ := (z3 j hj).2
      dsimp only
      rw [e, zI_nat c (by omega)]
      exact ⟨rfl, hc⟩
    have hmT : ∀ j, j < z → I 157 j = Int32.ofNat (I 3 j).toNatClampNeg ∧ (I 3 j).toNatClampNeg < 256 := by
      intro j hj
      obtain ⟨c, hc, e⟩ := (z3 j hj).2
      rw [← (z3 j hj).1, e, zI_nat c (by omega)]
      exact ⟨rfl, hc⟩
    generalize hcc : (fun j => (I 3 j).toNatClampNeg) = c at hcT
    replace hmT : Tm I z c := by
      intro j hj
      have := hmT j hj
      rw [← hcc]; exact this
    have ivl : IvL (rS I 12) n k := IvL_agr (agr_symm r3) r1
    have ivs : IvS (rS I 12) n k := IvS_agr (agr_symm r3) r2
    obtain ⟨v, I1, J1, E1, c1, cJ, cE, cr⟩ := c_record env d z hz c n k T U lv hlv t h ht hh I J E hcT ⟨⟨f0, hn⟩, ⟨f2, hk⟩, fun b hb => ⟨(nT b hb).1, (nT b hb).2.1⟩, fun b hb => ⟨(nU b hb).1, (nU b hb).2.1⟩⟩ ivl ivs e1 e2
    have po := rRec_o c z 400 n k T U (z + 1) 0 (fun _ => (0, 0, 0, 0)) (lx c z 400 0) (lx_le c z 400 0 (Nat.zero_le _)) (lx_at c z 400 0 (Nat.zero_le _)) (by omega) (fun a ha => absurd ha (Nat.not_lt_zero _))
    have mr := fun (i156 : I1 156 = I 156) (i157 : I1 157 = I 157) (i158 : I1 158 = I 158) => m_record env (d + 11) z hz c n k T U lv hlv h hh I1 J1 E1 (by rw [i156]; exact z2) (fun j hj => by rw [i157]; exact hmT j hj) ⟨⟨by rw [i158]; exact g0, hn⟩, ⟨by rw [i158]; exact g2, hk⟩, fun b hb => ⟨(nT b hb).1, by rw [cJ 163 (by unfold X8; omega)]; exact (nT b hb).2.2⟩, fun b hb => ⟨(nU b hb).1, by rw [cJ 163 (by unfold X8; omega)]; exact (nU b hb).2.2⟩⟩ (by rw [i158]; exact r1) (by rw [i158]; exact r2) (by rw [i156]; exact e3)
    cases hr : rRec c z 400 n k T U (z + 1) 0 (fun _ => (0, 0, 0, 0)) (lx c z 400 0) with
    | inl y =>
      rw [hr] at cr mr po
      obtain ⟨a1, a2, a3, a4, a5⟩ := cr
      have w := fun q (h : 103 < q) => a5 q (by omega) (by omega) (by omega) (by omega)
      obtain ⟨v2, I2, J2, m1, m2, m3, m4, m5, b1, b2, b3, b4, b5, b6, b7⟩ := mr (w 156 (by omega)) (w 157 (by omega)) (w 158 (by omega))
      have cell : ∀ q j, q ≠ 0 → q ≠ 1 → q ≠ 2 → (q < 99 ∨ 103 < q) → q ≠ 156 → q ≠ 162 → q ≠ 175 → I2 q j = I q j := by
        intro q j q1 q2 q3 q4 q5 q6 q7
        by_cases h8 : q = 158
        · subst h8; rw [b3, w 158 (by omega)]
        · by_cases h9 : q = 161
          · subst h9; rw [b4, w 161 (by omega)]
          · by_cases h10 : q = 176
            · subst h10; rw [b5, w 176 (by omega)]
            · rw [m3 q q5 h8 h9 q6 q7 h10, a5 q q1 q2 q3 q4]
      have c156 : ∀ j, 14 ≤ j → j ≠ 45 → I2 156 j = I 156 j := by
        intro j q1 q2
        by_cases h8 : j = 24
        · subst h8; rw [b6, w 156 (by omega)]
        · by_cases h9 : j = 46
          · subst h9; rw [b7, w 156 (by omega)]
          · rw [m5 j q1 h8 q2 h9, w 156 (by omega)]
      have c0 : ∀ j, j ≠ 13 → I2 0 j = I 0 j := fun j hj => by rw [m3 0 (by omega) (by omega) (by omega) (by omega) (by omega) (by omega)]; exact a4 j hj
      refine ⟨v, I1, J1, E1, I2, J2, E1, c1, ?_, ⟨t, h, R1_ext I I2 n k t h (fun q j hq => ?_) hR⟩, ⟨0, by omega, ?_, m2, fun j hj => absurd hj (Nat.not_lt_zero _)⟩, ?_, ?_, fun q j hq hx => ?_, fun q hq q175 => ?_, fun q hq => ?_⟩
      · rw [a1, ← b1]; exact m1
      · unfold KR at hq
        by_cases e : q = 156
        · subst e; exact c156 j (by omega) (by omega)
        · exact cell q j (by omega) (by omega) (by omega) (by omega) e (by omega) (by omega)
      · rw [m3 2 (by omega) (by omega) (by omega) (by omega) (by omega) (by omega)]; exact a3
      · show I2 0 13 = I2 156 10
        rw [m3 0 (by omega) (by omega) (by omega) (by omega) (by omega) (by omega), a2, b2]
      · unfold RTo
        rw [c156 46 (by omega) (by omega), b5, m3 115 (by omega) (by omega) (by omega) (by omega) (by omega) (by omega), w 115 (by omega), w 176 (by omega)]; exact hTo
      · unfold C1 at hq
        unfold XRc XLf XT at hx
        by_cases e : q = 156
        · subst e; exact c156 j (by omega) (by omega)
        · by_cases e0 : q = 0
          · subst e0; exact c0 j (by omega)
          · exact cell q j e0 (by omega) (by omega) (by omega) e (by omega) (by omega)
      · rw [m4 q (by unfold CJ at hq; omega) q175]; exact cJ q (by unfold CJ at hq; unfold X8; omega)
      · exact cE q (by unfold CJ at hq; unfold X8; omega)
    | inr y =>
      rw [hr] at cr mr po
      obtain ⟨po1, po2⟩ := po
      obtain ⟨a1, Ib, aI, a2, a3, a4, a5, a6⟩ := cr
      obtain ⟨q1, q2, q3⟩ := rgo_agr y.2 n k y.1 0 (rS I 12) (I 158) (fun a ha => po2 a (by omega)) r3 ivl ivs
      obtain ⟨ok1, ok2, ok3, ok4⟩ := rgo_ok y.2 n k y.1 0 (rS I 12) (fun a ha => po2 a (by omega)) ivl ivs
      obtain ⟨om1, om2, om3, om4⟩ := rgo_ok y.2 n k y.1 0 (I 158) (fun a ha => po2 a (by omega)) r1 r2
      have ibw := fun q (h1 : 103 < q) (h2 : q ≠ 115) => a6 q (by omega) (by omega) (by omega) (by omega) (by omega) h2
      have i1w : ∀ q, 103 < q → q ≠ 115 → I1 q = I q := by
        intro q h1 h2
        rw [aI]
        by_cases hst : lv = 1 ∧ 0 < (rgo y.2 k y.1 0 (rS I 12)).1
        · rw [if_pos hst, cA_hi _ t h ht 0 _ q (by omega)]; exact ibw q h1 h2
        · rw [if_neg hst]; exact ibw q h1 h2
      have hRb : R1 Ib n k t h := R1_ext I Ib n k t h (fun q j hq => by
        unfold KR at hq
        rw [a6 q (by omega) (by omega) (by omega) (by omega) (by omega) (by omega)]) hR
      obtain ⟨v2, I2, J2, m1, m2, m3, m4, m5, b1, b2, b3, b4, b5⟩ := mr (i1w 156 (by omega) (by omega)) (i1w 157 (by omega) (by omega)) (i1w 158 (by omega) (by omega))
      rw [i1w 158 (by omega) (by omega)] at b1 b4 b5
      rw [i1w 161 (by omega) (by omega), i1w 156 (by omega) (by omega)] at b5
      generalize hG : rgo y.2 k y.1 0 (rS I 12) = G at *
      generalize hG2 : rgo y.2 k y.1 0 (I 158) = G2 at *
      obtain ⟨gi, gc, gm⟩ := G
      obtain ⟨gi2, gc2, gm2⟩ := G2
      dsimp only at a1 aI a4 q1 q2 q3 ok1 ok2 ok3 ok4 om1 om2 om3 om4 b1 b4 b5
      subst q1
      subst q2
      have i1lo : ∀ q, (q < 12 ∨ (17 < q ∧ q < 43)) → I1 q = Ib q := by
        intro q hq
        rw [aI]
        by_cases hst : lv = 1 ∧ 0 < gi
        · rw [if_pos hst, cA_lo _ t h ht 0 _ q hq]
        · rw [if_neg hst]
      have i1hi : ∀ q, 98 < q → I1 q = Ib q := by
        intro q hq
        rw [aI]
        by_cases hst : lv = 1 ∧ 0 < gi
        · rw [if_pos hst, cA_hi _ t h ht 0 _ q hq]
        · rw [if_neg hst]
      have row : ∀ q, q ≠ 156 → q ≠ 158 → q ≠ 161 → q ≠ 162 → q ≠ 175 → q ≠ 176 → I2 q = I1 q := m3
      have e158 : ∀ j, (j < 34 ∨ 70 ≤ j) → I2 158 j = I 158 j := by
        intro j hj
        by_cases hst : lv = 1 ∧ 0 < gi
        · rw [if_pos hst] at b5; rw [b5.1]; exact om2 j hj
        · rw [if_neg hst] at b5; rw [b5.1]
      refine ⟨v, I1, J1, E1, I2, J2, E1, c1, ?_, ?_, ⟨0, by omega, ?_, m2, fun j hj => absurd hj (Nat.not_lt_zero _)⟩, ?_, ?_, fun q j hq hx => ?_, fun q hq q175 => ?_, fun q hq => ?_⟩
      · rw [a1, ← b1]; exact m1
      · by_cases hst : lv = 1 ∧ 0 < gi
        · rw [if_pos hst] at aI b5
          obtain ⟨t', h', hR'⟩ := R1_act Ib n k t h hRb 0 gm gm2 (fun j hj => by
            rw [ok2 j (Or.inl hj)]
            exact (rS_congr I Ib 12 (fun q hq => a6 q (by omega) (by omega) (by omega) (by omega) (by omega) (by omega)) ▸ rfl)) (fun j hj => by rw [om2 j (Or.inl hj), ibw 158 (by omega) (by omega)]) (fun _ => q3) (fun _ => om1)
          refine ⟨t', h', R1_ext _ I2 n k t' h' (fun q j hq => ?_) hR'⟩
          rw [← aI]
          unfold KR at hq
          show I2 q j = am_ur (mS I1 h) 158 gm2 q j
          by_cases e : q = 158
          · subst e; rw [ur_at, b5.1]
          · rw [ur_ne _ _ _ _ e]
            unfold mS
            by_cases e2 : q = 161
            · subst e2; rw [ur_at, b5.2.1, i1w 161 (by omega) (by omega), i1w 158 (by omega) (by omega)]
            · rw [ur_ne _ _ _ _ e2]
              by_cases e3 : q = 156
              · subst e3
                rw [ur_at, show j = 24 by omega, ru_eq, b5.2.2]
              · rw [ur_ne _ _ _ _ e3, th0_ne _ _ e3, row q e3 e e2 (by omega) (by omega) (by omega)]
        · rw [if_neg hst] at aI b5
          refine ⟨t, h, R1_ext I I2 n k t h (fun q j hq => ?_) hR⟩
          unfold KR at hq
          by_cases e : q = 158
          · subst e; rw [b5.1]
          · by_cases e2 : q = 161
            · subst e2; rw [b5.2.1]
            · by_cases e3 : q = 156
              · subst e3; rw [show j = 24 by omega, b5.2.2]
              · rw [row q e3 e e2 (by omega) (by omega) (by omega), aI]
                rw [a6 q (by omega) (by omega) (by omega) (by omega) (by omega) (by omega)]
      · rw [row 2 (by omega) (by omega) (by omega) (by omega) (by omega) (by omega), i1lo 2 (by omega)]; exact a3
      · show I2 0 13 = I2 156 10
        rw [row 0 (by omega) (by omega) (by omega) (by omega) (by omega) (by omega), i1lo 0 (by omega), a2, b2]
      · refine Or.inr ⟨b3, fun j hj => ?_⟩
        rw [row 115 (by omega) (by omega) (by omega) (by omega) (by omega) (by omega), i1hi 115 (by omega)]
        rcases (show j = 0 ∨ j = 1 ∨ j = 2 ∨ j = 3 by omega) with rfl | rfl | rfl | rfl
        · rw [a4.1, b4.1]
        · rw [a4.2.1, b4.2.1]
        · rw [a4.2.2.1, b4.2.2.1]; exact q3 34 (by unfold rel; omega)
        · rw [a4.2.2.2, b4.2.2.2]; exact accD_agr q3
      · unfold C1 at hq
        unfold XRc XLf XT at hx
        by_cases e : q = 156
        · subst e; rw [m5 j (by omega) (by omega) (by omega) (by omega), i1w 156 (by omega) (by omega)]
        · by_cases e8 : q = 158
          · subst e8; exact e158 j (by omega)
          · rw [row q e e8 (by omega) (by omega) (by omega) (by omega)]
            by_cases e0 : q = 0
            · subst e0; rw [i1lo 0 (by omega)]; exact a5 j (by omega)
            · by_cases hb : q < 43
              · rw [i1lo q (by omega), a6 q e0 (by omega) (by omega) (by omega) (by omega) (by omega)]
              · rw [i1hi q (by omega), a6 q e0 (by omega) (by omega) (by omega) (by omega) (by omega)]
      · rw [m4 q (by unfold CJ at hq; omega) q175]; exact cJ q (by unfold CJ at hq; unfold X8; omega)
      · exact cE q (by unfold CJ at hq; unfold X8; omega)
