/-! record: the reference -/
theorem rRec_o (c : Nat → Nat) (z lim n k : Nat) (T U : Nat → List Nat) : ∀ (f l : Nat) (D : Nat → Rl) (u : Cu), u.2.2 ≤ z → u.2.1 ≤ lim → l ≤ 40 → (∀ a, a < l → DV n k (D a)) → match rRec c z lim n k T U f l D u with | .inl x => 1 ≤ x.1 ∧ x.1 ≤ 4 ∧ x.2 ≤ lim | .inr y => y.1 ≤ 40 ∧ ∀ a, a < y.1 → DV n k (y.2 a) := by
  intro f
  induction f with
  | zero => intro l D u _ _ _ _; exact ⟨by show 1 ≤ 1; omega, by show 1 ≤ 4; omega, by show 0 ≤ lim; omega⟩
  | succ f ih =>
    intro l D u hz ha hl hD
    unfold rRec
    by_cases h0 : u.1.1 = 0
    · rw [if_pos h0]; exact ⟨hl, hD⟩
    rw [if_neg h0]
    have po := rLine_o c z lim n k T U l hl u hz ha
    cases hr : rLine c z lim n k T U l u with
    | inl x => rw [hr] at po; exact po
    | inr y =>
      rw [hr] at po
      obtain ⟨p1, p2, p3, p4, p5⟩ := po
      dsimp only
      by_cases hs : isg (lx c z lim y.2.2.2) 59 = true
      · rw [if_pos hs]
        exact ih _ _ _ (lx_le c z lim _ (lx_le c z lim _ p2)) (lx_at c z lim _ (lx_le c z lim _ p2)) (by omega) (fun a ha => by
          by_cases e : a = l
          · rw [e, rug_eq]; exact p5
          · rw [rug_ne _ _ _ _ e]; exact hD a (by omega))
      · rw [if_neg hs]; exact ⟨by show 1 ≤ 1; omega, by show 1 ≤ 4; omega, lx_at c z lim _ p2⟩
def mRc (I I' : Nat → Nat → Int32) (k lv h : Nat) (v : Int32) (res : (Nat × Nat) ⊕ (Nat × (Nat → Rl))) : Prop := match res with
  | .inl x => v = -2 - Int32.ofNat x.2 ∧ I' 156 10 = Int32.ofNat x.1 ∧ I' 158 = I 158 ∧ I' 161 = I 161 ∧ I' 176 = I 176 ∧ I' 156 24 = I 156 24 ∧ I' 156 46 = I 156 46
  | .inr y => v = (bif decide ((rgo y.2 k y.1 0 (I 158)).2.1 = 0) then -1 else Int32.ofNat (rgo y.2 k y.1 0 (I 158)).1) ∧ I' 156 10 = 0 ∧ I' 156 46 = 1 ∧ (I' 176 0 = (rgo y.2 k y.1 0 (I 158)).2.1 ∧ I' 176 1 = Int32.ofNat (rgo y.2 k y.1 0 (I 158)).1 ∧ I' 176 2 = (rgo y.2 k y.1 0 (I 158)).2.2 34 ∧ I' 176 3 = accD (rgo y.2 k y.1 0 (I 158)).2.2) ∧ (if lv = 1 ∧ 0 < (rgo y.2 k y.1 0 (I 158)).1 then (I' 158 = (rgo y.2 k y.1 0 (I 158)).2.2 ∧ I' 161 = snr (I 161) (I 158) h ∧ I' 156 24 = Int32.ofNat (sns h)) else (I' 158 = I 158 ∧ I' 161 = I 161 ∧ I' 156 24 = I 156 24))
theorem zN3 : am_in 3 4 = true ∧ (3 : Int32).toNatClampNeg = 3 := by decide
theorem m_record (env : am_E) (d : Nat) (z : Nat) (hz : z ≤ 940) (c : Nat → Nat) (n k : Nat) (T U : Nat → List Nat) (lv : Nat) (hlv : lv < 2) (h : Nat) (hh : h ≤ 8) (I : Nat → Nat → Int32) (J : Nat → Nat → Int64) (E : Nat → Nat → Nat) (h2 : I 156 2 = Int32.ofNat z) (ht : Tm I z c) (hm : NMm I J n k T U) (hv : IvL (I 158) n k) (hs : IvS (I 158) n k) (e24 : I 156 24 = Int32.ofNat h) : ∃ v I' J', am_ev env (d + 9, 285, 0, [some (.ref 156), some (.int (Int32.ofNat lv)), none, none], [], am_hp I J E) = some (true, some (.int v), am_hp I' J' E) ∧ I' 156 2 = 0 ∧ (∀ q, q ≠ 156 → q ≠ 158 → q ≠ 161 → q ≠ 162 → q ≠ 175 → q ≠ 176 → I' q = I q) ∧ (∀ q, q ≠ 156 → q ≠ 175 → J' q = J q) ∧ (∀ j, 14 ≤ j → j ≠ 24 → j ≠ 45 → j ≠ 46 → I' 156 j = I 156 j) ∧ mRc I I' k lv h v (rRec c z 400 n k T U (z + 1) 0 (fun _ => (0, 0, 0, 0)) (lx c z 400 0)) := by
  have fz : GM X0 (fun j => j ≤ 10) I J (am_u I 156 0 0) J := ⟨fun q hq _ => am_u_ng _ _ _ _ _ hq, fun j hj => by rw [am_u_sg, if_neg (by omega)], fun _ _ _ => rfl⟩
  obtain ⟨I3, J3, k3, s3, t10, t0, t2, f3⟩ := m_begin env (d + 5) z 400 hz (by omega) 400 rfl c (am_u I 156 0 0) J E (by rw [am_u_sg, if_neg (by omega)]; exact h2) (fun j hj => by rw [am_u_ng _ _ _ _ _ (by omega)]; exact ht j hj)
  have fb : GM X0 (fun j => j = 45) I3 J3 (am_u I3 156 45 0) J3 := ⟨fun q hq _ => am_u_ng _ _ _ _ _ hq, fun j hj => by rw [am_u_sg, if_neg hj], fun _ _ _ => rfl⟩
  have F3 : GM X175 (fun j => j ≤ 13 ∨ j = 45) I J (am_u I3 156 45 0) J3 := GM_tr (GM_mono fz (fun q hq => hq.elim) (fun j hj => Or.inl (by omega))) (GM_tr (GM_mono f3 (fun q hq => hq.elim) (fun j hj => Or.inl (by omega))) (GM_mono fb (fun q hq => hq.elim) (fun j hj => Or.inr hj)))
  have m3 := NMm_gm hm F3 (by omega) (by omega)
  have hle := (lx_ge c z 400 0 (Nat.zero_le _)).1
  obtain ⟨I4, J4, F4, r4⟩ := m_recLoop env d z hz c n k T U (Int32.ofNat lv) E (z + 1) 0 (fun _ => (0, 0, 0, 0)) 0 (lx c z 400 0) (am_u I3 156 45 0) J3 (MS_gm s3 fb (fun j hj => by omega) (fun q => q) rfl) m3 (by rw [am_u_at]; rfl) (fun i hi => absurd hi (Nat.not_lt_zero _)) (by rw [am_u_sg, if_neg (by omega)]; exact t10) (by omega) (Nat.zero_le _) rfl (by omega)
  have FA : GM X175 (fun j => j ≤ 13 ∨ j = 45) I J I4 J4 := GM_tr F3 (GM_mono F4 (fun q hq => hq) (fun j hj => by rcases hj with hj | hj; exact Or.inl (by unfold C13 at hj; omega); exact Or.inr hj))
  have e2 : I4 156 2 = 0 := by rw [F4.2.1 2 (by unfold C13; omega), am_u_sg, if_neg (by omega)]; exact t2
  have g30 : am_ev env (d + 9, 285, 0, [some (.ref 156), some (.int (Int32.ofNat lv)), none, none], [], am_hp I J E) = am_ev env (d + 9, 285, 30, [some (.ref 156), some (.int (Int32.ofNat lv)), none, none], [], am_hp (am_u I3 156 45 0) J3 E) := by
    refine (bk_285_0 _ _ _ _ _ _).trans ?_
    have hin : (!decide (Int32.ofNat lv < (0 : Int32)) && !decide ((1 : Int32) < Int32.ofNat lv)) = true := by
      rw [show decide (Int32.ofNat lv < (0 : Int32)) = false from zlt_f lv 0 (by omega) (by omega), show decide ((1 : Int32) < Int32.ofNat lv) = false from zlt_f 1 lv (by omega) (by omega)]; rfl
    simp only [decide_true, decide_false, Bool.not_true, Bool.not_false, am_cont, Option.bind_some, Option.toList_some, Option.toList_none, List.singleton_append, List.nil_append, cond_true, cond_false, m_isIn, hin, bk_285_11, bi_t, zq_1_0, k3, bk_285_25]
  have po := rRec_o c z 400 n k T U (z + 1) 0 (fun _ => (0, 0, 0, 0)) (lx c z 400 0) (lx_le c z 400 0 (Nat.zero_le _)) (lx_at c z 400 0 (Nat.zero_le _)) (by omega) (fun a ha => absurd ha (Nat.not_lt_zero _))
  have r158 : I4 158 = I 158 := FA.1 158 (by omega) (by omega)
  have r161 : I4 161 = I 161 := FA.1 161 (by omega) (by omega)
  have r176 : I4 176 = I 176 := FA.1 176 (by omega) (by omega)
  have c24 : I4 156 24 = I 156 24 := FA.2.1 24 (by omega)
  cases hr : rRec c z 400 n k T U (z + 1) 0 (fun _ => (0, 0, 0, 0)) (lx c z 400 0) with
  | inl x =>
    rw [hr] at r4
    obtain ⟨q1, q2⟩ := r4
    exact ⟨_, I4, J4, g30.trans q1, e2, fun q a1 a2 a3 a4 a5 a6 => FA.1 q a1 a5, fun q a1 a2 => FA.2.2 q a1 a2, fun j a1 a2 a3 a4 => FA.2.1 j (by omega), rfl, q2, r158, r161, r176, c24, FA.2.1 46 (by omega)⟩
  | inr y =>
    rw [hr] at r4 po
    obtain ⟨q1, q2, q3, q4⟩ := r4
    obtain ⟨po1, po2⟩ := po
    generalize hI5 : am_ur I4 162 (cpr (I4 162) 0 36 (fun k => I4 158 (34 + k))) = I5
    have e5 : ∀ q, q ≠ 162 → I5 q = I4 q := fun q hq => by rw [← hI5, ur_ne _ _ _ _ hq]
    have e5b : ∀ j, j < 36 → I5 162 j = I 158 (34 + j) := fun j hj => by
      have := cpr_in (I4 162) 0 36 (fun k => I4 158 (34 + k)) j hj
      rw [Nat.zero_add] at this
      rw [← hI5, ur_at, this, r158]
    have i5 : I5 158 = I 158 := by rw [e5 158 (by omega), r158]
    have hgo := m_recLive env d y.1 po1 n k y.2 po2 (Int32.ofNat lv) I5 J4 E (by rw [i5]; exact hv) (by rw [e5 156 (by omega)]; exact q2) (fun i hi => by unfold MLn; rw [e5 175 (by omega)]; exact q3 i hi) y.1 0 (I5 158) (by omega) (fun _ _ => rfl) (by rw [i5]; exact hs)
    rw [ur_self, i5] at hgo
    obtain ⟨ok1, ok2, ok3, ok4⟩ := rgo_ok y.2 n k y.1 0 (I 158) (fun a ha => po2 a (by omega)) hv hs
    unfold mRc
    dsimp only
    generalize rgo y.2 k y.1 0 (I 158) = g at hgo ok1 ok2 ok3 ok4 ⊢
    obtain ⟨gi, gc, gm⟩ := g
    dsimp only at hgo ok1 ok2 ok3 ok4 ⊢
    generalize hI7 : am_u (am_u (am_u (am_u (am_u (am_ur I5 158 gm) 176 0 gc) 176 1 (Int32.ofNat gi)) 176 2 (gm 34)) 176 3 (accD gm)) 156 46 1 = I7
    have i7a : I7 158 = gm := by rw [← hI7, am_u_ng _ _ _ _ _ (by omega), am_u_ng _ _ _ _ _ (by omega), am_u_ng _ _ _ _ _ (by omega), am_u_ng _ _ _ _ _ (by omega), am_u_ng _ _ _ _ _ (by omega), ur_at]
    have i7b : ∀ q, q ≠ 156 → q ≠ 158 → q ≠ 176 → I7 q = I5 q := fun q a b e => by rw [← hI7, am_u_ng _ _ _ _ _ a, am_u_ng _ _ _ _ _ e, am_u_ng _ _ _ _ _ e, am_u_ng _ _ _ _ _ e, am_u_ng _ _ _ _ _ e, ur_ne _ _ _ _ b]
    have i7c : ∀ j, j ≠ 46 → I7 156 j = I4 156 j := fun j hj => by rw [← hI7, am_u_sg, if_neg hj, am_u_ng _ _ _ _ _ (by omega), am_u_ng _ _ _ _ _ (by omega), am_u_ng _ _ _ _ _ (by omega), am_u_ng _ _ _ _ _ (by omega), ur_ne _ _ _ _ (by omega), e5 156 (by omega)]
    have i7d : I7 156 46 = 1 := by rw [← hI7, am_u_at]
    have i7e : I7 176 0 = gc ∧ I7 176 1 = Int32.ofNat gi ∧ I7 176 2 = gm 34 ∧ I7 176 3 = accD gm := by
      rw [← hI7, am_u_ng _ 156 _ _ 176 (by omega)]
      refine ⟨?_, ?_, ?_, ?_⟩
      · rw [am_u_sg, if_neg (by omega), am_u_sg, if_neg (by omega), am_u_sg, if_neg (by omega), am_u_at]
      · rw [am_u_sg, if_neg (by omega), am_u_sg, if_neg (by omega), am_u_at]
      · rw [am_u_sg, if_neg (by omega), am_u_at]
      · rw [am_u_at]
    have i7f : I7 156 24 = Int32.ofNat h := by rw [i7c 24 (by omega), c24]; exact e24
    have i7g : I7 161 = I 161 := by rw [i7b 161 (by omega) (by omega) (by omega), e5 161 (by omega), r161]
    have i7h : ∀ j, j < 36 → I7 162 j = I 158 (34 + j) := fun j hj => by rw [i7b 162 (by omega) (by omega) (by omega)]; exact e5b j hj
    have sw158 : swH I7 36 158 = I 158 := by
      funext j
      unfold swH
      rw [ur_ne _ _ _ _ (by omega), ur_at, i7a]
      by_cases hj : 34 ≤ j ∧ j < 70
      · have := cpr_in gm 34 36 (I7 162) (j - 34) (by omega)
        rw [show 34 + (j - 34) = j by omega] at this
        rw [this, i7h _ (by omega), show 34 + (j - 34) = j by omega]
      · rw [cpr_out _ _ _ _ _ (by omega)]; exact ok2 j (by omega)
    have sw162 : ∀ j, j < 36 → swH I7 36 162 j = gm (34 + j) := fun j hj => by
      unfold swH
      have := cpr_in (I7 162) 0 36 (fun k => I7 158 (34 + k)) j hj
      rw [Nat.zero_add] at this
      rw [ur_at, this, i7a]
    have swo : ∀ q, q ≠ 158 → q ≠ 162 → swH I7 36 q = I7 q := fun q a b => by unfold swH; rw [ur_ne _ _ _ _ b, ur_ne _ _ _ _ a]
    have sy158 : syH I7 h 158 = gm := by
      funext j
      unfold syH
      rw [ur_at, sw158]
      by_cases hj : 34 ≤ j ∧ j < 70
      · have := cpr_in (I 158) 34 36 (fun k => swH I7 36 162 k) (j - 34) (by omega)
        rw [show 34 + (j - 34) = j by omega] at this
        rw [this, sw162 _ (by omega), show 34 + (j - 34) = j by omega]
      · rw [cpr_out _ _ _ _ _ (by omega)]; exact (ok2 j (by omega)).symm
    have syo : ∀ q, q ≠ 156 → q ≠ 158 → q ≠ 161 → q ≠ 162 → syH I7 h q = I7 q := fun q a b e g => by unfold syH; rw [ur_ne _ _ _ _ b, ur_ne _ _ _ _ e, ur_ne _ _ _ _ a, swo q b g]
    have sy156 : ∀ j, syH I7 h 156 j = if j = 24 then Int32.ofNat (sns h) else I7 156 j := fun j => by unfold syH; rw [ur_ne _ _ _ _ (by omega), ur_ne _ _ _ _ (by omega), ur_at]; rfl
    have sy161 : syH I7 h 161 = snr (I 161) (I 158) h := by unfold syH; rw [ur_ne _ _ _ _ (by omega), ur_at, sw158, i7g]
    have run : ∀ s : Bool, s = decide (lv = 1 ∧ 0 < gi) → am_ev env (d + 9, 285, 0, [some (.ref 156), some (.int (Int32.ofNat lv)), none, none], [], am_hp I J E) = some (true, some (.int (bif decide (gc = 0) then -1 else Int32.ofNat gi)), am_hp (bif s then syH I7 h else swH I7 36) J4 E) := by
      intro s hsd
      have mst := m_stay env (d + 6) s h hh I7 J4 E i7f
      refine g30.trans (Eq.trans q1 ?_)
      have mly := m_lay env (d + 7) I4 J4 E
      rw [hI5] at mly
      rw [am_cont_some mly]
      simp only [decide_true, decide_false, Bool.not_true, Bool.not_false, am_cont, Option.bind_some, Option.toList_some, Option.toList_none, List.singleton_append, List.nil_append, cond_true, cond_false, bk_285_69]
      refine Eq.trans hgo ?_
      refine (bk_285_103 _ _ _ _ _ _ _ _).trans ?_
      have r34 : am_u (am_u (am_ur I5 158 gm) 176 0 gc) 176 1 (Int32.ofNat gi) 158 = gm := by rw [am_u_ng _ _ _ _ _ (by omega), am_u_ng _ _ _ _ _ (by omega), ur_at]
      have r34b : am_u (am_u (am_u (am_ur I5 158 gm) 176 0 gc) 176 1 (Int32.ofNat gi)) 176 2 (gm 34) 158 = gm := by rw [am_u_ng _ _ _ _ _ (by omega)]; exact r34
      rw [r34]
      simp only [decide_true, decide_false, Bool.not_true, Bool.not_false, am_cont, Option.bind_some, Option.toList_some, Option.toList_none, List.singleton_append, List.nil_append, cond_true, cond_false, m_doneBooks, r34b, bk_285_139, zN3.1, zN3.2, hI7]
      have fin : am_ev env (d + 9, 285, 160, [some (.ref 156), some (.int (Int32.ofNat lv)), some (.int (Int32.ofNat gi)), some (.int gc)], [.int (bi s), .ref 156], am_hp I7 J4 E) = some (true, some (.int (bif decide (gc = 0) then -1 else Int32.ofNat gi)), am_hp (bif s then syH I7 h else swH I7 36) J4 E) := by
        refine (bk_285_160 _ _ _ _ _ _ _ _ _).trans ?_
        simp only [decide_true, decide_false, Bool.not_true, Bool.not_false, am_cont, Option.bind_some, Option.toList_some, Option.toList_none, List.singleton_append, List.nil_append, cond_true, cond_false, mst, bk_285_163, bk_285_172]
        cases decide (gc = 0) <;> rfl
      rw [show decide (Int32.ofNat lv = (1 : Int32)) = decide (lv = 1) from zI_deq lv 1 (by omega) (by omega), show decide (Int32.ofNat gi ≤ (0 : Int32)) = decide (gi ≤ 0) from zle_d gi 0 (by omega) (by omega)]
      by_cases hl1 : lv = 1
      · by_cases hg0 : gi ≤ 0
        · have hsf : s = false := by rw [hsd]; exact decide_eq_false (by omega)
          rw [hsf] at fin ⊢
          rw [decide_eq_true hl1, decide_eq_true hg0]
          simp only [decide_true, decide_false, Bool.not_true, Bool.not_false, am_cont, Option.bind_some, Option.toList_some, Option.toList_none, List.singleton_append, List.nil_append, cond_true, cond_false, bk_285_159]
          exact fin
        · have hst : s = true := by rw [hsd]; exact decide_eq_true (by omega)
          rw [hst] at fin ⊢
          rw [decide_eq_true hl1, decide_eq_false hg0]
          exact fin
      · have hsf : s = false := by rw [hsd]; exact decide_eq_false (by omega)
        rw [hsf] at fin ⊢
        rw [decide_eq_false hl1]
        simp only [decide_true, decide_false, Bool.not_true, Bool.not_false, am_cont, Option.bind_some, Option.toList_some, Option.toList_none, List.singleton_append, List.nil_append, cond_true, cond_false, bk_285_159]
        exact fin
    by_cases hst : lv = 1 ∧ 0 < gi
    · refine ⟨_, syH I7 h, J4, run true (decide_eq_true hst).symm, ?_, fun q a1 a2 a3 a4 a5 a6 => ?_, fun q a1 a2 => FA.2.2 q a1 a2, fun j a1 a2 a3 a4 => ?_, rfl, ?_, ?_, ?_, ?_⟩
      · rw [sy156, if_neg (by omega), i7c 2 (by omega)]; exact e2
      · rw [syo q a1 a2 a3 a4, i7b q a1 a2 a6, e5 q a4]; exact FA.1 q a1 a5
      · rw [sy156, if_neg a2, i7c j a4]; exact FA.2.1 j (by omega)
      · rw [sy156, if_neg (by omega), i7c 10 (by omega)]; exact q4
      · rw [sy156, if_neg (by omega)]; exact i7d
      · rw [syo 176 (by omega) (by omega) (by omega) (by omega)]; exact i7e
      · rw [if_pos hst]
        exact ⟨sy158, sy161, by rw [sy156, if_pos rfl]⟩
    · refine ⟨_, swH I7 36, J4, run false (decide_eq_false hst).symm, ?_, fun q a1 a2 a3 a4 a5 a6 => ?_, fun q a1 a2 => FA.2.2 q a1 a2, fun j a1 a2 a3 a4 => ?_, rfl, ?_, ?_, ?_, ?_⟩
      · rw [swo 156 (by omega) (by omega), i7c 2 (by omega)]; exact e2
      · rw [swo q a2 a4, i7b q a1 a2 a6, e5 q a4]; exact FA.1 q a1 a5
      · rw [swo 156 (by omega) (by omega), i7c j a4]; exact FA.2.1 j (by omega)
      · rw [swo 156 (by omega) (by omega), i7c 10 (by omega)]; exact q4
      · rw [swo 156 (by omega) (by omega)]; exact i7d
      · rw [swo 176 (by omega) (by omega)]; exact i7e
      · rw [if_neg hst]
        exact ⟨sw158, by rw [swo 161 (by omega) (by omega)]; exact i7g, by rw [swo 156 (by omega) (by omega), i7f]; exact e24.symm⟩
