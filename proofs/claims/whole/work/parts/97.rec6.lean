/-! a RECORD: all its lines -/
def rgo (D : Nat → Rl) (k : Nat) : Nat → Nat → (Nat → Int32) → Nat × Int32 × (Nat → Int32)
  | 0, i, m => (i, 0, m)
  | j + 1, i, m => if rwy (D i) m = 0 then rgo D k j (i + 1) (rlv (D i) k m) else (i, Int32.ofNat (10 * (D i).1) + rwy (D i) m, m)
theorem code_ne (e : Rl) (he : e.1 ≤ 7) (m : Nat → Int32) (h : rwy e m ≠ 0) : Int32.ofNat (10 * e.1) + rwy e m ≠ 0 := by
  obtain ⟨v, hv, ev⟩ := rwy_r e m
  rw [ev] at h ⊢
  rw [zI_add]
  have : v ≠ 0 := fun q => h (by rw [q]; rfl)
  exact ofNat_ne _ 0 (by omega) (by omega) (by omega)
theorem rgo_ok (D : Nat → Rl) (n k : Nat) : ∀ (j i : Nat) (m : Nat → Int32), (∀ a, a < i + j → DV n k (D a)) → IvL m n k → IvS m n k → IvS (rgo D k j i m).2.2 n k ∧ (∀ c, (c < 34 ∨ 70 ≤ c) → (rgo D k j i m).2.2 c = m c) ∧ i ≤ (rgo D k j i m).1 ∧ (rgo D k j i m).1 ≤ i + j := by
  intro j
  induction j with
  | zero => intro i m _ _ hs; exact ⟨hs, fun _ _ => rfl, Nat.le_refl _, Nat.le_refl _⟩
  | succ j ih =>
    intro i m hD hv hs
    unfold rgo
    by_cases h0 : rwy (D i) m = 0
    · rw [if_pos h0]
      obtain ⟨a1, a2⟩ := rlv_ok (D i) hv hs (hD i (by omega)) h0
      obtain ⟨b1, b2, b3, b4⟩ := ih (i + 1) (rlv (D i) k m) (fun a ha => hD a (by omega)) (IvL_low (fun c hc => a2 c (Or.inl hc)) hv) a1
      exact ⟨b1, fun c hc => (b2 c hc).trans (a2 c hc), by omega, by omega⟩
    · rw [if_neg h0]; exact ⟨hs, fun _ _ => rfl, Nat.le_refl _, by show i ≤ i + (j + 1); omega⟩
theorem rgo_agr (D : Nat → Rl) (n k : Nat) : ∀ (j i : Nat) (m m' : Nat → Int32), (∀ a, a < i + j → DV n k (D a)) → Agr n k m m' → IvL m n k → IvS m n k → (rgo D k j i m).1 = (rgo D k j i m').1 ∧ (rgo D k j i m).2.1 = (rgo D k j i m').2.1 ∧ Agr n k (rgo D k j i m).2.2 (rgo D k j i m').2.2 := by
  intro j
  induction j with
  | zero => intro i m m' _ h _ _; exact ⟨rfl, rfl, h⟩
  | succ j ih =>
    intro i m m' hD h hv hs
    obtain ⟨e1, e2⟩ := rl_agr (D i) h hv hs (hD i (by omega))
    unfold rgo
    by_cases h0 : rwy (D i) m = 0
    · rw [if_pos h0, if_pos (by rw [← e1]; exact h0)]
      obtain ⟨a1, a2⟩ := rlv_ok (D i) hv hs (hD i (by omega)) h0
      exact ih (i + 1) _ _ (fun a ha => hD a (by omega)) (e2 h0) (IvL_low (fun c hc => a2 c (Or.inl hc)) hv) a1
    · rw [if_neg h0, if_neg (by rw [← e1]; exact h0)]
      exact ⟨rfl, by rw [e1], h⟩
theorem am_u_self (I : Nat → Nat → Int32) (p k : Nat) (v : Int32) (h : I p k = v) : am_u I p k v = I := by
  funext q j
  rw [am_u_d]
  by_cases h1 : q = p
  · rw [if_pos h1]
    by_cases h2 : j = k
    · rw [if_pos h2, h1, h2, h]
    · rw [if_neg h2]
  · rw [if_neg h1]
theorem sx99 (j : Nat) : sx 31 99 j = 0 := rfl
theorem sx115 (j : Nat) : sx 31 115 j = 0 := rfl
theorem c_live (env : am_E) (d : Nat) (l : Nat) (hl : l ≤ 40) (n k : Nat) (D : Nat → Rl) (hD : ∀ a, a < l → DV n k (D a)) (I : Nat → Nat → Int32) (J : Nat → Nat → Int64) (E : Nat → Nat → Nat) (m : Nat → Int32) (hb : Lb I m) (hv : IvL m n k) (hs : IvS m n k) (h99 : I 99 1 = Int32.ofNat l) (hc : ∀ i, i < l → CLn I i (D i)) : am_ev env (d + 7, 51, 0, [some (.ref 99), some (.ref 5), some (.ref 31), none, none], [], am_hp (pS I 31 m) J E) = some (true, some (.int (Int32.ofNat (rgo D k l 0 m).1)), am_hp (pS (am_u I 99 0 (rgo D k l 0 m).2.1) 31 (rgo D k l 0 m).2.2) J E) := by
  refine (bk_51_0 _ _ _ _ _ _ _).trans ?_
  rw [ps_setout I 31 m 99 0 0 (sx99 0)]
  generalize hI1 : am_u I 99 0 0 = I1
  have e0 : I1 99 0 = 0 := by rw [← hI1, am_u_at]
  have e1 : I1 99 1 = Int32.ofNat l := by rw [← hI1, am_u_sg, if_neg (by omega)]; exact h99
  have eo : ∀ q, q ≠ 99 → I1 q = I q := fun q hq => by rw [← hI1, am_u_ng _ _ _ _ _ hq]
  have hc1 : ∀ i, i < l → CLn I1 i (D i) := fun i hi => CLn_k (hc i hi) (fun q a b => by rw [eo q (by omega)])
  have lb1 : ∀ m', (∀ c, c < 34 → m' c = m c) → Lb I1 m' := by
    intro m' hm'
    have hb' : Lb I m' := Lb_low hm' hb
    obtain ⟨a1, a2, a3, a4, a5⟩ := hb'
    exact ⟨fun j hj => by rw [eo 5 (by omega)]; exact a1 j hj, fun j hj => by rw [eo 7 (by omega)]; exact a2 j hj, fun j hj => by rw [eo 8 (by omega)]; exact a3 j hj, fun j hj => by rw [eo 9 (by omega)]; exact a4 j hj, fun j hj => by rw [eo 11 (by omega)]; exact a5 j hj⟩
  have key : ∀ j i (m' : Nat → Int32) (o : Option Value), i + j = l → (∀ c, c < 34 → m' c = m c) → IvS m' n k → am_ev env (d + 7, 51, 7, [some (.ref 99), some (.ref 5), some (.ref 31), some (.int (Int32.ofNat i)), o], [], am_hp (pS I1 31 m') J E) = some (true, some (.int (Int32.ofNat (rgo D k j i m').1)), am_hp (pS (am_u I1 99 0 (rgo D k j i m').2.1) 31 (rgo D k j i m').2.2) J E) := by
    intro j
    induction j with
    | zero =>
      intro i m' o hi hm' hs'
      refine (bk_51_7 _ _ _ _ _ _ _ _ _).trans ?_
      rw [ps_ne I1 31 m' 99 (by omega), e1, zle_t l i (by omega) (by omega)]
      show some (true, some (.int (Int32.ofNat l)), am_hp (pS I1 31 m') J E) = (some (true, some (.int (Int32.ofNat i)), am_hp (pS (am_u I1 99 0 0) 31 m') J E) : Option am_R)
      rw [am_u_self I1 99 0 0 e0, show l = i by omega]
    | succ j ih =>
      intro i m' o hi hm' hs'
      have hdv := hD i (by omega)
      have hv' : IvL m' n k := IvL_low hm' hv
      have e := c_liveLine env d i (by omega) n k (D i) hdv I1 J E m' (lb1 m' hm') hv' hs' (hc1 i (by omega))
      refine (bk_51_7 _ _ _ _ _ _ _ _ _).trans ?_
      rw [ps_ne I1 31 m' 99 (by omega), e1, zle_f l i (by omega) (by omega)]
      simp only [decide_true, decide_false, Bool.not_true, Bool.not_false, am_cont, Option.bind_some, Option.toList_some, Option.toList_none, List.singleton_append, List.nil_append, cond_true, cond_false, e, bk_51_22]
      unfold rgo
      by_cases h0 : rwy (D i) m' = 0
      · rw [decide_eq_true h0, if_pos h0]
        simp only [decide_true, decide_false, Bool.not_true, Bool.not_false, am_cont, Option.bind_some, Option.toList_some, Option.toList_none, List.singleton_append, List.nil_append, cond_true, cond_false, zd_1]
        obtain ⟨a1, a2⟩ := rlv_ok (D i) hv' hs' hdv h0
        exact ih (i + 1) _ _ (by omega) (fun c hc => (a2 c (Or.inl hc)).trans (hm' c hc)) a1
      · rw [decide_eq_false h0, if_neg h0]
        simp (disch := omega) only [decide_true, decide_false, Bool.not_true, Bool.not_false, am_cont, Option.bind_some, Option.toList_some, Option.toList_none, List.singleton_append, List.nil_append, cond_true, cond_false, zI_in, zI_nat]
        rw [ps_ne I1 31 m' 100 (by omega), (hc1 i (by omega)).1, ps_setout I1 31 m' 99 0 _ (sx99 0)]
  refine (key l 0 m none (by omega) (fun _ _ => rfl) hs).trans ?_
  rw [show am_u I1 99 0 (rgo D k l 0 m).2.1 = am_u I 99 0 (rgo D k l 0 m).2.1 by rw [← hI1, am_u_u]]
theorem m_recLive (env : am_E) (d : Nat) (l : Nat) (hl : l ≤ 40) (n k : Nat) (D : Nat → Rl) (hD : ∀ a, a < l → DV n k (D a)) (x1 : Int32) (I : Nat → Nat → Int32) (J : Nat → Nat → Int64) (E : Nat → Nat → Nat) (hv : IvL (I 158) n k) (h45 : I 156 45 = Int32.ofNat l) (hc : ∀ i, i < l → MLn I i (D i)) : ∀ j i (m : Nat → Int32), i + j = l → (∀ c, c < 34 → m c = I 158 c) → IvS m n k → am_ev env (d + 9, 285, 73, [some (.ref 156), some (.int x1), some (.int (Int32.ofNat i)), some (.int 0)], [], am_hp (am_ur I 158 m) J E) = am_ev env (d + 9, 285, 103, [some (.ref 156), some (.int x1), some (.int (Int32.ofNat ((rgo D k j i m).1))), some (.int ((rgo D k j i m).2.1))], [], am_hp (am_ur I 158 (rgo D k j i m).2.2) J E) := by
  intro j
  induction j with
  | zero =>
    intro i m hi hm hs
    refine (bk_285_73 _ _ _ _ _ _ _ _).trans ?_
    rw [ur_ne _ _ _ 156 (by omega), h45, zle_t l i (by omega) (by omega)]
    rfl
  | succ j ih =>
    intro i m hi hm hs
    have hdv := hD i (by omega)
    have hv' : IvL m n k := IvL_low hm hv
    have e := m_goBy env d i (by omega) n k (D i) hdv (am_ur I 158 m) J E (by rw [ur_at]; exact hv') (by rw [ur_at]; exact hs) (by unfold MLn; rw [ur_ne _ _ _ 175 (by omega)]; exact hc i (by omega))
    rw [ur_at, ur_ur] at e
    refine (bk_285_73 _ _ _ _ _ _ _ _).trans ?_
    rw [ur_ne _ _ _ 156 (by omega), h45, zle_f l i (by omega) (by omega), show (4 : Int32) * Int32.ofNat i = Int32.ofNat (4 * i) from zI_mul 4 i]
    simp only [zq_0_0, decide_true, decide_false, Bool.not_true, Bool.not_false, am_cont, Option.bind_some, Option.toList_some, Option.toList_none, List.singleton_append, List.nil_append, cond_true, cond_false, e, bk_285_92]
    unfold rgo
    by_cases h0 : rwy (D i) m = 0
    · rw [decide_eq_true h0, if_pos h0]
      simp only [decide_true, decide_false, Bool.not_true, Bool.not_false, am_cont, Option.bind_some, Option.toList_some, Option.toList_none, List.singleton_append, List.nil_append, cond_true, cond_false, zq_0_0, zd_1]
      obtain ⟨a1, a2⟩ := rlv_ok (D i) hv' hs hdv h0
      exact ih (i + 1) _ (by omega) (fun c hc => (a2 c (Or.inl hc)).trans (hm c hc)) a1
    · rw [decide_eq_false h0, if_neg h0]
      simp only [decide_true, decide_false, Bool.not_true, Bool.not_false, am_cont, Option.bind_some, Option.toList_some, Option.toList_none, List.singleton_append, List.nil_append, cond_true, cond_false, decide_eq_false (code_ne (D i) hdv.1 m h0)]
      refine (bk_285_73 _ _ _ _ _ _ _ _).trans ?_
      rw [ur_ne _ _ _ 156 (by omega), h45, zle_f l i (by omega) (by omega), decide_eq_false (code_ne (D i) hdv.1 m h0)]
      rfl
def swH (I : Nat → Nat → Int32) (b : Nat) : Nat → Nat → Int32 := am_ur (am_ur I 158 (cpr (I 158) 34 b (I 162))) 162 (cpr (I 162) 0 b (fun k => I 158 (34 + k)))
theorem m_stayLoop (env : am_E) (d : Nat) (x1 : Int32) (I : Nat → Nat → Int32) (J : Nat → Nat → Int64) (E : Nat → Nat → Nat) : ∀ b, b ≤ 36 → ∃ o : Option Value, am_ev env (d + 1, 286, 2, [some (.ref 156), some (.int x1), some (.int 0), none], [], am_hp I J E) = am_ev env (d + 1, 286, 2, [some (.ref 156), some (.int x1), some (.int (Int32.ofNat b)), o], [], am_hp (swH I b) J E) := by
  intro b
  induction b with
  | zero =>
    intro _
    refine ⟨none, ?_⟩
    have : swH I 0 = I := by
      unfold swH
      rw [cpr_zero, cpr_zero, ur_self]
      exact ur_self I 162
    rw [this]; rfl
  | succ b ih =>
    intro hb
    obtain ⟨o, e⟩ := ih (by omega)
    have a1 : swH I b 162 b = I 162 b := by unfold swH; rw [ur_at, cpr_out _ _ _ _ _ (by omega)]
    have a2 : swH I b 158 (34 + b) = I 158 (34 + b) := by unfold swH; rw [ur_ne _ _ _ _ (by omega), ur_at, cpr_out _ _ _ _ _ (by omega)]
    have hst : am_u (am_u (swH I b) 158 (34 + b) (I 162 b)) 162 b (I 158 (34 + b)) = swH I (b + 1) := by
      funext q j
      unfold swH
      rw [am_u_d, am_u_d]
      by_cases h1 : q = 162
      · subst h1
        rw [if_pos rfl]
        by_cases h2 : j = b
        · rw [if_pos h2, ur_at, h2]
          have := cpr_in (I 162) 0 (b + 1) (fun k => I 158 (34 + k)) b (by omega)
          rw [Nat.zero_add] at this
          rw [this]
        · rw [if_neg h2, if_neg (by omega), ur_at, ur_at]
          unfold cpr
          by_cases h3 : j < b
          · rw [if_pos (by omega), if_pos (by omega)]
          · rw [if_neg (by omega), if_neg (by omega)]
      · rw [if_neg h1, ur_ne _ _ _ _ h1, ur_ne _ _ _ _ h1]
        by_cases h2 : q = 158
        · subst h2
          rw [if_pos rfl, ur_at, ur_at]
          unfold cpr
          by_cases h3 : j = 34 + b
          · rw [if_pos h3, if_pos (by omega), h3, Nat.add_sub_cancel_left]
          · rw [if_neg h3]
            by_cases h4 : 34 ≤ j ∧ j < 34 + b
            · rw [if_pos h4, if_pos (by omega)]
            · rw [if_neg h4, if_neg (by omega)]
        · rw [if_neg h2, ur_ne _ _ _ _ h2, ur_ne _ _ _ _ h2]
    refine ⟨some (.int (I 158 (34 + b))), e.trans ((bk_286_2 _ _ _ _ _ _ _ _).trans ?_)⟩
    rw [show decide ((36 : Int32) ≤ Int32.ofNat b) = false from zle_f 36 b (by omega) (by omega), zc_34, zI_in (34 + b) 312 (by omega) (by omega), zI_in b 36 (by omega) (by omega), zI_nat (34 + b) (by omega), zI_nat b (by omega), a1, a2, hst]
    simp only [decide_true, decide_false, Bool.not_true, Bool.not_false, am_cont, Option.bind_some, Option.toList_some, Option.toList_none, List.singleton_append, List.nil_append, cond_true, cond_false, zd_1]
def syH (I : Nat → Nat → Int32) (h : Nat) : Nat → Nat → Int32 := am_ur (am_ur (am_ur (swH I 36) 156 (ru (I 156) 24 (Int32.ofNat (sns h)))) 161 (snr (I 161) (swH I 36 158) h)) 158 (cpr (swH I 36 158) 34 36 (fun k => swH I 36 162 k))
theorem m_stay (env : am_E) (d : Nat) (s : Bool) (h : Nat) (hh : h ≤ 8) (I : Nat → Nat → Int32) (J : Nat → Nat → Int64) (E : Nat → Nat → Nat) (e24 : I 156 24 = Int32.ofNat h) : am_ev env (d + 2, 286, 0, [some (.ref 156), some (.int (bi s)), none, none], [], am_hp I J E) = some (true, none, am_hp (bif s then syH I h else swH I 36) J E) := by
  refine (bk_286_0 _ _ _ _ _ _).trans ?_
  obtain ⟨o, e⟩ := m_stayLoop env (d + 1) (bi s) I J E 36 (Nat.le_refl _)
  refine Eq.trans e ((bk_286_2 _ _ _ _ _ _ _ _).trans ?_)
  rw [show decide ((36 : Int32) ≤ Int32.ofNat 36) = true by decide, bi_eq0, Bool.not_not]
  have w156 : swH I 36 156 = I 156 := by unfold swH; rw [ur_ne _ _ _ _ (by omega), ur_ne _ _ _ _ (by omega)]
  have w161 : swH I 36 161 = I 161 := by unfold swH; rw [ur_ne _ _ _ _ (by omega), ur_ne _ _ _ _ (by omega)]
  cases s
  · rfl
  · have es := m_snap env d h hh (swH I 36) J E (by rw [w156]; exact e24)
    rw [w156, w161] at es
    simp only [decide_true, decide_false, Bool.not_true, Bool.not_false, am_cont, Option.bind_some, Option.toList_some, Option.toList_none, List.singleton_append, List.nil_append, cond_true, cond_false, es, bk_286_55, m_takeBack, bk_286_59]
    unfold syH
    rw [ur_ne _ _ _ 158 (by omega), ur_ne _ _ _ 158 (by omega)]
    have : (fun k => am_ur (am_ur (swH I 36) 156 (ru (I 156) 24 (Int32.ofNat (sns h)))) 161 (snr (I 161) (swH I 36 158) h) 162 k) = fun k => swH I 36 162 k := by
      funext k; rw [ur_ne _ _ _ 162 (by omega), ur_ne _ _ _ 162 (by omega)]
    rw [this]
def mRr (lim : Nat) (I : Nat → Nat → Int32) (J : Nat → Nat → Int64) (env : am_E) (d : Nat) (E : Nat → Nat → Nat) (x1 : Int32) (w : Option (Bool × Option Value × am_H)) (res : (Nat × Nat) ⊕ (Nat × (Nat → Rl))) : Prop := match res with
  | .inl x => w = some (true, some (.int (-2 - Int32.ofNat x.2)), am_hp I J E) ∧ I 156 10 = Int32.ofNat x.1
  | .inr y => w = am_cont env (d + 8, 276, 0, [some (.ref 156), none], [], am_hp I J E) (d + 9) 285 69 [some (.ref 156), some (.int x1), none, none] [] ∧ I 156 45 = Int32.ofNat y.1 ∧ (∀ i, i < y.1 → MLn I i (y.2 i)) ∧ I 156 10 = 0
theorem m_recLoop (env : am_E) (d : Nat) (z : Nat) (hz : z ≤ 940) (c : Nat → Nat) (n k : Nat) (T U : Nat → List Nat) (x1 : Int32) (E : Nat → Nat → Nat) : ∀ (f l : Nat) (D : Nat → Rl) (p0 : Nat) (u : Cu) (I : Nat → Nat → Int32) (J : Nat → Nat → Int64), MS I J z c 400 u → NMm I J n k T U → I 156 45 = Int32.ofNat l → (∀ i, i < l → MLn I i (D i)) → I 156 10 = 0 → l ≤ 40 → p0 ≤ z → u = lx c z 400 p0 → z < u.2.2 + f → ∃ I' J', GM X175 (fun j => C13 j ∨ j = 45) I J I' J' ∧ mRr 400 I' J' env d E x1 (am_ev env (d + 9, 285, 30, [some (.ref 156), some (.int x1), none, none], [], am_hp I J E)) (rRec c z 400 n k T U f l D u) := by
  intro f
  induction f with
  | zero =>
    intro l D p0 u I J h hm h45 hln hf hl hp0 hu hz1
    have := h.2.2.2.2.1
    omega
  | succ f ih =>
    intro l D p0 u I J h hm h45 hln hf hl hp0 hu hz1
    have hg := lx_good c z 400 p0 hp0
    rw [← hu] at hg
    have hat := hg.2.2.2.2.1
    have start := bk_285_30 env (d + 8) x1 I J E
    rw [show decide (I 156 7 = (0 : Int32)) = decide (u.1.1 = 0) from m_kind h 0 (by omega)] at start
    unfold rRec
    by_cases h0 : u.1.1 = 0
    · rw [if_pos h0]
      refine ⟨I, J, GM_refl _ _ _ _, start.trans ?_, h45, hln, hf⟩
      rw [decide_eq_true h0]; rfl
    rw [if_neg h0]
    rw [decide_eq_false h0] at start
    obtain ⟨b, I1, J1, e1, F1, o1⟩ := m_recLine env (d + 1) z 400 hz (by omega) c u n k T U l hl I J E h hm h45 hf
    have F1' : GM X175 (fun j => C13 j ∨ j = 45) I J I1 J1 := GM_mono F1 (fun q hq => hq) (fun j hj => Or.inl hj)
    have po := rLine_o c z 400 n k T U l hl u h.2.2.2.2.1 hat
    cases hr : rLine c z 400 n k T U l u with
    | inl x =>
      rw [hr] at o1 po
      obtain ⟨b1, b2, b3⟩ := o1
      refine ⟨I1, J1, F1', start.trans ?_, b2⟩
      rw [b1] at e1
      simp only [decide_true, decide_false, Bool.not_true, Bool.not_false, am_cont, Option.bind_some, Option.toList_some, Option.toList_none, List.singleton_append, List.nil_append, cond_true, cond_false, e1, bk_285_41, bi_f, zq_0_0, b3]
    | inr y =>
      rw [hr] at o1 po
      obtain ⟨po1, po2, po3, po4, po5⟩ := po
      have hw2 := lx_good c z 400 y.2.2.2 po2
      unfold mRl at o1
      dsimp only at o1 ⊢
      by_cases hsg : isg (lx c z 400 y.2.2.2) 59 = true
      · rw [if_pos hsg] at o1 ⊢
        obtain ⟨b1, b2, b3, b4, b5⟩ := o1
        rw [b1] at e1
        have h451 : I1 156 45 = Int32.ofNat l := by rw [F1.2.1 45 (by unfold C13; omega)]; exact h45
        have fb : GM X0 (fun j => j = 45) I1 J1 (am_u I1 156 45 (Int32.ofNat (l + 1))) J1 := ⟨fun q hq _ => am_u_ng _ _ _ _ _ hq, fun j hj => by rw [am_u_sg, if_neg hj], fun _ _ _ => rfl⟩
        have F3 : GM X175 (fun j => C13 j ∨ j = 45) I J (am_u I1 156 45 (Int32.ofNat (l + 1))) J1 := GM_tr F1' (GM_mono fb (fun q hq => hq.elim) (fun j hj => Or.inr hj))
        have hk4 := (isg_f hsg).1
        have hwp := hw2.2.2.2.2.2.2.1 (by omega)
        have hwz := hw2.2.2.2.2.2.1
        have hu3 := lx_good c z 400 (lx c z 400 y.2.2.2).2.2 hwz
        have hg3 := hu3.2.2.2.2.2.2.2.1
        have r175 : am_u I1 156 45 (Int32.ofNat (l + 1)) 175 = I1 175 := am_u_ng _ _ _ _ _ (by omega)
        obtain ⟨I4, J4, F4, r4⟩ := ih (l + 1) (rug D l y.1) (lx c z 400 y.2.2.2).2.2 (lx c z 400 (lx c z 400 y.2.2.2).2.2) (am_u I1 156 45 (Int32.ofNat (l + 1))) J1 (MS_gm b2 fb (fun j hj => by omega) (fun q => q) rfl) (NMm_gm hm F3 (by omega) (by omega)) (am_u_at _ _ _ _) (fun i hi => by
          unfold MLn
          rw [r175]
          by_cases e : i = l
          · subst e; rw [rug_eq]; exact b3
          · rw [rug_ne _ _ _ _ e, b4 (4 * i) (by omega), b4 (4 * i + 1) (by omega), b4 (4 * i + 2) (by omega), b4 (4 * i + 3) (by omega)]
            exact hln i (by omega)) (by rw [am_u_sg, if_neg (by omega)]; exact b5) (by omega) hwz rfl (by omega)
        refine ⟨I4, J4, GM_tr F3 F4, ?_⟩
        have e : am_ev env (d + 9, 285, 30, [some (.ref 156), some (.int x1), none, none], [], am_hp I J E) = am_ev env (d + 9, 285, 30, [some (.ref 156), some (.int x1), none, none], [], am_hp (am_u I1 156 45 (Int32.ofNat (l + 1))) J1 E) := by
          refine start.trans ?_
          simp only [decide_true, decide_false, Bool.not_true, Bool.not_false, am_cont, Option.bind_some, Option.toList_some, Option.toList_none, List.singleton_append, List.nil_append, cond_true, cond_false, e1, bk_285_41, bi_t, zq_1_0, h451, zd_1]
        rw [e]
        exact r4
      · rw [if_neg hsg] at o1 ⊢
        obtain ⟨b1, b2, b3⟩ := o1
        rw [b1] at e1
        refine ⟨I1, J1, F1', start.trans ?_, b2⟩
        simp only [decide_true, decide_false, Bool.not_true, Bool.not_false, am_cont, Option.bind_some, Option.toList_some, Option.toList_none, List.singleton_append, List.nil_append, cond_true, cond_false, e1, bk_285_41, bi_f, zq_0_0, b3]
