/-! a SENTENCE read by the reference: nodes and plain ones -/
/-- the four cells of a node -/
def nd (w : Nat × Nat × Nat) (c : Nat × Nat) (j : Nat) : Nat :=
  if w.1 = 13 then (if j = 0 then 3 else if j = 1 then c.1 else if j = 2 then c.2 else 0) else
  if w.1 = 14 then (if j = 0 then 2 else if j = 1 then c.1 else if j = 2 then c.2 else 0) else
  if w.1 = 15 then (if j = 0 then 1 else if j = 1 then c.1 else 0) else
  if j = 0 then 49 + w.1 else if w.1 ≤ 20 then (if j = 1 then w.2.1 else 0) else (if j = 1 then 0 else if j = 2 then w.2.1 else w.2.2)
def Nds (r : Nat → Int32) (S : Ssn) : Prop := ∀ i, i < S.1 → ∀ j, j < 4 → r (4 * i + j) = Int32.ofNat (nd (S.2.2.1 i) (S.2.2.2 i) j)
def MSt (I : Nat → Nat → Int32) (S : Ssn) (wd : Nat) : Prop := I 156 48 = Int32.ofNat S.1 ∧ I 156 49 = Int32.ofNat S.2.1 ∧ I 156 50 = Int32.ofNat wd ∧ Nds (I 177) S
abbrev X177 : Nat → Prop := fun q => q = 177
abbrev CMn : Nat → Prop := fun j => (5 ≤ j ∧ j ≤ 13) ∨ (48 ≤ j ∧ j ≤ 51)
abbrev CMs : Nat → Prop := fun j => 48 ≤ j ∧ j ≤ 51
theorem MSt_gm {X C : Nat → Prop} {I I1 : Nat → Nat → Int32} {J J1 : Nat → Nat → Int64} {S : Ssn} {wd : Nat} (h : MSt I S wd) (hf : GM X C I J I1 J1) (hX : ¬ X 177) (hC : ∀ j, 48 ≤ j → j ≤ 50 → ¬ C j) : MSt I1 S wd := by
  unfold MSt
  rw [hf.1 177 (by omega) hX, hf.2.1 48 (hC _ (by omega) (by omega)), hf.2.1 49 (hC _ (by omega) (by omega)), hf.2.1 50 (hC _ (by omega) (by omega))]
  exact h
theorem GMs5 {I I1 : Nat → Nat → Int32} {J J1 : Nat → Nat → Int64} (h : GM X0 C5 I J I1 J1) : GM X177 CMn I J I1 J1 := GM_mono h (fun q hq => hq.elim) (fun j hj => by unfold C5 at hj; unfold CMn; omega)
theorem GMs5t {I I1 : Nat → Nat → Int32} {J J1 : Nat → Nat → Int64} (h : GM X0 C5t I J I1 J1) : GM X177 CMn I J I1 J1 := GM_mono h (fun q hq => hq.elim) (fun j hj => by unfold C5t at hj; unfold CMn; omega)
theorem GMs13 {I I1 : Nat → Nat → Int32} {J J1 : Nat → Nat → Int64} (h : GM X0 C13 I J I1 J1) : GM X177 CMn I J I1 J1 := GM_mono h (fun q hq => hq.elim) (fun j hj => by unfold C13 at hj; unfold CMn; omega)
theorem GMss {I I1 : Nat → Nat → Int32} {J J1 : Nat → Nat → Int64} (h : GM X177 CMs I J I1 J1) : GM X177 CMn I J I1 J1 := GM_mono h (fun q hq => hq) (fun j hj => by unfold CMs at hj; unfold CMn; omega)
theorem GM6 (I : Nat → Nat → Int32) (J : Nat → Nat → Int64) (k : Nat) (v : Int32) (h1 : 48 ≤ k) (h2 : k ≤ 51) : GM X177 CMs I J (am_u I 156 k v) J := ⟨fun _ hq _ => am_u_ng _ _ _ _ _ hq, fun j hj => by unfold CMs at hj; rw [am_u_sg, if_neg (by omega)], fun _ _ _ => rfl⟩
theorem GM7 (I : Nat → Nat → Int32) (J : Nat → Nat → Int64) (k : Nat) (v : Int32) : GM X177 CMs I J (am_u I 177 k v) J := ⟨fun _ _ hr => am_u_ng _ _ _ _ _ hr, fun j _ => by rw [am_u_ng _ _ _ _ _ (by omega)], fun _ _ _ => rfl⟩
theorem MSt_51 {I : Nat → Nat → Int32} {S : Ssn} {wd : Nat} (h : MSt I S wd) (v : Int32) : MSt (am_u I 156 51 v) S wd := ⟨by rw [am_u_sg, if_neg (by omega)]; exact h.1, by rw [am_u_sg, if_neg (by omega)]; exact h.2.1, by rw [am_u_sg, if_neg (by omega)]; exact h.2.2.1, by rw [am_u_ng _ _ _ _ _ (by omega)]; exact h.2.2.2⟩
theorem MSt_50 {I : Nat → Nat → Int32} {S : Ssn} {wd : Nat} (h : MSt I S wd) (v : Nat) (x : Int32) (hx : x = Int32.ofNat v) : MSt (am_u I 156 50 x) S v := ⟨by rw [am_u_sg, if_neg (by omega)]; exact h.1, by rw [am_u_sg, if_neg (by omega)]; exact h.2.1, by rw [am_u_at]; exact hx, by rw [am_u_ng _ _ _ _ _ (by omega)]; exact h.2.2.2⟩
theorem z_p1 (k : Nat) : Int32.ofNat (k + 1) - 1 = Int32.ofNat k := by rw [← zd_1, Int32.add_sub_cancel]
theorem m_says (env : am_E) (d : Nat) (S : Ssn) (hs : S.1 < 60) (w : Nat × Nat × Nat) (cc : Nat × Nat) (wd : Nat) (x1 x2 x3 x4 : Int32) (h1 : x1 = Int32.ofNat (nd w cc 0)) (h2 : x2 = Int32.ofNat (nd w cc 1)) (h3 : x3 = Int32.ofNat (nd w cc 2)) (h4 : x4 = Int32.ofNat (nd w cc 3)) (I : Nat → Nat → Int32) (J : Nat → Nat → Int64) (E : Nat → Nat → Nat) (h : MSt I S wd) : ∃ I', am_ev env (d + 1, 288, 0, [some (.ref 156), some (.int x1), some (.int x2), some (.int x3), some (.int x4), none], [], am_hp I J E) = some (true, some (.int (Int32.ofNat S.1)), am_hp I' J E) ∧ MSt I' (sadd S w cc) wd ∧ GM X177 CMs I J I' J ∧ I' 156 51 = I 156 51 := by
  obtain ⟨a1, a2, a3, a4⟩ := h
  have start := bk_288_0 env d x1 x2 x3 x4 I J E
  have n1 : am_u (am_u (am_u (am_u I 177 (4 * S.1) x1) 177 (4 * S.1 + 1) x2) 177 (4 * S.1 + 2) x3) 177 (4 * S.1 + 3) x4 156 48 = Int32.ofNat S.1 := by
    rw [am_u_ng _ _ _ _ _ (by omega), am_u_ng _ _ _ _ _ (by omega), am_u_ng _ _ _ _ _ (by omega), am_u_ng _ _ _ _ _ (by omega)]; exact a1
  rw [a1, show (4 : Int32) * Int32.ofNat S.1 = Int32.ofNat (4 * S.1) from zI_mul 4 S.1, zd_1, zd_2, zd_3, zI_in (4 * S.1) 240 (by omega) (by omega), zI_in (4 * S.1 + 1) 240 (by omega) (by omega), zI_in (4 * S.1 + 2) 240 (by omega) (by omega), zI_in (4 * S.1 + 3) 240 (by omega) (by omega), zI_nat (4 * S.1) (by omega), zI_nat (4 * S.1 + 1) (by omega), zI_nat (4 * S.1 + 2) (by omega), zI_nat (4 * S.1 + 3) (by omega), n1, zd_1] at start
  simp only [decide_true, decide_false, Bool.not_true, Bool.not_false, am_cont, Option.bind_some, Option.toList_some, Option.toList_none, List.singleton_append, List.nil_append, cond_true, cond_false, bk_288_57, am_u_at, z_p1] at start
  refine ⟨_, start, ⟨?_, ?_, ?_, fun i hi j hj => ?_⟩, GM_tr (GM_tr (GM_tr (GM_tr (GM7 _ _ _ _) (GM7 _ _ _ _)) (GM7 _ _ _ _)) (GM7 _ _ _ _)) (GM6 _ _ _ _ (by omega) (by omega)), ?_⟩
  · rw [am_u_at]; rfl
  · rw [am_u_sg, if_neg (by omega), am_u_ng _ _ _ _ _ (by omega), am_u_ng _ _ _ _ _ (by omega), am_u_ng _ _ _ _ _ (by omega), am_u_ng _ _ _ _ _ (by omega)]; exact a2
  · rw [am_u_sg, if_neg (by omega), am_u_ng _ _ _ _ _ (by omega), am_u_ng _ _ _ _ _ (by omega), am_u_ng _ _ _ _ _ (by omega), am_u_ng _ _ _ _ _ (by omega)]; exact a3
  · have hi : i < S.1 + 1 := hi
    show _ = Int32.ofNat (nd (rug S.2.2.1 S.1 w i) (rug S.2.2.2 S.1 cc i) j)
    rw [am_u_ng _ 156 _ _ 177 (by omega), am_u_sg, am_u_sg, am_u_sg, am_u_sg]
    by_cases e : i = S.1
    · rw [e, rug_eq, rug_eq]
      rcases (show j = 0 ∨ j = 1 ∨ j = 2 ∨ j = 3 by omega) with rfl | rfl | rfl | rfl
      · rw [if_neg (by omega), if_neg (by omega), if_neg (by omega), if_pos (by omega)]; exact h1
      · rw [if_neg (by omega), if_neg (by omega), if_pos (by omega)]; exact h2
      · rw [if_neg (by omega), if_pos (by omega)]; exact h3
      · rw [if_pos (by omega)]; exact h4
    · rw [rug_ne _ _ _ _ e, rug_ne _ _ _ _ e, if_neg (by omega), if_neg (by omega), if_neg (by omega), if_neg (by omega)]; exact a4 i (by omega) j hj
  · rw [am_u_sg, if_neg (by omega), am_u_ng _ _ _ _ _ (by omega), am_u_ng _ _ _ _ _ (by omega), am_u_ng _ _ _ _ _ (by omega), am_u_ng _ _ _ _ _ (by omega)]
def mSo (I : Nat → Nat → Int32) (J : Nat → Nat → Int64) (z : Nat) (c : Nat → Nat) (lim wd : Nat) (b : Bool) (res : PSr) : Prop := match res with
  | .inl x => b = false ∧ I 156 10 = Int32.ofNat x.1 ∧ I 156 11 = Int32.ofNat x.2
  | .inr y => b = true ∧ MS I J z c lim y.2 ∧ MSt I y.1 wd ∧ I 156 51 = Int32.ofNat (y.1.1 - 1) ∧ I 156 10 = 0
theorem m_fin (env : am_E) (d : Nat) (x1 x2 : Int32) (b : Bool) (I : Nat → Nat → Int32) (J : Nat → Nat → Int64) (E : Nat → Nat → Nat) : am_ev env (d + 1, 291, 166, [some (.ref 156), some (.int x1), some (.int x2), some (.int (bi b))], [], am_hp I J E) = some (true, some (.int (bi b)), am_hp (am_u I 156 50 (I 156 50 - 1)) J E) := by
  refine (bk_291_166 _ _ _ _ _ _ _ _).trans ?_
  rw [bi_and]; rfl
/-- the end of a ONE -/
theorem mSo_fin {I : Nat → Nat → Int32} {J : Nat → Nat → Int64} {z : Nat} {c : Nat → Nat} {lim wd : Nat} {b : Bool} {res : PSr} (h : mSo I J z c lim (wd + 1) b res) : mSo (am_u I 156 50 (I 156 50 - 1)) J z c lim wd b res := by
  cases res with
  | inl x =>
    obtain ⟨a1, a2, a3⟩ := h
    exact ⟨a1, by rw [am_u_sg, if_neg (by omega)]; exact a2, by rw [am_u_sg, if_neg (by omega)]; exact a3⟩
  | inr y =>
    obtain ⟨a1, a2, a3, a4, a5⟩ := h
    exact ⟨a1, MS_gm a2 (GM6 I J 50 _ (by omega) (by omega)) (fun j hj q => by unfold CMs at q; omega) (by omega) rfl, MSt_50 a3 wd _ (by rw [a3.2.2.1, z_p1]), by rw [am_u_sg, if_neg (by omega)]; exact a4, by rw [am_u_sg, if_neg (by omega)]; exact a5⟩
theorem m_leaf (env : am_E) (d : Nat) (z lim : Nat) (hz : z ≤ 940) (hlim : lim ≤ 1000) (c : Nat → Nat) (u : Cu) (n k : Nat) (T U : Nat → List Nat) (S : Ssn) (hs : S.1 < 60) (w wd : Nat) (hw1 : 15 ≤ w) (hw : w ≤ 23) (I : Nat → Nat → Int32) (J : Nat → Nat → Int64) (E : Nat → Nat → Nat) (h : MS I J z c lim u) (hm : NMm I J n k T U) (hc : MSt I S wd) (hf : I 156 10 = 0) : ∃ b I' J', am_ev env (d + 8, 291, 94, [some (.ref 156), some (.int 0), some (.int (Int32.ofNat w)), none], [], am_hp I J E) = am_ev env (d + 8, 291, 166, [some (.ref 156), some (.int 0), some (.int (Int32.ofNat w)), some (.int (bi b))], [], am_hp I' J' E) ∧ GM X177 CMn I J I' J' ∧ mSo I' J' z c lim wd b (ppl c z lim n T (w + 1) S u) := by
  have start := bk_291_94 env (d + 7) 0 (Int32.ofNat w) I J E
  rw [zq_0_0, show decide (Int32.ofNat w = (14 : Int32)) = false from (zI_deq w 14 (by omega) (by omega)).trans (decide_eq_false (by omega)), show decide ((18 : Int32) ≤ Int32.ofNat w) = decide (18 ≤ w) from zle_d 18 w (by omega) (by omega), show decide ((20 : Int32) ≤ Int32.ofNat w) = decide (20 ≤ w) from zle_d 20 w (by omega) (by omega), show (50 : Int32) + Int32.ofNat w = Int32.ofNat (50 + w) from zc_add 50 w] at start
  have hat := m_at h
  unfold ppl
  have top : ∀ (ww : Nat × Nat × Nat), (sadd S ww (0, 0)).1 - 1 = S.1 := fun ww => by show S.1 + 1 - 1 = S.1; omega
  by_cases h18 : w + 1 ≤ 18
  · rw [if_pos h18]
    rw [decide_eq_false (by omega : ¬ 18 ≤ w)] at start
    obtain ⟨I1, e1, e2, e3, e4⟩ := m_says env (d + 6) S hs (w + 1, 0, 0) (0, 0) wd (Int32.ofNat (50 + w)) 0 0 0 (by unfold nd; dsimp only; rw [if_neg (by omega), if_neg (by omega), if_neg (by omega), if_pos rfl, show 50 + w = 49 + (w + 1) by omega]) (by unfold nd; dsimp only; rw [if_neg (by omega), if_neg (by omega), if_neg (by omega), if_neg (by omega), if_pos (by omega), if_pos rfl]; rfl) (by unfold nd; dsimp only; rw [if_neg (by omega), if_neg (by omega), if_neg (by omega), if_neg (by omega), if_pos (by omega), if_neg (by omega)]; rfl) (by unfold nd; dsimp only; rw [if_neg (by omega), if_neg (by omega), if_neg (by omega), if_neg (by omega), if_pos (by omega), if_neg (by omega)]; rfl) I J E hc
    refine ⟨true, am_u I1 156 51 (Int32.ofNat S.1), J, start.trans ?_, GM_tr (GMss e3) (GMss (GM6 _ _ _ _ (by omega) (by omega))), rfl, MS_gm h (GM_tr e3 (GM6 _ _ 51 _ (by omega) (by omega))) (fun j hj q => by unfold CMs at q; omega) (by omega) rfl, MSt_51 e2 _, by rw [am_u_at, top], by rw [am_u_sg, if_neg (by omega), e3.2.1 10 (by unfold CMs; omega)]; exact hf⟩
    simp only [decide_true, decide_false, Bool.not_true, Bool.not_false, am_cont, Option.bind_some, Option.toList_some, Option.toList_none, List.singleton_append, List.nil_append, cond_true, cond_false, e1, bk_291_140]; rfl
  rw [if_neg h18]
  rw [decide_eq_true (by omega : 18 ≤ w)] at start
  by_cases h20 : w + 1 ≤ 20
  · rw [if_pos h20]
    rw [decide_eq_false (by omega : ¬ 20 ≤ w)] at start
    obtain ⟨n1, n2⟩ := m_bookName env (d + 1) z lim hz hlim c u n k T U I J E h hm
    by_cases hb : fnB T n u = 0
    rotate_left
    · rw [if_pos hb]
      obtain ⟨I1, k1, k2, k3, k4⟩ := n2 hb
      refine ⟨false, I1, J, start.trans ?_, GMs13 k4, rfl, k2, k3⟩
      simp only [decide_true, decide_false, Bool.not_true, Bool.not_false, am_cont, Option.bind_some, Option.toList_some, Option.toList_none, List.singleton_append, List.nil_append, cond_true, cond_false, bk_294_0, k1, bk_294_4, zq_0_0, bk_291_157, bk_291_165]; rfl
    rw [if_neg (fun q => q hb)]
    obtain ⟨I1, J1, k1, k2, k3, k4⟩ := n1 hb
    have fb := fdx_le T u.1.2.1 n
    have c1 := MSt_gm hc k4 (fun q => q) (fun j h1 h2 q => by unfold C5t at q; omega)
    obtain ⟨I2, e1, e2, e3, e4⟩ := m_says env (d + 5) S hs (w + 1, fdx T u.1.2.1 n - 1, 0) (0, 0) wd (Int32.ofNat (50 + w)) (I1 156 13) 0 0 (by unfold nd; dsimp only; rw [if_neg (by omega), if_neg (by omega), if_neg (by omega), if_pos rfl, show 50 + w = 49 + (w + 1) by omega]) (by unfold nd; dsimp only; rw [if_neg (by omega), if_neg (by omega), if_neg (by omega), if_neg (by omega), if_pos (by omega), if_pos rfl]; exact k3) (by unfold nd; dsimp only; rw [if_neg (by omega), if_neg (by omega), if_neg (by omega), if_neg (by omega), if_pos (by omega), if_neg (by omega)]; rfl) (by unfold nd; dsimp only; rw [if_neg (by omega), if_neg (by omega), if_neg (by omega), if_neg (by omega), if_pos (by omega), if_neg (by omega)]; rfl) I1 J1 E c1
    refine ⟨true, am_u I2 156 51 (Int32.ofNat S.1), J1, start.trans ?_, GM_tr (GMs5t k4) (GM_tr (GMss e3) (GMss (GM6 _ _ _ _ (by omega) (by omega)))), rfl, MS_gm k2 (GM_tr e3 (GM6 _ _ 51 _ (by omega) (by omega))) (fun j hj q => by unfold CMs at q; omega) (by omega) rfl, MSt_51 e2 _, by rw [am_u_at, top], by rw [am_u_sg, if_neg (by omega), e3.2.1 10 (by unfold CMs; omega), k4.2.1 10 (by unfold C5t; omega)]; exact hf⟩
    simp only [decide_true, decide_false, Bool.not_true, Bool.not_false, am_cont, Option.bind_some, Option.toList_some, Option.toList_none, List.singleton_append, List.nil_append, cond_true, cond_false, bk_294_0, k1, bk_294_4, zq_1_0, show (50 : Int32) + Int32.ofNat w = Int32.ofNat (50 + w) from zc_add 50 w, e1, bk_294_24, bk_291_157, bk_291_165]; rfl
  rw [if_neg h20]
  rw [decide_eq_true (by omega : 20 ≤ w)] at start
  have sg60 := m_isSign env (d + 5) z lim c u 60 (by omega) 60 rfl I J E h
  have sg61 := m_isSign env (d + 5) z lim c u 61 (by omega) 61 rfl I J E h
  have sg62 := m_isSign env (d + 5) z lim c u 62 (by omega) 62 rfl I J E h
  have mb := m_bad env (d + 5) z lim c u 1 I J E h (Or.inr rfl)
  have s33 : am_ev env (d + 7, 295, 0, [some (.ref 156), some (.int (Int32.ofNat w)), none], [], am_hp I J E) = (bif ism u then am_ev env (d + 7, 295, 33, [some (.ref 156), some (.int (Int32.ofNat w)), none], [], am_hp I J E) else some (true, some (.int 0), am_hp (mbd I 1) J E)) := by
    refine (bk_295_0 _ _ _ _ _ _).trans ?_
    unfold ism
    simp only [decide_true, decide_false, Bool.not_true, Bool.not_false, am_cont, Option.bind_some, Option.toList_some, Option.toList_none, List.singleton_append, List.nil_append, cond_true, cond_false, sg60, bk_295_6, bi_eq0, Bool.not_not]
    cases isg u 60
    · simp only [decide_true, decide_false, Bool.not_true, Bool.not_false, am_cont, Option.bind_some, Option.toList_some, Option.toList_none, List.singleton_append, List.nil_append, cond_true, cond_false, sg61, bk_295_15, bi_eq0, Bool.not_not]
      cases isg u 61
      · simp only [decide_true, decide_false, Bool.not_true, Bool.not_false, am_cont, Option.bind_some, Option.toList_some, Option.toList_none, List.singleton_append, List.nil_append, cond_true, cond_false, sg62, bk_295_24, bi_eq0, Bool.not_not]
        cases isg u 62
        · simp only [decide_true, decide_false, Bool.not_true, Bool.not_false, am_cont, Option.bind_some, Option.toList_some, Option.toList_none, List.singleton_append, List.nil_append, cond_true, cond_false, mb, bk_295_32, Bool.or_self]; rfl
        · rfl
      · rfl
    · rfl
  by_cases hi : ism u = false
  · rw [if_pos hi]
    rw [hi] at s33
    have s33 : am_ev env (d + 7, 295, 0, [some (.ref 156), some (.int (Int32.ofNat w)), none], [], am_hp I J E) = some (true, some (.int 0), am_hp (mbd I 1) J E) := s33
    refine ⟨false, mbd I 1, J, start.trans ?_, GMs13 (mbd_gm I J 1), rfl, mbd_10 I 1, by rw [mbd_11]; exact hat⟩
    simp only [decide_true, decide_false, Bool.not_true, Bool.not_false, am_cont, Option.bind_some, Option.toList_some, Option.toList_none, List.singleton_append, List.nil_append, cond_true, cond_false, s33, bk_291_165]; rfl
  rw [if_neg hi]
  rw [Bool.not_eq_false] at hi
  rw [hi] at s33
  have hsg : I 156 9 = Int32.ofNat u.1.2.2 := by
    have hk : u.1.1 = 4 := by
      unfold ism at hi
      rcases or_f hi with q | q
      · exact (isg_f q).1
      · rcases or_f q with q | q
        · exact (isg_f q).1
        · exact (isg_f q).1
    exact h.1.2.2.2.1 hk
  obtain ⟨I1, J1, k1, s1, f1⟩ := m_nx env (d + 4) z lim hz hlim c u I J E h
  have c1 := MSt_gm hc f1 (fun q => q) (fun j h1 h2 q => by unfold C5 at q; omega)
  have hat1 := m_at s1
  have g42 : am_ev env (d + 7, 295, 0, [some (.ref 156), some (.int (Int32.ofNat w)), none], [], am_hp I J E) = am_cont env (d + 6, 190, 0, [some (.ref 156), some (.int 0), some (.int 999)], [], am_hp I1 J1 E) (d + 7) 295 50 [some (.ref 156), some (.int (Int32.ofNat w)), some (.int (Int32.ofNat u.1.2.2))] [] := by
    refine s33.trans ?_
    rw [← hsg]
    simp only [decide_true, decide_false, Bool.not_true, Bool.not_false, am_cont, Option.bind_some, Option.toList_some, Option.toList_none, List.singleton_append, List.nil_append, cond_true, cond_false, bk_295_33, k1, bk_295_42]
  generalize hq1 : lx c z lim u.2.2 = u1 at s1 hat1 ⊢
  by_cases hp : pn u1 0 999 = 0
  rotate_left
  · rw [if_pos hp]
    have e190 := m_num0 env (d + 3) z lim c u1 0 999 (by omega) (by omega) 0 999 rfl rfl I1 J1 E s1 hp
    refine ⟨false, mbd I1 (Int32.ofNat (pn u1 0 999)), J1, start.trans ?_, GM_tr (GMs5 f1) (GMs13 (mbd_gm I1 J1 _)), rfl, mbd_10 _ _, by rw [mbd_11]; exact hat1⟩
    have g50 : am_ev env (d + 7, 295, 0, [some (.ref 156), some (.int (Int32.ofNat w)), none], [], am_hp I J E) = some (true, some (.int 0), am_hp (mbd I1 (Int32.ofNat (pn u1 0 999))) J1 E) := by
      refine g42.trans ?_
      rw [am_cont_some e190]
      simp only [decide_true, decide_false, Bool.not_true, Bool.not_false, am_cont, Option.bind_some, Option.toList_some, Option.toList_none, List.singleton_append, List.nil_append, cond_true, cond_false, bk_295_50, zq_0_0]
    simp only [decide_true, decide_false, Bool.not_true, Bool.not_false, am_cont, Option.bind_some, Option.toList_some, Option.toList_none, List.singleton_append, List.nil_append, cond_true, cond_false, g50, bk_291_165]; rfl
  rw [if_neg (fun q => q hp)]
  obtain ⟨I2, J2, k2, s2, t13, f2⟩ := m_num1 env (d + 3) z lim hz hlim c u1 0 999 (by omega) (by omega) 0 999 rfl rfl I1 J1 E s1 hp
  have c2 := MSt_gm c1 f2 (fun q => q) (fun j h1 h2 q => by unfold C5t at q; omega)
  obtain ⟨I3, e1, e2, e3, e4⟩ := m_says env (d + 5) S hs (w + 1, u1.1.2.2, u.1.2.2) (0, 0) wd (Int32.ofNat (50 + w)) 0 (I2 156 13) (Int32.ofNat u.1.2.2) (by unfold nd; dsimp only; rw [if_neg (by omega), if_neg (by omega), if_neg (by omega), if_pos rfl, show 50 + w = 49 + (w + 1) by omega]) (by unfold nd; dsimp only; rw [if_neg (by omega), if_neg (by omega), if_neg (by omega), if_neg (by omega), if_neg (by omega), if_pos rfl]; rfl) (by unfold nd; dsimp only; rw [if_neg (by omega), if_neg (by omega), if_neg (by omega), if_neg (by omega), if_neg (by omega), if_neg (by omega), if_pos rfl]; exact t13) (by unfold nd; dsimp only; rw [if_neg (by omega), if_neg (by omega), if_neg (by omega), if_neg (by omega), if_neg (by omega), if_neg (by omega), if_neg (by omega)]) I2 J2 E c2
  refine ⟨true, am_u I3 156 51 (Int32.ofNat S.1), J2, start.trans ?_, GM_tr (GMs5 f1) (GM_tr (GMs5t f2) (GM_tr (GMss e3) (GMss (GM6 _ _ _ _ (by omega) (by omega))))), rfl, MS_gm s2 (GM_tr e3 (GM6 _ _ 51 _ (by omega) (by omega))) (fun j hj q => by unfold CMs at q; omega) (by omega) rfl, MSt_51 e2 _, by rw [am_u_at, top], by rw [am_u_sg, if_neg (by omega), e3.2.1 10 (by unfold CMs; omega), f2.2.1 10 (by unfold C5t; omega), f1.2.1 10 (by unfold C5; omega)]; exact hf⟩
  have g50 : am_ev env (d + 7, 295, 0, [some (.ref 156), some (.int (Int32.ofNat w)), none], [], am_hp I J E) = some (true, some (.int 1), am_hp (am_u I3 156 51 (Int32.ofNat S.1)) J2 E) := by
    refine g42.trans ?_
    rw [am_cont_some k2]
    simp only [decide_true, decide_false, Bool.not_true, Bool.not_false, am_cont, Option.bind_some, Option.toList_some, Option.toList_none, List.singleton_append, List.nil_append, cond_true, cond_false, bk_295_50, zq_1_0, show (50 : Int32) + Int32.ofNat w = Int32.ofNat (50 + w) from zc_add 50 w, e1, bk_295_70]
  simp only [decide_true, decide_false, Bool.not_true, Bool.not_false, am_cont, Option.bind_some, Option.toList_some, Option.toList_none, List.singleton_append, List.nil_append, cond_true, cond_false, g50, bk_291_165]; rfl
