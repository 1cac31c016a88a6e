/-! days by draws, odds -/
theorem rS_ext (I I' : Nat → Nat → Int32) (p : Nat) (h : ∀ q j, ((q = 5 ∧ j < 4) ∨ (7 ≤ q ∧ q ≤ 9) ∨ q = 11 ∨ (q = p ∧ j < 4) ∨ (p < q ∧ q ≤ p + 5)) → I' q j = I q j) (k : Nat) : rS I' p k = rS I p k := by
  unfold rS
  by_cases g1 : k < 4
  · rw [if_pos g1, if_pos g1]; exact h _ _ (by omega)
  rw [if_neg g1, if_neg g1]
  by_cases g2 : k < 12
  · rw [if_pos g2, if_pos g2]; exact h _ _ (by omega)
  rw [if_neg g2, if_neg g2]
  by_cases g3 : k < 20
  · rw [if_pos g3, if_pos g3]; exact h _ _ (by omega)
  rw [if_neg g3, if_neg g3]
  by_cases g4 : k < 28
  · rw [if_pos g4, if_pos g4]; exact h _ _ (by omega)
  rw [if_neg g4, if_neg g4]
  by_cases g5 : k < 34
  · rw [if_pos g5, if_pos g5]; exact h _ _ (by omega)
  rw [if_neg g5, if_neg g5]
  by_cases g6 : k < 38
  · rw [if_pos g6, if_pos g6]; exact h _ _ (by omega)
  rw [if_neg g6, if_neg g6]
  by_cases g7 : k < 46
  · rw [if_pos g7, if_pos g7]; exact h _ _ (by omega)
  rw [if_neg g7, if_neg g7]
  by_cases g8 : k < 52
  · rw [if_pos g8, if_pos g8]; exact h _ _ (by omega)
  rw [if_neg g8, if_neg g8]
  by_cases g9 : k < 58
  · rw [if_pos g9, if_pos g9]; exact h _ _ (by omega)
  rw [if_neg g9, if_neg g9]
  by_cases g10 : k < 64
  · rw [if_pos g10, if_pos g10]; exact h _ _ (by omega)
  rw [if_neg g10, if_neg g10]
  by_cases g11 : k < 70
  · rw [if_pos g11, if_pos g11]; exact h _ _ (by omega)
  rw [if_neg g11, if_neg g11]
/-- what R1 speaks of -/
def KR (q j : Nat) : Prop := (5 ≤ q ∧ q ≤ 11) ∨ (12 ≤ q ∧ q ≤ 17 ∧ ¬ (q = 12 ∧ 4 ≤ j)) ∨ (43 ≤ q ∧ q ≤ 98) ∨ (q = 156 ∧ j = 24) ∨ (q = 158 ∧ j < 70) ∨ q = 161
theorem R1_ext (I I' : Nat → Nat → Int32) (n k t h : Nat) (he : ∀ q j, KR q j → I' q j = I q j) (hR : R1 I n k t h) : R1 I' n k t h := by
  obtain ⟨r1, r2, r3, ⟨r4, r5, r6, r7, r8⟩, r9⟩ := hR
  have hn := r1.1.2
  have hk := r1.2.1.2
  have a158 : Agr n k (I 158) (I' 158) := fun j hj => (he 158 j (by
    have : j < 70 := by unfold rel at hj; omega
    unfold KR; omega)).symm
  have aS : ∀ i, Agr n k (snp I i) (snp I' i) := by
    intro i j hj
    unfold snp
    by_cases g : j < 34
    · rw [if_pos g, if_pos g]; exact (he 158 j (by unfold KR; omega)).symm
    · rw [if_neg g, if_neg g]; exact (he 161 _ (by unfold KR; omega)).symm
  have hr : ∀ p, (p = 12 ∨ (45 ≤ p ∧ p ≤ 93)) → rS I' p = rS I p := fun p hp => funext (rS_ext I I' p (fun q j hq => he q j (by unfold KR; omega)))
  refine ⟨IvL_agr a158 r1, IvS_agr a158 r2, ?_, ⟨r4, r5, (he 43 1 (by unfold KR; omega)).trans r6, (he 43 2 (by unfold KR; omega)).trans r7, (he 156 24 (by unfold KR; omega)).trans r8⟩, ?_⟩
  · rw [hr 12 (by omega)]; exact agr_trans r3 a158
  · intro i hi
    have := Nat.mod_lt (t + 9 - h + i) (by omega : 9 > 0)
    rw [hr _ (by omega)]
    obtain ⟨b1, b2⟩ := r9 i hi
    exact ⟨IvS_agr (aS i) b1, agr_trans b2 (aS i)⟩
theorem lp_front {α : Type} (g : α → α) (j : Nat) (x : α) : lp (fun _ y => g y) (j + 1) x = lp (fun _ y => g y) j (g x) := by
  induction j with
  | zero => rfl
  | succ j ih =>
    show g (lp (fun _ y => g y) (j + 1) x) = g (lp (fun _ y => g y) j (g x))
    rw [ih]
def dwR (Nf : Int32 → Int32) (Df : Int32 → Nat → Nat) (n k : Nat) (x : Int32 × (Nat → Int32)) : Int32 × (Nat → Int32) := if 1 ≤ n then lp (fun r x => dwG Nf Df n k r x) k x else x
def dwDay (Nf : Int32 → Int32) (Df : Int32 → Nat → Nat) (n k : Nat) (x : Int32 × (Nat → Int32)) : Int32 × (Nat → Int32) := ((dwR Nf Df n k x).1, lDay k (dwR Nf Df n k x).2)
def dwDays (Nf : Int32 → Int32) (Df : Int32 → Nat → Nat) (n k K : Nat) (x : Int32 × (Nat → Int32)) : Int32 × (Nat → Int32) := lp (fun _ x => dwDay Nf Df n k x) K x
theorem dwL_lo (m : Nat → Int32) (r b : Nat) (hr : r < 6) (hb : b < 8) (j : Nat) (hj : j < 35 ∨ 70 ≤ j) : dwL m r b j = m j := by
  unfold dwL
  cases decide (wLend m r b = 0)
  · rfl
  · show lLend m r b j = m j
    unfold lLend; rw [ru_ne _ _ _ _ (by omega), ru_ne _ _ _ _ (by omega), ru_ne _ _ _ _ (by omega)]
theorem dwB_lo (m : Nat → Int32) (r : Nat) (hr : r < 6) (hx : m (46 + r) = -1 ∨ ∃ b, b < 8 ∧ m (46 + r) = Int32.ofNat b) (j : Nat) (hj : j < 35 ∨ 70 ≤ j) : dwB m r j = m j := by
  unfold dwB
  rcases hx with e | ⟨b, hb, e⟩
  · rw [decide_eq_true e]; rfl
  · rw [decide_eq_false (by rw [e]; exact fun e => m1_ne b (by omega) e.symm), e, zI_nat b (by omega)]
    show lBack m r b j = m j
    unfold lBack; rw [ru_ne _ _ _ _ (by omega), lLeave_at _ _ _ _ (by omega) (by omega) (by omega)]
theorem dwT_lo (m : Nat → Int32) (r b q : Nat) (hq : q < 6) (j : Nat) (hj : j < 35 ∨ 70 ≤ j) : dwT m r b q j = m j := by
  unfold dwT
  cases decide (wTell m r b q = 0)
  · rfl
  · exact lLearn_at _ _ _ _ (by omega) (by omega)
theorem ivx_dwG (Nf : Int32 → Int32) (Df : Int32 → Nat → Nat) (hD : ∀ s n, 1 ≤ n → Df s n < n) {n k r : Nat} {x : Int32 × (Nat → Int32)} (h : IvX n k x.2) (hr : r < k) (hn : 1 ≤ n) : IvX n k (dwG Nf Df n k r x).2 := by
  unfold dwG
  split
  · exact ivx_dwL h hr (hD _ _ hn)
  · split
    · show IvX n k (bif _ then dwB x.2 r else x.2)
      cases decide (Df (Nf (Nf x.1)) 4 = 0)
      · exact h
      · exact ivx_dwB h hr
    · split
      · exact ivx_dwT h (hD _ _ (by omega)) (hD _ _ hn)
      · exact h
theorem dwD_lo (Nf : Int32 → Int32) (Df : Int32 → Nat → Nat) (hD : ∀ s n, 1 ≤ n → Df s n < n) {n k r : Nat} {x : Int32 × (Nat → Int32)} (h : IvX n k x.2) (hr : r < k) (hn : 1 ≤ n) (j : Nat) (hj : j < 35 ∨ 70 ≤ j) : (dwG Nf Df n k r x).2 j = x.2 j := by
  have hk := h.1.2.1.2
  have hn8 := h.1.1.2
  have hb := hD (Nf (Nf x.1)) n hn
  have hq := hD (Nf (Nf (Nf x.1))) k (by omega)
  unfold dwG
  split
  · exact dwL_lo _ _ _ (by omega) (by omega) j hj
  · split
    · show (bif _ then dwB x.2 r else x.2) j = _
      cases decide (Df (Nf (Nf x.1)) 4 = 0)
      · rfl
      · exact dwB_lo _ _ (by omega) (has_or hn8 h.2 (by omega)) j hj
    · split
      · exact dwT_lo _ _ _ _ (by omega) j hj
      · rfl
theorem dwR_P (Nf : Int32 → Int32) (Df : Int32 → Nat → Nat) (hD : ∀ s n, 1 ≤ n → Df s n < n) {n k : Nat} (x : Int32 × (Nat → Int32)) (h : IvX n k x.2) : IvX n k (dwR Nf Df n k x).2 ∧ ∀ j, (j < 35 ∨ 70 ≤ j) → (dwR Nf Df n k x).2 j = x.2 j := by
  unfold dwR
  by_cases hn : 1 ≤ n
  · rw [if_pos hn]
    have key : ∀ K, K ≤ k → IvX n k (lp (fun r x => dwG Nf Df n k r x) K x).2 ∧ ∀ j, (j < 35 ∨ 70 ≤ j) → (lp (fun r x => dwG Nf Df n k r x) K x).2 j = x.2 j := by
      intro K
      induction K with
      | zero => intro _; exact ⟨h, fun _ _ => rfl⟩
      | succ K ih =>
        intro hK
        obtain ⟨i1, i2⟩ := ih (by omega)
        exact ⟨ivx_dwG Nf Df hD i1 (by omega) hn, fun j hj => (dwD_lo Nf Df hD i1 (by omega) hn j hj).trans (i2 j hj)⟩
    exact key k (Nat.le_refl _)
  · rw [if_neg hn]; exact ⟨h, fun _ _ => rfl⟩
theorem lDay_hi (k : Nat) (m : Nat → Int32) (n y : Nat) (h : IvX n k m) (h34 : m 34 = Int32.ofNat y) (hy : y < 400) (j : Nat) (hj : 70 ≤ j) : lDay k m j = m j :=
  lDays_lo k m n 1 y h.1 h.2 h34 (by omega) j hj
theorem dwDay_P (Nf : Int32 → Int32) (Df : Int32 → Nat → Nat) (hD : ∀ s n, 1 ≤ n → Df s n < n) {n k y : Nat} (x : Int32 × (Nat → Int32)) (h : IvX n k x.2) (h34 : x.2 34 = Int32.ofNat y) (hy : y < 400) : IvX n k (dwDay Nf Df n k x).2 ∧ (dwDay Nf Df n k x).2 34 = Int32.ofNat (y + 1) ∧ ∀ j, (j < 34 ∨ 70 ≤ j) → (dwDay Nf Df n k x).2 j = x.2 j := by
  obtain ⟨i1, i2⟩ := dwR_P Nf Df hD x h
  have e34 : (dwR Nf Df n k x).2 34 = Int32.ofNat y := (i2 34 (by omega)).trans h34
  refine ⟨⟨IvL_low (m := (dwR Nf Df n k x).2) (fun j hj => lDay_low k _ j hj) i1.1, lDay_inv _ n k y i1.1 i1.2 e34 hy⟩, lDay_34 k _ y e34, ?_⟩
  intro j hj
  rcases hj with hj | hj
  · exact (lDay_low k _ j hj).trans (i2 j (by omega))
  · exact (lDay_hi k _ n y i1 e34 hy j hj).trans (i2 j (by omega))
theorem dwDays_P (Nf : Int32 → Int32) (Df : Int32 → Nat → Nat) (hD : ∀ s n, 1 ≤ n → Df s n < n) {n k y : Nat} (x : Int32 × (Nat → Int32)) (h : IvX n k x.2) (h34 : x.2 34 = Int32.ofNat y) (K : Nat) (hK : y + K ≤ 400) : IvX n k (dwDays Nf Df n k K x).2 ∧ (dwDays Nf Df n k K x).2 34 = Int32.ofNat (y + K) ∧ ∀ j, (j < 34 ∨ 70 ≤ j) → (dwDays Nf Df n k K x).2 j = x.2 j := by
  induction K with
  | zero => exact ⟨h, h34, fun _ _ => rfl⟩
  | succ K ih =>
    obtain ⟨i1, i2, i3⟩ := ih (by omega)
    obtain ⟨j1, j2, j3⟩ := dwDay_P Nf Df hD (n := n) (k := k) (y := y + K) (dwDays Nf Df n k K x) i1 i2 (by omega)
    exact ⟨j1, j2, fun j hj => (j3 j hj).trans (i3 j hj)⟩
theorem m_dd33 (env : am_E) (d : Nat) (Nf : Int32 → Int32) (Df : Int32 → Nat → Nat) (hD : ∀ s n, 1 ≤ n → Df s n < n) (n k : Nat) (a b c e : Int32) (I : Nat → Nat → Int32) (J : Nat → Nat → Int64) (E : Nat → Nat → Nat) (hM : ∀ (d n : Nat) (x : Int32 × (Nat → Int32)), 1 ≤ n → n ≤ 100 → am_ev env (d + 1, 271, 0, [some (.ref 156), some (.int (Int32.ofNat n))], [], am_hp (mh I x) J E) = some (true, some (.int (Int32.ofNat (Df (Nf x.1) n))), am_hp (mh I (Nf x.1, x.2)) J E)) (x : Int32 × (Nat → Int32)) (h : IvX n k x.2) : ∃ z, am_ev env (d + 10, 274, 33, [some (.ref 156), some (.int a), some (.int b), some (.int c), some (.int e), some (.int (Int32.ofNat 0))], [], am_hp (mh I x) J E) = am_ev env (d + 10, 274, 65, [some (.ref 156), some (.int a), some (.int b), some (.int c), some (.int e), some (.int z)], [], am_hp (mh I (dwR Nf Df n k x)) J E) := by
  have hk := h.1.2.1.2
  have hn8 := h.1.1.2
  unfold dwR
  by_cases hn : 1 ≤ n
  · rw [if_pos hn]
    have hr := lp_run (fun r x => am_ev env (d + 10, 274, 33, [some (.ref 156), some (.int a), some (.int b), some (.int c), some (.int e), some (.int (Int32.ofNat r))], [], am_hp (mh I x) J E)) (fun r x => dwG Nf Df n k r x) (fun r x => IvX n k x.2) k (fun r x hr hP => by
      refine ⟨?_, ivx_dwG Nf Df hD hP hr hn⟩
      refine (bk_274_33 _ _ _ _ _ _ _ _ _ _).trans ?_
      have e1 : decide (Int32.ofNat k ≤ Int32.ofNat r) = false := zle_f k r hr (by omega)
      have e2 : decide (Int32.ofNat n ≤ (0 : Int32)) = false := zle_f n 0 (by omega) (by omega)
      rw [mh_158, hP.1.2.1.1, hP.1.1.1, e1, e2]
      simp only [decide_true, decide_false, Bool.not_true, Bool.not_false, am_cont, Option.bind_some, Option.toList_some, Option.toList_none, List.singleton_append, List.nil_append, cond_true, cond_false, m_drawsG env d Nf Df hD n k r I J E (fun n x => hM (d + 7) n x) x hP hr hn, bk_274_59, zd_1]) x h k (Nat.le_refl _)
    refine ⟨Int32.ofNat k, hr.1.trans ?_⟩
    refine (bk_274_33 _ _ _ _ _ _ _ _ _ _).trans ?_
    have e1 : decide (Int32.ofNat k ≤ Int32.ofNat k) = true := zle_t k k (Nat.le_refl _) (by omega)
    have e3 : (lp (fun r x => dwG Nf Df n k r x) k x).2 2 = Int32.ofNat k := hr.2.1.2.1.1
    rw [mh_158, e3, e1, cond_true]
  · rw [if_neg hn]
    refine ⟨0, ?_⟩
    refine (bk_274_33 _ _ _ _ _ _ _ _ _ _).trans ?_
    have e2 : decide (Int32.ofNat n ≤ (0 : Int32)) = true := zle_t n 0 (by omega) (by omega)
    rw [mh_158, h.1.1.1, e2, cond_true]
    cases decide (x.2 2 ≤ Int32.ofNat 0) <;> rfl
theorem m_dd24 (env : am_E) (d : Nat) (Nf : Int32 → Int32) (Df : Int32 → Nat → Nat) (hD : ∀ s n, 1 ≤ n → Df s n < n) (n k y N K : Nat) (s : Int32) (I : Nat → Nat → Int32) (J : Nat → Nat → Int64) (E : Nat → Nat → Nat) (hM : ∀ (d n : Nat) (x : Int32 × (Nat → Int32)), 1 ≤ n → n ≤ 100 → am_ev env (d + 1, 271, 0, [some (.ref 156), some (.int (Int32.ofNat n))], [], am_hp (mh I x) J E) = some (true, some (.int (Int32.ofNat (Df (Nf x.1) n))), am_hp (mh I (Nf x.1, x.2)) J E)) (hK : y + K ≤ 400) : ∀ (j i : Nat) (o : Option Value) (x : Int32 × (Nat → Int32)), i + j = K → IvX n k x.2 → x.2 34 = Int32.ofNat (y + i) → am_ev env (d + 10, 274, 24, [some (.ref 156), some (.int (Int32.ofNat N)), some (.int s), some (.int (Int32.ofNat K)), some (.int (Int32.ofNat i)), o], [], am_hp (mh I x) J E) = some (true, some (.int (Int32.ofNat K)), am_hp (mh I (dwDays Nf Df n k j x)) J E) := by
  intro j
  induction j with
  | zero =>
    intro i o x hi h h34
    refine (bk_274_24 _ _ _ _ _ _ _ _ _ _).trans ?_
    rw [show decide (Int32.ofNat K ≤ Int32.ofNat i) = true from zle_t K i (by omega) (by omega)]
    rfl
  | succ j ih =>
    intro i o x hi h h34
    refine (bk_274_24 _ _ _ _ _ _ _ _ _ _).trans ?_
    rw [show decide (Int32.ofNat K ≤ Int32.ofNat i) = false from zle_f K i (by omega) (by omega), cond_false]
    obtain ⟨z, hz⟩ := m_dd33 env d Nf Df hD n k (Int32.ofNat N) s (Int32.ofNat K) (Int32.ofNat i) I J E hM x h
    refine Eq.trans hz ?_
    obtain ⟨i1, i2⟩ := dwR_P Nf Df hD x h
    have ho := m_oneDay env (d + 6) n k (mh I (dwR Nf Df n k x)) J E (by rw [mh_158]; exact i1.1) (by rw [mh_158]; exact i1.2)
    rw [mh_158, mh_set] at ho
    refine (bk_274_65 _ _ _ _ _ _ _ _ _ _).trans ?_
    simp only [decide_true, decide_false, Bool.not_true, Bool.not_false, am_cont, Option.bind_some, Option.toList_some, Option.toList_none, List.singleton_append, List.nil_append, cond_true, cond_false, ho, bk_274_69, zd_1]
    obtain ⟨j1, j2, j3⟩ := dwDay_P Nf Df hD (n := n) (k := k) (y := y + i) x h h34 (by omega)
    have := ih (i + 1) (some (.int z)) (dwDay Nf Df n k x) (by omega) j1 j2
    rw [show dwDays Nf Df n k (j + 1) x = dwDays Nf Df n k j (dwDay Nf Df n k x) from lp_front _ _ _]
    exact this
theorem m_drawDays (env : am_E) (d : Nat) (Nf : Int32 → Int32) (Df : Int32 → Nat → Nat) (hD : ∀ s n, 1 ≤ n → Df s n < n) (N n k y : Nat) (s : Int32) (I : Nat → Nat → Int32) (J : Nat → Nat → Int64) (E : Nat → Nat → Nat) (hM : ∀ (d n : Nat) (x : Int32 × (Nat → Int32)), 1 ≤ n → n ≤ 100 → am_ev env (d + 1, 271, 0, [some (.ref 156), some (.int (Int32.ofNat n))], [], am_hp (mh I x) J E) = some (true, some (.int (Int32.ofNat (Df (Nf x.1) n))), am_hp (mh I (Nf x.1, x.2)) J E)) (hN : N ≤ 60) (h : IvX n k (I 158)) (h34 : I 158 34 = Int32.ofNat y) (hy : y ≤ 400) : am_ev env (d + 10, 274, 0, [some (.ref 156), some (.int (Int32.ofNat N)), some (.int s), none, none, none], [], am_hp I J E) = some (true, some (.int (Int32.ofNat (min N (400 - y)))), am_hp (mh I (dwDays Nf Df n k (min N (400 - y)) (s, I 158))) J E) := by
  have e1 : am_u I 156 42 s = mh I (s, I 158) := by
    unfold mh; rw [am_u_r]
    have := ur_self (am_ur I 156 (ru (I 156) 42 s)) 158
    rw [ur_ne _ _ _ _ (by omega)] at this
    exact this.symm
  have el : (bif decide (Int32.ofNat (400 - y) ≤ Int32.ofNat N) then Int32.ofNat (400 - y) else Int32.ofNat N) = Int32.ofNat (min N (400 - y)) := lst_nat N (400 - y) (by omega) (by omega)
  simp only [bk_274_0, bk_274_20, e1, mh_158, h34, zsub400 y hy, m_least, decide_true, decide_false, Bool.not_true, Bool.not_false, am_cont, Option.bind_some, Option.toList_some, Option.toList_none, List.singleton_append, List.nil_append, cond_true, cond_false, el]
  exact m_dd24 env d Nf Df hD n k y N (min N (400 - y)) s I J E hM (by omega) _ 0 none (s, I 158) (by omega) h h34
theorem c_dd27 (env : am_E) (d : Nat) (Nf : Int32 → Int32) (Df : Int32 → Nat → Nat) (hD : ∀ s n, 1 ≤ n → Df s n < n) (p : Nat) (hp : stq p = true) (n k : Nat) (a b c : Int32) (I : Nat → Nat → Int32) (J : Nat → Nat → Int64) (E : Nat → Nat → Nat) (hM : ∀ (d n : Nat) (x : Int32 × (Nat → Int32)), 1 ≤ n → n ≤ 100 → am_ev env (d + 1, 90, 0, [some (.ref p), some (.int (Int32.ofNat n))], [], am_hp (ch I p x) J E) = some (true, some (.int (Int32.ofNat (Df (Nf x.1) n))), am_hp (ch I p (Nf x.1, x.2)) J E)) (x : Int32 × (Nat → Int32)) (hl : Lb I x.2) (h : IvX n k x.2) : ∃ z, am_ev env (d + 10, 88, 27, [some (.ref p), some (.ref 5), some (.int a), some (.int b), some (.int c), some (.int (Int32.ofNat 0))], [], am_hp (ch I p x) J E) = am_ev env (d + 10, 88, 56, [some (.ref p), some (.ref 5), some (.int a), some (.int b), some (.int c), some (.int z)], [], am_hp (ch I p (dwR Nf Df n k x)) J E) := by
  have hpb := st_bd p hp
  have hk := h.1.2.1.2
  have hn8 := h.1.1.2
  unfold dwR
  by_cases hn : 1 ≤ n
  · rw [if_pos hn]
    have hr := lp_run (fun r x => am_ev env (d + 10, 88, 27, [some (.ref p), some (.ref 5), some (.int a), some (.int b), some (.int c), some (.int (Int32.ofNat r))], [], am_hp (ch I p x) J E)) (fun r x => dwG Nf Df n k r x) (fun r x => Lb I x.2 ∧ IvX n k x.2) k (fun r x hr hP => by
      refine ⟨?_, Lb_low (m := x.2) (fun j hj => dwD_lo Nf Df hD hP.2 hr hn j (by omega)) hP.1, ivx_dwG Nf Df hD hP.2 hr hn⟩
      refine (bk_88_27 _ _ _ _ _ _ _ _ _ _ _).trans ?_
      have e1 : decide (Int32.ofNat k ≤ Int32.ofNat r) = false := zle_f k r hr (by omega)
      have e2 : decide (Int32.ofNat n ≤ (0 : Int32)) = false := zle_f n 0 (by omega) (by omega)
      rw [ch_5 I p (by omega) x 2 (by omega) hP.1, ch_5 I p (by omega) x 0 (by omega) hP.1, hP.2.1.2.1.1, hP.2.1.1.1, e1, e2]
      simp only [st_d0 p hp, st_b0 p hp, lb_d, lb_b, Bool.and_self, decide_true, decide_false, Bool.not_true, Bool.not_false, am_cont, Option.bind_some, Option.toList_some, Option.toList_none, List.singleton_append, List.nil_append, cond_true, cond_false, c_drawG env d Nf Df hD p hp n k r I J E (fun n x => hM (d + 7) n x) x hP.1 hP.2 hr hn, bk_88_50, zd_1]) x ⟨hl, h⟩ k (Nat.le_refl _)
    refine ⟨Int32.ofNat k, hr.1.trans ?_⟩
    refine (bk_88_27 _ _ _ _ _ _ _ _ _ _ _).trans ?_
    have e1 : decide (Int32.ofNat k ≤ Int32.ofNat k) = true := zle_t k k (Nat.le_refl _) (by omega)
    have e3 : (lp (fun r x => dwG Nf Df n k r x) k x).2 2 = Int32.ofNat k := hr.2.2.1.2.1.1
    rw [ch_5 I p (by omega) _ 2 (by omega) hr.2.1, e3, e1]
    simp only [lb_d, lb_b, Bool.and_self, decide_true, decide_false, Bool.not_true, Bool.not_false, am_cont, Option.bind_some, Option.toList_some, Option.toList_none, List.singleton_append, List.nil_append, cond_true, cond_false]
  · rw [if_neg hn]
    refine ⟨0, ?_⟩
    refine (bk_88_27 _ _ _ _ _ _ _ _ _ _ _).trans ?_
    have e2 : decide (Int32.ofNat n ≤ (0 : Int32)) = true := zle_t n 0 (by omega) (by omega)
    rw [ch_5 I p (by omega) x 0 (by omega) hl, h.1.1.1, e2]
    simp only [lb_d, lb_b, Bool.and_self, decide_true, decide_false, Bool.not_true, Bool.not_false, am_cont, Option.bind_some, Option.toList_some, Option.toList_none, List.singleton_append, List.nil_append, cond_true, cond_false]
    cases decide (ch I p x 5 2 ≤ Int32.ofNat 0) <;> rfl
theorem c_dd8 (env : am_E) (d : Nat) (Nf : Int32 → Int32) (Df : Int32 → Nat → Nat) (hD : ∀ s n, 1 ≤ n → Df s n < n) (p : Nat) (hp : stq p = true) (n k y N K : Nat) (s : Int32) (hN : N ≤ 60) (I : Nat → Nat → Int32) (J : Nat → Nat → Int64) (E : Nat → Nat → Nat) (hM : ∀ (d n : Nat) (x : Int32 × (Nat → Int32)), 1 ≤ n → n ≤ 100 → am_ev env (d + 1, 90, 0, [some (.ref p), some (.int (Int32.ofNat n))], [], am_hp (ch I p x) J E) = some (true, some (.int (Int32.ofNat (Df (Nf x.1) n))), am_hp (ch I p (Nf x.1, x.2)) J E)) (hK : K = min N (400 - y)) (hy : y ≤ 400) : ∀ (j i : Nat) (o : Option Value) (x : Int32 × (Nat → Int32)), i + j = K → Lb I x.2 → IvX n k x.2 → x.2 34 = Int32.ofNat (y + i) → am_ev env (d + 10, 88, 8, [some (.ref p), some (.ref 5), some (.int (Int32.ofNat N)), some (.int s), some (.int (Int32.ofNat i)), o], [], am_hp (ch I p x) J E) = some (true, some (.int (Int32.ofNat K)), am_hp (ch I p (dwDays Nf Df n k j x)) J E) := by
  have hpb := st_bd p hp
  have hg : ∀ x : Int32 × (Nat → Int32), ch I p x p 0 = x.2 34 := fun x => by unfold ch; rw [ps_g0]
  intro j
  induction j with
  | zero =>
    intro i o x hi hl h h34
    refine (bk_88_8 _ _ _ _ _ _ _ _ _ _ _).trans ?_
    rw [hg, h34]
    by_cases hNK : N ≤ i
    · rw [show decide (Int32.ofNat N ≤ Int32.ofNat i) = true from zle_t N i hNK (by omega), show i = K by omega]
      simp only [decide_true, decide_false, Bool.not_true, Bool.not_false, am_cont, Option.bind_some, Option.toList_some, Option.toList_none, List.singleton_append, List.nil_append, cond_true, cond_false, bk_88_67]
      rfl
    · rw [show decide (Int32.ofNat N ≤ Int32.ofNat i) = false from zle_f N i (by omega) (by omega), show decide ((400 : Int32) ≤ Int32.ofNat (y + i)) = true from zle_t 400 _ (by omega) (by omega), show i = K by omega]
      simp only [st_d0 p hp, st_b0 p hp, Bool.and_self, decide_true, decide_false, Bool.not_true, Bool.not_false, am_cont, Option.bind_some, Option.toList_some, Option.toList_none, List.singleton_append, List.nil_append, cond_true, cond_false, bk_88_67]
      rfl
  | succ j ih =>
    intro i o x hi hl h h34
    refine (bk_88_8 _ _ _ _ _ _ _ _ _ _ _).trans ?_
    rw [hg, h34, show decide (Int32.ofNat N ≤ Int32.ofNat i) = false from zle_f N i (by omega) (by omega), show decide ((400 : Int32) ≤ Int32.ofNat (y + i)) = false from zle_f 400 _ (by omega) (by omega)]
    simp only [st_d0 p hp, st_b0 p hp, Bool.and_self, decide_true, decide_false, Bool.not_true, Bool.not_false, am_cont, Option.bind_some, Option.toList_some, Option.toList_none, List.singleton_append, List.nil_append, cond_true, cond_false]
    obtain ⟨z, hz⟩ := c_dd27 env d Nf Df hD p hp n k (Int32.ofNat N) s (Int32.ofNat i) I J E hM x hl h
    refine Eq.trans hz ?_
    obtain ⟨i1, i2⟩ := dwR_P Nf Df hD x h
    have hl2 : Lb I (dwR Nf Df n k x).2 := Lb_low (fun j hj => i2 j (by omega)) hl
    have ho := c_passDay env (d + 6) p hp n k (am_u I p 9 (dwR Nf Df n k x).1) J E (dwR Nf Df n k x).2 (Lb_u9 I p (by omega) _ _ hl2) i1.1 i1.2
    have ho2 : am_ev env (d + 6 + 3, 86, 0, [some (.ref p), some (.ref 5), none], [], am_hp (ch I p (dwR Nf Df n k x)) J E) = some (true, none, am_hp (ch I p (dwDay Nf Df n k x)) J E) := ho
    refine (bk_88_56 _ _ _ _ _ _ _ _ _ _ _).trans ?_
    simp only [st_d0 p hp, st_b0 p hp, Bool.and_self, decide_true, decide_false, Bool.not_true, Bool.not_false, am_cont, Option.bind_some, Option.toList_some, Option.toList_none, List.singleton_append, List.nil_append, cond_true, cond_false, ho2, bk_88_61, zd_1]
    obtain ⟨j1, j2, j3⟩ := dwDay_P Nf Df hD (n := n) (k := k) (y := y + i) x h h34 (by omega)
    have := ih (i + 1) (some (.int z)) (dwDay Nf Df n k x) (by omega) (Lb_low (fun j hj => j3 j (Or.inl hj)) hl) j1 j2
    rw [show dwDays Nf Df n k (j + 1) x = dwDays Nf Df n k j (dwDay Nf Df n k x) from lp_front _ _ _]
    exact this
theorem c_drawDays (env : am_E) (d : Nat) (Nf : Int32 → Int32) (Df : Int32 → Nat → Nat) (hD : ∀ s n, 1 ≤ n → Df s n < n) (p : Nat) (hp : stq p = true) (N n k y : Nat) (s : Int32) (I : Nat → Nat → Int32) (J : Nat → Nat → Int64) (E : Nat → Nat → Nat) (hM : ∀ (d n : Nat) (x : Int32 × (Nat → Int32)), 1 ≤ n → n ≤ 100 → am_ev env (d + 1, 90, 0, [some (.ref p), some (.int (Int32.ofNat n))], [], am_hp (ch I p x) J E) = some (true, some (.int (Int32.ofNat (Df (Nf x.1) n))), am_hp (ch I p (Nf x.1, x.2)) J E)) (m : Nat → Int32) (hN : N ≤ 60) (hl : Lb I m) (h : IvX n k m) (h34 : m 34 = Int32.ofNat y) (hy : y ≤ 400) : am_ev env (d + 10, 88, 0, [some (.ref p), some (.ref 5), some (.int (Int32.ofNat N)), some (.int s), none, none], [], am_hp (pS I p m) J E) = some (true, some (.int (Int32.ofNat (min N (400 - y)))), am_hp (ch I p (dwDays Nf Df n k (min N (400 - y)) (s, m))) J E) := by
  have hpb := st_bd p hp
  have e1 : am_u (pS I p m) p 9 s = ch I p (s, m) := by unfold ch; rw [ps_s9]
  simp only [bk_88_0, st_d0 p hp, st_b0 p hp, Bool.and_self, decide_true, decide_false, Bool.not_true, Bool.not_false, am_cont, Option.bind_some, Option.toList_some, Option.toList_none, List.singleton_append, List.nil_append, cond_true, cond_false, e1]
  exact c_dd8 env d Nf Df hD p hp n k y N (min N (400 - y)) s hN I J E hM rfl hy _ 0 none (s, m) (by omega) hl h h34
