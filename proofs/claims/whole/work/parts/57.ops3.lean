/-! drawn, odds: class and reference side by side -/
def AgX (n k : Nat) (x x' : Int32 × (Nat → Int32)) : Prop := x.1 = x'.1 ∧ Agr n k x.2 x'.2
theorem agr_dwL {n k : Nat} {m m' : Nat → Int32} (h : Agr n k m m') (r b : Nat) (hr : r < 6) (hb : b < n) : Agr n k (dwL m r b) (dwL m' r b) := by
  unfold dwL
  rw [agr_wLend h r b hr hb]
  cases decide (wLend m' r b = 0)
  · exact h
  · exact agr_lLend h r b hb
theorem agr_dwB {n k : Nat} {m m' : Nat → Int32} (h : Agr n k m m') (hx : IvX n k m) (r : Nat) (hr : r < k) : Agr n k (dwB m r) (dwB m' r) := by
  have hk := hx.1.2.1.2
  have hn := hx.1.1.2
  unfold dwB
  rw [← h (46 + r) (by unfold rel; omega)]
  rcases (hx.2.2.2.2 r (by omega)).1 with ⟨e, _⟩ | ⟨_, b, hb, e, _⟩
  · rw [decide_eq_true e]; exact h
  · rw [decide_eq_false (by rw [e]; exact fun e => m1_ne b (by omega) e.symm), e, zI_nat b (by omega)]
    exact agr_lBack h r b (by omega) hb
theorem agr_dwT {n k : Nat} {m m' : Nat → Int32} (h : Agr n k m m') (r b q : Nat) (hr : r < 6) (hq : q < 6) (hb : b < n) : Agr n k (dwT m r b q) (dwT m' r b q) := by
  unfold dwT
  rw [agr_wTell h r b q hr hq hb]
  cases decide (wTell m' r b q = 0)
  · exact h
  · exact agr_lLearn h q b hq
theorem agx_dwG (Nf : Int32 → Int32) (Df : Int32 → Nat → Nat) (hD : ∀ s n, 1 ≤ n → Df s n < n) {n k : Nat} {x x' : Int32 × (Nat → Int32)} (h : AgX n k x x') (hx : IvX n k x.2) (r : Nat) (hr : r < k) (hn : 1 ≤ n) : AgX n k (dwG Nf Df n k r x) (dwG Nf Df n k r x') := by
  have hk := hx.1.2.1.2
  have hn8 := hx.1.1.2
  obtain ⟨h1, h2⟩ := h
  unfold dwG
  rw [← h1]
  have hb := hD (Nf (Nf x.1)) n hn
  have hq := hD (Nf (Nf (Nf x.1))) k (by omega)
  by_cases g1 : Df (Nf x.1) 8 < 5
  · rw [if_pos g1, if_pos g1]; exact ⟨rfl, agr_dwL h2 r _ (by omega) hb⟩
  rw [if_neg g1, if_neg g1]
  by_cases g2 : Df (Nf x.1) 8 = 5
  · rw [if_pos g2, if_pos g2]
    refine ⟨rfl, ?_⟩
    show Agr n k (bif _ then dwB x.2 r else x.2) (bif _ then dwB x'.2 r else x'.2)
    cases decide (Df (Nf (Nf x.1)) 4 = 0)
    · exact h2
    · exact agr_dwB h2 hx r hr
  rw [if_neg g2, if_neg g2]
  by_cases g3 : Df (Nf x.1) 8 = 6
  · rw [if_pos g3, if_pos g3]; exact ⟨rfl, agr_dwT h2 r _ _ (by omega) (by omega) hb⟩
  rw [if_neg g3, if_neg g3]
  exact ⟨rfl, h2⟩
theorem agx_dwR (Nf : Int32 → Int32) (Df : Int32 → Nat → Nat) (hD : ∀ s n, 1 ≤ n → Df s n < n) {n k : Nat} {x x' : Int32 × (Nat → Int32)} (h : AgX n k x x') (hx : IvX n k x.2) : AgX n k (dwR Nf Df n k x) (dwR Nf Df n k x') := by
  unfold dwR
  by_cases hn : 1 ≤ n
  · rw [if_pos hn, if_pos hn]
    have key : ∀ K, K ≤ k → IvX n k (lp (fun r x => dwG Nf Df n k r x) K x).2 ∧ AgX n k (lp (fun r x => dwG Nf Df n k r x) K x) (lp (fun r x => dwG Nf Df n k r x) K x') := by
      intro K
      induction K with
      | zero => intro _; exact ⟨hx, h⟩
      | succ K ih =>
        intro hK
        obtain ⟨i1, i2⟩ := ih (by omega)
        exact ⟨ivx_dwG Nf Df hD i1 (by omega) hn, agx_dwG Nf Df hD i2 i1 K (by omega) hn⟩
    exact (key k (Nat.le_refl _)).2
  · rw [if_neg hn, if_neg hn]; exact h
theorem agx_dwDays (Nf : Int32 → Int32) (Df : Int32 → Nat → Nat) (hD : ∀ s n, 1 ≤ n → Df s n < n) {n k y : Nat} {x x' : Int32 × (Nat → Int32)} (h : AgX n k x x') (hx : IvX n k x.2) (h34 : x.2 34 = Int32.ofNat y) (K : Nat) (hK : y + K ≤ 400) : AgX n k (dwDays Nf Df n k K x) (dwDays Nf Df n k K x') := by
  induction K with
  | zero => exact h
  | succ K ih =>
    obtain ⟨i1, i2, i3⟩ := dwDays_P Nf Df hD x hx h34 K (by omega)
    obtain ⟨j1, j2⟩ := agx_dwR Nf Df hD (ih (by omega)) i1
    obtain ⟨l1, l2⟩ := dwR_P Nf Df hD (dwDays Nf Df n k K x) i1
    exact ⟨j1, agr_lDay j2 l1.1 l1.2⟩
theorem hd_u9 (I : Nat → Nat → Int32) (t : Nat) (s : Int32) : am_u (hd I t) 12 9 s = hd (am_u I 12 9 s) t := by
  unfold hd
  rw [ps_setout _ _ _ _ _ _ (sx_o _ _ _ (by omega))]
  congr 1
  funext k
  refine (rS_ext I (am_u I 12 9 s) 12 (fun q j hq => ?_) k).symm
  rw [am_u_d]
  by_cases h : q = 12
  · rw [if_pos h, if_neg (by omega)]
  · rw [if_neg h]
theorem rS_u9 (I : Nat → Nat → Int32) (s : Int32) : rS (am_u I 12 9 s) 12 = rS I 12 := by
  funext k
  refine rS_ext I (am_u I 12 9 s) 12 (fun q j hq => ?_) k
  rw [am_u_d]
  by_cases h : q = 12
  · rw [if_pos h, if_neg (by omega)]
  · rw [if_neg h]
theorem c_drawn1 (env : am_E) (d : Nat) (Nf : Int32 → Int32) (Df : Int32 → Nat → Nat) (hD : ∀ s n, 1 ≤ n → Df s n < n) (hC : ∀ (env : am_E) (p : Nat) (I : Nat → Nat → Int32) (J : Nat → Nat → Int64) (E : Nat → Nat → Nat) (d n : Nat) (x : Int32 × (Nat → Int32)), stq p = true → 1 ≤ n → n ≤ 100 → am_ev env (d + 1, 90, 0, [some (.ref p), some (.int (Int32.ofNat n))], [], am_hp (ch I p x) J E) = some (true, some (.int (Int32.ofNat (Df (Nf x.1) n))), am_hp (ch I p (Nf x.1, x.2)) J E)) (t h n k N y : Nat) (s : Int32) (hN1 : 1 ≤ N) (hN : N ≤ 60) (ht : t < 9) (hh : h ≤ 8) (I : Nat → Nat → Int32) (J : Nat → Nat → Int64) (E : Nat → Nat → Nat) (e1 : I 43 1 = Int32.ofNat t) (e2 : I 43 2 = Int32.ofNat h) (hv : IvX n k (rS I 12)) (hy : rS I 12 34 = Int32.ofNat y) (hy2 : y ≤ 400) : am_ev env (d + 20, 131, 0, [some (.ref 0), some (.int (Int32.ofNat N)), some (.int s)], [], am_hp I J E) = some (true, some (.int (Int32.ofNat (min N (400 - y)))), am_hp (cA (am_u I 12 9 (dwDays Nf Df n k (min N (400 - y)) (s, rS I 12)).1) t h (bi (decide (min N (400 - y) = 0))) (dwDays Nf Df n k (min N (400 - y)) (s, rS I 12)).2) J E) := by
  have hc := c_drawDays env (d + 9) Nf Df hD 12 st12 N n k y s (hd I t) J E (fun d n x => hC env 12 (hd I t) J E d n x st12) (rS I 12) hN (Lb_hd I t) hv hy hy2
  rw [hd_ps] at hc
  generalize hK : min N (400 - y) = K at hc ⊢
  have g1 : decide (Int32.ofNat N < (1 : Int32)) = false := zlt_f N 1 hN1 (by omega)
  have g2 : decide (Int32.ofNat N ≤ (60 : Int32)) = true := zle_t N 60 hN (by omega)
  simp only [bk_131_0, bk_131_11, bk_131_27, bk_131_47, bk_131_50, g1, g2, c_hold env _ t ht I J E e1, decide_true, decide_false, Bool.not_true, Bool.not_false, am_cont, Option.bind_some, Option.toList_some, Option.toList_none, List.singleton_append, List.nil_append, cond_true, cond_false, hc]
  unfold cA ch
  by_cases h0 : K = 0
  · subst h0
    have g3 : decide (Int32.ofNat 0 ≤ (0 : Int32)) = true := by decide
    have e5 : pS (am_u (hd I t) 12 9 (dwDays Nf Df n k 0 (s, rS I 12)).1) 12 (dwDays Nf Df n k 0 (s, rS I 12)).2 = hd (am_u I 12 9 s) t := by
      show pS (am_u (hd I t) 12 9 s) 12 (rS I 12) = _
      rw [hd_u9]
      have := hd_ps (am_u I 12 9 s) t
      rw [rS_u9] at this
      exact this
    rw [e5]
    simp only [bk_134_0, bk_134_11, bk_131_0, bk_131_11, bk_131_27, bk_131_47, bk_131_50, g3, decide_true, decide_false, Bool.not_true, Bool.not_false, am_cont, Option.bind_some, Option.toList_some, Option.toList_none, List.singleton_append, List.nil_append, cond_true, cond_false, bi_t, zq_1_0]
    rfl
  · have g3 : decide (Int32.ofNat K ≤ (0 : Int32)) = false := zle_f K 0 (by omega) (by omega)
    have g4 : bi (decide (K = 0)) = 0 := by rw [decide_eq_false h0]; rfl
    rw [g4, hd_u9]
    generalize dwDays Nf Df n k K (s, rS I 12) = X
    have f1 : ∀ m, pS (hd (am_u I 12 9 X.1) t) 12 m 43 = I 43 := fun m => by rw [ps_ne _ _ _ _ (by omega), hd_q _ t 43 ht (by omega), am_u_nr _ _ _ _ _ (by omega)]
    simp only [bk_134_0, bk_134_11, bk_131_0, bk_131_11, bk_131_27, bk_131_47, bk_131_50, g3, decide_true, decide_false, Bool.not_true, Bool.not_false, am_cont, Option.bind_some, Option.toList_some, Option.toList_none, List.singleton_append, List.nil_append, cond_true, cond_false, zq_0_0, c_keep env _ t h ht hh (pS (hd (am_u I 12 9 X.1) t) 12 X.2) J E (by rw [f1]; exact e1) (by rw [f1]; exact e2)]
theorem c_drawn0 (env : am_E) (d : Nat) (x s : Int32) (I : Nat → Nat → Int32) (J : Nat → Nat → Int64) (E : Nat → Nat → Nat) (h : (decide (x < 1) || !decide (x ≤ 60)) = true) : am_ev env (d + 20, 131, 0, [some (.ref 0), some (.int x), some (.int s)], [], am_hp I J E) = some (true, some (.int (-1)), am_hp I J E) := by
  simp only [bk_131_0, bk_131_11, bk_131_27, bk_131_47, bk_131_50, decide_true, decide_false, Bool.not_true, Bool.not_false, am_cont, Option.bind_some, Option.toList_some, Option.toList_none, List.singleton_append, List.nil_append, cond_true, cond_false]
  revert h
  cases decide (x < 1) <;> cases decide (x ≤ 60) <;> intro h <;> first | (exact absurd h (by decide)) | rfl
theorem m_drawn1 (env : am_E) (d : Nat) (Nf : Int32 → Int32) (Df : Int32 → Nat → Nat) (hD : ∀ s n, 1 ≤ n → Df s n < n) (hM : ∀ (env : am_E) (I : Nat → Nat → Int32) (J : Nat → Nat → Int64) (E : Nat → Nat → Nat) (d n : Nat) (x : Int32 × (Nat → Int32)), 1 ≤ n → n ≤ 100 → am_ev env (d + 1, 271, 0, [some (.ref 156), some (.int (Int32.ofNat n))], [], am_hp (mh I x) J E) = some (true, some (.int (Int32.ofNat (Df (Nf x.1) n))), am_hp (mh I (Nf x.1, x.2)) J E)) (h n k N y : Nat) (s : Int32) (hN1 : 1 ≤ N) (hN : N ≤ 60) (hh : h ≤ 8) (I : Nat → Nat → Int32) (J : Nat → Nat → Int64) (E : Nat → Nat → Nat) (e2 : I 156 24 = Int32.ofNat h) (hv : IvX n k (I 158)) (hy : I 158 34 = Int32.ofNat y) (hy2 : y ≤ 400) : am_ev env (d + 20, 275, 0, [some (.ref 156), some (.int (Int32.ofNat N)), some (.int s)], [], am_hp I J E) = some (true, some (.int (Int32.ofNat (min N (400 - y)))), am_hp (bif decide (min N (400 - y) = 0) then th0 I else mh (mS I h) (dwDays Nf Df n k (min N (400 - y)) (s, I 158))) J E) := by
  have g1 : decide (Int32.ofNat N < (1 : Int32)) = false := zlt_f N 1 hN1 (by omega)
  have g2 : decide ((60 : Int32) < Int32.ofNat N) = false := zlt_f 60 N hN (by omega)
  have g5 : decide (Int32.ofNat y = (400 : Int32)) = decide (y = 400) := zI_deq y 400 (by omega) (by omega)
  simp only [bk_275_0, bk_275_12, th0_u, m_isIn, g1, g2, Bool.and_self, bi_t, zq_1_0, decide_true, decide_false, Bool.not_true, Bool.not_false, am_cont, Option.bind_some, Option.toList_some, Option.toList_none, List.singleton_append, List.nil_append, cond_true, cond_false, th0_158, hy, g5]
  by_cases h0 : y = 400
  · rw [decide_eq_true h0, show min N (400 - y) = 0 by omega]; rfl
  · rw [decide_eq_false h0, decide_eq_false (by omega : ¬ min N (400 - y) = 0)]
    have hp := m_drawDays env (d + 9) Nf Df hD N n k y s (mS I h) J E (fun d n x => hM env (mS I h) J E d n x) hN (by rw [mS_158]; exact hv) (by rw [mS_158]; exact hy) hy2
    simp only [m_snapT env _ h hh I J E e2, decide_true, decide_false, Bool.not_true, Bool.not_false, am_cont, Option.bind_some, Option.toList_some, Option.toList_none, List.singleton_append, List.nil_append, cond_true, cond_false, bk_275_0, bk_275_12, bk_275_36, bk_275_42, hp, mS_158]
theorem m_drawn0 (env : am_E) (d : Nat) (x s : Int32) (I : Nat → Nat → Int32) (J : Nat → Nat → Int64) (E : Nat → Nat → Nat) (h : (decide (x < 1) || decide ((60 : Int32) < x)) = true) : am_ev env (d + 20, 275, 0, [some (.ref 156), some (.int x), some (.int s)], [], am_hp I J E) = some (true, some (.int (-1)), am_hp (th0 I) J E) := by
  simp only [bk_275_0, bk_275_12, th0_u, m_isIn, decide_true, decide_false, Bool.not_true, Bool.not_false, am_cont, Option.bind_some, Option.toList_some, Option.toList_none, List.singleton_append, List.nil_append, cond_true, cond_false, bi_eq0]
  revert h
  cases decide (x < 1) <;> cases decide ((60 : Int32) < x) <;> intro h <;> first | (exact absurd h (by decide)) | rfl
theorem fr1_trans {I I1 I2 : Nat → Nat → Int32} (h1 : fr1 I I1) (h2 : fr1 I1 I2) : fr1 I I2 := fun q j hq => (h2 q j hq).trans (h1 q j hq)
theorem op_drawnG (env : am_E) (d : Nat) (Nf : Int32 → Int32) (Df : Int32 → Nat → Nat) (hD : ∀ s n, 1 ≤ n → Df s n < n) (hM : ∀ (env : am_E) (I : Nat → Nat → Int32) (J : Nat → Nat → Int64) (E : Nat → Nat → Nat) (d n : Nat) (x : Int32 × (Nat → Int32)), 1 ≤ n → n ≤ 100 → am_ev env (d + 1, 271, 0, [some (.ref 156), some (.int (Int32.ofNat n))], [], am_hp (mh I x) J E) = some (true, some (.int (Int32.ofNat (Df (Nf x.1) n))), am_hp (mh I (Nf x.1, x.2)) J E)) (hC : ∀ (env : am_E) (p : Nat) (I : Nat → Nat → Int32) (J : Nat → Nat → Int64) (E : Nat → Nat → Nat) (d n : Nat) (x : Int32 × (Nat → Int32)), stq p = true → 1 ≤ n → n ≤ 100 → am_ev env (d + 1, 90, 0, [some (.ref p), some (.int (Int32.ofNat n))], [], am_hp (ch I p x) J E) = some (true, some (.int (Int32.ofNat (Df (Nf x.1) n))), am_hp (ch I p (Nf x.1, x.2)) J E)) (I : Nat → Nat → Int32) (J : Nat → Nat → Int64) (E : Nat → Nat → Nat) (n k t h : Nat) (hR : R1 I n k t h) (x s : Int32) : opR (fun H => am_ev env (d + 20, 131, 0, [some (.ref 0), some (.int x), some (.int s)], [], H)) (fun H => am_ev env (d + 20, 275, 0, [some (.ref 156), some (.int x), some (.int s)], [], H)) I J E (P1 I n k) := by
  obtain ⟨hn, hk, ht, hh, e1, e2, e3, f0, f2, g0, g2⟩ := R1_f I n k t h hR
  obtain ⟨r1, r2, r3, r4, r5⟩ := id hR
  rcases zI_160 x with ⟨h1, h2⟩ | ⟨N, hN1, hN, rfl⟩
  · exact none_op I J E n k t h hR (-1) _ _ (c_drawn0 env d x s I J E h1) (m_drawn0 env d x s I J E h2)
  · obtain ⟨y, hy2, hy⟩ := r2.1
    have hy' : rS I 12 34 = Int32.ofNat y := (r3 34 (by unfold rel; omega)).trans hy
    have v1 : IvX n k (rS I 12) := ⟨IvL_agr (agr_symm r3) r1, IvS_agr (agr_symm r3) r2⟩
    have hK : y + min N (400 - y) ≤ 400 := by omega
    have hc := c_drawn1 env d Nf Df hD hC t h n k N y s hN1 hN ht hh I J E e1 e2 v1 hy' hy2
    have p1 := dwDays_P Nf Df hD (s, rS I 12) v1 hy' _ hK
    have p2 := dwDays_P Nf Df hD (s, I 158) ⟨r1, r2⟩ hy _ hK
    have p3 := agx_dwDays Nf Df hD (x := (s, rS I 12)) (x' := (s, I 158)) ⟨rfl, r3⟩ v1 hy' _ hK
    have hm0 := fun I' => m_drawn1 env d Nf Df hD hM h n k N y s hN1 hN hh I' J E
    generalize hX1 : dwDays Nf Df n k (min N (400 - y)) (s, rS I 12) = X1 at hc p1 p3
    generalize hKK : min N (400 - y) = K at hc hm0 hX1 p2 p3
    have hRu : R1 (am_u I 12 9 X1.1) n k t h := R1_ext I _ n k t h (fun q j hq => by
      rw [am_u_d]
      by_cases h : q = 12
      · rw [if_pos h, if_neg (by unfold KR at hq; omega)]
      · rw [if_neg h]) hR
    have hfu : fr1 I (am_u I 12 9 X1.1) := fun q j hq => by
      rw [am_u_nr _ _ _ _ _ (by unfold C1 at hq; omega)]
    generalize hI' : am_u I 12 9 X1.1 = Iu at hc hRu hfu
    have u158 : Iu 158 = I 158 := by rw [← hI', am_u_nr _ _ _ _ _ (by omega)]
    have u156 : Iu 156 = I 156 := by rw [← hI', am_u_nr _ _ _ _ _ (by omega)]
    have urS : rS Iu 12 = rS I 12 := by rw [← hI', rS_u9]
    have c158 : ∀ w m, cA Iu t h w m 158 = I 158 := fun w m => (cA_hi Iu t h ht w m 158 (by omega)).trans u158
    have c156 : ∀ w m, cA Iu t h w m 156 = I 156 := fun w m => (cA_hi Iu t h ht w m 156 (by omega)).trans u156
    have hm := hm0 (cA Iu t h (bi (decide (K = 0))) X1.2) (by rw [c156]; exact e3) (by rw [c158]; exact ⟨r1, r2⟩) (by rw [c158]; exact hy) hy2
    rw [c158] at hm
    generalize dwDays Nf Df n k K (s, I 158) = X2 at hm p2 p3
    obtain ⟨t', h', hR2⟩ := R1_act Iu n k t h hRu (bi (decide (K = 0))) X1.2 X2.2 (fun j hj => by rw [urS]; exact p1.2.2 j (Or.inl hj)) (fun j hj => by rw [u158]; exact p2.2.2 j (Or.inl hj)) (fun _ => p3.2) (fun _ => p2.1.2)
    have hfr2 := mA_fr (cA Iu t h (bi (decide (K = 0))) X1.2) h (bi (decide (K = 0))) X2.2 (fun j hj => by rw [c158]; exact p2.2.2 j hj)
    have hfr1 : fr1 Iu (cA Iu t h (bi (decide (K = 0))) X1.2) := by
      intro q j hq
      by_cases h1 : q < 43
      · rw [cA_lo Iu t h ht _ _ q (by unfold C1 at hq; omega)]
      · rw [cA_hi Iu t h ht _ _ q (by unfold C1 at hq; omega)]
    have hfr := fr1_trans hfu (fr1_trans hfr1 hfr2)
    refine ⟨Int32.ofNat K, _, _, hc, hm, ?_⟩
    by_cases h0 : K = 0
    · rw [decide_eq_true h0] at hR2 hfr ⊢
      exact ⟨⟨t', h', hR2⟩, hfr⟩
    · rw [decide_eq_false h0] at hR2 hfr ⊢
      have em : ∀ q j, ¬ (q = 156 ∧ j = 42) → mh (mS (cA Iu t h (bi false) X1.2) h) X2 q j = mA (cA Iu t h (bi false) X1.2) h (bi false) X2.2 q j := by
        intro q j hq
        show am_ur (am_ur _ 156 _) 158 X2.2 q j = am_ur _ 158 X2.2 q j
        by_cases g : q = 158
        · subst g; rw [ur_at, ur_at]
        · rw [ur_ne _ _ _ _ g, ur_ne _ _ _ _ g]
          by_cases g3 : q = 156
          · subst g3; rw [ur_at, ru_ne _ _ _ _ (fun e => hq ⟨rfl, e⟩)]
          · rw [ur_ne _ _ _ _ g3]
      refine ⟨⟨t', h', R1_ext _ _ n k t' h' (fun q j hq => em q j (by unfold KR at hq; omega)) hR2⟩, ?_⟩
      intro q j hq
      show mh (mS (cA Iu t h (bi false) X1.2) h) X2 q j = _
      rw [em q j (by unfold C1 at hq; omega)]
      exact hfr q j hq
theorem op_drawn (env : am_E) (d : Nat) (I : Nat → Nat → Int32) (J : Nat → Nat → Int64) (E : Nat → Nat → Nat) (n k t h : Nat) (hR : R1 I n k t h) (x s : Int32) : opR (fun H => am_ev env (d + 20, 131, 0, [some (.ref 0), some (.int x), some (.int s)], [], H)) (fun H => am_ev env (d + 20, 275, 0, [some (.ref 156), some (.int x), some (.int s)], [], H)) I J E (P1 I n k) :=
  op_drawnG env d nx du du_lt (fun env I J E d n x h1 h2 => m_draw env d n h1 h2 I J E x) (fun env p I J E d n x hp h1 h2 => c_draw env d p hp n h1 h2 I J E x) I J E n k t h hR x s
