/-! draws -/
theorem zI_mul (a b : Nat) : Int32.ofNat a * Int32.ofNat b = Int32.ofNat (a * b) := (Int32.ofNat_mul a b).symm
theorem zI_div (a b : Nat) (ha : a < 2147483648) (hb : b < 2147483648) : Int32.ofNat a / Int32.ofNat b = Int32.ofNat (a / b) := by
  apply Int32.toInt_inj.mp
  have hq : a / b ≤ a := Nat.div_le_self a b
  rw [Int32.toInt_div, zI_toInt a ha, zI_toInt b hb, zI_toInt _ (by omega), ← Int.ofNat_tdiv]
  generalize a / b = c at hq
  exact Int.bmod_eq_of_le (by omega) (by omega)
theorem zI_mod (a b : Nat) (ha : a < 2147483648) (hb : b < 2147483648) : Int32.ofNat a - Int32.ofNat a / Int32.ofNat b * Int32.ofNat b = Int32.ofNat (a % b) := by
  rw [zI_div a b ha hb, zI_mul, zI_sub a _ (Nat.div_mul_le_self a b)]
  congr 1
  have := Nat.div_add_mod a b
  rw [Nat.mul_comm] at this
  omega
theorem ushr8 (s : Int32) : am_ushr s 8 = Int32.ofNat (s.toUInt32.toNat / 256) := by
  have h1 : (Int32.toUInt32 8 &&& Int32.toUInt32 31) = 8 := by decide
  show (s.toUInt32 >>> (Int32.toUInt32 8 &&& Int32.toUInt32 31)).toInt32 = _
  rw [h1]
  apply Int32.toBitVec_inj.mp
  apply BitVec.eq_of_toNat_eq
  have h2 : (s.toUInt32 >>> (8 : UInt32)).toNat = s.toUInt32.toNat / 256 := by
    rw [UInt32.toNat_shiftRight]
    show s.toUInt32.toNat >>> 8 = _
    rw [Nat.shiftRight_eq_div_pow]
  have hlt : s.toUInt32.toNat < 4294967296 := s.toUInt32.toNat_lt
  show (s.toUInt32 >>> (8 : UInt32)).toNat = (Int32.ofNat (s.toUInt32.toNat / 256)).toBitVec.toNat
  rw [h2]
  show _ = (BitVec.ofNat 32 (s.toUInt32.toNat / 256)).toNat
  rw [BitVec.toNat_ofNat, Nat.mod_eq_of_lt (by omega)]
def nx (s : Int32) : Int32 := s * 1103515245 + 12345
def du (s : Int32) (n : Nat) : Nat := s.toUInt32.toNat / 256 % n
theorem du_lt (s : Int32) (n : Nat) (h : 1 ≤ n) : du s n < n := Nat.mod_lt _ (by omega)
theorem du_eq (s : Int32) (n : Nat) (h : n < 2147483648) : am_ushr s 8 - am_ushr s 8 / Int32.ofNat n * Int32.ofNat n = Int32.ofNat (du s n) := by
  have hlt : s.toUInt32.toNat < 4294967296 := s.toUInt32.toNat_lt
  rw [ushr8]
  exact zI_mod _ _ (by omega) h
def mh (I : Nat → Nat → Int32) (x : Int32 × (Nat → Int32)) : Nat → Nat → Int32 := am_ur (am_ur I 156 (ru (I 156) 42 x.1)) 158 x.2
def ch (I : Nat → Nat → Int32) (p : Nat) (x : Int32 × (Nat → Int32)) : Nat → Nat → Int32 := pS (am_u I p 9 x.1) p x.2
theorem mh_158 (I : Nat → Nat → Int32) (x : Int32 × (Nat → Int32)) : mh I x 158 = x.2 := by unfold mh; rw [ur_at]
theorem mh_set (I : Nat → Nat → Int32) (x : Int32 × (Nat → Int32)) (m : Nat → Int32) : am_ur (mh I x) 158 m = mh I (x.1, m) := by unfold mh; rw [ur_ur]
theorem m_draw (env : am_E) (d : Nat) (n : Nat) (h1 : 1 ≤ n) (hn : n ≤ 100) (I : Nat → Nat → Int32) (J : Nat → Nat → Int64) (E : Nat → Nat → Nat) (x : Int32 × (Nat → Int32)) : am_ev env (d + 1, 271, 0, [some (.ref 156), some (.int (Int32.ofNat n))], [], am_hp (mh I x) J E) = some (true, some (.int (Int32.ofNat (du (nx x.1) n))), am_hp (mh I (nx x.1, x.2)) J E) := by
  have e0 : decide (Int32.ofNat n = 0) = false := (zI_deq n 0 (by omega) (by omega)).trans (decide_eq_false (by omega))
  have e1 : mh I x 156 42 = x.1 := by unfold mh; rw [ur_ne _ _ _ _ (by omega), ur_at, ru_eq]
  have e2 : am_u (mh I x) 156 42 (nx x.1) = mh I (nx x.1, x.2) := by
    unfold mh
    rw [am_u_r, ur_ne _ 158 _ 156 (by omega), ur_at, ru_ru]
    rw [ur_comm _ 158 156 _ _ (by omega), ur_ur]
  have e3 : mh I (nx x.1, x.2) 156 42 = nx x.1 := by unfold mh; rw [ur_ne _ _ _ _ (by omega), ur_at, ru_eq]
  refine (bk_271_0 _ _ _ _ _ _).trans ?_
  rw [e0, e1]
  rw [show x.1 * 1103515245 + 12345 = nx x.1 from rfl, e2, e3, du_eq _ n (by omega)]
  rfl
theorem am_u_nr (I : Nat → Nat → Int32) (p k : Nat) (x : Int32) (q : Nat) (h : q ≠ p) : am_u I p k x q = I q := by
  funext j; rw [am_u_d, if_neg h]
theorem am_u_u (I : Nat → Nat → Int32) (p k : Nat) (x y : Int32) : am_u (am_u I p k x) p k y = am_u I p k y := by
  funext q j; simp only [am_u_d]
  by_cases h : q = p
  · rw [if_pos h, if_pos h, if_pos h]; split <;> rfl
  · rw [if_neg h, if_neg h, if_neg h]
theorem am_u_at (I : Nat → Nat → Int32) (p k : Nat) (x : Int32) : am_u I p k x p k = x := by rw [am_u_d, if_pos rfl, if_pos rfl]
theorem c_draw (env : am_E) (d : Nat) (p : Nat) (hp : stq p = true) (n : Nat) (h1 : 1 ≤ n) (hn : n ≤ 100) (I : Nat → Nat → Int32) (J : Nat → Nat → Int64) (E : Nat → Nat → Nat) (x : Int32 × (Nat → Int32)) : am_ev env (d + 1, 90, 0, [some (.ref p), some (.int (Int32.ofNat n))], [], am_hp (ch I p x) J E) = some (true, some (.int (Int32.ofNat (du (nx x.1) n))), am_hp (ch I p (nx x.1, x.2)) J E) := by
  have e0 : decide (Int32.ofNat n = 0) = false := (zI_deq n 0 (by omega) (by omega)).trans (decide_eq_false (by omega))
  have e4 : decide ((1 : Int32) ≤ Int32.ofNat n) = true := zle_t 1 n h1 (by omega)
  have e1 : ch I p x p 9 = x.1 := by unfold ch; rw [ps_g9, am_u_at]
  have e2 : am_u (ch I p x) p 9 (nx x.1) = ch I p (nx x.1, x.2) := by unfold ch; rw [ps_s9, am_u_u]
  have e3 : ch I p (nx x.1, x.2) p 9 = nx x.1 := by unfold ch; rw [ps_g9, am_u_at]
  refine (bk_90_0 _ _ _ _ _ _ _).trans ?_
  rw [e0, e1, e4]
  rw [show x.1 * 1103515245 + 12345 = nx x.1 from rfl, e2, e3, du_eq _ n (by omega)]
  simp only [st_d0 p hp, st_b0 p hp, Bool.and_self, decide_true, decide_false, Bool.not_true, Bool.not_false, am_cont, Option.bind_some, Option.toList_some, Option.toList_none, List.singleton_append, List.nil_append, cond_true, cond_false, bk_90_33]
def dwL (m : Nat → Int32) (r b : Nat) : Nat → Int32 := bif decide (wLend m r b = 0) then lLend m r b else m
def dwB (m : Nat → Int32) (r : Nat) : Nat → Int32 := bif decide (m (46 + r) = -1) then m else lBack m r (m (46 + r)).toNatClampNeg
def dwT (m : Nat → Int32) (r b q : Nat) : Nat → Int32 := bif decide (wTell m r b q = 0) then lLearn m q b else m
/-- what one reader draws -/
def dwG (N : Int32 → Int32) (D : Int32 → Nat → Nat) (n k r : Nat) (x : Int32 × (Nat → Int32)) : Int32 × (Nat → Int32) :=
  if D (N x.1) 8 < 5 then (N (N x.1), dwL x.2 r (D (N (N x.1)) n))
  else if D (N x.1) 8 = 5 then (N (N x.1), bif decide (D (N (N x.1)) 4 = 0) then dwB x.2 r else x.2)
  else if D (N x.1) 8 = 6 then (N (N (N x.1)), dwT x.2 r (D (N (N x.1)) n) (D (N (N (N x.1))) k))
  else (N x.1, x.2)
def dwD (n k r : Nat) (x : Int32 × (Nat → Int32)) : Int32 × (Nat → Int32) := dwG nx du n k r x
def IvX (n k : Nat) (m : Nat → Int32) : Prop := IvL m n k ∧ IvS m n k
theorem ivx_dwL {n k r b : Nat} {m : Nat → Int32} (h : IvX n k m) (hr : r < k) (hb : b < n) : IvX n k (dwL m r b) := by
  have hk := h.1.2.1.2
  have hn := h.1.1.2
  unfold dwL
  by_cases hw : wLend m r b = 0
  · rw [decide_eq_true hw]
    exact ⟨IvL_low (m := m) (fun j hj => lLend_lo _ _ _ (by omega) (by omega) j (Or.inl hj)) h.1, IvS_lend h.1 h.2 hr hb hw⟩
  · rw [decide_eq_false hw]; exact h
theorem ivx_dwB {n k r : Nat} {m : Nat → Int32} (h : IvX n k m) (hr : r < k) : IvX n k (dwB m r) := by
  have hk := h.1.2.1.2
  have hn := h.1.1.2
  unfold dwB
  rcases (h.2.2.2.2 r (by omega)).1 with ⟨e, _⟩ | ⟨_, b, hb, e, _⟩
  · rw [decide_eq_true e]; exact h
  · rw [decide_eq_false (by rw [e]; exact fun e => m1_ne b (by omega) e.symm), e, zI_nat b (by omega)]
    exact ⟨IvL_low (m := m) (fun j hj => lBack_lo _ _ _ (by omega) (by omega) j (Or.inl hj)) h.1, IvS_back h.1 h.2 hr hb e⟩
theorem ivx_dwT {n k r b q : Nat} {m : Nat → Int32} (h : IvX n k m) (hq : q < k) (hb : b < n) : IvX n k (dwT m r b q) := by
  have hk := h.1.2.1.2
  have hn := h.1.1.2
  unfold dwT
  by_cases hw : wTell m r b q = 0
  · rw [decide_eq_true hw]
    exact ⟨IvL_low (m := m) (fun j hj => lLearn_lo _ _ _ (by omega) j (Or.inl hj)) h.1, IvS_learn h.1 h.2 hq hb (wTell_0 hw).2⟩
  · rw [decide_eq_false hw]; exact h
theorem ivx_dwD {n k r : Nat} {x : Int32 × (Nat → Int32)} (h : IvX n k x.2) (hr : r < k) (hn : 1 ≤ n) : IvX n k (dwD n k r x).2 := by
  have hD := du_lt
  unfold dwD
  generalize nx = N
  generalize du = D at hD ⊢
  unfold dwG
  split
  · exact ivx_dwL h hr (hD _ _ hn)
  · split
    · show IvX n k (bif _ then dwB x.2 r else x.2)
      cases decide (D (N (N x.1)) 4 = 0)
      · exact h
      · exact ivx_dwB h hr
    · split
      · exact ivx_dwT h (hD _ _ (by omega)) (hD _ _ hn)
      · exact h
theorem m_doIf0 (env : am_E) (d : Nat) (r b : Nat) (hr : r < 6) (hb : b < 8) (I : Nat → Nat → Int32) (J : Nat → Nat → Int64) (E : Nat → Nat → Nat) (x : Int32 × (Nat → Int32)) : am_ev env (d + 8, 272, 0, [some (.ref 156), some (.int 0), some (.int (Int32.ofNat r)), some (.int (Int32.ofNat b)), some (.int 0)], [], am_hp (mh I x) J E) = some (true, none, am_hp (mh I (x.1, dwL x.2 r b)) J E) := by
  simp (disch := omega) only [bk_272_0, bk_272_9, decide_true, decide_false, Bool.not_true, Bool.not_false, am_cont, Option.bind_some, Option.toList_some, Option.toList_none, List.singleton_append, List.nil_append, cond_true, cond_false, m_why0, mh_158]
  unfold dwL
  by_cases hw : wLend x.2 r b = 0
  · rw [decide_eq_true hw]
    simp (disch := omega) only [decide_true, decide_false, Bool.not_true, Bool.not_false, am_cont, Option.bind_some, Option.toList_some, Option.toList_none, List.singleton_append, List.nil_append, cond_true, cond_false, m_live0, bk_272_21, mh_158, mh_set]
  · rw [decide_eq_false hw]
    simp only [decide_true, decide_false, Bool.not_true, Bool.not_false, am_cont, Option.bind_some, Option.toList_some, Option.toList_none, List.singleton_append, List.nil_append, cond_true, cond_false, bk_272_21]
theorem m_doIf1 (env : am_E) (d : Nat) (r : Nat) (hr : r < 6) (I : Nat → Nat → Int32) (J : Nat → Nat → Int64) (E : Nat → Nat → Nat) (x : Int32 × (Nat → Int32)) (hx : x.2 (46 + r) = -1 ∨ ∃ b, b < 8 ∧ x.2 (46 + r) = Int32.ofNat b) : am_ev env (d + 8, 272, 0, [some (.ref 156), some (.int 1), some (.int (Int32.ofNat r)), some (.int 0), some (.int 0)], [], am_hp (mh I x) J E) = some (true, none, am_hp (mh I (x.1, dwB x.2 r)) J E) := by
  simp (disch := omega) only [bk_272_0, bk_272_9, decide_true, decide_false, Bool.not_true, Bool.not_false, am_cont, Option.bind_some, Option.toList_some, Option.toList_none, List.singleton_append, List.nil_append, cond_true, cond_false, m_why1, mh_158, bi_eq0]
  unfold dwB
  rcases hx with e | ⟨b, hb, e⟩
  · rw [decide_eq_true e]; simp only [decide_true, decide_false, Bool.not_true, Bool.not_false, am_cont, Option.bind_some, Option.toList_some, Option.toList_none, List.singleton_append, List.nil_append, cond_true, cond_false, bk_272_21]
  · rw [decide_eq_false (by rw [e]; exact fun e => m1_ne b (by omega) e.symm), e, zI_nat b (by omega)]
    simp (disch := omega) only [decide_true, decide_false, Bool.not_true, Bool.not_false, am_cont, Option.bind_some, Option.toList_some, Option.toList_none, List.singleton_append, List.nil_append, cond_true, cond_false, m_live1 env _ r b 0 0 hr hb (mh I x) J E (by rw [mh_158]; exact e), bk_272_21, mh_158, mh_set]
theorem m_doIf2 (env : am_E) (d : Nat) (r b q : Nat) (hr : r < 6) (hb : b < 8) (hq : q < 6) (I : Nat → Nat → Int32) (J : Nat → Nat → Int64) (E : Nat → Nat → Nat) (x : Int32 × (Nat → Int32)) : am_ev env (d + 8, 272, 0, [some (.ref 156), some (.int 2), some (.int (Int32.ofNat r)), some (.int (Int32.ofNat b)), some (.int (Int32.ofNat q))], [], am_hp (mh I x) J E) = some (true, none, am_hp (mh I (x.1, dwT x.2 r b q)) J E) := by
  simp (disch := omega) only [bk_272_0, bk_272_9, decide_true, decide_false, Bool.not_true, Bool.not_false, am_cont, Option.bind_some, Option.toList_some, Option.toList_none, List.singleton_append, List.nil_append, cond_true, cond_false, m_why2, mh_158]
  unfold dwT
  by_cases hw : wTell x.2 r b q = 0
  · rw [decide_eq_true hw]
    simp (disch := omega) only [decide_true, decide_false, Bool.not_true, Bool.not_false, am_cont, Option.bind_some, Option.toList_some, Option.toList_none, List.singleton_append, List.nil_append, cond_true, cond_false, m_live2, bk_272_21, mh_158, mh_set]
  · rw [decide_eq_false hw]
    simp only [decide_true, decide_false, Bool.not_true, Bool.not_false, am_cont, Option.bind_some, Option.toList_some, Option.toList_none, List.singleton_append, List.nil_append, cond_true, cond_false, bk_272_21]
theorem m_drawsG (env : am_E) (d : Nat) (N : Int32 → Int32) (D : Int32 → Nat → Nat) (hD : ∀ s n, 1 ≤ n → D s n < n) (n k r : Nat) (I : Nat → Nat → Int32) (J : Nat → Nat → Int64) (E : Nat → Nat → Nat) (hM : ∀ (n : Nat) (x : Int32 × (Nat → Int32)), 1 ≤ n → n ≤ 100 → am_ev env (d + 7 + 1, 271, 0, [some (.ref 156), some (.int (Int32.ofNat n))], [], am_hp (mh I x) J E) = some (true, some (.int (Int32.ofNat (D (N x.1) n))), am_hp (mh I (N x.1, x.2)) J E)) (x : Int32 × (Nat → Int32)) (h : IvX n k x.2) (hr : r < k) (hn : 1 ≤ n) : am_ev env (d + 9, 273, 0, [some (.ref 156), some (.int (Int32.ofNat r)), none, none], [], am_hp (mh I x) J E) = some (true, none, am_hp (mh I (dwG N D n k r x)) J E) := by
  have hk := h.1.2.1.2
  have hn8 := h.1.1.2
  have m8 := hM 8 x (by omega) (by omega)
  have a8 := hD (N x.1) 8 (by omega)
  have v0 : x.2 0 = Int32.ofNat n := h.1.1.1
  have v2 : x.2 2 = Int32.ofNat k := h.1.2.1.1
  have e8 : (Int32.ofNat 8) = 8 := rfl
  rw [e8] at m8
  simp only [bk_273_0, bk_273_6, decide_true, decide_false, Bool.not_true, Bool.not_false, am_cont, Option.bind_some, Option.toList_some, Option.toList_none, List.singleton_append, List.nil_append, cond_true, cond_false, m8]
  unfold dwG
  by_cases g1 : D (N x.1) 8 < 5
  · rw [if_pos g1, show decide ((5 : Int32) ≤ Int32.ofNat (D (N x.1) 8)) = false from zle_f 5 _ g1 (by omega)]
    have e5 : decide (Int32.ofNat (D (N x.1) 8) = 5) = false := (zI_deq _ 5 (by omega) (by omega)).trans (decide_eq_false (by omega))
    have e6 : decide (Int32.ofNat (D (N x.1) 8) = 6) = false := (zI_deq _ 6 (by omega) (by omega)).trans (decide_eq_false (by omega))
    have hb := hD (N (N x.1)) n hn
    simp (disch := omega) only [decide_true, decide_false, Bool.not_true, Bool.not_false, am_cont, Option.bind_some, Option.toList_some, Option.toList_none, List.singleton_append, List.nil_append, cond_true, cond_false, mh_158, v0, hM, bk_273_25, m_doIf0, bk_273_29, bk_273_50, e5, e6]
  · rw [if_neg g1, show decide ((5 : Int32) ≤ Int32.ofNat (D (N x.1) 8)) = true from zle_t 5 _ (by omega) (by omega)]
    by_cases g2 : D (N x.1) 8 = 5
    · rw [if_pos g2, g2]
      have e5 : decide (Int32.ofNat 5 = 5) = true := by decide
      have e6 : decide (Int32.ofNat 5 = 6) = false := by decide
      have m4 := hM 4 (N x.1, x.2) (by omega) (by omega)
      have e4 : (Int32.ofNat 4) = 4 := rfl
      rw [e4] at m4
      have a4 := hD (N (N x.1)) 4 (by omega)
      have e0 : decide (Int32.ofNat (D (N (N x.1)) 4) = 0) = decide (D (N (N x.1)) 4 = 0) := zI_deq _ 0 (by omega) (by omega)
      simp (disch := omega) only [decide_true, decide_false, Bool.not_true, Bool.not_false, am_cont, Option.bind_some, Option.toList_some, Option.toList_none, List.singleton_append, List.nil_append, cond_true, cond_false, bk_273_29, e5, m4, bk_273_39, e0]
      cases decide (D (N (N x.1)) 4 = 0)
      · simp only [decide_true, decide_false, Bool.not_true, Bool.not_false, am_cont, Option.bind_some, Option.toList_some, Option.toList_none, List.singleton_append, List.nil_append, cond_true, cond_false, bk_273_50, e6]
      · simp only [decide_true, decide_false, Bool.not_true, Bool.not_false, am_cont, Option.bind_some, Option.toList_some, Option.toList_none, List.singleton_append, List.nil_append, cond_true, cond_false, m_doIf1 env d r (by omega) I J E (N (N x.1), x.2) (has_or hn8 h.2 (by omega)), bk_273_50, e6]
    · rw [if_neg g2]
      have e5 : decide (Int32.ofNat (D (N x.1) 8) = 5) = false := (zI_deq _ 5 (by omega) (by omega)).trans (decide_eq_false g2)
      by_cases g3 : D (N x.1) 8 = 6
      · rw [if_pos g3]
        rw [g3] at e5 ⊢
        have e6 : decide (Int32.ofNat 6 = 6) = true := by decide
        have hb := hD (N (N x.1)) n hn
        have hq := hD (N (N (N x.1))) k (by omega)
        simp (disch := omega) only [decide_true, decide_false, Bool.not_true, Bool.not_false, am_cont, Option.bind_some, Option.toList_some, Option.toList_none, List.singleton_append, List.nil_append, cond_true, cond_false, bk_273_29, e5, bk_273_50, e6, mh_158, v0, v2, hM, bk_273_67, bk_273_82, m_doIf2, bk_273_85]
      · rw [if_neg g3]
        have e6 : decide (Int32.ofNat (D (N x.1) 8) = 6) = false := (zI_deq _ 6 (by omega) (by omega)).trans (decide_eq_false g3)
        simp (disch := omega) only [decide_true, decide_false, Bool.not_true, Bool.not_false, am_cont, Option.bind_some, Option.toList_some, Option.toList_none, List.singleton_append, List.nil_append, cond_true, cond_false, bk_273_29, e5, bk_273_50, e6]
theorem m_drawsFor (env : am_E) (d : Nat) (n k r : Nat) (I : Nat → Nat → Int32) (J : Nat → Nat → Int64) (E : Nat → Nat → Nat) (x : Int32 × (Nat → Int32)) (h : IvX n k x.2) (hr : r < k) (hn : 1 ≤ n) : am_ev env (d + 9, 273, 0, [some (.ref 156), some (.int (Int32.ofNat r)), none, none], [], am_hp (mh I x) J E) = some (true, none, am_hp (mh I (dwD n k r x)) J E) :=
  m_drawsG env d nx du du_lt n k r I J E (fun n x h1 h2 => m_draw env (d + 7) n h1 h2 I J E x) x h hr hn
theorem Lb_u9 (I : Nat → Nat → Int32) (p : Nat) (hp : 12 ≤ p) (s : Int32) (m : Nat → Int32) (hl : Lb I m) : Lb (am_u I p 9 s) m := by
  obtain ⟨h1, h2, h3, h4, h5⟩ := hl
  refine ⟨fun j hj => ?_, fun j hj => ?_, fun j hj => ?_, fun j hj => ?_, fun j hj => ?_⟩
  · rw [am_u_nr _ _ _ _ _ (by omega)]; exact h1 j hj
  · rw [am_u_nr _ _ _ _ _ (by omega)]; exact h2 j hj
  · rw [am_u_nr _ _ _ _ _ (by omega)]; exact h3 j hj
  · rw [am_u_nr _ _ _ _ _ (by omega)]; exact h4 j hj
  · rw [am_u_nr _ _ _ _ _ (by omega)]; exact h5 j hj
theorem ch_5 (I : Nat → Nat → Int32) (p : Nat) (hp : 12 ≤ p) (x : Int32 × (Nat → Int32)) (k : Nat) (hk : k < 4) (hl : Lb I x.2) : ch I p x 5 k = x.2 k := by
  unfold ch; rw [ps_ne _ _ _ _ (by omega), am_u_nr _ _ _ _ _ (by omega)]; exact hl.1 k hk
theorem c_drawG (env : am_E) (d : Nat) (N : Int32 → Int32) (D : Int32 → Nat → Nat) (hD : ∀ s n, 1 ≤ n → D s n < n) (p : Nat) (hp : stq p = true) (n k r : Nat) (I : Nat → Nat → Int32) (J : Nat → Nat → Int64) (E : Nat → Nat → Nat) (hM : ∀ (n : Nat) (x : Int32 × (Nat → Int32)), 1 ≤ n → n ≤ 100 → am_ev env (d + 7 + 1, 90, 0, [some (.ref p), some (.int (Int32.ofNat n))], [], am_hp (ch I p x) J E) = some (true, some (.int (Int32.ofNat (D (N x.1) n))), am_hp (ch I p (N x.1, x.2)) J E)) (x : Int32 × (Nat → Int32)) (hl : Lb I x.2) (h : IvX n k x.2) (hr : r < k) (hn : 1 ≤ n) : am_ev env (d + 9, 89, 0, [some (.ref p), some (.ref 5), some (.int (Int32.ofNat r)), none, none, none], [], am_hp (ch I p x) J E) = some (true, none, am_hp (ch I p (dwG N D n k r x)) J E) := by
  have hpb := st_bd p hp
  have hk := h.1.2.1.2
  have hn8 := h.1.1.2
  have m8 := hM 8 x (by omega) (by omega)
  have a8 := hD (N x.1) 8 (by omega)
  have v0 : ∀ s, ch I p (s, x.2) 5 0 = Int32.ofNat n := fun s => (ch_5 I p (by omega) (s, x.2) 0 (by omega) hl).trans h.1.1.1
  have v2 : ∀ s, ch I p (s, x.2) 5 2 = Int32.ofNat k := fun s => (ch_5 I p (by omega) (s, x.2) 2 (by omega) hl).trans h.1.2.1.1
  have e8 : (Int32.ofNat 8) = 8 := rfl
  rw [e8] at m8
  simp only [bk_89_0, bk_89_6, st_d0 p hp, st_b0 p hp, lb_d, lb_b, Bool.and_self, decide_true, decide_false, Bool.not_true, Bool.not_false, am_cont, Option.bind_some, Option.toList_some, Option.toList_none, List.singleton_append, List.nil_append, cond_true, cond_false, m8]
  unfold dwG
  by_cases g1 : D (N x.1) 8 < 5
  · rw [if_pos g1, show decide ((4 : Int32) < Int32.ofNat (D (N x.1) 8)) = false from zlt_f 4 _ (by omega) (by omega)]
    have hb := hD (N (N x.1)) n hn
    have hc := c_lendTo env (d + 4) p hp r (D (N (N x.1)) n) (by omega) (by omega) (am_u I p 9 (N (N x.1))) J E x.2 (Lb_u9 I p (by omega) _ _ hl)
    rw [cwLend_eq h.2 hb] at hc
    have hc2 : am_ev env (d + 4 + 4, 77, 0, [some (.ref p), some (.ref 5), some (.int (Int32.ofNat r)), some (.int (Int32.ofNat (D (N (N x.1)) n))), none], [], am_hp (ch I p (N (N x.1), x.2)) J E) = some (true, some (.int (wLend x.2 r (D (N (N x.1)) n))), am_hp (ch I p (N (N x.1), dwL x.2 r (D (N (N x.1)) n))) J E) := hc
    simp (disch := omega) only [st_d0 p hp, st_b0 p hp, lb_d, lb_b, Bool.and_self, decide_true, decide_false, Bool.not_true, Bool.not_false, am_cont, Option.bind_some, Option.toList_some, Option.toList_none, List.singleton_append, List.nil_append, cond_true, cond_false, v0, hM, bk_89_23, bk_89_26, bk_89_90, hc2]
  · rw [if_neg g1, show decide ((4 : Int32) < Int32.ofNat (D (N x.1) 8)) = true from zlt_t 4 _ (by omega) (by omega)]
    by_cases g2 : D (N x.1) 8 = 5
    · rw [if_pos g2, g2]
      have e5 : decide (Int32.ofNat 5 = 5) = true := by decide
      have m4 := hM 4 (N x.1, x.2) (by omega) (by omega)
      have e4 : (Int32.ofNat 4) = 4 := rfl
      rw [e4] at m4
      have a4 := hD (N (N x.1)) 4 (by omega)
      have e0 : decide (Int32.ofNat (D (N (N x.1)) 4) = 0) = decide (D (N (N x.1)) 4 = 0) := zI_deq _ 0 (by omega) (by omega)
      simp (disch := omega) only [st_d0 p hp, st_b0 p hp, Bool.and_self, decide_true, decide_false, Bool.not_true, Bool.not_false, am_cont, Option.bind_some, Option.toList_some, Option.toList_none, List.singleton_append, List.nil_append, cond_true, cond_false, e5, m4, bk_89_40, e0]
      cases decide (D (N (N x.1)) 4 = 0)
      · simp only [decide_true, decide_false, Bool.not_true, Bool.not_false, am_cont, Option.bind_some, Option.toList_some, Option.toList_none, List.singleton_append, List.nil_append, cond_true, cond_false, bk_89_90]
      · have hc := c_takeBack env (d + 6) p hp r (by omega) (am_u I p 9 (N (N x.1))) J E x.2 (Lb_u9 I p (by omega) _ _ hl) (has_or hn8 h.2 (by omega))
        rw [bi_eq0] at hc
        have hc2 : am_ev env (d + 6 + 2, 78, 0, [some (.ref p), some (.ref 5), some (.int (Int32.ofNat r))], [], am_hp (ch I p (N (N x.1), x.2)) J E) = some (true, some (.int (bi (decide (x.2 (46 + r) = -1)))), am_hp (ch I p (N (N x.1), dwB x.2 r)) J E) := by
          refine hc.trans ?_
          unfold dwB ch
          cases decide (x.2 (46 + r) = -1) <;> rfl
        simp only [st_d0 p hp, st_b0 p hp, Bool.and_self, decide_true, decide_false, Bool.not_true, Bool.not_false, am_cont, Option.bind_some, Option.toList_some, Option.toList_none, List.singleton_append, List.nil_append, cond_true, cond_false, hc2, bk_89_49, bk_89_90]
    · rw [if_neg g2]
      have e5 : decide (Int32.ofNat (D (N x.1) 8) = 5) = false := (zI_deq _ 5 (by omega) (by omega)).trans (decide_eq_false g2)
      by_cases g3 : D (N x.1) 8 = 6
      · rw [if_pos g3]
        rw [g3] at e5 ⊢
        have e6 : decide (Int32.ofNat 6 = 6) = true := by decide
        have hb := hD (N (N x.1)) n hn
        have hq := hD (N (N (N x.1))) k (by omega)
        have hc := c_tellOn env (d + 5) p hp r (D (N (N x.1)) n) (D (N (N (N x.1))) k) (by omega) (by omega) (by omega) (am_u I p 9 (N (N (N x.1)))) J E x.2 (Lb_u9 I p (by omega) _ _ hl)
        have hc2 : am_ev env (d + 5 + 3, 80, 0, [some (.ref p), some (.ref 5), some (.int (Int32.ofNat r)), some (.int (Int32.ofNat (D (N (N x.1)) n))), some (.int (Int32.ofNat (D (N (N (N x.1))) k)))], [], am_hp (ch I p (N (N (N x.1)), x.2)) J E) = some (true, some (.int (wTell x.2 r (D (N (N x.1)) n) (D (N (N (N x.1))) k))), am_hp (ch I p (N (N (N x.1)), dwT x.2 r (D (N (N x.1)) n) (D (N (N (N x.1))) k))) J E) := hc
        simp (disch := omega) only [st_d0 p hp, st_b0 p hp, lb_d, lb_b, Bool.and_self, decide_true, decide_false, Bool.not_true, Bool.not_false, am_cont, Option.bind_some, Option.toList_some, Option.toList_none, List.singleton_append, List.nil_append, cond_true, cond_false, e5, e6, v0, v2, hM, bk_89_67, bk_89_77, hc2, bk_89_89, bk_89_90]
      · rw [if_neg g3]
        have e6 : decide (Int32.ofNat (D (N x.1) 8) = 6) = false := (zI_deq _ 6 (by omega) (by omega)).trans (decide_eq_false g3)
        simp (disch := omega) only [decide_true, decide_false, Bool.not_true, Bool.not_false, am_cont, Option.bind_some, Option.toList_some, Option.toList_none, List.singleton_append, List.nil_append, cond_true, cond_false, e5, bk_89_90, e6]
theorem c_drawAct (env : am_E) (d : Nat) (p : Nat) (hp : stq p = true) (n k r : Nat) (I : Nat → Nat → Int32) (J : Nat → Nat → Int64) (E : Nat → Nat → Nat) (x : Int32 × (Nat → Int32)) (hl : Lb I x.2) (h : IvX n k x.2) (hr : r < k) (hn : 1 ≤ n) : am_ev env (d + 9, 89, 0, [some (.ref p), some (.ref 5), some (.int (Int32.ofNat r)), none, none, none], [], am_hp (ch I p x) J E) = some (true, none, am_hp (ch I p (dwD n k r x)) J E) :=
  c_drawG env d nx du du_lt p hp n k r I J E (fun n x h1 h2 => c_draw env (d + 7) p hp n h1 h2 I J E x) x hl h hr hn
