/-! a RECORD's lines are lived -/
def rwy (e : Rl) (m : Nat → Int32) : Int32 := if e.1 = 0 then wLend m e.2.1 e.2.2.1 else if e.1 = 1 then bi (decide (m (46 + e.2.1) = -1)) else if e.1 = 2 then wTell m e.2.1 e.2.2.1 e.2.2.2 else if e.1 = 3 then wForge m e.2.1 else if e.1 = 4 then bi (!bt (m 35) e.2.1) else if e.1 = 5 then bi (decide (m (38 + e.2.1) = 0)) else if e.1 = 6 then bi (!decide (m (38 + e.2.1) < 9)) else bi (!decide ((m 34).toNatClampNeg + e.2.1 ≤ 400))
def rlv (e : Rl) (k : Nat) (m : Nat → Int32) : Nat → Int32 := if e.1 = 0 then lLend m e.2.1 e.2.2.1 else if e.1 = 1 then lBack m e.2.1 (m (46 + e.2.1)).toNatClampNeg else if e.1 = 2 then lLearn m e.2.2.2 e.2.2.1 else if e.1 = 3 then lForge m e.2.1 else if e.1 = 4 then lForge m e.2.1 else if e.1 = 5 then lBurn m e.2.1 else if e.1 = 6 then lBuy m e.2.1 else lDays k e.2.1 m
theorem wl_r (m : Nat → Int32) (r b : Nat) : ∃ v, v ≤ 4 ∧ wLend m r b = Int32.ofNat v := by
  unfold wLend
  cases !decide (m (46 + r) = -1)
  · cases bt (m (64 + r)) b
    · cases !fitq m r b
      · cases decide (m (38 + b) = 0)
        · exact ⟨0, by omega, rfl⟩
        · exact ⟨4, by omega, rfl⟩
      · exact ⟨3, by omega, rfl⟩
    · exact ⟨2, by omega, rfl⟩
  · exact ⟨1, by omega, rfl⟩
theorem wt_r (m : Nat → Int32) (r b q : Nat) : ∃ v, v ≤ 4 ∧ wTell m r b q = Int32.ofNat v := by
  unfold wTell
  cases decide (r = q)
  · cases !bt (m (64 + r)) b
    · cases bt (m (64 + q)) b
      · cases (!fitq m q b || decide (m (46 + q) = Int32.ofNat b))
        · exact ⟨0, by omega, rfl⟩
        · exact ⟨4, by omega, rfl⟩
      · exact ⟨3, by omega, rfl⟩
    · exact ⟨2, by omega, rfl⟩
  · exact ⟨1, by omega, rfl⟩
theorem wf_r (m : Nat → Int32) (b : Nat) : ∃ v, v ≤ 4 ∧ wForge m b = Int32.ofNat v := by
  unfold wForge
  cases bt (m 35) b
  · cases decide (m (20 + b) = 0)
    · exact ⟨0, by omega, rfl⟩
    · exact ⟨2, by omega, rfl⟩
  · exact ⟨1, by omega, rfl⟩
theorem bi_r (b : Bool) : ∃ v, v ≤ 4 ∧ bi b = Int32.ofNat v := by
  cases b
  · exact ⟨0, by omega, rfl⟩
  · exact ⟨1, by omega, rfl⟩
theorem rwy_r (e : Rl) (m : Nat → Int32) : ∃ v, v ≤ 4 ∧ rwy e m = Int32.ofNat v := by
  unfold rwy
  by_cases h0 : e.1 = 0
  · rw [if_pos h0]; exact wl_r _ _ _
  rw [if_neg h0]
  by_cases h1 : e.1 = 1
  · rw [if_pos h1]; exact bi_r _
  rw [if_neg h1]
  by_cases h2 : e.1 = 2
  · rw [if_pos h2]; exact wt_r _ _ _ _
  rw [if_neg h2]
  by_cases h3 : e.1 = 3
  · rw [if_pos h3]; exact wf_r _ _
  rw [if_neg h3]
  by_cases h4 : e.1 = 4
  · rw [if_pos h4]; exact bi_r _
  rw [if_neg h4]
  by_cases h5 : e.1 = 5
  · rw [if_pos h5]; exact bi_r _
  rw [if_neg h5]
  by_cases h6 : e.1 = 6
  · rw [if_pos h6]; exact bi_r _
  rw [if_neg h6]; exact bi_r _
theorem bi0 {b : Bool} (h : bi b = 0) : b = false := by cases b; rfl; exact absurd h (by decide)
theorem day_n {m : Nat → Int32} {n k : Nat} (hs : IvS m n k) : ∃ y, y ≤ 400 ∧ m 34 = Int32.ofNat y ∧ (m 34).toNatClampNeg = y := by
  obtain ⟨⟨y, hy, e⟩, -⟩ := hs
  exact ⟨y, hy, e, by rw [e, zI_nat y (by omega)]⟩
theorem rlv_ok {n k : Nat} {m : Nat → Int32} (e : Rl) (hv : IvL m n k) (hs : IvS m n k) (hd : DV n k e) (h0 : rwy e m = 0) : IvS (rlv e k m) n k ∧ ∀ j, (j < 34 ∨ 70 ≤ j) → rlv e k m j = m j := by
  obtain ⟨w, x, y, z⟩ := e
  obtain ⟨d1, d2, d3, d4, d5, d6⟩ := hd
  dsimp only at d1 d2 d3 d4 d5 d6
  have hn := hv.1.2
  have hk := hv.2.1.2
  unfold rwy at h0
  unfold rlv
  dsimp only at h0 ⊢
  rcases (show w = 0 ∨ w = 1 ∨ w = 2 ∨ w = 3 ∨ w = 4 ∨ w = 5 ∨ w = 6 ∨ w = 7 by omega) with rfl | rfl | rfl | rfl | rfl | rfl | rfl | rfl
  · have a := d2 (by omega); have b := d3 (by omega)
    exact ⟨IvS_lend hv hs a b h0, fun j hj => lLend_lo m x y (by omega) (by omega) j hj⟩
  · have a := d2 (by omega)
    have h0 : bi (decide (m (46 + x) = -1)) = 0 := h0
    have hne := of_decide_eq_false (bi0 h0)
    rcases (hs.2.2.2 x (by omega)).1 with ⟨q, _⟩ | ⟨_, b, hb, q, _⟩
    · exact absurd q hne
    · show IvS (lBack m x (m (46 + x)).toNatClampNeg) n k ∧ ∀ j, (j < 34 ∨ 70 ≤ j) → lBack m x (m (46 + x)).toNatClampNeg j = m j
      rw [q, zI_nat b (by omega)]
      exact ⟨IvS_back hv hs a hb q, fun j hj => lBack_lo m x b (by omega) (by omega) j hj⟩
  · have a := d2 (by omega); have b := d3 (by omega); have c := d4 rfl
    exact ⟨IvS_learn hv hs c b (wTell_0 h0).2, fun j hj => lLearn_lo m z y (by omega) j hj⟩
  · have b := d5 (by omega)
    exact ⟨IvS_forge hn hs b, fun j hj => ru_lo _ _ _ (by omega) j hj⟩
  · have b := d5 (by omega)
    exact ⟨IvS_forge hn hs b, fun j hj => ru_lo _ _ _ (by omega) j hj⟩
  · have b := d5 (by omega)
    have h0 : bi (decide (m (38 + x) = 0)) = 0 := h0
    have hne := of_decide_eq_false (bi0 h0)
    obtain ⟨v, hv1, hv2⟩ := hs.2.2.1 x b
    have hv0 : v ≠ 0 := fun q => hne (by rw [hv1, q]; rfl)
    refine ⟨?_, fun j hj => ru_lo _ _ _ (by omega) j hj⟩
    show IvS (lBurn m x) n k
    unfold lBurn
    rw [hv1, show Int32.ofNat v - 1 = Int32.ofNat (v - 1) from zI_sub v 1 (by omega)]
    exact IvS_in hn hs b (v - 1) (by omega)
  · have b := d5 (by omega)
    have h0 : bi (!decide (m (38 + x) < 9)) = 0 := h0
    have hlt := bi0 h0
    obtain ⟨v, hv1, hv2⟩ := hs.2.2.1 x b
    have hv9 : v < 9 := by
      rw [hv1] at hlt
      rw [show decide (Int32.ofNat v < (9 : Int32)) = decide (v < 9) from zlt_d v 9 (by omega) (by omega)] at hlt
      cases q : decide (v < 9) with
      | true => exact of_decide_eq_true q
      | false => rw [q] at hlt; cases hlt
    have ho : oc m x ≤ 6 := ocn_le m x 6
    refine ⟨?_, fun j hj => ru_lo _ _ _ (by omega) j hj⟩
    show IvS (lBuy m x) n k
    unfold lBuy
    rw [hv1, zd_1]
    exact IvS_in hn hs b (v + 1) (by omega)
  · have b := d6 rfl
    have h0 : bi (!decide ((m 34).toNatClampNeg + x ≤ 400)) = 0 := h0
    obtain ⟨yy, hy, ey, en⟩ := day_n hs
    rw [en] at h0
    have hle : yy + x ≤ 400 := by
      have := bi0 h0
      cases q : decide (yy + x ≤ 400) with
      | true => exact of_decide_eq_true q
      | false => rw [q] at this; cases this
    obtain ⟨p1, p2, p3⟩ := lDays_P m n k yy x hv hs ey hle
    exact ⟨p3, fun j hj => by
      rcases hj with hj | hj
      · exact p1 j hj
      · exact lDays_lo k m n x yy hv hs ey hle j hj⟩
theorem rl_agr {n k : Nat} {m m' : Nat → Int32} (e : Rl) (h : Agr n k m m') (hv : IvL m n k) (hs : IvS m n k) (hd : DV n k e) : rwy e m = rwy e m' ∧ (rwy e m = 0 → Agr n k (rlv e k m) (rlv e k m')) := by
  obtain ⟨w, x, y, z⟩ := e
  obtain ⟨d1, d2, d3, d4, d5, d6⟩ := hd
  dsimp only at d1 d2 d3 d4 d5 d6
  have hn := hv.1.2
  have hk := hv.2.1.2
  have h34 : m 34 = m' 34 := h 34 (by unfold rel; omega)
  have h35 : m 35 = m' 35 := h 35 (by unfold rel; omega)
  unfold rwy rlv
  dsimp only
  rcases (show w = 0 ∨ w = 1 ∨ w = 2 ∨ w = 3 ∨ w = 4 ∨ w = 5 ∨ w = 6 ∨ w = 7 by omega) with rfl | rfl | rfl | rfl | rfl | rfl | rfl | rfl
  · have a := d2 (by omega); have b := d3 (by omega)
    exact ⟨agr_wLend h x y (by omega) b, fun _ => agr_lLend h x y b⟩
  · have a := d2 (by omega)
    have e46 : m (46 + x) = m' (46 + x) := h _ (by unfold rel; omega)
    refine ⟨by show bi _ = bi _; rw [e46], fun h0 => ?_⟩
    have h0 : bi (decide (m (46 + x) = -1)) = 0 := h0
    have hne := of_decide_eq_false (bi0 h0)
    show Agr n k (lBack m x (m (46 + x)).toNatClampNeg) (lBack m' x (m' (46 + x)).toNatClampNeg)
    rcases (hs.2.2.2 x (by omega)).1 with ⟨q, _⟩ | ⟨_, b, hb, q, _⟩
    · exact absurd q hne
    · rw [← e46, q, zI_nat b (by omega)]
      exact agr_lBack h x b (by omega) hb
  · have a := d2 (by omega); have b := d3 (by omega); have c := d4 rfl
    exact ⟨agr_wTell h x y z (by omega) (by omega) b, fun _ => agr_lLearn h z y (by omega)⟩
  · exact ⟨agr_wForge h x (d5 (by omega)), fun _ => agr_lForge h x⟩
  · exact ⟨by show bi _ = bi _; rw [h35], fun _ => agr_lForge h x⟩
  · have b := d5 (by omega)
    exact ⟨by show bi _ = bi _; rw [h (38 + x) (by unfold rel; omega)], fun _ => agr_lBurn h x b⟩
  · have b := d5 (by omega)
    exact ⟨by show bi _ = bi _; rw [h (38 + x) (by unfold rel; omega)], fun _ => agr_lBuy h x b⟩
  · refine ⟨by show bi _ = bi _; rw [h34], fun h0 => ?_⟩
    have h0 : bi (!decide ((m 34).toNatClampNeg + x ≤ 400)) = 0 := h0
    obtain ⟨yy, hy, ey, en⟩ := day_n hs
    rw [en] at h0
    have hle : yy + x ≤ 400 := by
      have := bi0 h0
      cases q : decide (yy + x ≤ 400) with
      | true => exact of_decide_eq_true q
      | false => rw [q] at this; cases this
    exact agr_lDays h hv hs yy x ey hle
theorem zt_0_0 : decide ((0 : Int32) = 0) = true := by decide
theorem zt_0_10 : decide ((0 : Int32) = 10) = false := by decide
theorem zt_0_20 : decide ((0 : Int32) = 20) = false := by decide
theorem zt_0_30 : decide ((0 : Int32) = 30) = false := by decide
theorem zt_0_40 : decide ((0 : Int32) = 40) = false := by decide
theorem zt_0_50 : decide ((0 : Int32) = 50) = false := by decide
theorem zt_0_60 : decide ((0 : Int32) = 60) = false := by decide
theorem zt_10_0 : decide ((10 : Int32) = 0) = false := by decide
theorem zt_10_10 : decide ((10 : Int32) = 10) = true := by decide
theorem zt_10_20 : decide ((10 : Int32) = 20) = false := by decide
theorem zt_10_30 : decide ((10 : Int32) = 30) = false := by decide
theorem zt_10_40 : decide ((10 : Int32) = 40) = false := by decide
theorem zt_10_50 : decide ((10 : Int32) = 50) = false := by decide
theorem zt_10_60 : decide ((10 : Int32) = 60) = false := by decide
theorem zt_20_0 : decide ((20 : Int32) = 0) = false := by decide
theorem zt_20_10 : decide ((20 : Int32) = 10) = false := by decide
theorem zt_20_20 : decide ((20 : Int32) = 20) = true := by decide
theorem zt_20_30 : decide ((20 : Int32) = 30) = false := by decide
theorem zt_20_40 : decide ((20 : Int32) = 40) = false := by decide
theorem zt_20_50 : decide ((20 : Int32) = 50) = false := by decide
theorem zt_20_60 : decide ((20 : Int32) = 60) = false := by decide
theorem zt_30_0 : decide ((30 : Int32) = 0) = false := by decide
theorem zt_30_10 : decide ((30 : Int32) = 10) = false := by decide
theorem zt_30_20 : decide ((30 : Int32) = 20) = false := by decide
theorem zt_30_30 : decide ((30 : Int32) = 30) = true := by decide
theorem zt_30_40 : decide ((30 : Int32) = 40) = false := by decide
theorem zt_30_50 : decide ((30 : Int32) = 50) = false := by decide
theorem zt_30_60 : decide ((30 : Int32) = 60) = false := by decide
theorem zt_40_0 : decide ((40 : Int32) = 0) = false := by decide
theorem zt_40_10 : decide ((40 : Int32) = 10) = false := by decide
theorem zt_40_20 : decide ((40 : Int32) = 20) = false := by decide
theorem zt_40_30 : decide ((40 : Int32) = 30) = false := by decide
theorem zt_40_40 : decide ((40 : Int32) = 40) = true := by decide
theorem zt_40_50 : decide ((40 : Int32) = 50) = false := by decide
theorem zt_40_60 : decide ((40 : Int32) = 60) = false := by decide
theorem zt_50_0 : decide ((50 : Int32) = 0) = false := by decide
theorem zt_50_10 : decide ((50 : Int32) = 10) = false := by decide
theorem zt_50_20 : decide ((50 : Int32) = 20) = false := by decide
theorem zt_50_30 : decide ((50 : Int32) = 30) = false := by decide
theorem zt_50_40 : decide ((50 : Int32) = 40) = false := by decide
theorem zt_50_50 : decide ((50 : Int32) = 50) = true := by decide
theorem zt_50_60 : decide ((50 : Int32) = 60) = false := by decide
theorem zt_60_0 : decide ((60 : Int32) = 0) = false := by decide
theorem zt_60_10 : decide ((60 : Int32) = 10) = false := by decide
theorem zt_60_20 : decide ((60 : Int32) = 20) = false := by decide
theorem zt_60_30 : decide ((60 : Int32) = 30) = false := by decide
theorem zt_60_40 : decide ((60 : Int32) = 40) = false := by decide
theorem zt_60_50 : decide ((60 : Int32) = 50) = false := by decide
theorem zt_60_60 : decide ((60 : Int32) = 60) = true := by decide
theorem zt_70_0 : decide ((70 : Int32) = 0) = false := by decide
theorem zt_70_10 : decide ((70 : Int32) = 10) = false := by decide
theorem zt_70_20 : decide ((70 : Int32) = 20) = false := by decide
theorem zt_70_30 : decide ((70 : Int32) = 30) = false := by decide
theorem zt_70_40 : decide ((70 : Int32) = 40) = false := by decide
theorem zt_70_50 : decide ((70 : Int32) = 50) = false := by decide
theorem zt_70_60 : decide ((70 : Int32) = 60) = false := by decide
theorem ze_0_7 : decide ((0 : Int32) = 7) = false := by decide
theorem ze_1_7 : decide ((1 : Int32) = 7) = false := by decide
theorem ze_2_7 : decide ((2 : Int32) = 7) = false := by decide
theorem ze_3_7 : decide ((3 : Int32) = 7) = false := by decide
theorem ze_4_7 : decide ((4 : Int32) = 7) = false := by decide
theorem ze_5_7 : decide ((5 : Int32) = 7) = false := by decide
theorem ze_6_7 : decide ((6 : Int32) = 7) = false := by decide
theorem ze_7_7 : decide ((7 : Int32) = 7) = true := by decide
theorem c_liveLine (env : am_E) (d : Nat) (i : Nat) (hi : i < 40) (n k : Nat) (e : Rl) (hd : DV n k e) (I : Nat → Nat → Int32) (J : Nat → Nat → Int64) (E : Nat → Nat → Nat) (m : Nat → Int32) (hl : Lb I m) (hv : IvL m n k) (hs : IvS m n k) (hc : CLn I i e) : am_ev env (d + 6, 52, 0, [some (.ref 99), some (.int (Int32.ofNat i)), some (.ref 5), some (.ref 31)], [], am_hp (pS I 31 m) J E) = some (true, some (.int (rwy e m)), am_hp (pS I 31 (bif decide (rwy e m = 0) then rlv e k m else m)) J E) := by
  obtain ⟨w, x, y, z⟩ := e
  obtain ⟨d1, d2, d3, d4, d5, d6⟩ := hd
  obtain ⟨c1, c2, c3, c4, c5⟩ := hc
  dsimp only at d1 d2 d3 d4 d5 d6 c1 c2 c3 c4 c5
  have hn := hv.1.2
  have hk := hv.2.1.2
  have hst : decide (31 < 179) = true ∧ Nat.beq (am_K 31).1 7 = true := by decide +kernel
  have p100 : pS I 31 m 100 = I 100 := ps_ne _ _ _ _ (by omega)
  have p101 : pS I 31 m 101 = I 101 := ps_ne _ _ _ _ (by omega)
  have p102 : pS I 31 m 102 = I 102 := ps_ne _ _ _ _ (by omega)
  have p103 : pS I 31 m 103 = I 103 := ps_ne _ _ _ _ (by omega)
  have start := bk_52_0 env (d + 5) (Int32.ofNat i) 5 31 (pS I 31 m) J E
  rw [zI_in i 40 hi (by omega), zI_nat i (by omega), hst.1, hst.2, p100, p101, p102, p103, c1] at start
  rcases (show w = 0 ∨ w = 1 ∨ w = 2 ∨ w = 3 ∨ w = 4 ∨ w = 5 ∨ w = 6 ∨ w = 7 by omega) with rfl | rfl | rfl | rfl | rfl | rfl | rfl | rfl
  · rw [show Int32.ofNat (10 * 0) = 0 from rfl] at start
    simp only [zt_0_0, zt_0_10, zt_0_20, zt_0_30, zt_0_40, zt_0_50, zt_0_60, decide_true, decide_false, Bool.not_true, Bool.not_false, am_cont, Option.bind_some, Option.toList_some, Option.toList_none, List.singleton_append, List.nil_append, cond_true, cond_false, Bool.and_self] at start
    have a := d2 (by omega); have b := d3 (by omega)
    have e := c_lendTo env (d + 1) 31 st31 x y (by omega) (by omega) I J E m hl
    rw [cwLend_eq hs b] at e
    rw [c2 (by omega), c3 (by omega)] at start
    refine start.trans ?_
    simp only [e, decide_true, decide_false, Bool.not_true, Bool.not_false, am_cont, Option.bind_some, Option.toList_some, Option.toList_none, List.singleton_append, List.nil_append, cond_true, cond_false, bk_52_89]
    rfl
  · rw [show Int32.ofNat (10 * 1) = 10 from rfl] at start
    simp only [zt_10_0, zt_10_10, zt_10_20, zt_10_30, zt_10_40, zt_10_50, zt_10_60, decide_true, decide_false, Bool.not_true, Bool.not_false, am_cont, Option.bind_some, Option.toList_some, Option.toList_none, List.singleton_append, List.nil_append, cond_true, cond_false, Bool.and_self] at start
    have a := d2 (by omega)
    rw [c2 (by omega)] at start
    refine start.trans ?_
    show _ = (some (true, some (.int (bi (decide (m (46 + x) = -1)))), am_hp (pS I 31 (bif decide (bi (decide (m (46 + x) = -1)) = 0) then lBack m x (m (46 + x)).toNatClampNeg else m)) J E) : Option am_R)
    rcases (hs.2.2.2 x (by omega)).1 with ⟨q, _⟩ | ⟨_, b, hb, q, _⟩
    · have e := c_takeBack1 env (d + 4) 31 st31 x (by omega) I J E m q
      rw [decide_eq_true q]
      simp only [e, decide_true, decide_false, Bool.not_true, Bool.not_false, am_cont, Option.bind_some, Option.toList_some, Option.toList_none, List.singleton_append, List.nil_append, cond_true, cond_false, bk_52_101, bi_t, zq_1_0]
      rfl
    · have e := c_takeBack0 env (d + 3) 31 st31 x b (by omega) (by omega) I J E m hl q
      rw [decide_eq_false (fun z => m1_ne b (by omega) (by rw [← z, q])), q, zI_nat b (by omega)]
      simp only [e, decide_true, decide_false, Bool.not_true, Bool.not_false, am_cont, Option.bind_some, Option.toList_some, Option.toList_none, List.singleton_append, List.nil_append, cond_true, cond_false, bk_52_101, bi_f, zq_0_0]
  · rw [show Int32.ofNat (10 * 2) = 20 from rfl] at start
    simp only [zt_20_0, zt_20_10, zt_20_20, zt_20_30, zt_20_40, zt_20_50, zt_20_60, decide_true, decide_false, Bool.not_true, Bool.not_false, am_cont, Option.bind_some, Option.toList_some, Option.toList_none, List.singleton_append, List.nil_append, cond_true, cond_false, Bool.and_self] at start
    have a := d2 (by omega); have b := d3 (by omega); have c := d4 rfl
    have e := c_tellOn env (d + 2) 31 st31 x y z (by omega) (by omega) (by omega) I J E m hl
    rw [c2 (by omega), c3 (by omega), c5 rfl] at start
    refine start.trans ?_
    simp only [e, decide_true, decide_false, Bool.not_true, Bool.not_false, am_cont, Option.bind_some, Option.toList_some, Option.toList_none, List.singleton_append, List.nil_append, cond_true, cond_false, bk_52_125]
    rfl
  · rw [show Int32.ofNat (10 * 3) = 30 from rfl] at start
    simp only [zt_30_0, zt_30_10, zt_30_20, zt_30_30, zt_30_40, zt_30_50, zt_30_60, decide_true, decide_false, Bool.not_true, Bool.not_false, am_cont, Option.bind_some, Option.toList_some, Option.toList_none, List.singleton_append, List.nil_append, cond_true, cond_false, Bool.and_self] at start
    have b := d5 (by omega)
    have e := c_forgeIt env (d + 3) 31 st31 x (by omega) I J E m hl
    rw [c4 (by omega)] at start
    refine start.trans ?_
    show _ = (some (true, some (.int (wForge m x)), am_hp (pS I 31 (bif decide (wForge m x = 0) then lForge m x else m)) J E) : Option am_R)
    simp only [e, decide_true, decide_false, Bool.not_true, Bool.not_false, am_cont, Option.bind_some, Option.toList_some, Option.toList_none, List.singleton_append, List.nil_append, cond_true, cond_false, bk_52_137]
    by_cases q : wForge m x = 0
    · rw [decide_eq_true q, lForgeC_eq (by omega) (wForge_0 q)]
    · rw [decide_eq_false q]; rfl
  · rw [show Int32.ofNat (10 * 4) = 40 from rfl] at start
    simp only [zt_40_0, zt_40_10, zt_40_20, zt_40_30, zt_40_40, zt_40_50, zt_40_60, decide_true, decide_false, Bool.not_true, Bool.not_false, am_cont, Option.bind_some, Option.toList_some, Option.toList_none, List.singleton_append, List.nil_append, cond_true, cond_false, Bool.and_self] at start
    have b := d5 (by omega)
    have e := c_mendIt env (d + 3) 31 st31 x (by omega) I J E m
    rw [c4 (by omega)] at start
    refine start.trans ?_
    show _ = (some (true, some (.int (bi (!bt (m 35) x))), am_hp (pS I 31 (bif decide (bi (!bt (m 35) x) = 0) then lForge m x else m)) J E) : Option am_R)
    simp only [e, decide_true, decide_false, Bool.not_true, Bool.not_false, am_cont, Option.bind_some, Option.toList_some, Option.toList_none, List.singleton_append, List.nil_append, cond_true, cond_false, bk_52_148, bi_eq0, Bool.not_not]
    cases q : bt (m 35) x
    · rfl
    · rw [lMendC_eq (by omega) q]
  · rw [show Int32.ofNat (10 * 5) = 50 from rfl] at start
    simp only [zt_50_0, zt_50_10, zt_50_20, zt_50_30, zt_50_40, zt_50_50, zt_50_60, decide_true, decide_false, Bool.not_true, Bool.not_false, am_cont, Option.bind_some, Option.toList_some, Option.toList_none, List.singleton_append, List.nil_append, cond_true, cond_false, Bool.and_self] at start
    have b := d5 (by omega)
    have e := c_burnOne env (d + 4) 31 st31 x (by omega) I J E m
    obtain ⟨v, hv1, hv2⟩ := hs.2.2.1 x b
    have hw : decide (1 ≤ m (38 + x)) = !decide (m (38 + x) = 0) := by
      rw [hv1, show decide ((1 : Int32) ≤ Int32.ofNat v) = decide (1 ≤ v) from zle_d 1 v (by omega) (by omega), show decide (Int32.ofNat v = (0 : Int32)) = decide (v = 0) from zI_deq v 0 (by omega) (by omega)]
      by_cases h0 : v = 0
      · rw [decide_eq_true h0, decide_eq_false (by omega : ¬ 1 ≤ v)]; rfl
      · rw [decide_eq_false h0, decide_eq_true (by omega : 1 ≤ v)]; rfl
    rw [hw, Bool.not_not] at e
    rw [c4 (by omega)] at start
    refine start.trans ?_
    show _ = (some (true, some (.int (bi (decide (m (38 + x) = 0)))), am_hp (pS I 31 (bif decide (bi (decide (m (38 + x) = 0)) = 0) then lBurn m x else m)) J E) : Option am_R)
    simp only [e, decide_true, decide_false, Bool.not_true, Bool.not_false, am_cont, Option.bind_some, Option.toList_some, Option.toList_none, List.singleton_append, List.nil_append, cond_true, cond_false, bk_52_159, bi_eq0]
  · rw [show Int32.ofNat (10 * 6) = 60 from rfl] at start
    simp only [zt_60_0, zt_60_10, zt_60_20, zt_60_30, zt_60_40, zt_60_50, zt_60_60, decide_true, decide_false, Bool.not_true, Bool.not_false, am_cont, Option.bind_some, Option.toList_some, Option.toList_none, List.singleton_append, List.nil_append, cond_true, cond_false, Bool.and_self] at start
    have b := d5 (by omega)
    have e := c_buyOne env (d + 4) 31 st31 x (by omega) I J E m
    rw [c4 (by omega)] at start
    refine start.trans ?_
    show _ = (some (true, some (.int (bi (!decide (m (38 + x) < 9)))), am_hp (pS I 31 (bif decide (bi (!decide (m (38 + x) < 9)) = 0) then lBuy m x else m)) J E) : Option am_R)
    simp only [e, decide_true, decide_false, Bool.not_true, Bool.not_false, am_cont, Option.bind_some, Option.toList_some, Option.toList_none, List.singleton_append, List.nil_append, cond_true, cond_false, bk_52_170, bi_eq0, Bool.not_not]
  · rw [show Int32.ofNat (10 * 7) = 70 from rfl] at start
    simp only [zt_70_0, zt_70_10, zt_70_20, zt_70_30, zt_70_40, zt_70_50, zt_70_60, decide_true, decide_false, Bool.not_true, Bool.not_false, am_cont, Option.bind_some, Option.toList_some, Option.toList_none, List.singleton_append, List.nil_append, cond_true, cond_false, Bool.and_self] at start
    have b := d6 rfl
    obtain ⟨yy, hy, ey, en⟩ := day_n hs
    rw [c4 (by omega), show pS I 31 m 31 0 = m 34 from ps_g0 I 31 m, ey, show (400 : Int32) - Int32.ofNat yy = Int32.ofNat (400 - yy) from zI_sub 400 yy (by omega), zle_d x (400 - yy) (by omega) (by omega)] at start
    refine start.trans ?_
    show _ = (some (true, some (.int (bi (!decide ((m 34).toNatClampNeg + x ≤ 400)))), am_hp (pS I 31 (bif decide (bi (!decide ((m 34).toNatClampNeg + x ≤ 400)) = 0) then lDays k x m else m)) J E) : Option am_R)
    rw [en, bi_eq0, Bool.not_not]
    by_cases q : yy + x ≤ 400
    · have e := c_passDays env (d + 1) 31 st31 x n k yy I J E m (by omega) hl hv hs ey (by omega)
      rw [show min x (400 - yy) = x by omega] at e
      rw [decide_eq_true q, decide_eq_true (by omega : x ≤ 400 - yy)]
      simp only [e, decide_true, decide_false, Bool.not_true, Bool.not_false, am_cont, Option.bind_some, Option.toList_some, Option.toList_none, List.singleton_append, List.nil_append, cond_true, cond_false, bk_52_201]
      rfl
    · rw [decide_eq_false q, decide_eq_false (by omega : ¬ x ≤ 400 - yy)]
      rfl
theorem m_goBy (env : am_E) (d : Nat) (i : Nat) (hi : i < 40) (n k : Nat) (e : Rl) (hd : DV n k e) (I : Nat → Nat → Int32) (J : Nat → Nat → Int64) (E : Nat → Nat → Nat) (hv : IvL (I 158) n k) (hs : IvS (I 158) n k) (hc : MLn I i e) : am_ev env (d + 8, 284, 0, [some (.ref 156), some (.int (Int32.ofNat (4 * i))), none, none], [], am_hp I J E) = some (true, some (.int (bif decide (rwy e (I 158) = 0) then 0 else Int32.ofNat (10 * e.1) + rwy e (I 158))), am_hp (am_ur I 158 (bif decide (rwy e (I 158) = 0) then rlv e k (I 158) else I 158)) J E) := by
  obtain ⟨w, x, y, z⟩ := e
  obtain ⟨d1, d2, d3, d4, d5, d6⟩ := hd
  obtain ⟨c1, c2, c3, c4⟩ := hc
  dsimp only at d1 d2 d3 d4 d5 d6 c1 c2 c3 c4
  have hn := hv.1.2
  have hk := hv.2.1.2
  have start := bk_284_0 env (d + 7) (Int32.ofNat (4 * i)) I J E
  rw [zd_1, zd_2, zd_3, zI_in (4 * i) 160 (by omega) (by omega), zI_in (4 * i + 1) 160 (by omega) (by omega), zI_in (4 * i + 2) 160 (by omega) (by omega), zI_in (4 * i + 3) 160 (by omega) (by omega), zI_nat (4 * i) (by omega), zI_nat (4 * i + 1) (by omega), zI_nat (4 * i + 2) (by omega), zI_nat (4 * i + 3) (by omega), c1, c2, c3, c4] at start
  have e73 : ∀ (v : Int32) (I0 : Nat → Nat → Int32), am_ev env (d + 7, 230, 0, [some (.ref 156), some (.int (Int32.ofNat w)), some (.int (Int32.ofNat x)), some (.int (Int32.ofNat y)), some (.int (Int32.ofNat z))], [], am_hp I J E) = some (true, none, am_hp I0 J E) → am_ev env (d + 8, 284, 73, [some (.ref 156), some (.int (Int32.ofNat (4 * i))), some (.int (Int32.ofNat x)), none], [.int v], am_hp I J E) = (bif decide (v = 0) then some (true, some (.int 0), am_hp I0 J E) else some (true, some (.int (Int32.ofNat (10 * w) + v)), am_hp I J E)) := by
    intro v I0 hlive
    refine (bk_284_73 _ _ _ _ _ _ _ _).trans ?_
    rw [zd_2, zd_3, zI_in (4 * i) 160 (by omega) (by omega), zI_in (4 * i + 2) 160 (by omega) (by omega), zI_in (4 * i + 3) 160 (by omega) (by omega), zI_nat (4 * i) (by omega), zI_nat (4 * i + 2) (by omega), zI_nat (4 * i + 3) (by omega), c1, c3, c4, show (10 : Int32) * Int32.ofNat w = Int32.ofNat (10 * w) from zI_mul 10 w]
    simp only [decide_true, decide_false, Bool.not_true, Bool.not_false, am_cont, Option.bind_some, Option.toList_some, Option.toList_none, List.singleton_append, List.nil_append, cond_true, cond_false, hlive, bk_284_117]
  have e73b : ∀ v : Int32, v ≠ 0 → am_ev env (d + 8, 284, 73, [some (.ref 156), some (.int (Int32.ofNat (4 * i))), some (.int (Int32.ofNat x)), none], [.int v], am_hp I J E) = some (true, some (.int (Int32.ofNat (10 * w) + v)), am_hp I J E) := by
    intro v hv0
    refine (bk_284_73 _ _ _ _ _ _ _ _).trans ?_
    rw [zI_in (4 * i) 160 (by omega) (by omega), zI_nat (4 * i) (by omega), c1, show (10 : Int32) * Int32.ofNat w = Int32.ofNat (10 * w) from zI_mul 10 w, decide_eq_false hv0]
    rfl
  have fin : ∀ (v : Int32) (m' : Nat → Int32), am_ev env (d + 7, 230, 0, [some (.ref 156), some (.int (Int32.ofNat w)), some (.int (Int32.ofNat x)), some (.int (Int32.ofNat y)), some (.int (Int32.ofNat z))], [], am_hp I J E) = some (true, none, am_hp (am_ur I 158 m') J E) → am_ev env (d + 8, 284, 73, [some (.ref 156), some (.int (Int32.ofNat (4 * i))), some (.int (Int32.ofNat x)), none], [.int v], am_hp I J E) = some (true, some (.int (bif decide (v = 0) then 0 else Int32.ofNat (10 * w) + v)), am_hp (am_ur I 158 (bif decide (v = 0) then m' else I 158)) J E) := by
    intro v m' hlive
    refine (e73 v _ hlive).trans ?_
    cases decide (v = 0)
    · simp only [decide_true, decide_false, Bool.not_true, Bool.not_false, am_cont, Option.bind_some, Option.toList_some, Option.toList_none, List.singleton_append, List.nil_append, cond_true, cond_false, ur_self]
    · rfl
  have s1 : w < 7 → am_ev env (d + 8, 284, 0, [some (.ref 156), some (.int (Int32.ofNat (4 * i))), none, none], [], am_hp I J E) = am_cont env (d + 7, 227, 0, [some (.ref 156), some (.int (Int32.ofNat w)), some (.int (Int32.ofNat x)), some (.int (Int32.ofNat y)), some (.int (Int32.ofNat z))], [], am_hp I J E) (d + 8) 284 73 [some (.ref 156), some (.int (Int32.ofNat (4 * i))), some (.int (Int32.ofNat x)), none] [] := by
    intro h7
    refine start.trans ?_
    rw [show decide (Int32.ofNat w = (7 : Int32)) = false from (zI_deq w 7 (by omega) (by omega)).trans (decide_eq_false (by omega))]
    rfl
  rcases (show w = 0 ∨ w = 1 ∨ w = 2 ∨ w = 3 ∨ w = 4 ∨ w = 5 ∨ w = 6 ∨ w = 7 by omega) with rfl | rfl | rfl | rfl | rfl | rfl | rfl | rfl
  · have a := d2 (by omega); have b := d3 (by omega)
    have ew := m_why0 env (d + 1) x y (Int32.ofNat z) (by omega) (by omega) I J E
    have el := m_live0 env (d + 6) x y (Int32.ofNat z) (by omega) (by omega) I J E
    refine (s1 (by omega)).trans ((am_cont_some ew _ _ _ _ _).trans ?_)
    exact fin _ _ el
  · have a := d2 (by omega)
    have ew := m_why1 env (d + 5) x (Int32.ofNat y) (Int32.ofNat z) (by omega) I J E
    refine (s1 (by omega)).trans ((am_cont_some ew _ _ _ _ _).trans ?_)
    show _ = (some (true, some (.int (bif decide (bi (decide (I 158 (46 + x) = -1)) = 0) then 0 else Int32.ofNat (10 * 1) + bi (decide (I 158 (46 + x) = -1)))), am_hp (am_ur I 158 (bif decide (bi (decide (I 158 (46 + x) = -1)) = 0) then lBack (I 158) x (I 158 (46 + x)).toNatClampNeg else I 158)) J E) : Option am_R)
    rcases (hs.2.2.2 x (by omega)).1 with ⟨q, _⟩ | ⟨_, b, hb, q, _⟩
    · rw [decide_eq_true q]
      refine (e73b (bi true) (by decide)).trans ?_
      rw [show decide (bi true = 0) = false by decide]
      simp only [decide_true, decide_false, Bool.not_true, Bool.not_false, am_cont, Option.bind_some, Option.toList_some, Option.toList_none, List.singleton_append, List.nil_append, cond_true, cond_false, ur_self]
    · have el := m_live1 env (d + 5) x b (Int32.ofNat y) (Int32.ofNat z) (by omega) (by omega) I J E q
      have f := fin (bi (decide (I 158 (46 + x) = -1))) _ el
      rw [show (I 158 (46 + x)).toNatClampNeg = b by rw [q, zI_nat b (by omega)]]
      exact f
  · have a := d2 (by omega); have b := d3 (by omega); have c := d4 rfl
    have ew := m_why2 env (d + 1) x y z (by omega) (by omega) (by omega) I J E
    have el := m_live2 env (d + 5) x y z (by omega) (by omega) I J E
    refine (s1 (by omega)).trans ((am_cont_some ew _ _ _ _ _).trans ?_)
    exact fin _ _ el
  · have b := d5 (by omega)
    have ew := m_why3 env (d + 4) x (Int32.ofNat y) (Int32.ofNat z) (by omega) I J E
    have el := m_live3 env (d + 6) x (Int32.ofNat y) (Int32.ofNat z) I J E
    refine (s1 (by omega)).trans ((am_cont_some ew _ _ _ _ _).trans ?_)
    exact fin _ _ el
  · have b := d5 (by omega)
    have ew := m_why4 env (d + 4) x (Int32.ofNat y) (Int32.ofNat z) (by omega) I J E
    have el := m_live4 env (d + 6) x (Int32.ofNat y) (Int32.ofNat z) I J E
    refine (s1 (by omega)).trans ((am_cont_some ew _ _ _ _ _).trans ?_)
    exact fin _ _ el
  · have b := d5 (by omega)
    have ew := m_why5 env (d + 6) x (Int32.ofNat y) (Int32.ofNat z) (by omega) I J E
    have el := m_live5 env (d + 6) x (Int32.ofNat y) (Int32.ofNat z) (by omega) I J E
    refine (s1 (by omega)).trans ((am_cont_some ew _ _ _ _ _).trans ?_)
    exact fin _ _ el
  · have b := d5 (by omega)
    have ew := m_why6 env (d + 6) x (Int32.ofNat y) (Int32.ofNat z) (by omega) I J E
    have el := m_live6 env (d + 6) x (Int32.ofNat y) (Int32.ofNat z) (by omega) I J E
    refine (s1 (by omega)).trans ((am_cont_some ew _ _ _ _ _).trans ?_)
    exact fin _ _ el
  · have b := d6 rfl
    obtain ⟨yy, hy, ey, en⟩ := day_n hs
    refine start.trans ?_
    rw [show decide (Int32.ofNat 7 = (7 : Int32)) = true by decide, ey, zI_add, show decide (Int32.ofNat (yy + x) ≤ (400 : Int32)) = decide (yy + x ≤ 400) from zle_d _ 400 (by omega) (by omega)]
    show _ = (some (true, some (.int (bif decide (bi (!decide ((I 158 34).toNatClampNeg + x ≤ 400)) = 0) then 0 else Int32.ofNat (10 * 7) + bi (!decide ((I 158 34).toNatClampNeg + x ≤ 400)))), am_hp (am_ur I 158 (bif decide (bi (!decide ((I 158 34).toNatClampNeg + x ≤ 400)) = 0) then lDays k x (I 158) else I 158)) J E) : Option am_R)
    rw [en, bi_eq0, Bool.not_not]
    by_cases q : yy + x ≤ 400
    · have e := m_passDays env (d + 3) x n k yy I J E (by omega) hv hs ey (by omega)
      rw [show min x (400 - yy) = x by omega] at e
      rw [decide_eq_true q]
      simp only [e, decide_true, decide_false, Bool.not_true, Bool.not_false, am_cont, Option.bind_some, Option.toList_some, Option.toList_none, List.singleton_append, List.nil_append, cond_true, cond_false, bk_284_43]
    · rw [decide_eq_false q]
      simp only [decide_true, decide_false, Bool.not_true, Bool.not_false, am_cont, Option.bind_some, Option.toList_some, Option.toList_none, List.singleton_append, List.nil_append, cond_true, cond_false, ur_self]
      rfl
