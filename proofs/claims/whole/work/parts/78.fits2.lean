/-! fits: the sets that fit -/
/-- a number that may be missing: 0 is none, x + 1 is x -/
def bv (b : Nat) : Int32 := if b = 0 then -1 else Int32.ofNat (b - 1)
theorem bv_m1 (b : Nat) (hb : b < 100000) : decide (bv b = -1) = decide (b = 0) := by
  unfold bv
  by_cases h : b = 0
  · rw [if_pos h, decide_eq_true h]; decide
  · rw [if_neg h, decide_eq_false h, decide_eq_false (fun e => m1_ne _ (by omega) e.symm)]
theorem bv_s (x : Nat) : bv (x + 1) = Int32.ofNat x := by unfold bv; rw [if_neg (by omega), Nat.add_sub_cancel]
def bst (q : Nat → Bool) (x bb : Nat) : Nat := if q x = true ∧ (bb = 0 ∨ pc x < pc (bb - 1)) then x + 1 else bb
def bbs (q : Nat → Bool) (N : Nat) : Nat := lp (bst q) N 0
theorem bbs_le (q : Nat → Bool) (N : Nat) : bbs q N ≤ N := by
  induction N with
  | zero => exact Nat.le_refl _
  | succ N ih => show bst q N (bbs q N) ≤ N + 1; unfold bst; split <;> omega
def cW (q : Nat → Bool) (N b : Nat) : Nat := cnb (fun x => q x && bt (Int32.ofNat x) b) N
theorem f117 : (decide (117 < 179) = true ∧ Nat.ble 100 (am_K 117).1 = true ∧ Nat.blt (am_K 117).1 106 = true ∧ Nat.beq (am_K 117).1 100 = true) ∧ (am_K 117).2 = 8 := by decide +kernel
theorem c_fill117 (env : am_E) (d : Nat) (I : Nat → Nat → Int32) (J : Nat → Nat → Int64) (E : Nat → Nat → Nat) : am_ev env (d + 1, 303, 0, [some (.ref 117), some (.int 0), none, none], [], am_hp I J E) = some (true, none, am_hp (am_ur I 117 (trow (I 117) (fun _ => 0))) J E) := by
  obtain ⟨⟨k1, k2, k3, k4⟩, k5⟩ := f117
  refine (bk_303_0 _ _ _ _ _ _ _).trans ?_
  rw [k1, k2, k3, k5]
  simp only [Bool.and_self, decide_true, decide_false, Bool.not_true, Bool.not_false, am_cont, Option.bind_some, Option.toList_some, Option.toList_none, List.singleton_append, List.nil_append, cond_true, cond_false]
  have hz := zcopy (fun b I => am_ev env (d + 1, 303, 5, [some (.ref 117), some (.int 0), some (.int (Int32.ofNat b)), some (.int (Int32.ofNat 8))], [], am_hp I J E)) I 117 0 (fun _ => Int32.ofNat 0) 8 (fun b hb => by
    refine (bk_303_5 _ _ _ _ _ _ _ _ _).trans ?_
    rw [zle_f 8 b hb (by omega), k1, k4, k5]
    simp (disch := omega) only [decide_true, decide_false, Bool.not_true, Bool.not_false, am_cont, Option.bind_some, Option.toList_some, Option.toList_none, List.singleton_append, List.nil_append, cond_true, cond_false, Bool.and_self, Bool.true_and, zI_in, zI_nat, am_u_r, ur_ur, ur_at, zd_1, Nat.zero_add]
    rfl)
  refine Eq.trans hz ?_
  refine (bk_303_5 _ _ _ _ _ _ _ _ _).trans ?_
  rw [zle_t 8 8 (Nat.le_refl _) (by omega)]
  rfl
theorem c_countBooksOf (env : am_E) (d : Nat) (x : Nat) (W : Nat → Nat) (m : Nat → Int32) (I : Nat → Nat → Int32) (J : Nat → Nat → Int64) (E : Nat → Nat → Nat) : am_ev env (d + 1, 149, 0, [some (.ref 0), some (.int (Int32.ofNat x)), none], [], am_hp (am_ur I 117 (trow m W)) J E) = some (true, none, am_hp (am_ur I 117 (trow m (fun b => W b + (if bt (Int32.ofNat x) b then 1 else 0)))) J E) := by
  refine (bk_149_0 _ _ _ _ _ _).trans ?_
  have hz := zcopy (fun b I => am_ev env (d + 1, 149, 2, [some (.ref 0), some (.int (Int32.ofNat x)), some (.int (Int32.ofNat b))], [], am_hp I J E)) (am_ur I 117 (trow m W)) 117 0 (fun b => Int32.ofNat (W b + (if bt (Int32.ofNat x) b then 1 else 0))) 8 (fun b hb => by
    refine (bk_149_2 _ _ _ _ _ _ _).trans ?_
    rw [show decide ((8 : Int32) ≤ Int32.ofNat b) = false from zle_f 8 b hb (by omega)]
    have hw : cpr (trow m W) 0 b (fun b => Int32.ofNat (W b + (if bt (Int32.ofNat x) b then 1 else 0))) b = Int32.ofNat (W b) := by
      rw [cpr_out _ _ _ _ _ (by omega), trow_at m W b hb]
    have hadd : Int32.ofNat (W b) + (if bt (Int32.ofNat x) b = true then (1 : Int32) else 0) = Int32.ofNat (W b + (if bt (Int32.ofNat x) b = true then 1 else 0)) := by
      cases bt (Int32.ofNat x) b
      · simp
      · exact zd_1 (W b)
    simp (disch := omega) only [decide_true, decide_false, Bool.not_true, Bool.not_false, am_cont, Option.bind_some, Option.toList_some, Option.toList_none, List.singleton_append, List.nil_append, cond_true, cond_false, zI_in, zI_nat, ur_at, hw, bt_has, hadd, am_u_r, ur_ur, zd_1, Nat.zero_add])
  refine Eq.trans hz ?_
  refine (bk_149_2 _ _ _ _ _ _ _).trans ?_
  rw [show decide ((8 : Int32) ≤ Int32.ofNat 8) = true by decide, cond_true, ur_ur, ur_at]
  have : cpr (trow m W) 0 8 (fun b => Int32.ofNat (W b + (if bt (Int32.ofNat x) b then 1 else 0))) = trow m (fun b => W b + (if bt (Int32.ofNat x) b then 1 else 0)) := by
    funext j
    by_cases hj : j < 8
    · rw [trow_at _ _ j hj]
      have := cpr_in (trow m W) 0 8 (fun b => Int32.ofNat (W b + (if bt (Int32.ofNat x) b then 1 else 0))) j hj
      rw [Nat.zero_add] at this; exact this
    · rw [cpr_out _ _ _ _ _ (by omega)]
      unfold trow
      rw [cpr_out _ _ _ _ _ (by omega), cpr_out _ _ _ _ _ (by omega)]
  rw [this]
theorem trow_congr (m : Nat → Int32) (W W' : Nat → Nat) (h : ∀ b, b < 8 → W b = W' b) : trow m W = trow m W' := by
  funext j
  by_cases hj : j < 8
  · rw [trow_at _ _ j hj, trow_at _ _ j hj, h j hj]
  · unfold trow; rw [cpr_out _ _ _ _ _ (by omega), cpr_out _ _ _ _ _ (by omega)]
theorem c_count14 (env : am_E) (d : Nat) (n h : Nat) (hn : n ≤ 8) (hh : h ≤ 8) (c : Nat → Nat) (I : Nat → Nat → Int32) (J : Nat → Nat → Int64) (E : Nat → Nat → Nat) (h0 : I 5 0 = Int32.ofNat n) (ht : Tp I (2 * h) c) (q : Nat → Bool) (hq : q = fun x => afw (fpp c (Int32.ofNat x)) h 0) : ∀ x, x ≤ 2 ^ n → am_ev env (d + 3, 146, 14, [some (.ref 0), some (.int 0), some (.int (-1)), some (.int 0)], [], am_hp (am_ur I 117 (trow (I 117) (fun _ => 0))) J E) = am_ev env (d + 3, 146, 14, [some (.ref 0), some (.int (Int32.ofNat (cnb q x))), some (.int (bv (bbs q x))), some (.int (Int32.ofNat x))], [], am_hp (am_ur I 117 (trow (I 117) (cW q x))) J E) := by
  obtain ⟨p1, p2⟩ := pow256 n hn
  have k5 : ∀ r, am_ur I 117 r 5 0 = Int32.ofNat n := fun r => by rw [ur_ne _ _ _ _ (by omega)]; exact h0
  have kt : ∀ r, Tp (am_ur I 117 r) (2 * h) c := fun r => ⟨by rw [ur_ne _ _ _ _ (by omega)]; exact ht.1, fun j hj => by rw [ur_ne _ _ _ _ (by omega)]; exact ht.2 j hj⟩
  intro x
  induction x with
  | zero => intro _; rfl
  | succ x ih =>
    intro hx
    refine (ih (by omega)).trans ?_
    have hfp := c_fitsPairs env d h hh c (Int32.ofNat x) (am_ur I 117 (trow (I 117) (cW q x))) J E (kt _)
    have hqx : afw (fpp c (Int32.ofNat x)) h 0 = q x := by rw [hq]
    rw [hqx] at hfp
    have hbl := bbs_le q x
    have hcl := cnb_le q x
    have hps := pc_le8 x
    have hps2 := pc_le8 (bbs q x - 1)
    have hcW : ∀ b, cW q (x + 1) b = cW q x b + (if (q x && bt (Int32.ofNat x) b) then 1 else 0) := fun b => rfl
    have hcn : cnb q (x + 1) = cnb q x + (if q x then 1 else 0) := rfl
    have hbb : bbs q (x + 1) = bst q x (bbs q x) := rfl
    refine (bk_146_14 _ _ _ _ _ _ _ _).trans ?_
    simp only [decide_true, decide_false, Bool.not_true, Bool.not_false, am_cont, Option.bind_some, Option.toList_some, Option.toList_none, List.singleton_append, List.nil_append, cond_true, cond_false, c_allBooks env _ n hn _ J E (k5 _), bk_146_25]
    rw [zlt_f (2 ^ n - 1) x (by omega) (by omega)]
    simp only [decide_true, decide_false, Bool.not_true, Bool.not_false, am_cont, Option.bind_some, Option.toList_some, Option.toList_none, List.singleton_append, List.nil_append, cond_true, cond_false, hfp, bk_146_33, bi_eq0]
    rw [hbb, hcn]
    by_cases hqt : q x = true
    · have hW : trow (I 117) (cW q (x + 1)) = trow (I 117) (fun b => cW q x b + (if bt (Int32.ofNat x) b then 1 else 0)) := trow_congr _ _ _ (fun b _ => by rw [hcW, hqt, Bool.true_and])
      have hcb := c_countBooksOf env (d + 1) x (cW q x) (I 117) I J E
      rw [← hW] at hcb
      rw [hqt, if_pos rfl]
      have tail : ∀ y, am_ev env (d + 3, 146, 60, [some (.ref 0), some (.int (Int32.ofNat (cnb q x + 1))), some (.int y), some (.int (Int32.ofNat x))], [], am_hp (am_ur I 117 (trow (I 117) (cW q x))) J E) = am_ev env (d + 3, 146, 14, [some (.ref 0), some (.int (Int32.ofNat (cnb q x + 1))), some (.int y), some (.int (Int32.ofNat (x + 1)))], [], am_hp (am_ur I 117 (trow (I 117) (cW q (x + 1)))) J E) := by
        intro y
        refine (bk_146_60 _ _ _ _ _ _ _ _).trans ?_
        simp only [decide_true, decide_false, Bool.not_true, Bool.not_false, am_cont, Option.bind_some, Option.toList_some, Option.toList_none, List.singleton_append, List.nil_append, cond_true, cond_false, hcb, bk_146_65, zd_1]
      simp only [decide_true, decide_false, Bool.not_true, Bool.not_false, am_cont, Option.bind_some, Option.toList_some, Option.toList_none, List.singleton_append, List.nil_append, cond_true, cond_false, bv_m1 (bbs q x) (by omega), zd_1]
      unfold bst
      by_cases hb0 : bbs q x = 0
      · rw [decide_eq_true hb0, if_pos ⟨hqt, Or.inl hb0⟩, bv_s]
        simp only [decide_true, decide_false, Bool.not_true, Bool.not_false, am_cont, Option.bind_some, Option.toList_some, Option.toList_none, List.singleton_append, List.nil_append, cond_true, cond_false, bk_146_58]; exact tail _
      · rw [decide_eq_false hb0]
        have hbv : bv (bbs q x) = Int32.ofNat (bbs q x - 1) := by unfold bv; rw [if_neg hb0]
        simp (disch := omega) only [decide_true, decide_false, Bool.not_true, Bool.not_false, am_cont, Option.bind_some, Option.toList_some, Option.toList_none, List.singleton_append, List.nil_append, cond_true, cond_false, c_bitCount, bk_146_51, hbv, bk_146_55]
        by_cases hlt : pc x < pc (bbs q x - 1)
        · rw [zle_f (pc (bbs q x - 1)) (pc x) hlt (by omega), if_pos ⟨hqt, Or.inr hlt⟩, bv_s]
          simp only [decide_true, decide_false, Bool.not_true, Bool.not_false, am_cont, Option.bind_some, Option.toList_some, Option.toList_none, List.singleton_append, List.nil_append, cond_true, cond_false, bk_146_58]; exact tail _
        · rw [zle_t (pc (bbs q x - 1)) (pc x) (by omega) (by omega), if_neg (fun h => by rcases h.2 with h | h <;> omega), hbv]
          simp only [decide_true, decide_false, Bool.not_true, Bool.not_false, am_cont, Option.bind_some, Option.toList_some, Option.toList_none, List.singleton_append, List.nil_append, cond_true, cond_false]; exact tail _
    · have hW : trow (I 117) (cW q (x + 1)) = trow (I 117) (cW q x) := trow_congr _ _ _ (fun b _ => by rw [hcW, if_neg (fun h => hqt (and_f h).1)]; rfl)
      rw [hW]
      unfold bst
      rw [if_neg (fun h : q x = true ∧ (bbs q x = 0 ∨ pc x < pc (bbs q x - 1)) => hqt h.1), if_neg hqt]
      rw [Bool.not_eq_true] at hqt
      rw [hqt]
      simp only [decide_true, decide_false, Bool.not_true, Bool.not_false, am_cont, Option.bind_some, Option.toList_some, Option.toList_none, List.singleton_append, List.nil_append, cond_true, cond_false, bk_146_65, zd_1]
      rfl
def aks (L : Nat → Nat) (N : Nat) : Nat := lp (fun b ak => if ak = 0 ∨ L b < L (ak - 1) then b + 1 else ak) N 0
theorem aks_le (L : Nat → Nat) (N : Nat) : aks L N ≤ N := by
  induction N with
  | zero => exact Nat.le_refl _
  | succ N ih => show (if aks L N = 0 ∨ L N < L (aks L N - 1) then N + 1 else aks L N) ≤ N + 1; split <;> omega
def Lf (mn : Nat) (W : Nat → Nat) (b : Nat) : Nat := max (W b) (mn - W b)
theorem c_bestToAsk (env : am_E) (d : Nat) (n mn : Nat) (hn : n ≤ 8) (hmn : mn ≤ 256) (W : Nat → Nat) (hW : ∀ b, W b ≤ mn) (m : Nat → Int32) (I : Nat → Nat → Int32) (J : Nat → Nat → Int64) (E : Nat → Nat → Nat) (h0 : I 5 0 = Int32.ofNat n) (h117 : I 117 = trow m W) : am_ev env (d + 1, 150, 0, [some (.ref 0), some (.int (Int32.ofNat mn)), none, none, none, none], [], am_hp I J E) = some (true, some (.int (bv (aks (Lf mn W) n))), am_hp I J E) := by
  refine (bk_150_0 _ _ _ _ _ _).trans ?_
  have key : ∀ j b (o : Option Value) (lv : Int32), b + j = n → (aks (Lf mn W) b ≠ 0 → lv = Int32.ofNat (Lf mn W (aks (Lf mn W) b - 1))) → am_ev env (d + 1, 150, 7, [some (.ref 0), some (.int (Int32.ofNat mn)), some (.int (bv (aks (Lf mn W) b))), some (.int lv), some (.int (Int32.ofNat b)), o], [], am_hp I J E) = some (true, some (.int (bv (aks (Lf mn W) n))), am_hp I J E) := by
    intro j
    induction j with
    | zero =>
      intro b o lv hb hl
      refine (bk_150_7 _ _ _ _ _ _ _ _ _ _).trans ?_
      rw [h0, zle_t n b (by omega) (by omega), show b = n by omega]
      rfl
    | succ j ih =>
      intro b o lv hb hl
      have hak := aks_le (Lf mn W) b
      have hWb := hW b
      have hWk := hW (aks (Lf mn W) b - 1)
      have hmax : (if (Int32.ofNat (W b) : Int32) < Int32.ofNat mn - Int32.ofNat (W b) then Int32.ofNat mn - Int32.ofNat (W b) else Int32.ofNat (W b)) = Int32.ofNat (Lf mn W b) := by
        rw [zI_sub mn (W b) hWb]
        unfold Lf
        by_cases h : W b < mn - W b
        · rw [if_pos (by rw [zI_lt _ _ (by omega) (by omega)]; exact h), Nat.max_eq_right (by omega)]
        · rw [if_neg (by rw [zI_lt _ _ (by omega) (by omega)]; exact h), Nat.max_eq_left (by omega)]
      have hLb : Lf mn W b ≤ 256 := by unfold Lf; omega
      have hLk : Lf mn W (aks (Lf mn W) b - 1) ≤ 256 := by show max (W (aks (Lf mn W) b - 1)) (mn - W (aks (Lf mn W) b - 1)) ≤ 256; omega
      have hs : aks (Lf mn W) (b + 1) = (if aks (Lf mn W) b = 0 ∨ Lf mn W b < Lf mn W (aks (Lf mn W) b - 1) then b + 1 else aks (Lf mn W) b) := rfl
      refine (bk_150_7 _ _ _ _ _ _ _ _ _ _).trans ?_
      rw [h0, zle_f n b (by omega) (by omega), h117]
      simp (disch := omega) only [decide_true, decide_false, Bool.not_true, Bool.not_false, am_cont, Option.bind_some, Option.toList_some, Option.toList_none, List.singleton_append, List.nil_append, cond_true, cond_false, zI_in, zI_nat, trow_at, hmax, bv_m1]
      by_cases hb0 : aks (Lf mn W) b = 0
      · rw [decide_eq_true hb0]
        rw [if_pos (Or.inl hb0)] at hs
        simp only [decide_true, decide_false, Bool.not_true, Bool.not_false, am_cont, Option.bind_some, Option.toList_some, Option.toList_none, List.singleton_append, List.nil_append, cond_true, cond_false, bk_150_54, bk_150_60, zd_1]
        have g := ih (b + 1) (some (.int (Int32.ofNat (Lf mn W b)))) (Int32.ofNat (Lf mn W b)) (by omega) (fun _ => by rw [hs, Nat.add_sub_cancel])
        rw [hs, bv_s] at g; exact g
      · rw [decide_eq_false hb0, hl hb0]
        by_cases hlt : Lf mn W b < Lf mn W (aks (Lf mn W) b - 1)
        · rw [zle_f _ _ hlt (by omega)]
          rw [if_pos (Or.inr hlt)] at hs
          simp only [decide_true, decide_false, Bool.not_true, Bool.not_false, am_cont, Option.bind_some, Option.toList_some, Option.toList_none, List.singleton_append, List.nil_append, cond_true, cond_false, bk_150_54, bk_150_60, zd_1]
          have g := ih (b + 1) (some (.int (Int32.ofNat (Lf mn W b)))) (Int32.ofNat (Lf mn W b)) (by omega) (fun _ => by rw [hs, Nat.add_sub_cancel])
          rw [hs, bv_s] at g; exact g
        · rw [zle_t _ _ (by omega) (by omega)]
          rw [if_neg (fun h => by rcases h with h | h <;> omega)] at hs
          simp only [decide_true, decide_false, Bool.not_true, Bool.not_false, am_cont, Option.bind_some, Option.toList_some, Option.toList_none, List.singleton_append, List.nil_append, cond_true, cond_false, bk_150_60, zd_1]
          rw [← hs]
          exact ih (b + 1) _ _ (by omega) (fun _ => by rw [hs])
  exact key n 0 none 0 (by omega) (fun h => absurd rfl h)
