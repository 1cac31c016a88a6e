/-! the way in the class and in the reference -/
theorem c_needed (env : am_E) (d : Nat) (n b : Nat) (hn : n ≤ 8) (hb : b < n) (a : Nat → Int32) (rd hv own : Int32) (hown : ∀ x, x < n → bt own x = decide (Int32.ofNat x = hv)) (I : Nat → Nat → Int32) (J : Nat → Nat → Int64) (E : Nat → Nat → Nat) (ho : Or I n a) : am_ev env (d + 2, 40, 0, [some (.ref 104), some (.int (Int32.ofNat b)), some (.int rd), some (.int hv), none, none, none], [], am_hp I J E) = some (true, some (.int (swps (ax a rd own) n n (bit1 b))), am_hp I J E) := by
  refine (bk_40_0 _ _ _ _ _ _ _ _).trans ?_
  have inner : ∀ (i s : Int32), am_ev env (d + 2, 40, 20, [some (.ref 104), some (.int (Int32.ofNat b)), some (.int rd), some (.int hv), some (.int s), some (.int i), some (.int (Int32.ofNat 0))], [], am_hp I J E) = am_ev env (d + 2, 40, 8, [some (.ref 104), some (.int (Int32.ofNat b)), some (.int rd), some (.int hv), some (.int (swp (ax a rd own) n s)), some (.int (i + 1)), some (.int (Int32.ofNat n))], [], am_hp I J E) := by
    intro i s
    have hr := lp_run (fun x (s : Int32) => am_ev env (d + 2, 40, 20, [some (.ref 104), some (.int (Int32.ofNat b)), some (.int rd), some (.int hv), some (.int s), some (.int i), some (.int (Int32.ofNat x))], [], am_hp I J E)) (fun x s => if bt s x then s ||| ax a rd own x else s) (fun _ _ => True) n (fun x s hx _ => by
      refine ⟨?_, trivial⟩
      refine (bk_40_20 _ _ _ _ _ _ _ _ _ _ _).trans ?_
      rw [ho.1, zle_f n x hx (by omega), ← hown x hx]
      unfold ax
      by_cases h2 : bt own x = true
      · rw [h2, if_pos rfl]
        have : (if bt s x = true then s ||| 0 else s) = s := by split <;> simp
        rw [this]
        simp only [decide_true, decide_false, Bool.not_true, Bool.not_false, am_cont, Option.bind_some, Option.toList_some, Option.toList_none, List.singleton_append, List.nil_append, cond_true, cond_false, bk_40_61, zd_1]
      · rw [Bool.not_eq_true] at h2
        rw [h2, if_neg (show ¬ (false = true) by simp)]
        simp (disch := omega) only [decide_true, decide_false, Bool.not_true, Bool.not_false, am_cont, Option.bind_some, Option.toList_some, Option.toList_none, List.singleton_append, List.nil_append, cond_true, cond_false, c_isIn, bk_40_42, bi_eq0, zI_in, zI_nat, ho.2 x hx]
        by_cases h1 : bt s x = true
        · rw [h1, if_pos rfl]; simp only [decide_true, decide_false, Bool.not_true, Bool.not_false, am_cont, Option.bind_some, Option.toList_some, Option.toList_none, List.singleton_append, List.nil_append, cond_true, cond_false, bk_40_61, zd_1]
        · rw [Bool.not_eq_true] at h1; rw [h1, if_neg (show ¬ (false = true) by simp)]; simp only [decide_true, decide_false, Bool.not_true, Bool.not_false, am_cont, Option.bind_some, Option.toList_some, Option.toList_none, List.singleton_append, List.nil_append, cond_true, cond_false, bk_40_61, zd_1]) s trivial n (Nat.le_refl _)
    refine Eq.trans hr.1 ?_
    refine (bk_40_20 _ _ _ _ _ _ _ _ _ _ _).trans ?_
    rw [ho.1, zle_t n n (Nat.le_refl _) (by omega)]
    rfl
  have key : ∀ j i (o : Option Value) s, i + j = n → am_ev env (d + 2, 40, 8, [some (.ref 104), some (.int (Int32.ofNat b)), some (.int rd), some (.int hv), some (.int s), some (.int (Int32.ofNat i)), o], [], am_hp I J E) = some (true, some (.int (swps (ax a rd own) n j s)), am_hp I J E) := by
    intro j
    induction j with
    | zero =>
      intro i o s hi
      refine (bk_40_8 _ _ _ _ _ _ _ _ _ _ _).trans ?_
      rw [ho.1, zle_t n i (by omega) (by omega)]
      rfl
    | succ j ih =>
      intro i o s hi
      refine (bk_40_8 _ _ _ _ _ _ _ _ _ _ _).trans ?_
      rw [ho.1, zle_f n i (by omega) (by omega), cond_false]
      refine (inner (Int32.ofNat i) s).trans ?_
      rw [zd_1]
      refine (ih (i + 1) _ (swp (ax a rd own) n s) (by omega)).trans ?_
      unfold swps
      rw [lp_front (fun s => swp (ax a rd own) n s) j s]
  exact key n 0 none (bit1 b) (by omega)
theorem c_leastOf (env : am_E) (d : Nat) (n : Nat) (hn : n ≤ 8) (s : Int32) (I : Nat → Nat → Int32) (J : Nat → Nat → Int64) (E : Nat → Nat → Nat) (h0 : I 104 0 = Int32.ofNat n) : am_ev env (d + 2, 39, 0, [some (.ref 104), some (.int s), none], [], am_hp I J E) = some (true, some (.int (fwd (fun x => bt s x) n 0)), am_hp I J E) := by
  refine (bk_39_0 _ _ _ _ _ _).trans ?_
  have key : ∀ j i, i + j = n → am_ev env (d + 2, 39, 2, [some (.ref 104), some (.int s), some (.int (Int32.ofNat i))], [], am_hp I J E) = some (true, some (.int (fwd (fun x => bt s x) j i)), am_hp I J E) := by
    intro j
    induction j with
    | zero =>
      intro i hi
      refine (bk_39_2 _ _ _ _ _ _ _).trans ?_
      rw [h0, zle_t n i (by omega) (by omega)]
      rfl
    | succ j ih =>
      intro i hi
      refine (bk_39_2 _ _ _ _ _ _ _).trans ?_
      rw [h0, zle_f n i (by omega) (by omega)]
      simp (disch := omega) only [decide_true, decide_false, Bool.not_true, Bool.not_false, am_cont, Option.bind_some, Option.toList_some, Option.toList_none, List.singleton_append, List.nil_append, cond_true, cond_false, c_isIn, bk_39_15, bi_eq0]
      unfold fwd
      cases bt s i
      · simp only [decide_true, decide_false, Bool.not_true, Bool.not_false, am_cont, Option.bind_some, Option.toList_some, Option.toList_none, List.singleton_append, List.nil_append, cond_true, cond_false, zd_1]; exact ih (i + 1) (by omega)
      · simp only [decide_true, decide_false, Bool.not_true, Bool.not_false, am_cont, Option.bind_some, Option.toList_some, Option.toList_none, List.singleton_append, List.nil_append, cond_true, cond_false]
  exact key n 0 (by omega)
def WHp (I : Nat → Nat → Int32) (f : Nat → Int32) (k : Nat) : Nat → Nat → Int32 := am_ur (am_ur I 104 (ru (I 104) 4 (Int32.ofNat k))) 107 (cpr (I 107) 0 k f)
theorem WHp_4 (I : Nat → Nat → Int32) (f : Nat → Int32) (k : Nat) : WHp I f k 104 4 = Int32.ofNat k := by unfold WHp; rw [ur_ne _ _ _ _ (by omega), ur_at, ru_eq]
theorem WHp_104 (I : Nat → Nat → Int32) (f : Nat → Int32) (k j : Nat) (h : j ≠ 4) : WHp I f k 104 j = I 104 j := by unfold WHp; rw [ur_ne _ _ _ _ (by omega), ur_at, ru_ne _ _ _ _ h]
theorem WHp_q (I : Nat → Nat → Int32) (f : Nat → Int32) (k q : Nat) (h : q ≠ 104 ∧ q ≠ 107) : WHp I f k q = I q := by unfold WHp; rw [ur_ne _ _ _ _ h.2, ur_ne _ _ _ _ h.1]
theorem WHp_or {I : Nat → Nat → Int32} {n : Nat} {a : Nat → Int32} (f : Nat → Int32) (k : Nat) (h : Or I n a) : Or (WHp I f k) n a := ⟨(WHp_104 I f k 0 (by omega)).trans h.1, fun b hb => by rw [WHp_q I f k 105 (by omega)]; exact h.2 b hb⟩
theorem c_putOnWay (env : am_E) (d : Nat) (k : Nat) (hk : k < 8) (f : Nat → Int32) (I : Nat → Nat → Int32) (J : Nat → Nat → Int64) (E : Nat → Nat → Nat) : am_ev env (d + 1, 41, 0, [some (.ref 104), some (.int (f k))], [], am_hp (WHp I f k) J E) = some (true, some (.int ((1 : Int32) <<< (f k &&& 31))), am_hp (WHp I f (k + 1)) J E) := by
  have hset : am_u (am_u (WHp I f k) 107 k (f k)) 104 4 (Int32.ofNat (k + 1)) = WHp I f (k + 1) := by
    have hcs := cpr_succ (I 107) 0 k f
    rw [Nat.zero_add] at hcs
    unfold WHp
    rw [am_u_r, am_u_r, ur_at, ur_ur, hcs, ur_ne _ 107 _ 104 (by omega), ur_at, ru_ru, ur_comm _ 107 104 _ _ (by omega), ur_ur]
  refine (bk_41_0 _ _ _ _ _ _).trans ?_
  rw [WHp_4, show decide ((8 : Int32) ≤ Int32.ofNat k) = false from zle_f 8 k hk (by omega)]
  simp (disch := omega) only [decide_true, decide_false, Bool.not_true, Bool.not_false, am_cont, Option.bind_some, Option.toList_some, Option.toList_none, List.singleton_append, List.nil_append, cond_true, cond_false, zI_in, zI_nat, am_u_nr, WHp_4, zd_1, hset, bk_41_29]
/-- the way's BOOKS in their order -/
def wr (a : Nat → Int32) (n : Nat) (p0 : Int32 × Int32) (o hs i : Nat) : Nat := if o = 1 then (if i = 0 then hs else wx a n (wss a n p0 (i - 1))) else wx a n (wss a n p0 i)
theorem wr_o (a : Nat → Int32) (n : Nat) (p0 : Int32 × Int32) (o hs i : Nat) (ho : o ≤ 1) : wr a n p0 o hs (o + i) = wx a n (wss a n p0 i) := by
  unfold wr
  by_cases h : o = 1
  · rw [if_pos h, if_neg (by omega), h, Nat.add_sub_cancel_left]
  · rw [if_neg h, show o = 0 by omega, Nat.zero_add]
theorem c_wayloop (env : am_E) (d : Nat) (n : Nat) (hn : n ≤ 8) (a : Nat → Int32) (rd own N cw : Int32) (b o hs : Nat) (ho1 : o ≤ 1) (hW : WH n a rd own N b) (hcw : (cw = own ∧ (∀ x, bt own x = true → bt N x = true)) ∨ (cw = 0 ∧ ∀ x, bt own x = true → bt N x = false)) (p0 : Int32 × Int32) (hp0 : p0 = (N &&& (own ^^^ (-1)), rd ||| own)) (hK : o + cn n p0.1 ≤ 8) (x1 x2 x3 : Int32) (I : Nat → Nat → Int32) (J : Nat → Nat → Int64) (E : Nat → Nat → Nat) (hor : Or I n a) : ∀ j k (dc : Int32), k + j = cn n p0.1 → (∀ x, x < 32 → bt dc x = (bt rd x || bt cw x || (bt N x && !bt own x && !bt (wss a n p0 k).1 x))) → am_ev env (d + 4, 38, 50, [some (.ref 104), some (.int x1), some (.int x2), some (.int x3), some (.int N), some (.int dc), some (.int (opn a dc n &&& N)), some (.int (Int32.ofNat k))], [], am_hp (WHp I (fun i => Int32.ofNat (wr a n p0 o hs i)) (o + k)) J E) = some (true, none, am_hp (WHp I (fun i => Int32.ofNat (wr a n p0 o hs i)) (o + cn n p0.1)) J E) := by
  intro j
  induction j with
  | zero =>
    intro k dc hk hdc
    have hend := wss_end hn hW p0 hp0
    rw [show k = cn n p0.1 by omega] at hdc ⊢
    obtain ⟨i1, i2, i3⟩ := wss_P hn hW p0 hp0 (cn n p0.1) (Nat.le_refl _)
    have h0 : opn a dc n &&& N = 0 := by
      apply bt_ext
      intro x _
      rw [bt_zero]
      cases hz : bt (opn a dc n &&& N) x with
      | false => rfl
      | true =>
        have hxn : x < n := by
          rw [bt_and] at hz
          exact ((opn_bt a dc n (by omega) x).mp (and_f hz).1).1
        rw [way_open hn hW i1 hcw hdc x hxn] at hz
        have := ((av_iff a _ x).mp hz).1
        rw [hend, bt_zero] at this; cases this
    rw [h0]
    have hle := cn_le n p0.1
    refine (bk_38_50 _ _ _ _ _ _ _ _ _ _ _ _).trans ?_
    rw [(WHp_or _ _ hor).1, zq_0_0]
    cases decide (Int32.ofNat n ≤ Int32.ofNat (cn n p0.1)) <;> simp only [decide_true, decide_false, Bool.not_true, Bool.not_false, am_cont, Option.bind_some, Option.toList_some, Option.toList_none, List.singleton_append, List.nil_append, cond_true, cond_false, bk_38_96]
  | succ j ih =>
    intro k dc hk hdc
    obtain ⟨i1, i2, i3⟩ := wss_P hn hW p0 hp0 k (by omega)
    obtain ⟨s1, s2, s3, s4, s5, s6⟩ := WI_step hn hW i1 (i3 (by omega))
    have hop := fun x hx => way_open hn hW i1 hcw hdc x hx
    have hne : opn a dc n &&& N ≠ 0 := by
      intro h
      have := hop _ s1
      rw [h, bt_zero, s2] at this; cases this
    have hfw : fwd (fun x => bt (opn a dc n &&& N) x) n 0 = Int32.ofNat (wx a n (wss a n p0 k)) := by
      rw [fwd_congr _ (av a (wss a n p0 k)) n 0 (fun x h1 h2 => hop x (by omega))]; exact s4
    have hpo := c_putOnWay env (d + 2) (o + k) (by omega) (fun i => Int32.ofNat (wr a n p0 o hs i)) I J E
    simp only [wr_o a n p0 o hs k ho1] at hpo
    have hle := cn_le n p0.1
    refine (bk_38_50 _ _ _ _ _ _ _ _ _ _ _ _).trans ?_
    rw [(WHp_or _ _ hor).1, zle_f n k (by omega) (by omega), decide_eq_false hne]
    simp only [decide_true, decide_false, Bool.not_true, Bool.not_false, am_cont, Option.bind_some, Option.toList_some, Option.toList_none, List.singleton_append, List.nil_append, cond_true, cond_false, c_leastOf env _ n hn (opn a dc n &&& N) _ J E (WHp_or _ _ hor).1, hfw, bk_38_73, hpo, bk_38_76, c_openTo env _ n hn a _ _ J E (WHp_or _ _ hor), bk_38_85, zd_1]
    refine ih (k + 1) (dc ||| bit1 (wx a n (wss a n p0 k))) (by omega) (fun x hx => ?_)
    have e : wss a n p0 (k + 1) = wst a n (wss a n p0 k) := rfl
    rw [e]
    show _ = (bt rd x || bt cw x || (bt N x && !bt own x && !bt ((wss a n p0 k).1 &&& (bit1 (wx a n (wss a n p0 k)) ^^^ (-1))) x))
    rw [bt_or, bt_and, bt_not _ _ hx, bt_one _ x (by omega), hdc x hx]
    by_cases ex : x = wx a n (wss a n p0 k)
    · have hz := (i1.1 x (by rw [ex]; exact ((av_iff a _ _).mp s2).1))
      rw [decide_eq_true ex, hz.1, hz.2]
      cases bt rd x <;> cases bt cw x <;> cases bt (wss a n p0 k).1 x <;> rfl
    · rw [decide_eq_false ex]
      cases bt rd x <;> cases bt cw x <;> cases bt N x <;> cases bt own x <;> cases bt (wss a n p0 k).1 x <;> rfl
theorem c_findWay (env : am_E) (d : Nat) (n b : Nat) (hn : n ≤ 8) (a : Nat → Int32) (rd hv own : Int32) (hs : Nat) (hown : ∀ x, x < n → bt own x = decide (Int32.ofNat x = hv)) (hvs : (hv = -1 ∧ own = 0) ∨ (hv = Int32.ofNat hs ∧ hs < n ∧ own = bit1 hs)) (hW : WH n a rd own (swps (ax a rd own) n n (bit1 b)) b) (I : Nat → Nat → Int32) (J : Nat → Nat → Int64) (E : Nat → Nat → Nat) (hor : Or I n a) : ∃ o, o ≤ 1 ∧ (o = 1 → (hv = Int32.ofNat hs ∧ hs < n ∧ own = bit1 hs ∧ bt (swps (ax a rd own) n n (bit1 b)) hs = true)) ∧ (o = 0 → ∀ x, bt own x = true → bt (swps (ax a rd own) n n (bit1 b)) x = false) ∧ o + cn n (swps (ax a rd own) n n (bit1 b) &&& (own ^^^ (-1))) ≤ 8 ∧ am_ev env (d + 4, 38, 0, [some (.ref 104), some (.int (Int32.ofNat b)), some (.int rd), some (.int hv), none, none, none, none], [], am_hp I J E) = some (true, none, am_hp (WHp I (fun i => Int32.ofNat (wr a n (swps (ax a rd own) n n (bit1 b) &&& (own ^^^ (-1)), rd ||| own) o hs i)) (o + cn n (swps (ax a rd own) n n (bit1 b) &&& (own ^^^ (-1))))) J E) := by
  have hb := hW.2.2.2.2.1
  have hcn := c_needed env (d + 1) n b hn hb a rd hv own hown I J E hor
  generalize hNN : swps (ax a rd own) n n (bit1 b) = N at hW hcn
  have hle := cn_le n (N &&& (own ^^^ (-1)))
  have hu0 : ∀ f, am_u I 104 4 0 = WHp I f 0 := by
    intro f; unfold WHp; rw [cpr_zero, am_u_r]
    have := ur_self (am_ur I 104 (ru (I 104) 4 0)) 107
    rw [ur_ne _ _ _ _ (by omega)] at this
    exact this.symm
  have hdc0 : ∀ cw : Int32, ∀ x, x < 32 → bt (rd ||| cw) x = (bt rd x || bt cw x || (bt N x && !bt own x && !bt (wss a n (N &&& (own ^^^ (-1)), rd ||| own) 0).1 x)) := by
    intro cw x hx
    show _ = (bt rd x || bt cw x || (bt N x && !bt own x && !bt (N &&& (own ^^^ (-1))) x))
    rw [bt_or, bt_and, bt_not _ _ hx]
    cases bt rd x <;> cases bt cw x <;> cases bt N x <;> cases bt own x <;> rfl
  rcases hvs with ⟨rfl, v2⟩ | ⟨rfl, v2, v3⟩
  · refine ⟨0, by omega, fun h => by omega, fun _ x hx => (by rw [v2, bt_zero] at hx; cases hx), by omega, ?_⟩
    have hl := c_wayloop env d n hn a rd own N 0 b 0 hs (by omega) hW (.inr ⟨rfl, fun x hx => (by rw [v2, bt_zero] at hx; cases hx)⟩) (N &&& (own ^^^ (-1)), rd ||| own) rfl (show 0 + cn n (N &&& (own ^^^ (-1))) ≤ 8 by omega) (Int32.ofNat b) rd (-1) I J E hor (cn n (N &&& (own ^^^ (-1)))) 0 rd (Nat.zero_add _) (by have := hdc0 0; rw [Int32.or_zero] at this; exact this)
    simp only [bk_38_0, bk_38_7, decide_true, decide_false, Bool.not_true, Bool.not_false, am_cont, Option.bind_some, Option.toList_some, Option.toList_none, List.singleton_append, List.nil_append, cond_true, cond_false, hcn, c_isIn_m1, bk_38_23, zq_0_0, hu0 (fun i => Int32.ofNat (wr a n (N &&& (own ^^^ (-1)), rd ||| own) 0 hs i)), bk_38_36, c_openTo env _ n hn a _ _ J E (WHp_or _ _ hor), bk_38_42]
    exact hl
  · have hin := fun (I' : Nat → Nat → Int32) d => c_isIn env d N hs (by omega) I' J E
    have hbo : ∀ x, bt own x = true → x = hs := by
      intro x hx
      rw [v3, bt_one hs x (by omega)] at hx
      exact of_decide_eq_true hx
    cases hNh : bt N hs with
    | false =>
      refine ⟨0, by omega, fun h => by omega, fun _ x hx => (by rw [hbo x hx]; exact hNh), by omega, ?_⟩
      have hl := c_wayloop env d n hn a rd own N 0 b 0 hs (by omega) hW (.inr ⟨rfl, fun x hx => (by rw [hbo x hx]; exact hNh)⟩) (N &&& (own ^^^ (-1)), rd ||| own) rfl (show 0 + cn n (N &&& (own ^^^ (-1))) ≤ 8 by omega) (Int32.ofNat b) rd (Int32.ofNat hs) I J E hor (cn n (N &&& (own ^^^ (-1)))) 0 rd (Nat.zero_add _) (by have := hdc0 0; rw [Int32.or_zero] at this; exact this)
      simp only [bk_38_0, bk_38_7, decide_true, decide_false, Bool.not_true, Bool.not_false, am_cont, Option.bind_some, Option.toList_some, Option.toList_none, List.singleton_append, List.nil_append, cond_true, cond_false, hcn, hin, hNh, bi_eq0, bk_38_23, hu0 (fun i => Int32.ofNat (wr a n (N &&& (own ^^^ (-1)), rd ||| own) 0 hs i)), bk_38_36, c_openTo env _ n hn a _ _ J E (WHp_or _ _ hor), bk_38_42]
      exact hl
    | true =>
      have hlt : cn n (N &&& (own ^^^ (-1))) < n := by
        apply Nat.lt_of_le_of_ne hle
        intro e
        have := cn_full n e hs v2
        rw [bt_and, bt_not _ _ (by omega), v3, bt_one hs hs (by omega), decide_eq_true rfl] at this
        rw [Bool.and_comm] at this; cases this
      refine ⟨1, by omega, fun _ => ⟨rfl, v2, v3, rfl⟩, fun h => by omega, by omega, ?_⟩
      have hl := c_wayloop env d n hn a rd own N own b 1 hs (by omega) hW (.inl ⟨rfl, fun x hx => (by rw [hbo x hx]; exact hNh)⟩) (N &&& (own ^^^ (-1)), rd ||| own) rfl (show 1 + cn n (N &&& (own ^^^ (-1))) ≤ 8 by omega) (Int32.ofNat b) rd (Int32.ofNat hs) I J E hor (cn n (N &&& (own ^^^ (-1)))) 0 (rd ||| own) (Nat.zero_add _) (hdc0 own)
      have hpo := c_putOnWay env (d + 2) 0 (by omega) (fun i => Int32.ofNat (wr a n (N &&& (own ^^^ (-1)), rd ||| own) 1 hs i)) I J E
      rw [show wr a n (N &&& (own ^^^ (-1)), rd ||| own) 1 hs 0 = hs from rfl] at hpo
      have hbit : (1 : Int32) <<< (Int32.ofNat hs &&& 31) = own := v3.symm
      rw [hbit] at hpo
      simp only [bk_38_0, bk_38_7, decide_true, decide_false, Bool.not_true, Bool.not_false, am_cont, Option.bind_some, Option.toList_some, Option.toList_none, List.singleton_append, List.nil_append, cond_true, cond_false, hcn, hin, hNh, bi_eq0, bk_38_23, hu0 (fun i => Int32.ofNat (wr a n (N &&& (own ^^^ (-1)), rd ||| own) 1 hs i)), hpo, bk_38_33, bk_38_36, c_openTo env _ n hn a _ _ J E (WHp_or _ _ hor), bk_38_42]
      exact hl
