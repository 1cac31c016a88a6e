/-! feed -/
def TA (I : Nat → Nat → Int32) (z m : Nat) (g : Nat → Int32) : Nat → Nat → Int32 := am_ur (am_ur I 2 (ru (I 2) 0 (Int32.ofNat (z + m)))) 3 (cpr (I 3) z m g)
def TM (I : Nat → Nat → Int32) (z m : Nat) (g : Nat → Int32) : Nat → Nat → Int32 := am_ur (am_ur I 156 (ru (I 156) 2 (Int32.ofNat (z + m)))) 157 (cpr (I 157) z m g)
def fap (p : Nat) (f g : Nat → Int32) : Nat → Int32 := fun i => if i < p then f i else g (i - p)
theorem cpr_cpr (m : Nat → Int32) (a p q : Nat) (f g : Nat → Int32) : cpr (cpr m a p f) (a + p) q g = cpr m a (p + q) (fap p f g) := by
  funext j
  by_cases h1 : a ≤ j ∧ j < a + p
  · rw [cpr_out _ _ _ _ _ (by omega)]
    obtain ⟨i, rfl⟩ : ∃ i, j = a + i := ⟨j - a, by omega⟩
    rw [cpr_in _ _ _ _ _ (by omega), cpr_in _ _ _ _ _ (by omega)]
    unfold fap; rw [if_pos (by omega)]
  · by_cases h2 : a + p ≤ j ∧ j < a + p + q
    · obtain ⟨i, rfl⟩ : ∃ i, j = a + p + i := ⟨j - (a + p), by omega⟩
      rw [cpr_in _ _ _ _ _ (by omega), Nat.add_assoc, cpr_in _ _ _ _ _ (by omega)]
      unfold fap; rw [if_neg (by omega), Nat.add_sub_cancel_left]
    · rw [cpr_out _ _ _ _ _ (by omega), cpr_out _ _ _ _ _ (by omega), cpr_out _ _ _ _ _ (by omega)]
theorem TA_TA (I : Nat → Nat → Int32) (z p q : Nat) (f g : Nat → Int32) : TA (TA I z p f) (z + p) q g = TA I z (p + q) (fap p f g) := by
  unfold TA
  rw [ur_ne _ 3 _ 2 (by omega), ur_at, ur_at, ru_ru, cpr_cpr, ur_comm _ 3 2 _ _ (by omega), ur_ur, ur_ur, Nat.add_assoc]
theorem TM_TM (I : Nat → Nat → Int32) (z p q : Nat) (f g : Nat → Int32) : TM (TM I z p f) (z + p) q g = TM I z (p + q) (fap p f g) := by
  unfold TM
  rw [ur_ne _ 157 _ 156 (by omega), ur_at, ur_at, ru_ru, cpr_cpr, ur_comm _ 157 156 _ _ (by omega), ur_ur, ur_ur, Nat.add_assoc]
theorem TA_2 (I : Nat → Nat → Int32) (z m : Nat) (g : Nat → Int32) : TA I z m g 2 0 = Int32.ofNat (z + m) := by
  unfold TA; rw [ur_ne _ _ _ _ (by omega), ur_at, ru_eq]
theorem TM_2 (I : Nat → Nat → Int32) (z m : Nat) (g : Nat → Int32) : TM I z m g 156 2 = Int32.ofNat (z + m) := by
  unfold TM; rw [ur_ne _ _ _ _ (by omega), ur_at, ru_eq]
theorem cpr_one (m : Nat → Int32) (z : Nat) (c : Int32) : cpr m z 1 (fun _ => c) = ru m z c := by
  have := cpr_succ m z 0 (fun _ => c)
  rw [cpr_zero] at this
  exact this.symm
theorem c_add1 (env : am_E) (d : Nat) (w sh : Int32) (z : Nat) (hz : z < 940) (I : Nat → Nat → Int32) (J : Nat → Nat → Int64) (E : Nat → Nat → Nat) (hs : decide (sh < 0) = false) (e : I 2 0 = Int32.ofNat z) : am_ev env (d + 1, 99, 3, [some (.ref 2), some (.int w), some (.int sh)], [], am_hp I J E) = am_ev env (d + 1, 99, 3, [some (.ref 2), some (.int w), some (.int (sh + (-8)))], [], am_hp (TA I z 1 (fun _ => am_ushr w sh &&& 255)) J E) := by
  have g1 : decide (Int32.ofNat z < (0 : Int32)) = false := zlt_f z 0 (by omega) (by omega)
  have g2 : decide ((940 : Int32) ≤ Int32.ofNat z) = false := zle_f 940 z hz (by omega)
  refine (bk_99_3 _ _ _ _ _ _ _).trans ?_
  unfold TA
  rw [cpr_one]
  simp (disch := omega) only [hs, e, g1, g2, zI_in, zI_nat, decide_true, decide_false, Bool.not_true, Bool.not_false, am_cont, Option.bind_some, Option.toList_some, Option.toList_none, List.singleton_append, List.nil_append, cond_true, cond_false, am_u_r, ur_ne, bk_99_50, zd_1, ur_comm]
theorem m_add1 (env : am_E) (d : Nat) (w sh : Int32) (z : Nat) (hz : z < 940) (I : Nat → Nat → Int32) (J : Nat → Nat → Int64) (E : Nat → Nat → Nat) (hs : decide (sh < 0) = false) (e : I 156 2 = Int32.ofNat z) : am_ev env (d + 1, 171, 3, [some (.ref 156), some (.int w), some (.int sh)], [], am_hp I J E) = am_ev env (d + 1, 171, 3, [some (.ref 156), some (.int w), some (.int (sh + (-8)))], [], am_hp (TM I z 1 (fun _ => am_ushr w sh &&& 255)) J E) := by
  refine (bk_171_3 _ _ _ _ _ _ _).trans ?_
  unfold TM
  rw [cpr_one]
  simp (disch := omega) only [hs, e, zI_in, zI_nat, decide_true, decide_false, Bool.not_true, Bool.not_false, am_cont, Option.bind_some, Option.toList_some, Option.toList_none, List.singleton_append, List.nil_append, cond_true, cond_false, am_u_r, ur_ne, zd_1, ur_comm]
def fbw (w : Int32) : Nat → Int32 := fap 3 (fap 2 (fap 1 (fun _ => am_ushr w 24 &&& 255) (fun _ => am_ushr w 16 &&& 255)) (fun _ => am_ushr w 8 &&& 255)) (fun _ => am_ushr w 0 &&& 255)
theorem fap_assoc (p q : Nat) (f g h : Nat → Int32) : fap (p + q) (fap p f g) h = fap p f (fap q g h) := by
  funext i; unfold fap
  by_cases h1 : i < p
  · rw [if_pos (by omega), if_pos h1, if_pos h1]
  · by_cases h2 : i < p + q
    · rw [if_pos h2, if_neg h1, if_neg h1, if_pos (by omega)]
    · rw [if_neg h2, if_neg h1, if_neg (by omega)]; congr 1; omega
theorem c_add (env : am_E) (d : Nat) (w : Int32) (z : Nat) (hz : z + 4 ≤ 940) (I : Nat → Nat → Int32) (J : Nat → Nat → Int64) (E : Nat → Nat → Nat) (e : I 2 0 = Int32.ofNat z) : am_ev env (d + 1, 99, 0, [some (.ref 2), some (.int w), none], [], am_hp I J E) = some (true, none, am_hp (TA I z 4 (fbw w)) J E) := by
  refine (bk_99_0 _ _ _ _ _ _).trans ?_
  refine (c_add1 env d w 24 z (by omega) I J E (by decide) e).trans ?_
  rw [show (24 : Int32) + (-8) = 16 by decide]
  refine (c_add1 env d w 16 (z + 1) (by omega) _ J E (by decide) (TA_2 I z 1 _)).trans ?_
  rw [TA_TA, show (16 : Int32) + (-8) = 8 by decide]
  refine (c_add1 env d w 8 (z + 2) (by omega) _ J E (by decide) (TA_2 I z 2 _)).trans ?_
  rw [TA_TA, show (8 : Int32) + (-8) = 0 by decide]
  refine (c_add1 env d w 0 (z + 3) (by omega) _ J E (by decide) (TA_2 I z 3 _)).trans ?_
  rw [TA_TA, show (0 : Int32) + (-8) = -8 by decide]
  refine (bk_99_3 _ _ _ _ _ _ _).trans ?_
  rw [show decide ((-8 : Int32) < 0) = true by decide, cond_true]
  rfl
theorem m_come (env : am_E) (d : Nat) (w : Int32) (z : Nat) (hz : z + 4 ≤ 940) (I : Nat → Nat → Int32) (J : Nat → Nat → Int64) (E : Nat → Nat → Nat) (e : I 156 2 = Int32.ofNat z) : am_ev env (d + 1, 171, 0, [some (.ref 156), some (.int w), none], [], am_hp I J E) = some (true, none, am_hp (TM I z 4 (fbw w)) J E) := by
  refine (bk_171_0 _ _ _ _ _ _).trans ?_
  refine (m_add1 env d w 24 z (by omega) I J E (by decide) e).trans ?_
  rw [show (24 : Int32) + (-8) = 16 by decide]
  refine (m_add1 env d w 16 (z + 1) (by omega) _ J E (by decide) (TM_2 I z 1 _)).trans ?_
  rw [TM_TM, show (16 : Int32) + (-8) = 8 by decide]
  refine (m_add1 env d w 8 (z + 2) (by omega) _ J E (by decide) (TM_2 I z 2 _)).trans ?_
  rw [TM_TM, show (8 : Int32) + (-8) = 0 by decide]
  refine (m_add1 env d w 0 (z + 3) (by omega) _ J E (by decide) (TM_2 I z 3 _)).trans ?_
  rw [TM_TM, show (0 : Int32) + (-8) = -8 by decide]
  refine (bk_171_3 _ _ _ _ _ _ _).trans ?_
  rw [show decide ((-8 : Int32) < 0) = true by decide, cond_true]
  rfl
def fb5 (a b c d e : Int32) : Nat → Int32 := fap 16 (fap 12 (fap 8 (fap 4 (fbw a) (fbw b)) (fbw c)) (fbw d)) (fbw e)
theorem c_feed1 (env : am_E) (d : Nat) (a b c e f : Int32) (z : Nat) (hz : z + 20 ≤ 940) (I : Nat → Nat → Int32) (J : Nat → Nat → Int64) (E : Nat → Nat → Nat) (h : I 2 0 = Int32.ofNat z) : am_ev env (d + 20, 115, 0, [some (.ref 0), some (.int a), some (.int b), some (.int c), some (.int e), some (.int f)], [], am_hp I J E) = some (true, some (.int (Int32.ofNat (z + 20))), am_hp (TA I z 20 (fb5 a b c e f)) J E) := by
  have g1 : decide (Int32.ofNat z + 20 ≤ 940) = true := by rw [zd_20]; exact zle_t (z + 20) 940 hz (by omega)
  have s1 := c_add env (d + 18) a z (by omega) I J E h
  have s2 := c_add env (d + 18) b (z + 4) (by omega) (TA I z 4 (fbw a)) J E (TA_2 _ _ _ _)
  rw [TA_TA] at s2
  have s3 := c_add env (d + 18) c (z + 8) (by omega) (TA I z 8 (fap 4 (fbw a) (fbw b))) J E (TA_2 _ _ _ _)
  rw [TA_TA] at s3
  have s4 := c_add env (d + 18) e (z + 12) (by omega) (TA I z 12 (fap 8 (fap 4 (fbw a) (fbw b)) (fbw c))) J E (TA_2 _ _ _ _)
  rw [TA_TA] at s4
  have s5 := c_add env (d + 18) f (z + 16) (by omega) (TA I z 16 (fap 12 (fap 8 (fap 4 (fbw a) (fbw b)) (fbw c)) (fbw e))) J E (TA_2 _ _ _ _)
  rw [TA_TA] at s5
  simp only [bk_115_0, bk_115_26, bk_115_34, bk_115_42, bk_115_51, bk_115_60, h, g1, decide_true, decide_false, Bool.not_true, Bool.not_false, am_cont, Option.bind_some, Option.toList_some, Option.toList_none, List.singleton_append, List.nil_append, cond_true, cond_false, s1, s2, s3, s4, s5, TA_2]
  rfl
theorem m_feed1 (env : am_E) (d : Nat) (a b c e f : Int32) (z : Nat) (hz : z + 20 ≤ 940) (I : Nat → Nat → Int32) (J : Nat → Nat → Int64) (E : Nat → Nat → Nat) (h : I 156 2 = Int32.ofNat z) : am_ev env (d + 20, 172, 0, [some (.ref 156), some (.int a), some (.int b), some (.int c), some (.int e), some (.int f)], [], am_hp I J E) = some (true, some (.int (Int32.ofNat (z + 20))), am_hp (TM (th0 I) z 20 (fb5 a b c e f)) J E) := by
  have h' : th0 I 156 2 = Int32.ofNat z := (th0_at I 2 (by omega)).trans h
  have g1 : decide (Int32.ofNat z + 20 ≤ 940) = true := by rw [zd_20]; exact zle_t (z + 20) 940 hz (by omega)
  have s1 := m_come env (d + 18) a z (by omega) (th0 I) J E h'
  have s2 := m_come env (d + 18) b (z + 4) (by omega) (TM (th0 I) z 4 (fbw a)) J E (TM_2 _ _ _ _)
  rw [TM_TM] at s2
  have s3 := m_come env (d + 18) c (z + 8) (by omega) (TM (th0 I) z 8 (fap 4 (fbw a) (fbw b))) J E (TM_2 _ _ _ _)
  rw [TM_TM] at s3
  have s4 := m_come env (d + 18) e (z + 12) (by omega) (TM (th0 I) z 12 (fap 8 (fap 4 (fbw a) (fbw b)) (fbw c))) J E (TM_2 _ _ _ _)
  rw [TM_TM] at s4
  have s5 := m_come env (d + 18) f (z + 16) (by omega) (TM (th0 I) z 16 (fap 12 (fap 8 (fap 4 (fbw a) (fbw b)) (fbw c)) (fbw e))) J E (TM_2 _ _ _ _)
  rw [TM_TM] at s5
  simp only [bk_172_0, bk_172_25, bk_172_30, bk_172_35, bk_172_41, bk_172_47, th0_u, h', g1, decide_true, decide_false, Bool.not_true, Bool.not_false, am_cont, Option.bind_some, Option.toList_some, Option.toList_none, List.singleton_append, List.nil_append, cond_true, cond_false, s1, s2, s3, s4, s5, TM_2]
  rfl
theorem and255 (x : Int32) : ∃ c, c < 256 ∧ x &&& 255 = Int32.ofNat c := by
  have hb : ∀ k, bt (x &&& 255) k = true → k < 8 := by
    intro k hk
    rw [bt_and] at hk
    have h255 : ∀ k : Fin 32, bt 255 k.1 = true → k.1 < 8 := by decide +kernel
    have hk2 : bt 255 k = true := by
      cases h : bt 255 k with
      | true => rfl
      | false => rw [h, Bool.and_false] at hk; exact absurd hk (by decide)
    exact h255 ⟨k, bt_lt32 hk2⟩ hk2
  have hlt : (x &&& 255).toBitVec.toNat < 256 := by
    have : (x &&& 255).toBitVec.toNat ≤ 255 := by
      rw [Int32.toBitVec_and, BitVec.toNat_and]
      exact Nat.and_le_right
    omega
  refine ⟨(x &&& 255).toBitVec.toNat, hlt, ?_⟩
  apply Int32.toBitVec_inj.mp
  apply BitVec.eq_of_toNat_eq
  show _ = (BitVec.ofNat 32 _).toNat
  rw [BitVec.toNat_ofNat, Nat.mod_eq_of_lt (by omega)]
theorem fap_P (P : Int32 → Prop) (p : Nat) (f g : Nat → Int32) (hf : ∀ i, P (f i)) (hg : ∀ i, P (g i)) (i : Nat) : P (fap p f g i) := by
  unfold fap; split
  · exact hf _
  · exact hg _
theorem fbw_P (w : Int32) (i : Nat) : ∃ c, c < 256 ∧ fbw w i = Int32.ofNat c := by
  unfold fbw
  exact fap_P (fun x => ∃ c, c < 256 ∧ x = Int32.ofNat c) _ _ _ (fap_P (fun x => ∃ c, c < 256 ∧ x = Int32.ofNat c) _ _ _ (fap_P (fun x => ∃ c, c < 256 ∧ x = Int32.ofNat c) _ _ _ (fun _ => and255 _) (fun _ => and255 _)) (fun _ => and255 _)) (fun _ => and255 _) i
theorem fb5_P (a b c d e : Int32) (i : Nat) : ∃ x, x < 256 ∧ fb5 a b c d e i = Int32.ofNat x := by
  unfold fb5
  exact fap_P (fun x => ∃ c, c < 256 ∧ x = Int32.ofNat c) _ _ _ (fap_P (fun x => ∃ c, c < 256 ∧ x = Int32.ofNat c) _ _ _ (fap_P (fun x => ∃ c, c < 256 ∧ x = Int32.ofNat c) _ _ _ (fap_P (fun x => ∃ c, c < 256 ∧ x = Int32.ofNat c) _ _ _ (fbw_P a) (fbw_P b)) (fbw_P c)) (fbw_P d)) (fbw_P e) i
theorem op_feed (env : am_E) (d : Nat) (I : Nat → Nat → Int32) (J : Nat → Nat → Int64) (E : Nat → Nat → Nat) (n k t h : Nat) (hR : R1 I n k t h) (hv : RT I) (a b c e f : Int32) : opR (fun H => am_ev env (d + 20, 115, 0, [some (.ref 0), some (.int a), some (.int b), some (.int c), some (.int e), some (.int f)], [], H)) (fun H => am_ev env (d + 20, 172, 0, [some (.ref 156), some (.int a), some (.int b), some (.int c), some (.int e), some (.int f)], [], H)) I J E (PT I n k) := by
  obtain ⟨z, hz, z1, z2, z3⟩ := id hv
  by_cases hf : z + 20 ≤ 940
  · have hP := fb5_P a b c e f
    refine ⟨Int32.ofNat (z + 20), _, _, c_feed1 env d a b c e f z hf I J E z1, m_feed1 env d a b c e f z hf _ J E (by unfold TA; rw [ur_ne _ _ _ _ (by omega), ur_ne _ _ _ _ (by omega)]; exact z2), ?_, ?_, ?_⟩
    · generalize fb5 a b c e f = G
      refine ⟨t, h, R1_ext I _ n k t h (fun q j hq => ?_) hR⟩
      unfold TM
      rw [ur_ne _ _ _ _ (by unfold KR at hq; omega)]
      by_cases h1 : q = 156
      · subst h1
        rw [ur_at, ru_ne _ _ _ _ (by unfold KR at hq; omega), th0_at _ _ (by unfold KR at hq; omega)]
        unfold TA; rw [ur_ne _ _ _ _ (by omega), ur_ne _ _ _ _ (by omega)]
      · rw [ur_ne _ _ _ _ h1, th0_ne _ _ h1]
        unfold TA; rw [ur_ne _ _ _ _ (by unfold KR at hq; omega), ur_ne _ _ _ _ (by unfold KR at hq; omega)]
    · generalize fb5 a b c e f = G at hP ⊢
      refine ⟨z + 20, hf, ?_, TM_2 _ _ _ _, ?_⟩
      · unfold TM; rw [ur_ne _ _ _ _ (by omega), ur_ne _ _ _ _ (by omega), th0_ne _ _ (by omega)]; exact TA_2 _ _ _ _
      · intro j hj
        have e3 : TM (th0 (TA I z 20 G)) z 20 G 3 = cpr (I 3) z 20 G := by
          unfold TM; rw [ur_ne _ _ _ _ (by omega), ur_ne _ _ _ _ (by omega), th0_ne _ _ (by omega)]; unfold TA; rw [ur_at]
        have e157 : TM (th0 (TA I z 20 G)) z 20 G 157 = cpr (I 157) z 20 G := by
          unfold TM; rw [ur_at, th0_ne _ _ (by omega)]; unfold TA; rw [ur_ne _ _ _ _ (by omega), ur_ne _ _ _ _ (by omega)]
        rw [e3, e157]
        by_cases hj2 : j < z
        · rw [cpr_out _ _ _ _ _ (by omega), cpr_out _ _ _ _ _ (by omega)]; exact z3 j hj2
        · obtain ⟨i, rfl⟩ : ∃ i, j = z + i := ⟨j - z, by omega⟩
          rw [cpr_in _ _ _ _ _ (by omega), cpr_in _ _ _ _ _ (by omega)]
          exact ⟨rfl, hP i⟩
    · generalize fb5 a b c e f = G
      intro q j hq hX
      unfold TM
      rw [ur_ne _ _ _ _ (by unfold XT at hX; omega)]
      by_cases h1 : q = 156
      · subst h1
        rw [ur_at, ru_ne _ _ _ _ (by unfold XT at hX; omega), th0_at _ _ (by unfold C1 at hq; omega)]
        unfold TA; rw [ur_ne _ _ _ _ (by omega), ur_ne _ _ _ _ (by omega)]
      · rw [ur_ne _ _ _ _ h1, th0_ne _ _ h1]
        unfold TA; rw [ur_ne _ _ _ _ (by unfold XT at hX; omega), ur_ne _ _ _ _ (by unfold XT at hX; omega)]
  · have g1 : decide (Int32.ofNat z + 20 ≤ 940) = false := by rw [zd_20]; exact zle_f (z + 20) 940 (by omega) (by omega)
    refine ⟨-1, I, th0 I, ?_, ?_, ⟨t, h, R1_th0 I n k t h hR⟩, ⟨z, hz, by rw [th0_ne I 2 (by omega)]; exact z1, by rw [th0_at I 2 (by omega)]; exact z2, fun j hj => by rw [th0_ne I 3 (by omega), th0_ne I 157 (by omega)]; exact z3 j hj⟩, fun q j hq _ => th0_fr I q j hq⟩
    · simp only [bk_115_0, z1, g1, decide_true, decide_false, Bool.not_true, Bool.not_false, am_cont, Option.bind_some, Option.toList_some, Option.toList_none, List.singleton_append, List.nil_append, cond_true, cond_false]
    · simp (disch := omega) only [bk_172_0, th0_u, th0_at, z2, g1, decide_true, decide_false, Bool.not_true, Bool.not_false, am_cont, Option.bind_some, Option.toList_some, Option.toList_none, List.singleton_append, List.nil_append, cond_true, cond_false]
