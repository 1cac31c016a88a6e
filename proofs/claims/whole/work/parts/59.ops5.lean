/-! the tape; what is only asked -/
def RT (I : Nat → Nat → Int32) : Prop := ∃ z, z ≤ 940 ∧ I 2 0 = Int32.ofNat z ∧ I 156 2 = Int32.ofNat z ∧ ∀ j, j < z → I 3 j = I 157 j ∧ ∃ c, c < 256 ∧ I 3 j = Int32.ofNat c
def RV (I : Nat → Nat → Int32) : Prop := I 0 13 = I 156 10
def RTo (I : Nat → Nat → Int32) : Prop := (I 156 46 = 0 ∧ ∀ j, j < 4 → I 115 j = -1) ∨ (I 156 46 = 1 ∧ ∀ j, j < 4 → I 115 j = I 176 j)
def RSl (I : Nat → Nat → Int32) : Prop := ∃ z, z ≤ 40 ∧ I 0 12 = Int32.ofNat z ∧ I 156 41 = Int32.ofNat z ∧ ∀ j, j < z → I 116 j = I 174 j
def RW (I : Nat → Nat → Int32) : Prop := ∃ z, z ≤ 8 ∧ I 104 4 = Int32.ofNat z ∧ I 156 26 = Int32.ofNat z ∧ ∀ j, j < z → I 107 j = I 167 j
def RRg (I : Nat → Nat → Int32) : Prop := ∃ z, z ≤ 8 ∧ I 104 6 = Int32.ofNat z ∧ I 156 29 = Int32.ofNat z ∧ ∀ j, j < z → I 108 j = I 169 j
def RC (I : Nat → Nat → Int32) : Prop := I 0 14 = I 156 30
def RFi (I : Nat → Nat → Int32) : Prop := I 0 15 = I 156 31 ∧ I 0 16 = I 156 32
theorem zI_tri (x : Int32) (z : Nat) (hz : z ≤ 100000) : (am_in x z = false ∧ (decide (x < 0) || decide (Int32.ofNat z ≤ x)) = true) ∨ ∃ j, j < z ∧ x = Int32.ofNat j := by
  cases h : am_in x z with
  | true => obtain ⟨j, hj, -, e⟩ := zI_cases x z h; exact Or.inr ⟨j, hj, e⟩
  | false =>
    refine Or.inl ⟨rfl, ?_⟩
    by_cases hx : x < 0
    · rw [decide_eq_true hx]; rfl
    · obtain ⟨e, hl⟩ := zI_of x (Int32.not_lt.mp hx)
      generalize x.toNatClampNeg = y at e hl
      subst e
      rw [am_in_of y z hl] at h
      rw [zle_t z y (by have := of_decide_eq_false h; omega) hl, Bool.or_true]
theorem or_f {a b : Bool} (h : (a || b) = true) : a = true ∨ b = true := by cases a <;> cases b <;> simp_all
theorem op_fault (env : am_E) (d : Nat) (I : Nat → Nat → Int32) (J : Nat → Nat → Int64) (E : Nat → Nat → Nat) (n k t h : Nat) (hR : R1 I n k t h) (hv : RV I) : opR (fun H => am_ev env (d + 20, 118, 0, [some (.ref 0)], [], H)) (fun H => am_ev env (d + 20, 206, 0, [some (.ref 156)], [], H)) I J E (P1 I n k) := by
  refine none_op I J E n k t h hR (I 0 13) _ _ (bk_118_0 _ _ _ _ _) ?_
  refine (bk_206_0 _ _ _ _ _).trans ?_
  rw [th0_u, th0_at I 10 (by omega), hv]
theorem op_cutting (env : am_E) (d : Nat) (I : Nat → Nat → Int32) (J : Nat → Nat → Int64) (E : Nat → Nat → Nat) (n k t h : Nat) (hR : R1 I n k t h) (hv : RC I) : opR (fun H => am_ev env (d + 20, 141, 0, [some (.ref 0)], [], H)) (fun H => am_ev env (d + 20, 252, 0, [some (.ref 156)], [], H)) I J E (P1 I n k) := by
  refine none_op I J E n k t h hR (I 0 14) _ _ (bk_141_0 _ _ _ _ _) ?_
  refine (bk_252_0 _ _ _ _ _).trans ?_
  rw [th0_u, th0_at I 30 (by omega), hv]
theorem op_fitting (env : am_E) (d : Nat) (I : Nat → Nat → Int32) (J : Nat → Nat → Int64) (E : Nat → Nat → Nat) (n k t h : Nat) (hR : R1 I n k t h) (hv : RFi I) : opR (fun H => am_ev env (d + 20, 151, 0, [some (.ref 0)], [], H)) (fun H => am_ev env (d + 20, 258, 0, [some (.ref 156)], [], H)) I J E (P1 I n k) := by
  refine none_op I J E n k t h hR (I 0 15) _ _ (bk_151_0 _ _ _ _ _) ?_
  refine (bk_258_0 _ _ _ _ _).trans ?_
  rw [th0_u, th0_at I 31 (by omega), hv.1]
theorem op_ask (env : am_E) (d : Nat) (I : Nat → Nat → Int32) (J : Nat → Nat → Int64) (E : Nat → Nat → Nat) (n k t h : Nat) (hR : R1 I n k t h) (hv : RFi I) : opR (fun H => am_ev env (d + 20, 152, 0, [some (.ref 0)], [], H)) (fun H => am_ev env (d + 20, 259, 0, [some (.ref 156)], [], H)) I J E (P1 I n k) := by
  refine none_op I J E n k t h hR (I 0 16) _ _ (bk_152_0 _ _ _ _ _) ?_
  refine (bk_259_0 _ _ _ _ _).trans ?_
  rw [th0_u, th0_at I 32 (by omega), hv.2]
theorem op_count (env : am_E) (d : Nat) (I : Nat → Nat → Int32) (J : Nat → Nat → Int64) (E : Nat → Nat → Nat) (n k t h : Nat) (hR : R1 I n k t h) (hv : RT I) (x : Int32) : opR (fun H => am_ev env (d + 20, 119, 0, [some (.ref 0), some (.int x)], [], H)) (fun H => am_ev env (d + 20, 301, 0, [some (.ref 156), some (.int x)], [], H)) I J E (P1 I n k) := by
  obtain ⟨z, hz, z1, z2, -⟩ := hv
  have hlb := rS_lb I 12
  have e : ∀ j, j < 4 → I 5 j = I 158 j := fun j hj => (hlb.1 j hj).trans (hR.2.2.1 j (by unfold rel; omega))
  refine none_op I J E n k t h hR (bif decide (x = 0) then I 158 0 else bif decide (x = 1) then I 158 1 else bif decide (x = 2) then I 158 2 else bif decide (x = 3) then I 158 3 else bif decide (x = 4) then Int32.ofNat z else -1) _ _ ?_ ?_
  · refine (bk_119_0 _ _ _ _ _ _).trans ?_
    rw [e 0 (by omega), e 1 (by omega), e 2 (by omega), e 3 (by omega), z1]
    cases decide (x = 0) <;> cases decide (x = 1) <;> cases decide (x = 2) <;> cases decide (x = 3) <;> cases decide (x = 4) <;> rfl
  · refine (bk_301_0 _ _ _ _ _ _).trans ?_
    rw [th0_u, th0_158, th0_at I 2 (by omega), z2]
    cases decide (x = 0) <;> cases decide (x = 1) <;> cases decide (x = 2) <;> cases decide (x = 3) <;> cases decide (x = 4) <;> rfl
theorem m_upto (x : Int32) (z : Nat) (hz : z ≤ 100000) : bi (!(decide (x < 0)) && !(decide (Int32.ofNat z - 1 < x))) = bi (am_in x z) := by rw [zI_inb x z hz]
theorem op_wayAt (env : am_E) (d : Nat) (I : Nat → Nat → Int32) (J : Nat → Nat → Int64) (E : Nat → Nat → Nat) (n k t h : Nat) (hR : R1 I n k t h) (hv : RW I) (x : Int32) : opR (fun H => am_ev env (d + 20, 137, 0, [some (.ref 0), some (.int x)], [], H)) (fun H => am_ev env (d + 20, 247, 0, [some (.ref 156), some (.int x)], [], H)) I J E (P1 I n k) := by
  obtain ⟨z, hz, z1, z2, z3⟩ := hv
  rcases zI_tri x z (by omega) with ⟨h1, h2⟩ | ⟨j, hj, rfl⟩
  · refine none_op I J E n k t h hR (-1) _ _ ?_ ?_
    · simp only [bk_137_0, bk_137_27, bk_137_28, z1]
      rcases or_f h2 with g | g
      · rw [g]; rfl
      · rw [g]; cases decide (x < 0) <;> rfl
    · simp (disch := omega) only [bk_247_0, bk_247_16, bk_247_29, th0_u, th0_at, z2, m_isIn, m_upto, h1, bi_eq0, decide_true, decide_false, Bool.not_true, Bool.not_false, am_cont, Option.bind_some, Option.toList_some, Option.toList_none, List.singleton_append, List.nil_append, cond_true, cond_false]
  · have g1 : decide (Int32.ofNat j < 0) = false := zlt_f j 0 (by omega) (by omega)
    refine none_op I J E n k t h hR (I 107 j) _ _ ?_ ?_
    · simp (disch := omega) only [bk_137_0, bk_137_28, z1, g1, zle_f z j hj (by omega), zI_in, zI_nat, decide_true, decide_false, Bool.not_true, Bool.not_false, am_cont, Option.bind_some, Option.toList_some, Option.toList_none, List.singleton_append, List.nil_append, cond_true, cond_false]
    · simp (disch := omega) only [bk_247_0, bk_247_16, bk_247_29, th0_u, th0_at, z2, m_isIn, m_upto, zI_in, zI_nat, bi_eq0, decide_true, decide_false, Bool.not_true, Bool.not_false, am_cont, Option.bind_some, Option.toList_some, Option.toList_none, List.singleton_append, List.nil_append, cond_true, cond_false, th0_ne, z3 j hj]
theorem op_ringAt (env : am_E) (d : Nat) (I : Nat → Nat → Int32) (J : Nat → Nat → Int64) (E : Nat → Nat → Nat) (n k t h : Nat) (hR : R1 I n k t h) (hv : RRg I) (x : Int32) : opR (fun H => am_ev env (d + 20, 139, 0, [some (.ref 0), some (.int x)], [], H)) (fun H => am_ev env (d + 20, 250, 0, [some (.ref 156), some (.int x)], [], H)) I J E (P1 I n k) := by
  obtain ⟨z, hz, z1, z2, z3⟩ := hv
  rcases zI_tri x z (by omega) with ⟨h1, h2⟩ | ⟨j, hj, rfl⟩
  · refine none_op I J E n k t h hR (-1) _ _ ?_ ?_
    · simp only [bk_139_0, bk_139_27, bk_139_28, z1]
      rcases or_f h2 with g | g
      · rw [g]; rfl
      · rw [g]; cases decide (x < 0) <;> rfl
    · simp (disch := omega) only [bk_250_0, bk_250_16, bk_250_29, th0_u, th0_at, z2, m_isIn, m_upto, h1, bi_eq0, decide_true, decide_false, Bool.not_true, Bool.not_false, am_cont, Option.bind_some, Option.toList_some, Option.toList_none, List.singleton_append, List.nil_append, cond_true, cond_false]
  · have g1 : decide (Int32.ofNat j < 0) = false := zlt_f j 0 (by omega) (by omega)
    refine none_op I J E n k t h hR (I 108 j) _ _ ?_ ?_
    · simp (disch := omega) only [bk_139_0, bk_139_28, z1, g1, zle_f z j hj (by omega), zI_in, zI_nat, decide_true, decide_false, Bool.not_true, Bool.not_false, am_cont, Option.bind_some, Option.toList_some, Option.toList_none, List.singleton_append, List.nil_append, cond_true, cond_false]
    · simp (disch := omega) only [bk_250_0, bk_250_16, bk_250_29, th0_u, th0_at, z2, m_isIn, m_upto, zI_in, zI_nat, bi_eq0, decide_true, decide_false, Bool.not_true, Bool.not_false, am_cont, Option.bind_some, Option.toList_some, Option.toList_none, List.singleton_append, List.nil_append, cond_true, cond_false, th0_ne, z3 j hj]
theorem op_byteAt (env : am_E) (d : Nat) (I : Nat → Nat → Int32) (J : Nat → Nat → Int64) (E : Nat → Nat → Nat) (n k t h : Nat) (hR : R1 I n k t h) (hv : RSl I) (x : Int32) : opR (fun H => am_ev env (d + 20, 156, 0, [some (.ref 0), some (.int x)], [], H)) (fun H => am_ev env (d + 20, 270, 0, [some (.ref 156), some (.int x)], [], H)) I J E (P1 I n k) := by
  obtain ⟨z, hz, z1, z2, z3⟩ := hv
  rcases zI_tri x z (by omega) with ⟨h1, h2⟩ | ⟨j, hj, rfl⟩
  · refine none_op I J E n k t h hR (-1) _ _ ?_ ?_
    · simp only [bk_156_0, bk_156_27, bk_156_28, z1]
      rcases or_f h2 with g | g
      · rw [g]; rfl
      · rw [g]; cases decide (x < 0) <;> rfl
    · simp (disch := omega) only [bk_270_0, bk_270_16, bk_270_29, th0_u, th0_at, z2, m_isIn, m_upto, h1, bi_eq0, decide_true, decide_false, Bool.not_true, Bool.not_false, am_cont, Option.bind_some, Option.toList_some, Option.toList_none, List.singleton_append, List.nil_append, cond_true, cond_false]
  · have g1 : decide (Int32.ofNat j < 0) = false := zlt_f j 0 (by omega) (by omega)
    have g2 : decide ((40 : Int32) ≤ Int32.ofNat j) = false := zle_f 40 j (by omega) (by omega)
    refine none_op I J E n k t h hR (I 116 j) _ _ ?_ ?_
    · simp (disch := omega) only [bk_156_0, bk_156_28, z1, g1, g2, zle_f z j hj (by omega), zI_in, zI_nat, decide_true, decide_false, Bool.not_true, Bool.not_false, am_cont, Option.bind_some, Option.toList_some, Option.toList_none, List.singleton_append, List.nil_append, cond_true, cond_false]
    · simp (disch := omega) only [bk_270_0, bk_270_16, bk_270_29, th0_u, th0_at, z2, m_isIn, m_upto, zI_in, zI_nat, bi_eq0, decide_true, decide_false, Bool.not_true, Bool.not_false, am_cont, Option.bind_some, Option.toList_some, Option.toList_none, List.singleton_append, List.nil_append, cond_true, cond_false, th0_ne, z3 j hj]
theorem op_told (env : am_E) (d : Nat) (I : Nat → Nat → Int32) (J : Nat → Nat → Int64) (E : Nat → Nat → Nat) (n k t h : Nat) (hR : R1 I n k t h) (hv : RTo I) (x : Int32) : opR (fun H => am_ev env (d + 20, 163, 0, [some (.ref 0), some (.int x)], [], H)) (fun H => am_ev env (d + 20, 287, 0, [some (.ref 156), some (.int x)], [], H)) I J E (P1 I n k) := by
  have e3 : (3 : Int32) = Int32.ofNat 4 - 1 := by decide
  have hmi := fun d => m_isIn env d x 0 (Int32.ofNat 4 - 1) (th0 I) J E
  rw [← e3] at hmi
  have hup := m_upto x 4 (by omega)
  rw [← e3] at hup
  rcases zI_tri x 4 (by omega) with ⟨h1, h2⟩ | ⟨j, hj, rfl⟩
  · refine none_op I J E n k t h hR (-1) _ _ ?_ ?_
    · simp only [bk_163_0, bk_163_22, bk_163_23]
      rcases or_f h2 with g | g
      · rw [g]; rfl
      · rw [show decide ((4 : Int32) ≤ x) = true from g]; cases decide (x < 0) <;> rfl
    · rcases hv with ⟨v1, v2⟩ | ⟨v1, v2⟩
      · simp (disch := omega) only [bk_287_0, bk_287_30, bk_287_31, th0_u, th0_at, v1, zq_0_0, decide_true, decide_false, Bool.not_true, Bool.not_false, am_cont, Option.bind_some, Option.toList_some, Option.toList_none, List.singleton_append, List.nil_append, cond_true, cond_false]
      · simp (disch := omega) only [bk_287_0, bk_287_18, bk_287_30, bk_287_31, th0_u, th0_at, v1, zq_1_0, hmi, hup, h1, bi_eq0, decide_true, decide_false, Bool.not_true, Bool.not_false, am_cont, Option.bind_some, Option.toList_some, Option.toList_none, List.singleton_append, List.nil_append, cond_true, cond_false]
  · have g1 : decide (Int32.ofNat j < 0) = false := zlt_f j 0 (by omega) (by omega)
    have g2 : decide ((4 : Int32) ≤ Int32.ofNat j) = false := zle_f 4 j (by omega) (by omega)
    refine none_op I J E n k t h hR (I 115 j) _ _ ?_ ?_
    · simp (disch := omega) only [bk_163_0, bk_163_23, g1, g2, zI_in, zI_nat, decide_true, decide_false, Bool.not_true, Bool.not_false, am_cont, Option.bind_some, Option.toList_some, Option.toList_none, List.singleton_append, List.nil_append, cond_true, cond_false]
    · rcases hv with ⟨v1, v2⟩ | ⟨v1, v2⟩
      · simp (disch := omega) only [bk_287_0, bk_287_30, bk_287_31, th0_u, th0_at, v1, zq_0_0, decide_true, decide_false, Bool.not_true, Bool.not_false, am_cont, Option.bind_some, Option.toList_some, Option.toList_none, List.singleton_append, List.nil_append, cond_true, cond_false, v2 j hj]
      · simp (disch := omega) only [bk_287_0, bk_287_18, bk_287_31, th0_u, th0_at, v1, zq_1_0, hmi, hup, zI_in, zI_nat, bi_eq0, decide_true, decide_false, Bool.not_true, Bool.not_false, am_cont, Option.bind_some, Option.toList_some, Option.toList_none, List.singleton_append, List.nil_append, cond_true, cond_false, th0_ne, v2 j hj]
/-- but for the cells of X -/
def frX (X : Nat → Nat → Prop) (I I' : Nat → Nat → Int32) : Prop := ∀ q j, ¬ C1 q j → ¬ X q j → I' q j = I q j
def XT (q j : Nat) : Prop := q = 2 ∨ q = 3 ∨ (q = 156 ∧ j = 2) ∨ q = 157
def PT (I : Nat → Nat → Int32) (n k : Nat) (I2 : Nat → Nat → Int32) : Prop := (∃ t h, R1 I2 n k t h) ∧ RT I2 ∧ frX XT I I2
theorem op_end (env : am_E) (d : Nat) (I : Nat → Nat → Int32) (J : Nat → Nat → Int64) (E : Nat → Nat → Nat) (n k t h : Nat) (hR : R1 I n k t h) (hv : RT I) (x : Int32) : opR (fun H => am_ev env (d + 20, 116, 0, [some (.ref 0), some (.int x)], [], H)) (fun H => am_ev env (d + 20, 173, 0, [some (.ref 156), some (.int x)], [], H)) I J E (PT I n k) := by
  obtain ⟨z, hz, z1, z2, z3⟩ := id hv
  have keep : RT (th0 I) := ⟨z, hz, by rw [th0_ne I 2 (by omega)]; exact z1, by rw [th0_at I 2 (by omega)]; exact z2, fun j hj => by rw [th0_ne I 3 (by omega), th0_ne I 157 (by omega)]; exact z3 j hj⟩
  have none_ : ∀ cf mf : am_O, cf (am_hp I J E) = some (true, some (.int 0), am_hp I J E) → mf (am_hp I J E) = some (true, some (.int 0), am_hp (th0 I) J E) → opR cf mf I J E (PT I n k) := fun cf mf hc hm =>
    ⟨0, I, th0 I, hc, hm, ⟨t, h, R1_th0 I n k t h hR⟩, keep, fun q j hq _ => th0_fr I q j hq⟩
  by_cases hx : x < 0
  · refine none_ _ _ ?_ ?_
    · simp only [bk_116_0, bk_116_15, decide_eq_true hx, decide_true, decide_false, Bool.not_true, Bool.not_false, am_cont, Option.bind_some, Option.toList_some, Option.toList_none, List.singleton_append, List.nil_append, cond_true, cond_false]
    · simp only [bk_173_0, bk_173_17, th0_u, decide_eq_true hx, decide_true, decide_false, Bool.not_true, Bool.not_false, am_cont, Option.bind_some, Option.toList_some, Option.toList_none, List.singleton_append, List.nil_append, cond_true, cond_false]
  obtain ⟨e, hl⟩ := zI_of x (Int32.not_lt.mp hx)
  generalize x.toNatClampNeg = y at e hl
  subst e
  have g1 : decide (Int32.ofNat y < 0) = false := decide_eq_false hx
  by_cases hy : y ≤ z
  · refine ⟨1, am_ur I 2 (ru (I 2) 0 (Int32.ofNat y)), am_ur (th0 (am_ur I 2 (ru (I 2) 0 (Int32.ofNat y)))) 156 (ru (th0 (am_ur I 2 (ru (I 2) 0 (Int32.ofNat y))) 156) 2 (Int32.ofNat y)), ?_, ?_, ?_, ?_, ?_⟩
    · simp only [bk_116_0, g1, z1, zle_t y z hy (by omega), decide_true, decide_false, Bool.not_true, Bool.not_false, am_cont, Option.bind_some, Option.toList_some, Option.toList_none, List.singleton_append, List.nil_append, cond_true, cond_false, am_u_r]
    · simp (disch := omega) only [bk_173_0, g1, th0_u, th0_at, ur_ne, z2, zle_t y z hy (by omega), decide_true, decide_false, Bool.not_true, Bool.not_false, am_cont, Option.bind_some, Option.toList_some, Option.toList_none, List.singleton_append, List.nil_append, cond_true, cond_false]
      rw [am_u_r]
    · refine ⟨t, h, R1_ext I _ n k t h (fun q j hq => ?_) hR⟩
      by_cases h1 : q = 156
      · subst h1
        rw [ur_at, ru_ne _ _ _ _ (by unfold KR at hq; omega), th0_at _ _ (by unfold KR at hq; omega), ur_ne _ _ _ _ (by omega)]
      · rw [ur_ne _ _ _ _ h1, th0_ne _ _ h1, ur_ne _ _ _ _ (by unfold KR at hq; omega)]
    · refine ⟨y, by omega, ?_, ?_, ?_⟩
      · rw [ur_ne _ _ _ _ (by omega), th0_ne _ _ (by omega), ur_at, ru_eq]
      · rw [ur_at, ru_eq]
      · intro j hj
        rw [ur_ne _ _ _ _ (by omega), ur_ne _ 156 _ 157 (by omega), th0_ne _ _ (by omega), th0_ne _ 157 (by omega), ur_ne _ _ _ _ (by omega), ur_ne _ 2 _ 157 (by omega)]
        exact z3 j (by omega)
    · intro q j hq hX
      by_cases h1 : q = 156
      · subst h1
        rw [ur_at, ru_ne _ _ _ _ (by unfold XT at hX; omega), th0_at _ _ (by unfold C1 at hq; omega), ur_ne _ _ _ _ (by omega)]
      · rw [ur_ne _ _ _ _ h1, th0_ne _ _ h1, ur_ne _ _ _ _ (by unfold XT at hX; omega)]
  · refine none_ _ _ ?_ ?_
    · simp only [bk_116_0, bk_116_15, g1, z1, zle_f y z (by omega) hl, decide_true, decide_false, Bool.not_true, Bool.not_false, am_cont, Option.bind_some, Option.toList_some, Option.toList_none, List.singleton_append, List.nil_append, cond_true, cond_false]
    · simp (disch := omega) only [bk_173_0, bk_173_17, th0_u, th0_at, g1, z2, zle_f y z (by omega) hl, decide_true, decide_false, Bool.not_true, Bool.not_false, am_cont, Option.bind_some, Option.toList_some, Option.toList_none, List.singleton_append, List.nil_append, cond_true, cond_false]
