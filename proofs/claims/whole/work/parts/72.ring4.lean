/-! ring: class and reference side by side -/
theorem m_ringfind (env : am_E) (d : Nat) (n g k at_ : Nat) (hn : n ≤ 8) (hat : at_ < n) (M : Nat) (hM : M ≤ 8) (hk : k + 1 < M) (a T : Nat → Int32) (I : Nat → Nat → Int32) (J : Nat → Nat → Int64) (E : Nat → Nat → Nat) (hA : ∀ b, b < 8 → aft (I 158) b = a b) (hT : I 168 = T) (hM2 : I 156 29 = Int32.ofNat M) (x : Nat) (hx : x < n) (h1 : (bt (a at_) x && decide (T x = T at_ - 1)) = true) (h2 : ∀ y, y < x → (bt (a at_) y && decide (T y = T at_ - 1)) = false) : am_ev env (d + 4, 249, 66, [some (.ref 156), some (.int (Int32.ofNat g)), some (.int (Int32.ofNat at_)), some (.int (Int32.ofNat k)), some (.int 0)], [], am_hp I J E) = am_ev env (d + 4, 249, 113, [some (.ref 156), some (.int (Int32.ofNat g)), some (.int (Int32.ofNat at_)), some (.int (Int32.ofNat k)), some (.int (Int32.ofNat x))], [], am_hp I J E) := by
  have key : ∀ j i, i + j = x → am_ev env (d + 4, 249, 66, [some (.ref 156), some (.int (Int32.ofNat g)), some (.int (Int32.ofNat at_)), some (.int (Int32.ofNat k)), some (.int (Int32.ofNat i))], [], am_hp I J E) = am_ev env (d + 4, 249, 113, [some (.ref 156), some (.int (Int32.ofNat g)), some (.int (Int32.ofNat at_)), some (.int (Int32.ofNat k)), some (.int (Int32.ofNat x))], [], am_hp I J E) := by
    intro j
    induction j with
    | zero =>
      intro i hi
      have : i = x := by omega
      subst this
      obtain ⟨q1, q2⟩ := and_f h1
      refine (bk_249_66 _ _ _ _ _ _ _ _ _).trans ?_
      rw [hM2, zd_1, zle_f M (k + 1) hk (by omega)]
      simp (disch := omega) only [decide_true, decide_false, Bool.not_true, Bool.not_false, am_cont, Option.bind_some, Option.toList_some, Option.toList_none, List.singleton_append, List.nil_append, cond_true, cond_false, m_afters, hA, bk_249_81, m_has, q1, bk_249_86, bi_eq0, zI_in, zI_nat, hT, q2]
    | succ j ih =>
      intro i hi
      have h3 := h2 i (by omega)
      refine (bk_249_66 _ _ _ _ _ _ _ _ _).trans ?_
      rw [hM2, zd_1, zle_f M (k + 1) hk (by omega)]
      simp (disch := omega) only [decide_true, decide_false, Bool.not_true, Bool.not_false, am_cont, Option.bind_some, Option.toList_some, Option.toList_none, List.singleton_append, List.nil_append, cond_true, cond_false, m_afters, hA, bk_249_81, m_has, bk_249_86, bi_eq0, zI_in, zI_nat, hT]
      cases hq1 : bt (a at_) i with
      | false => simp only [decide_true, decide_false, Bool.not_true, Bool.not_false, am_cont, Option.bind_some, Option.toList_some, Option.toList_none, List.singleton_append, List.nil_append, cond_true, cond_false, bk_249_107, zd_1]; exact ih (i + 1) (by omega)
      | true =>
        rw [hq1, Bool.true_and] at h3
        rw [h3]
        simp only [decide_true, decide_false, Bool.not_true, Bool.not_false, am_cont, Option.bind_some, Option.toList_some, Option.toList_none, List.singleton_append, List.nil_append, cond_true, cond_false, bk_249_107, zd_1]; exact ih (i + 1) (by omega)
  exact key x 0 (by omega)
def MHp (I : Nat → Nat → Int32) (f : Nat → Int32) (k : Nat) : Nat → Nat → Int32 := am_ur I 169 (cpr (I 169) 0 k f)
theorem m_ring1 (env : am_E) (d : Nat) (n g L : Nat) (hn : n ≤ 8) (hg : g < n) (hL : L < n) (a r : Nat → Int32) (hSV : ∀ b, b < n → SV n a g (n - 1) r b) (hx : ∃ x, x < n ∧ bt (a g) x = true ∧ exl n a g L x) (hmin : ∀ e, e < L → ∀ x, x < n → bt (a g) x = true → lvb n a g e x = false) (I : Nat → Nat → Int32) (J : Nat → Nat → Int64) (E : Nat → Nat → Nat) (hA : ∀ b, b < 8 → aft (I 158) b = a b) (T : Nat → Nat) (hT : I 168 = trow (I 168) T) (hT2 : ∀ b, b < n → (∃ f, f ≤ 8 ∧ PMf n a g f b ∧ T b = f) ∨ ((∀ e y, y < n → bt (a b) y = true → lvb n a g e y = false) ∧ T b = 100000)) (hM : I 156 29 = Int32.ofNat (L + 1)) : am_ev env (d + 4, 249, 48, [some (.ref 156), some (.int (Int32.ofNat g)), some (.int (Int32.ofNat g)), some (.int (Int32.ofNat 0)), none], [], am_hp I J E) = some (true, some (.int (Int32.ofNat (L + 1))), am_hp (MHp I (fun i => Int32.ofNat (rsq n a r g L i)) (L + 1)) J E) := by
  have hPMg : PMf n a g (L + 1) g := by
    obtain ⟨x, x1, x2, x3⟩ := hx
    exact ⟨by omega, ⟨x, x1, x2, x3.1⟩, fun e he y hy hby => hmin e (by omega) y hy hby⟩
  have hTg : T g = L + 1 := by
    rcases hT2 g hg with ⟨f, f1, f2, f3⟩ | ⟨f1, f2⟩
    · rw [f3]; exact PMf_uniq f2 hPMg
    · obtain ⟨x, x1, x2, x3⟩ := hx
      have := f1 L x x1 x2; rw [x3.1] at this; cases this
  have hTex : ∀ b, b < n → ∀ f, 1 ≤ f → f ≤ L → (T b = f ↔ exl n a g f b) := by
    intro b hb f hf hfL
    by_cases hbg : b = g
    · subst hbg
      constructor
      · intro h; omega
      · intro h
        have := h.2 0 (by omega)
        rw [show lvb n a b 0 b = true from decide_eq_true rfl] at this; cases this
    · rcases hT2 b hb with ⟨f', f1, f2, f3⟩ | ⟨f1, f2⟩
      · rw [f3]
        constructor
        · rintro rfl; exact (PMf_exl hbg hf).mp f2
        · intro h; exact PMf_uniq f2 ((PMf_exl hbg hf).mpr h)
      · constructor
        · intro h; omega
        · intro h
          have h' : exl n a g (f - 1 + 1) b := by rw [show f - 1 + 1 = f by omega]; exact h
          obtain ⟨y, y1, y2, y3⟩ := exl_next h'
          have := f1 (f - 1) y y1 y2; rw [y3.1] at this; cases this
  have hTv : ∀ k, k ≤ L → T (rsq n a r g L k) = L + 1 - k := by
    intro k hk
    obtain ⟨i1, i2, -⟩ := rsq_P hn hg hL hSV hx k hk
    by_cases h0 : k = 0
    · subst h0; exact hTg
    · exact (hTex _ i1 (L + 1 - k) (by omega) (by omega)).mpr (i2 (by omega))
  have hTle : ∀ b, b < n → T b ≤ 100000 := by
    intro b hb
    rcases hT2 b hb with ⟨f, f1, f2, f3⟩ | ⟨f1, f2⟩ <;> omega
  have key : ∀ j k (o : Option Value), k + j = L + 1 → 1 ≤ j → am_ev env (d + 4, 249, 48, [some (.ref 156), some (.int (Int32.ofNat g)), some (.int (Int32.ofNat (rsq n a r g L k))), some (.int (Int32.ofNat k)), o], [], am_hp (MHp I (fun i => Int32.ofNat (rsq n a r g L i)) k) J E) = some (true, some (.int (Int32.ofNat (L + 1))), am_hp (MHp I (fun i => Int32.ofNat (rsq n a r g L i)) (L + 1)) J E) := by
    intro j
    induction j with
    | zero => intro k o h1 h2; omega
    | succ j ih =>
      intro k o h1 h2
      have hkL : k ≤ L := by omega
      obtain ⟨i1, i2, i3⟩ := rsq_P hn hg hL hSV hx k hkL
      have m29 : ∀ q, MHp I (fun i => Int32.ofNat (rsq n a r g L i)) q 156 29 = Int32.ofNat (L + 1) := fun q => by unfold MHp; rw [ur_ne _ _ _ _ (by omega)]; exact hM
      have mset : am_u (MHp I (fun i => Int32.ofNat (rsq n a r g L i)) k) 169 k (Int32.ofNat (rsq n a r g L k)) = MHp I (fun i => Int32.ofNat (rsq n a r g L i)) (k + 1) := by
        have hcs := cpr_succ (I 169) 0 k (fun i => Int32.ofNat (rsq n a r g L i))
        rw [Nat.zero_add] at hcs
        unfold MHp
        rw [am_u_r, ur_at, ur_ur, hcs]
      refine (bk_249_48 _ _ _ _ _ _ _ _ _).trans ?_
      rw [m29, zle_f (L + 1) k (by omega) (by omega)]
      simp (disch := omega) only [decide_true, decide_false, Bool.not_true, Bool.not_false, am_cont, Option.bind_some, Option.toList_some, Option.toList_none, List.singleton_append, List.nil_append, cond_true, cond_false, zI_in, zI_nat, mset]
      by_cases hlast : k = L
      · refine (bk_249_66 _ _ _ _ _ _ _ _ _).trans ?_
        rw [m29, zd_1, zle_t (L + 1) (k + 1) (by omega) (by omega), cond_true]
        refine (bk_249_113 _ _ _ _ _ _ _ _ _).trans ?_
        refine (bk_249_48 _ _ _ _ _ _ _ _ _).trans ?_
        rw [m29, zd_1, zle_t (L + 1) (k + 1) (by omega) (by omega), hlast]
        rfl
      · have hs := rsq_succ hn hg hL hSV hx k (by omega)
        rcases fwd_P (fun x => bt (a (rsq n a r g L k)) x && decide (r x = Int32.ofNat (L - k))) n 0 with ⟨x, x1, x2, x3, x4, x5⟩ | ⟨x1, x2⟩
        · have hxe : x = rsq n a r g L (k + 1) := by
            rw [hs] at x5
            have hi2 := (rsq_P hn hg hL hSV hx (k + 1) (by omega)).1
            have := (zI_eq (rsq n a r g L (k + 1)) x (by omega) (by omega)).mp x5
            exact this.symm
          have hTat : trow (I 168) T (rsq n a r g L k) - 1 = Int32.ofNat (L - k) := by
            rw [trow_at _ _ _ (by omega), hTv k hkL]
            exact (zI_sub (L + 1 - k) 1 (by omega)).trans (by rw [show L + 1 - k - 1 = L - k by omega])
          have hpred : ∀ y, y < n → (bt (a (rsq n a r g L k)) y && decide (trow (I 168) T y = trow (I 168) T (rsq n a r g L k) - 1)) = (bt (a (rsq n a r g L k)) y && decide (r y = Int32.ofNat (L - k))) := by
            intro y hy
            rw [hTat, trow_at _ _ _ (by omega)]
            have hyl := hTle y hy
            have e1 : (Int32.ofNat (T y) = Int32.ofNat (L - k)) = (r y = Int32.ofNat (L - k)) := by
              apply propext
              rw [zI_eq (T y) (L - k) (by omega) (by omega), SV_top hn hg hSV y hy (L - k) (by omega)]
              exact hTex y hy (L - k) (by omega) (by omega)
            have e2 : decide (Int32.ofNat (T y) = Int32.ofNat (L - k)) = decide (r y = Int32.ofNat (L - k)) := by
              by_cases hd : r y = Int32.ofNat (L - k)
              · rw [decide_eq_true hd, decide_eq_true (by rw [e1]; exact hd)]
              · rw [decide_eq_false hd, decide_eq_false (by rw [e1]; exact hd)]
            rw [e2]
          have hf := m_ringfind env d n g k (rsq n a r g L k) hn i1 (L + 1) (by omega) (by omega) a (trow (I 168) T) (MHp I (fun i => Int32.ofNat (rsq n a r g L i)) (k + 1)) J E (by unfold MHp; rw [ur_ne _ _ _ _ (by omega)]; exact hA) (by unfold MHp; rw [ur_ne _ _ _ _ (by omega)]; exact hT) (m29 _) x (by omega) (by rw [hpred x (by omega)]; exact x3) (fun y hy => by rw [hpred y (by omega)]; exact x4 y (by omega) hy)
          refine Eq.trans hf ?_
          refine (bk_249_113 _ _ _ _ _ _ _ _ _).trans ?_
          rw [zd_1, hxe]
          exact ih (k + 1) _ (by omega) (by omega)
        · rw [x2] at hs
          have hi2 := (rsq_P hn hg hL hSV hx (k + 1) (by omega)).1
          exact absurd hs (m1_ne _ (by omega))
  have := key (L + 1) 0 none (by omega) (by omega)
  have e0 : MHp I (fun i => Int32.ofNat (rsq n a r g L i)) 0 = I := by unfold MHp; rw [cpr_zero, ur_self]
  rw [e0] at this
  exact this
def XR (q j : Nat) : Prop := (q = 104 ∧ j = 6) ∨ q = 108 ∨ (q = 156 ∧ j = 29) ∨ q = 169
def PR (I : Nat → Nat → Int32) (n k : Nat) (I2 : Nat → Nat → Int32) : Prop := (∃ t h, R1 I2 n k t h) ∧ RRg I2 ∧ frX XR I I2
theorem op_ring (env : am_E) (d : Nat) (I : Nat → Nat → Int32) (J : Nat → Nat → Int64) (E : Nat → Nat → Nat) (n k t h : Nat) (hR : R1 I n k t h) (hv : RRg I) (x : Int32) : opR (fun H => am_ev env (d + 20, 138, 0, [some (.ref 0), some (.int x)], [], H)) (fun H => am_ev env (d + 20, 249, 0, [some (.ref 156), some (.int x), none, none, none], [], H)) I J E (PR I n k) := by
  obtain ⟨hn, hk, ht, hh, e1, e2, e3, f0, f2, g0, g2⟩ := R1_f I n k t h hR
  obtain ⟨r1, r2, r3, r4, r5⟩ := id hR
  have ha := low_aft r1
  have keep : ∀ I2, (∀ q j, KR q j → I2 q j = I q j) → fr1 I I2 → PR I n k I2 := by
    intro I2 h1 h2
    refine ⟨⟨t, h, R1_ext I I2 n k t h h1 hR⟩, ?_, fun q j hq _ => h2 q j hq⟩
    obtain ⟨z, z0, z1, z2, z3⟩ := hv
    refine ⟨z, z0, (h2 104 6 (by unfold C1; omega)).trans z1, (h2 156 29 (by unfold C1; omega)).trans z2, fun j hj => ?_⟩
    rw [h2 108 j (by unfold C1; omega), h2 169 j (by unfold C1; omega)]; exact z3 j hj
  have th0K : ∀ I1, (∀ q j, KR q j → I1 q j = I q j) → ∀ q j, KR q j → th0 I1 q j = I q j := by
    intro I1 h1 q j hq
    by_cases h2 : q = 156
    · subst h2; rw [th0_at _ _ (by unfold KR at hq; omega)]; exact h1 _ _ hq
    · rw [th0_ne _ _ h2]; exact h1 _ _ hq
  cases hx : am_in x n
  · refine ⟨-1, I, th0 I, ?_, ?_, keep _ (th0K I (fun _ _ _ => rfl)) (th0_fr I)⟩
    · simp only [bk_138_0, bk_138_11, c_hasBook env _ x I J E n hn f0, hx, bi_eq0, decide_true, decide_false, Bool.not_true, Bool.not_false, am_cont, Option.bind_some, Option.toList_some, Option.toList_none, List.singleton_append, List.nil_append, cond_true, cond_false]
    · simp only [bk_249_0, bk_249_10, th0_u, m_isBook env _ x (th0 I) J E n (by omega) (by rw [th0_158]; exact g0), hx, bi_eq0, decide_true, decide_false, Bool.not_true, Bool.not_false, am_cont, Option.bind_some, Option.toList_some, Option.toList_none, List.singleton_append, List.nil_append, cond_true, cond_false]
  obtain ⟨g, hg, -, rfl⟩ := zI_cases _ _ hx
  have hag : ∀ b, b < n → aft (rS I 12) b = aft (I 158) b := fun b hb => agr_aft r3 b hb
  have ct := c_takeF env (d + 17) n hn I J E f0
  have hor : Or (tk I n (aft (rS I 12))) n (aft (I 158)) := ⟨(tk_or I n _).1, fun b hb => ((tk_or I n _).2 b hb).trans (hag b hb)⟩
  have i158 : tk I n (aft (rS I 12)) 158 = I 158 := tk_ne _ _ _ _ (by omega)
  have iKR := fun q j => tk_KR I n (aft (rS I 12)) q j
  have ifr := tk_fr I n (aft (rS I 12))
  have i168 : tk I n (aft (rS I 12)) 168 = I 168 := tk_ne _ _ _ _ (by omega)
  have i156 : tk I n (aft (rS I 12)) 156 = I 156 := tk_ne _ _ _ _ (by omega)
  generalize hI0 : tk I n (aft (rS I 12)) = I0 at ct hor i158 iKR ifr i168 i156
  obtain ⟨r, hSV, hcase⟩ := c_findRing env (d + 15) n g hn hg (aft (I 158)) ha I0 J E hor
  have hP := rxs_P (n := n) (a := aft (I 158)) (g := g) hn hg
  have hlay := fun I1 (h1 : I1 158 = I 158) => m_layFar env (d + 15) n g hn hg (th0 I1) J E (by rw [th0_158, h1]; exact g0)
  have hlay2 : ∀ I1, I1 158 = I 158 → am_ev env (d + 15 + 4, 248, 0, [some (.ref 156), some (.int (Int32.ofNat g)), none, none, none], [], am_hp (th0 I1) J E) = some (true, none, am_hp (am_ur (th0 I1) 168 (trow (I1 168) (rxs (aft (I 158)) n (t0 (aft (I 158)) g)))) J E) := by
    intro I1 h1
    have := hlay I1 h1
    rw [th0_158, h1, th0_ne I1 168 (by omega)] at this
    exact this
  have hmB := fun I1 (h1 : I1 158 = I 158) d => m_isBook env d (Int32.ofNat g) (th0 I1) J E n (by omega) (by rw [th0_158, h1]; exact g0)
  generalize hT : rxs (aft (I 158)) n (t0 (aft (I 158)) g) = T at hP hlay2
  rcases hcase with ⟨L, hL, hx0, hmin, hev⟩ | ⟨hno, hev⟩
  · have hTg : T g = L + 1 := by
      rcases hP g hg with ⟨f, q1, q2, q3⟩ | ⟨q1, q2⟩
      · rw [q3]
        obtain ⟨y, y1, y2, y3⟩ := hx0
        exact PMf_uniq q2 ⟨by omega, ⟨y, y1, y2, y3.1⟩, fun e he z hz hbz => hmin e (by omega) z hz hbz⟩
      · obtain ⟨y, y1, y2, y3⟩ := hx0
        have := q1 L y y1 y2; rw [y3.1] at this; cases this
    have k6 : RHp (am_ur I0 106 r) (fun i => Int32.ofNat (rsq n (aft (I 158)) r g L i)) (L + 1) 104 6 = Int32.ofNat (L + 1) := by
      unfold RHp; rw [ur_ne _ _ _ _ (by omega), ur_at, ru_eq]
    have kq : ∀ q, q ≠ 104 → q ≠ 106 → q ≠ 108 → RHp (am_ur I0 106 r) (fun i => Int32.ofNat (rsq n (aft (I 158)) r g L i)) (L + 1) q = I0 q := by
      intro q h1 h2 h3
      unfold RHp; rw [ur_ne _ _ _ _ h3, ur_ne _ _ _ _ h1, ur_ne _ _ _ _ h2]
    have k104 : ∀ j, j ≠ 6 → RHp (am_ur I0 106 r) (fun i => Int32.ofNat (rsq n (aft (I 158)) r g L i)) (L + 1) 104 j = I0 104 j := by
      intro j hj
      unfold RHp; rw [ur_ne _ _ _ _ (by omega), ur_at, ru_ne _ _ _ _ hj, ur_ne _ _ _ _ (by omega)]
    have k108 : RHp (am_ur I0 106 r) (fun i => Int32.ofNat (rsq n (aft (I 158)) r g L i)) (L + 1) 108 = cpr (I0 108) 0 (L + 1) (fun i => Int32.ofNat (rsq n (aft (I 158)) r g L i)) := by
      unfold RHp; rw [ur_at, ur_ne _ _ _ _ (by omega)]
    generalize hI1 : RHp (am_ur I0 106 r) (fun i => Int32.ofNat (rsq n (aft (I 158)) r g L i)) (L + 1) = I1 at hev k6 kq k104 k108
    have j158 : I1 158 = I 158 := (kq 158 (by omega) (by omega) (by omega)).trans i158
    have htr : ∀ v, am_u (am_ur (th0 I1) 168 (trow (I1 168) T)) 156 29 v = am_ur (am_u (th0 I1) 156 29 v) 168 (trow (I1 168) T) := by
      intro v
      rw [am_u_r, am_u_r, ur_ne _ _ _ _ (by omega), ur_comm _ 168 156 _ _ (by omega)]
    have mr := m_ring1 env (d + 16) n g L hn hg hL (aft (I 158)) r hSV hx0 hmin (am_ur (am_u (th0 I1) 156 29 (Int32.ofNat (L + 1))) 168 (trow (I1 168) T)) J E (by rw [ur_ne _ _ _ _ (by omega), am_u_nr _ _ _ _ _ (by omega), th0_158, j158]; exact fun _ _ => rfl) T (by
      rw [ur_at]
      funext q
      by_cases hq : q < 8
      · rw [trow_at _ _ q hq, trow_at _ _ q hq]
      · unfold trow; rw [cpr_out (cpr _ _ _ _) _ _ _ _ (by omega)]) hP (by rw [ur_ne _ _ _ _ (by omega), am_u_at])
    refine ⟨Int32.ofNat (L + 1), I1, MHp (am_ur (am_u (th0 I1) 156 29 (Int32.ofNat (L + 1))) 168 (trow (I1 168) T)) (fun i => Int32.ofNat (rsq n (aft (I 158)) r g L i)) (L + 1), ?_, ?_, ?_⟩
    · simp (disch := omega) only [bk_138_0, bk_138_11, bk_138_40, bk_138_48, bk_138_62, c_hasBook env _ (Int32.ofNat g) I J E n hn f0, zI_in, bi_t, zq_1_0, decide_true, decide_false, Bool.not_true, Bool.not_false, am_cont, Option.bind_some, Option.toList_some, Option.toList_none, List.singleton_append, List.nil_append, cond_true, cond_false, ct, hev, k6]
    · show am_ev env (d + 20, 249, 0, [some (.ref 156), some (.int (Int32.ofNat g)), none, none, none], [], am_hp I1 J E) = _
      simp (disch := omega) only [bk_249_0, bk_249_10, bk_249_20, th0_u, hmB I1 j158, zI_in, zI_nat, bi_t, zq_1_0, decide_true, decide_false, Bool.not_true, Bool.not_false, am_cont, Option.bind_some, Option.toList_some, Option.toList_none, List.singleton_append, List.nil_append, cond_true, cond_false, hlay2 I1 j158, ur_at, trow_at, hTg]
      rw [show decide (Int32.ofNat (L + 1) < (100000 : Int32)) = true from zlt_t (L + 1) 100000 (by omega) (by omega), cond_true, htr]
      exact mr
    · have fin : ∀ q j, ¬ (q = 156 ∧ (j = 0 ∨ j = 29)) → q ≠ 168 → q ≠ 169 → MHp (am_ur (am_u (th0 I1) 156 29 (Int32.ofNat (L + 1))) 168 (trow (I1 168) T)) (fun i => Int32.ofNat (rsq n (aft (I 158)) r g L i)) (L + 1) q j = I1 q j := by
        intro q j h1 h2 h3
        unfold MHp
        rw [ur_ne _ _ _ _ h3, ur_ne _ _ _ _ h2, am_u_d]
        by_cases h4 : q = 156
        · subst h4; rw [if_pos rfl, if_neg (by omega), th0_at _ _ (by omega)]
        · rw [if_neg h4, th0_ne _ _ h4]
      refine ⟨⟨t, h, R1_ext I _ n k t h (fun q j hq => ?_) hR⟩, ?_, fun q j hq hX => ?_⟩
      · rw [fin q j (by unfold KR at hq; omega) (by unfold KR at hq; omega) (by unfold KR at hq; omega), kq q (by unfold KR at hq; omega) (by unfold KR at hq; omega) (by unfold KR at hq; omega)]
        exact iKR q j hq
      · refine ⟨L + 1, by omega, ?_, ?_, fun j hj => ?_⟩
        · rw [fin 104 6 (by omega) (by omega) (by omega)]; exact k6
        · unfold MHp; rw [ur_ne _ _ _ _ (by omega), ur_ne _ _ _ _ (by omega), am_u_at]
        · rw [fin 108 j (by omega) (by omega) (by omega), k108]
          unfold MHp
          rw [ur_at]
          have c1 := cpr_in (I0 108) 0 (L + 1) (fun i => Int32.ofNat (rsq n (aft (I 158)) r g L i)) j hj
          have c2 := cpr_in (am_ur (am_u (th0 I1) 156 29 (Int32.ofNat (L + 1))) 168 (trow (I1 168) T) 169) 0 (L + 1) (fun i => Int32.ofNat (rsq n (aft (I 158)) r g L i)) j hj
          rw [Nat.zero_add] at c1 c2
          rw [c1, c2]
      · rw [fin q j (by unfold C1 at hq; unfold XR at hX; omega) (by unfold C1 at hq; omega) (by unfold XR at hX; omega)]
        by_cases h1 : q = 104
        · subst h1; rw [k104 j (by unfold XR at hX; omega)]; exact ifr _ _ hq
        · rw [kq q h1 (by unfold C1 at hq; omega) (by unfold XR at hX; omega)]; exact ifr _ _ hq
  · have hTg : T g = 100000 := by
      rcases hP g hg with ⟨f, q1, ⟨q2, ⟨y, y1, y2, y3⟩, q4⟩, q5⟩ | ⟨q1, q2⟩
      · have := hno (f - 1) y y1 y2; rw [y3] at this; cases this
      · exact q2
    have j158 : am_ur I0 106 r 158 = I 158 := by rw [ur_ne _ _ _ _ (by omega)]; exact i158
    have jKR : ∀ q j, KR q j → am_ur I0 106 r q j = I q j := fun q j hq => by rw [ur_ne _ _ _ _ (by unfold KR at hq; omega)]; exact iKR q j hq
    have jfr : fr1 I (am_ur I0 106 r) := fun q j hq => by rw [ur_ne _ _ _ _ (by unfold C1 at hq; omega)]; exact ifr q j hq
    generalize am_ur I0 106 r = I1 at hev j158 jKR jfr
    refine ⟨-1, I1, am_ur (th0 I1) 168 (trow (I1 168) T), ?_, ?_, keep _ (fun q j hq => ?_) (fun q j hq => ?_)⟩
    · simp (disch := omega) only [bk_138_0, bk_138_11, bk_138_40, bk_138_48, bk_138_62, c_hasBook env _ (Int32.ofNat g) I J E n hn f0, zI_in, bi_t, zq_1_0, zq_0_0, decide_true, decide_false, Bool.not_true, Bool.not_false, am_cont, Option.bind_some, Option.toList_some, Option.toList_none, List.singleton_append, List.nil_append, cond_true, cond_false, ct, hev]
    · show am_ev env (d + 20, 249, 0, [some (.ref 156), some (.int (Int32.ofNat g)), none, none, none], [], am_hp I1 J E) = _
      simp (disch := omega) only [bk_249_0, bk_249_10, bk_249_20, th0_u, hmB I1 j158, zI_in, zI_nat, bi_t, zq_1_0, decide_true, decide_false, Bool.not_true, Bool.not_false, am_cont, Option.bind_some, Option.toList_some, Option.toList_none, List.singleton_append, List.nil_append, cond_true, cond_false, hlay2 I1 j158, ur_at, trow_at, hTg]
      rw [show decide (Int32.ofNat 100000 < (100000 : Int32)) = false by decide]
      rfl
    · rw [ur_ne _ _ _ _ (by unfold KR at hq; omega)]; exact th0K I1 jKR q j hq
    · rw [ur_ne _ _ _ _ (by unfold C1 at hq; omega), th0_fr I1 q j hq]; exact jfr q j hq
