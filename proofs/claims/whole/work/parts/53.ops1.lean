/-! acts, days, undo: class and reference side by side -/
abbrev am_O : Type := am_H → Option (Bool × Option Value × am_H)
/-- both answer alike, and P holds of what is so then -/
def opR (cf mf : am_O) (I : Nat → Nat → Int32) (J : Nat → Nat → Int64) (E : Nat → Nat → Nat) (P : (Nat → Nat → Int32) → Prop) : Prop := ∃ v I1 I2, cf (am_hp I J E) = some (true, some (.int v), am_hp I1 J E) ∧ mf (am_hp I1 J E) = some (true, some (.int v), am_hp I2 J E) ∧ P I2
/-- the cells of nothing but state, history and what is used but once -/
def C1 (q j : Nat) : Prop := ¬ (q = 0 ∨ q = 2 ∨ q = 3 ∨ (5 ≤ q ∧ q ≤ 11) ∨ (18 ≤ q ∧ q ≤ 21) ∨ (q = 104 ∧ (j = 4 ∨ j = 6)) ∨ q = 107 ∨ q = 108 ∨ (q = 109 ∧ j = 1) ∨ q = 110 ∨ q = 115 ∨ q = 116 ∨ (118 ≤ q ∧ q ≤ 155) ∨ (q = 156 ∧ (j = 2 ∨ j = 10 ∨ j = 26 ∨ j = 29 ∨ j = 30 ∨ j = 31 ∨ j = 32 ∨ j = 38 ∨ j = 39 ∨ j = 41 ∨ j = 46)) ∨ q = 157 ∨ (q = 158 ∧ (j < 34 ∨ 70 ≤ j)) ∨ q = 160 ∨ q = 166 ∨ q = 167 ∨ q = 169 ∨ q = 172 ∨ q = 174 ∨ q = 176)
def fr1 (I I' : Nat → Nat → Int32) : Prop := ∀ q j, ¬ C1 q j → I' q j = I q j
def P1 (I : Nat → Nat → Int32) (n k : Nat) (I2 : Nat → Nat → Int32) : Prop := (∃ t h, R1 I2 n k t h) ∧ fr1 I I2
theorem hd_q (I : Nat → Nat → Int32) (t q : Nat) (ht : t < 9) (h : q < 45 ∨ 98 < q) : hd I t q = I q := ps_ne _ _ _ _ (by omega)
theorem cA_hi (I : Nat → Nat → Int32) (t h : Nat) (ht : t < 9) (w : Int32) (m : Nat → Int32) (q : Nat) (hq : 98 < q) : cA I t h w m q = I q := by
  unfold cA
  cases decide (w = 0)
  · exact hd_q I t q ht (by omega)
  · show kp (pS (hd I t) 12 m) t h q = I q
    unfold kp
    rw [ur_ne _ _ _ _ (by omega), ps_ne _ _ _ _ (by omega), hd_q I t q ht (by omega)]
theorem cA_lo (I : Nat → Nat → Int32) (t h : Nat) (ht : t < 9) (w : Int32) (m : Nat → Int32) (q : Nat) (hq : q < 12 ∨ (17 < q ∧ q < 43)) : cA I t h w m q = I q := by
  unfold cA
  cases decide (w = 0)
  · exact hd_q I t q ht (by omega)
  · show kp (pS (hd I t) 12 m) t h q = I q
    unfold kp
    rw [ur_ne _ _ _ _ (by omega), ps_ne _ _ _ _ (by omega), hd_q I t q ht (by omega)]
theorem th0_fr (I : Nat → Nat → Int32) : fr1 I (th0 I) := by
  intro q j hq
  by_cases h : q = 156
  · subst h; exact th0_at I j (fun e => hq (by unfold C1; omega))
  · rw [th0_ne I q h]
theorem mA_fr (I : Nat → Nat → Int32) (h : Nat) (w : Int32) (m : Nat → Int32) (hm : ∀ j, (j < 34 ∨ 70 ≤ j) → m j = I 158 j) : fr1 I (mA I h w m) := by
  intro q j hq
  unfold mA
  cases decide (w = 0)
  · exact th0_fr I q j hq
  · show am_ur (mS I h) 158 m q j = I q j
    by_cases h1 : q = 158
    · subst h1; rw [ur_at]; exact hm j (by unfold C1 at hq; omega)
    · rw [ur_ne _ _ _ _ h1]
      unfold mS
      rw [ur_ne _ _ _ _ (fun e => hq (by unfold C1; omega))]
      by_cases h2 : q = 156
      · subst h2; rw [ur_at, ru_ne _ _ _ _ (fun e => hq (by unfold C1; omega))]; exact th0_fr I _ j hq
      · rw [ur_ne _ _ _ _ h2]; exact th0_fr I q j hq
theorem R1_th0 (I : Nat → Nat → Int32) (n k t h : Nat) (hR : R1 I n k t h) : R1 (th0 I) n k t h := by
  obtain ⟨r1, r2, r3, ⟨r4, r5, r6, r7, r8⟩, r9⟩ := hR
  have gs : ∀ i, snp (th0 I) i = snp I i := by
    intro i; funext j; unfold snp; rw [th0_158, th0_ne I 161 (by omega)]
  have ht : ∀ p, p ≤ 98 → rS (th0 I) p = rS I p := fun p hp => rS_congr I _ p (fun q hq => th0_ne I q (by omega))
  refine ⟨by rw [th0_158]; exact r1, by rw [th0_158]; exact r2, by rw [th0_158, ht 12 (by omega)]; exact r3, ⟨r4, r5, by rw [th0_ne I 43 (by omega)]; exact r6, by rw [th0_ne I 43 (by omega)]; exact r7, by rw [th0_at I 24 (by omega)]; exact r8⟩, ?_⟩
  intro i hi
  have := Nat.mod_lt (t + 9 - h + i) (by omega : 9 > 0)
  rw [gs, ht _ (by omega)]
  exact r9 i hi
theorem act_op (I : Nat → Nat → Int32) (J : Nat → Nat → Int64) (E : Nat → Nat → Nat) (n k t h : Nat) (hR : R1 I n k t h) (v w : Int32) (m1 m2 : Nat → Int32) (hlow1 : ∀ j, j < 34 → m1 j = rS I 12 j) (hlow2 : ∀ j, (j < 34 ∨ 70 ≤ j) → m2 j = I 158 j) (hA : w = 0 → Agr n k m1 m2) (hi : w = 0 → IvS m2 n k) (cf mf : am_O) (hc : cf (am_hp I J E) = some (true, some (.int v), am_hp (cA I t h w m1) J E)) (hm : ∀ I', I' 158 = I 158 → I' 156 = I 156 → mf (am_hp I' J E) = some (true, some (.int v), am_hp (mA I' h w m2) J E)) : opR cf mf I J E (P1 I n k) := by
  have ht := hR.2.2.2.1.1
  refine ⟨v, cA I t h w m1, mA (cA I t h w m1) h w m2, hc, hm _ (cA_hi I t h ht w m1 158 (by omega)) (cA_hi I t h ht w m1 156 (by omega)), ?_, ?_⟩
  · exact R1_act I n k t h hR w m1 m2 hlow1 (fun j hj => hlow2 j (Or.inl hj)) hA hi
  · intro q j hq
    rw [mA_fr (cA I t h w m1) h w m2 (fun j hj => by rw [cA_hi I t h ht w m1 158 (by omega)]; exact hlow2 j hj) q j hq]
    by_cases h1 : q < 43
    · rw [cA_lo I t h ht w m1 q (by unfold C1 at hq; omega)]
    · rw [cA_hi I t h ht w m1 q (by unfold C1 at hq; omega)]
theorem none_op (I : Nat → Nat → Int32) (J : Nat → Nat → Int64) (E : Nat → Nat → Nat) (n k t h : Nat) (hR : R1 I n k t h) (v : Int32) (cf mf : am_O) (hc : cf (am_hp I J E) = some (true, some (.int v), am_hp I J E)) (hm : mf (am_hp I J E) = some (true, some (.int v), am_hp (th0 I) J E)) : opR cf mf I J E (P1 I n k) :=
  ⟨v, I, th0 I, hc, hm, ⟨t, h, R1_th0 I n k t h hR⟩, th0_fr I⟩
/-- what is used of R1 again and again -/
theorem R1_f (I : Nat → Nat → Int32) (n k t h : Nat) (hR : R1 I n k t h) : n ≤ 8 ∧ k ≤ 6 ∧ t < 9 ∧ h ≤ 8 ∧ I 43 1 = Int32.ofNat t ∧ I 43 2 = Int32.ofNat h ∧ I 156 24 = Int32.ofNat h ∧ I 5 0 = Int32.ofNat n ∧ I 5 2 = Int32.ofNat k ∧ I 158 0 = Int32.ofNat n ∧ I 158 2 = Int32.ofNat k := by
  obtain ⟨r1, r2, r3, ⟨r4, r5, r6, r7, r8⟩, r9⟩ := hR
  have hlb := rS_lb I 12
  refine ⟨r1.1.2, r1.2.1.2, r4, r5, r6, r7, r8, ?_, ?_, r1.1.1, r1.2.1.1⟩
  · rw [hlb.1 0 (by omega), r3 0 (by unfold rel; omega)]; exact r1.1.1
  · rw [hlb.1 2 (by omega), r3 2 (by unfold rel; omega)]; exact r1.2.1.1
theorem and_f {a b : Bool} (h : (a && b) = true) : a = true ∧ b = true := by cases a <;> cases b <;> simp_all
theorem ru_lo (m : Nat → Int32) (k : Nat) (x : Int32) (h : 34 ≤ k ∧ k < 70) (j : Nat) (hj : j < 34 ∨ 70 ≤ j) : ru m k x j = m j := ru_ne _ _ _ _ (by omega)
theorem lLend_lo (m : Nat → Int32) (r b : Nat) (hr : r < 6) (hb : b < 8) (j : Nat) (hj : j < 34 ∨ 70 ≤ j) : lLend m r b j = m j := by
  unfold lLend; rw [ru_lo _ _ _ (by omega) _ hj, ru_lo _ _ _ (by omega) _ hj, ru_lo _ _ _ (by omega) _ hj]
theorem lLeave_lo (m : Nat → Int32) (r b : Nat) (hr : r < 6) (hb : b < 8) (j : Nat) (hj : j < 34 ∨ 70 ≤ j) : lLeave m r b j = m j := by
  unfold lLeave; rw [ru_lo _ _ _ (by omega) _ hj, ru_lo _ _ _ (by omega) _ hj, ru_lo _ _ _ (by omega) _ hj]
theorem lLearn_lo (m : Nat → Int32) (r b : Nat) (hr : r < 6) (j : Nat) (hj : j < 34 ∨ 70 ≤ j) : lLearn m r b j = m j := by
  unfold lLearn; rw [ru_lo _ _ _ (by omega) _ hj, ru_lo _ _ _ (by omega) _ hj]
theorem lBack_lo (m : Nat → Int32) (r b : Nat) (hr : r < 6) (hb : b < 8) (j : Nat) (hj : j < 34 ∨ 70 ≤ j) : lBack m r b j = m j := by
  unfold lBack; rw [ru_lo _ _ _ (by omega) _ hj, lLeave_lo m r b hr hb j hj]
theorem op_lend (env : am_E) (d : Nat) (I : Nat → Nat → Int32) (J : Nat → Nat → Int64) (E : Nat → Nat → Nat) (n k t h : Nat) (hR : R1 I n k t h) (a x : Int32) : opR (fun H => am_ev env (d + 20, 123, 0, [some (.ref 0), some (.int a), some (.int x)], [], H)) (fun H => am_ev env (d + 20, 232, 0, [some (.ref 156), some (.int a), some (.int x)], [], H)) I J E (P1 I n k) := by
  obtain ⟨hn, hk, ht, hh, e1, e2, e3, f0, f2, g0, g2⟩ := R1_f I n k t h hR
  obtain ⟨r1, r2, r3, r4, r5⟩ := id hR
  cases hc : (am_in a k && am_in x n)
  · exact none_op I J E n k t h hR (-1) _ _ (c_lend0 env d n k a x hn hk I J E f0 f2 hc) (m_lend0 env d n k a x hn hk I J E g0 g2 hc)
  · obtain ⟨h1, h2⟩ := and_f hc
    obtain ⟨r, hr, -, rfl⟩ := zI_cases _ _ h1
    obtain ⟨b, hb, -, rfl⟩ := zI_cases _ _ h2
    have hw : cwLend (rS I 12) r b = wLend (I 158) r b := (agr_cwLend r3 r b (by omega) hb).trans (cwLend_eq r2 hb)
    refine act_op I J E n k t h hR (wLend (I 158) r b) (wLend (I 158) r b) (lLend (rS I 12) r b) (lLend (I 158) r b) (fun j hj => lLend_lo _ _ _ (by omega) (by omega) j (Or.inl hj)) (fun j hj => lLend_lo _ _ _ (by omega) (by omega) j hj) (fun _ => agr_lLend r3 r b hb) (fun h0 => IvS_lend r1 r2 hr hb h0) _ _ ?_ ?_
    · have := c_lend1 env d t h n k r b hr hb hn hk ht hh I J E e1 e2 f0 f2
      rw [hw] at this; exact this
    · intro I' i1 i2
      have := m_lend1 env d h n k r b hr hb hn hk hh I' J E (by rw [i2]; exact e3) (by rw [i1]; exact g0) (by rw [i1]; exact g2)
      rw [i1] at this; exact this
theorem has_or {m : Nat → Int32} {n k r : Nat} (hn : n ≤ 8) (hi : IvS m n k) (hr : r < 6) : m (46 + r) = -1 ∨ ∃ b, b < 8 ∧ m (46 + r) = Int32.ofNat b := by
  rcases (hi.2.2.2 r hr).1 with ⟨h, _⟩ | ⟨_, b, hb, h, _⟩
  · exact Or.inl h
  · exact Or.inr ⟨b, by omega, h⟩
theorem op_back (env : am_E) (d : Nat) (I : Nat → Nat → Int32) (J : Nat → Nat → Int64) (E : Nat → Nat → Nat) (n k t h : Nat) (hR : R1 I n k t h) (a : Int32) : opR (fun H => am_ev env (d + 20, 124, 0, [some (.ref 0), some (.int a)], [], H)) (fun H => am_ev env (d + 20, 233, 0, [some (.ref 156), some (.int a)], [], H)) I J E (P1 I n k) := by
  obtain ⟨hn, hk, ht, hh, e1, e2, e3, f0, f2, g0, g2⟩ := R1_f I n k t h hR
  obtain ⟨r1, r2, r3, r4, r5⟩ := id hR
  cases hc : am_in a k
  · exact none_op I J E n k t h hR (-1) _ _ (c_back0 env d n k a hn hk I J E f0 f2 hc) (m_back0 env d n k a hn hk I J E g0 g2 hc)
  · obtain ⟨r, hr, -, rfl⟩ := zI_cases _ _ hc
    have h46 : rS I 12 (46 + r) = I 158 (46 + r) := r3 _ (by unfold rel; omega)
    have hb8 : (I 158 (46 + r)).toNatClampNeg < 8 := by
      rcases has_or hn r2 (by omega : r < 6) with e | ⟨b, hb, e⟩
      · rw [e]; decide
      · rw [e, zI_nat b (by omega)]; exact hb
    refine act_op I J E n k t h hR (bi (decide (I 158 (46 + r) = -1))) (bi (decide (I 158 (46 + r) = -1))) (lBack (rS I 12) r (I 158 (46 + r)).toNatClampNeg) (lBack (I 158) r (I 158 (46 + r)).toNatClampNeg) (fun j hj => lBack_lo _ _ _ (by omega) hb8 j (Or.inl hj)) (fun j hj => lBack_lo _ _ _ (by omega) hb8 j hj) ?_ ?_ _ _ ?_ ?_
    · intro h0
      rcases (r2.2.2.2 r (by omega)).1 with ⟨e, _⟩ | ⟨_, b, hb, e, _⟩
      · rw [decide_eq_true e] at h0; exact absurd h0 (by decide)
      · rw [e, zI_nat b (by omega)]; exact agr_lBack r3 r b (by omega) hb
    · intro h0
      rcases (r2.2.2.2 r (by omega)).1 with ⟨e, _⟩ | ⟨_, b, hb, e, _⟩
      · rw [decide_eq_true e] at h0; exact absurd h0 (by decide)
      · rw [e, zI_nat b (by omega)]; exact IvS_back r1 r2 hr hb e
    · have := c_back1 env d t h n k r hr hn hk ht hh I J E e1 e2 f0 f2 (by rw [h46]; exact has_or hn r2 (by omega))
      rw [h46] at this; exact this
    · intro I' i1 i2
      have := m_back1 env d h n k r hr hn hk hh I' J E (by rw [i2]; exact e3) (by rw [i1]; exact g0) (by rw [i1]; exact g2) (by rw [i1]; exact has_or hn r2 (by omega))
      rw [i1] at this; exact this
theorem op_tell (env : am_E) (d : Nat) (I : Nat → Nat → Int32) (J : Nat → Nat → Int64) (E : Nat → Nat → Nat) (n k t h : Nat) (hR : R1 I n k t h) (a x z : Int32) : opR (fun H => am_ev env (d + 20, 125, 0, [some (.ref 0), some (.int a), some (.int x), some (.int z), none], [], H)) (fun H => am_ev env (d + 20, 234, 0, [some (.ref 156), some (.int a), some (.int x), some (.int z)], [], H)) I J E (P1 I n k) := by
  obtain ⟨hn, hk, ht, hh, e1, e2, e3, f0, f2, g0, g2⟩ := R1_f I n k t h hR
  obtain ⟨r1, r2, r3, r4, r5⟩ := id hR
  cases hc : (am_in a k && am_in x n && am_in z k)
  · exact none_op I J E n k t h hR (-1) _ _ (c_tell0 env d n k a x z hn hk I J E f0 f2 hc) (m_tell0 env d n k a x z hn hk I J E g0 g2 hc)
  · obtain ⟨h12, h3⟩ := and_f hc
    obtain ⟨h1, h2⟩ := and_f h12
    obtain ⟨r, hr, -, rfl⟩ := zI_cases _ _ h1
    obtain ⟨b, hb, -, rfl⟩ := zI_cases _ _ h2
    obtain ⟨q, hq, -, rfl⟩ := zI_cases _ _ h3
    have hw : wTell (rS I 12) r b q = wTell (I 158) r b q := agr_wTell r3 r b q (by omega) (by omega) hb
    refine act_op I J E n k t h hR (wTell (I 158) r b q) (wTell (I 158) r b q) (lLearn (rS I 12) q b) (lLearn (I 158) q b) (fun j hj => lLearn_lo _ _ _ (by omega) j (Or.inl hj)) (fun j hj => lLearn_lo _ _ _ (by omega) j hj) (fun _ => agr_lLearn r3 q b (by omega)) (fun h0 => IvS_learn r1 r2 hq hb (wTell_0 h0).2) _ _ ?_ ?_
    · have := c_tell1 env d t h n k r b q hr hb hq hn hk ht hh I J E e1 e2 f0 f2
      rw [hw] at this; exact this
    · intro I' i1 i2
      have := m_tell1 env d h n k r b q hr hb hq hn hk hh I' J E (by rw [i2]; exact e3) (by rw [i1]; exact g0) (by rw [i1]; exact g2)
      rw [i1] at this; exact this
theorem wForge_0 {m : Nat → Int32} {b : Nat} (h : wForge m b = 0) : bt (m 35) b = false := by
  unfold wForge at h
  cases h1 : bt (m 35) b with
  | false => rfl
  | true => rw [h1] at h; exact absurd (show (1 : Int32) = 0 from h) (by decide)
theorem cA_congr (I : Nat → Nat → Int32) (t h : Nat) (w : Int32) (m m' : Nat → Int32) (e : w = 0 → m = m') : cA I t h w m = cA I t h w m' := by
  unfold cA
  by_cases hw : w = 0
  · rw [e hw]
  · rw [decide_eq_false hw]; rfl
theorem op_forge (env : am_E) (d : Nat) (I : Nat → Nat → Int32) (J : Nat → Nat → Int64) (E : Nat → Nat → Nat) (n k t h : Nat) (hR : R1 I n k t h) (x : Int32) : opR (fun H => am_ev env (d + 20, 126, 0, [some (.ref 0), some (.int x)], [], H)) (fun H => am_ev env (d + 20, 235, 0, [some (.ref 156), some (.int x)], [], H)) I J E (P1 I n k) := by
  obtain ⟨hn, hk, ht, hh, e1, e2, e3, f0, f2, g0, g2⟩ := R1_f I n k t h hR
  obtain ⟨r1, r2, r3, r4, r5⟩ := id hR
  cases hc : am_in x n
  · exact none_op I J E n k t h hR (-1) _ _ (c_forge0 env d n k x hn hk I J E f0 f2 hc) (m_forge0 env d n k x hn hk I J E g0 g2 hc)
  · obtain ⟨b, hb, -, rfl⟩ := zI_cases _ _ hc
    have hw : wForge (rS I 12) b = wForge (I 158) b := agr_wForge r3 b hb
    have h35 : rS I 12 35 = I 158 35 := r3 _ (by unfold rel; omega)
    refine act_op I J E n k t h hR (wForge (I 158) b) (wForge (I 158) b) (lForge (rS I 12) b) (lForge (I 158) b) (fun j hj => ru_lo _ _ _ (by omega) j (Or.inl hj)) (fun j hj => ru_lo _ _ _ (by omega) j hj) (fun _ => agr_lForge r3 b) (fun h0 => IvS_forge hn r2 hb) _ _ ?_ ?_
    · have := c_forge1 env d t h n k b hb hn hk ht hh I J E e1 e2 f0 f2
      rw [hw, cA_congr I t h (wForge (I 158) b) _ _ (fun h0 => lForgeC_eq (by omega) (by rw [h35]; exact wForge_0 h0))] at this; exact this
    · intro I' i1 i2
      have := m_forge1 env d h n k b hb hn hk hh I' J E (by rw [i2]; exact e3) (by rw [i1]; exact g0) (by rw [i1]; exact g2)
      rw [i1] at this; exact this
theorem op_mend (env : am_E) (d : Nat) (I : Nat → Nat → Int32) (J : Nat → Nat → Int64) (E : Nat → Nat → Nat) (n k t h : Nat) (hR : R1 I n k t h) (x : Int32) : opR (fun H => am_ev env (d + 20, 127, 0, [some (.ref 0), some (.int x)], [], H)) (fun H => am_ev env (d + 20, 236, 0, [some (.ref 156), some (.int x)], [], H)) I J E (P1 I n k) := by
  obtain ⟨hn, hk, ht, hh, e1, e2, e3, f0, f2, g0, g2⟩ := R1_f I n k t h hR
  obtain ⟨r1, r2, r3, r4, r5⟩ := id hR
  cases hc : am_in x n
  · exact none_op I J E n k t h hR (-1) _ _ (c_mend0 env d n k x hn hk I J E f0 f2 hc) (m_mend0 env d n k x hn hk I J E g0 g2 hc)
  · obtain ⟨b, hb, -, rfl⟩ := zI_cases _ _ hc
    have h35 : rS I 12 35 = I 158 35 := r3 _ (by unfold rel; omega)
    refine act_op I J E n k t h hR (bi (!bt (I 158 35) b)) (bi (!bt (I 158 35) b)) (lForge (rS I 12) b) (lForge (I 158) b) (fun j hj => ru_lo _ _ _ (by omega) j (Or.inl hj)) (fun j hj => ru_lo _ _ _ (by omega) j hj) (fun _ => agr_lForge r3 b) (fun h0 => IvS_forge hn r2 hb) _ _ ?_ ?_
    · have := c_mend1 env d t h n k b hb hn hk ht hh I J E e1 e2 f0 f2
      rw [h35, cA_congr I t h (bi (!bt (I 158 35) b)) _ _ (fun h0 => lMendC_eq (by omega) (by
        rw [h35]
        cases hb2 : bt (I 158 35) b with
        | true => rfl
        | false => rw [hb2] at h0; exact absurd h0 (by decide)))] at this; exact this
    · intro I' i1 i2
      have := m_mend1 env d h n k b hb hn hk hh I' J E (by rw [i2]; exact e3) (by rw [i1]; exact g0) (by rw [i1]; exact g2)
      rw [i1] at this; exact this
theorem op_burn (env : am_E) (d : Nat) (I : Nat → Nat → Int32) (J : Nat → Nat → Int64) (E : Nat → Nat → Nat) (n k t h : Nat) (hR : R1 I n k t h) (x : Int32) : opR (fun H => am_ev env (d + 20, 128, 0, [some (.ref 0), some (.int x)], [], H)) (fun H => am_ev env (d + 20, 237, 0, [some (.ref 156), some (.int x)], [], H)) I J E (P1 I n k) := by
  obtain ⟨hn, hk, ht, hh, e1, e2, e3, f0, f2, g0, g2⟩ := R1_f I n k t h hR
  obtain ⟨r1, r2, r3, r4, r5⟩ := id hR
  cases hc : am_in x n
  · exact none_op I J E n k t h hR (-1) _ _ (c_burn0 env d n k x hn hk I J E f0 f2 hc) (m_burn0 env d n k x hn hk I J E g0 g2 hc)
  · obtain ⟨b, hb, -, rfl⟩ := zI_cases _ _ hc
    have h38 : rS I 12 (38 + b) = I 158 (38 + b) := r3 _ (by unfold rel; omega)
    obtain ⟨y, hy, hy2⟩ := r2.2.2.1 b hb
    have hw : bi (!decide (1 ≤ rS I 12 (38 + b))) = bi (decide (I 158 (38 + b) = 0)) := by
      rw [h38, hy]
      by_cases h0 : y = 0
      · subst h0; decide
      · rw [show decide ((1 : Int32) ≤ Int32.ofNat y) = true from zle_t 1 y (by omega) (by omega), show decide (Int32.ofNat y = 0) = decide (y = 0) from zI_deq y 0 (by omega) (by omega), decide_eq_false h0]; rfl
    refine act_op I J E n k t h hR (bi (decide (I 158 (38 + b) = 0))) (bi (decide (I 158 (38 + b) = 0))) (lBurn (rS I 12) b) (lBurn (I 158) b) (fun j hj => ru_lo _ _ _ (by omega) j (Or.inl hj)) (fun j hj => ru_lo _ _ _ (by omega) j hj) (fun _ => agr_lBurn r3 b hb) ?_ _ _ ?_ ?_
    · intro h0
      have hy0 : y ≠ 0 := by
        rintro rfl
        rw [decide_eq_true (show I 158 (38 + b) = 0 from hy)] at h0; exact absurd h0 (by decide)
      unfold lBurn
      rw [hy, show Int32.ofNat y - 1 = Int32.ofNat (y - 1) from zI_sub y 1 (by omega)]
      exact IvS_in hn r2 hb (y - 1) (by omega)
    · have := c_burn1 env d t h n k b hb hn hk ht hh I J E e1 e2 f0 f2
      rw [hw] at this; exact this
    · intro I' i1 i2
      have := m_burn1 env d h n k b hb hn hk hh I' J E (by rw [i2]; exact e3) (by rw [i1]; exact g0) (by rw [i1]; exact g2)
      rw [i1] at this; exact this
theorem op_buy (env : am_E) (d : Nat) (I : Nat → Nat → Int32) (J : Nat → Nat → Int64) (E : Nat → Nat → Nat) (n k t h : Nat) (hR : R1 I n k t h) (x : Int32) : opR (fun H => am_ev env (d + 20, 129, 0, [some (.ref 0), some (.int x)], [], H)) (fun H => am_ev env (d + 20, 238, 0, [some (.ref 156), some (.int x)], [], H)) I J E (P1 I n k) := by
  obtain ⟨hn, hk, ht, hh, e1, e2, e3, f0, f2, g0, g2⟩ := R1_f I n k t h hR
  obtain ⟨r1, r2, r3, r4, r5⟩ := id hR
  cases hc : am_in x n
  · exact none_op I J E n k t h hR (-1) _ _ (c_buy0 env d n k x hn hk I J E f0 f2 hc) (m_buy0 env d n k x hn hk I J E g0 g2 hc)
  · obtain ⟨b, hb, -, rfl⟩ := zI_cases _ _ hc
    have h38 : rS I 12 (38 + b) = I 158 (38 + b) := r3 _ (by unfold rel; omega)
    obtain ⟨y, hy, hy2⟩ := r2.2.2.1 b hb
    refine act_op I J E n k t h hR (bi (!decide (I 158 (38 + b) < 9))) (bi (!decide (I 158 (38 + b) < 9))) (lBuy (rS I 12) b) (lBuy (I 158) b) (fun j hj => ru_lo _ _ _ (by omega) j (Or.inl hj)) (fun j hj => ru_lo _ _ _ (by omega) j hj) (fun _ => agr_lBuy r3 b hb) ?_ _ _ ?_ ?_
    · intro h0
      have hy0 : y < 9 := by
        apply Classical.byContradiction
        intro hge
        rw [hy, show decide (Int32.ofNat y < (9 : Int32)) = false from zlt_f y 9 (by omega) (by omega)] at h0; exact absurd h0 (by decide)
      have ho : oc (I 158) b ≤ 6 := ocn_le (I 158) b 6
      unfold lBuy
      rw [hy, zd_1]
      exact IvS_in hn r2 hb (y + 1) (by omega)
    · have := c_buy1 env d t h n k b hb hn hk ht hh I J E e1 e2 f0 f2
      rw [h38] at this; exact this
    · intro I' i1 i2
      have := m_buy1 env d h n k b hb hn hk hh I' J E (by rw [i2]; exact e3) (by rw [i1]; exact g0) (by rw [i1]; exact g2)
      rw [i1] at this; exact this
