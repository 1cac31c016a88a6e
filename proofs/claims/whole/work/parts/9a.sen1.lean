/-! a SENTENCE as numbers -/
/-- steps, ones; of each step: word, number, sign; the steps that it joins -/
abbrev Ssn : Type := Nat × Nat × (Nat → Nat × Nat × Nat) × (Nat → Nat × Nat)
abbrev PSr : Type := (Nat × Nat) ⊕ (Ssn × Cu)
def sadd (S : Ssn) (w : Nat × Nat × Nat) (c : Nat × Nat) : Ssn := (S.1 + 1, S.2.1, rug S.2.2.1 S.1 w, rug S.2.2.2 S.1 c)
def sone (S : Ssn) : Ssn := (S.1, S.2.1 + 1, S.2.2.1, S.2.2.2)
/-- the signs of a measure -/
def ism (u : Cu) : Bool := isg u 60 || (isg u 61 || isg u 62)
/-- 0: one; 1: all; 2: cond; 3: behind a one, 4: behind an all (a: the step that stands ahead) -/
def psn (c : Nat → Nat) (z lim n : Nat) (T : Nat → List Nat) : Nat → Nat → Nat → Nat → Ssn → Cu → PSr
  | 0, _, _, _, _, _ => .inl (0, 0)
  | f + 1, md, dp, a, S, u =>
    if md = 0 then
      (if ¬ (isg u 40 = true ∨ 15 ≤ kw u) then .inl (1, u.2.1) else
       if S.2.1 = 20 ∨ 8 < dp then .inl (4, u.2.1) else
       if isg u 40 = true then
         (match psn c z lim n T f 2 (dp + 1) 0 (sone S) (lx c z lim u.2.2) with
          | .inl x => .inl x
          | .inr y => if isg y.2 41 = true then .inr (y.1, lx c z lim y.2.2.2) else .inl (1, y.2.2.1)) else
       if kw u = 15 then
         (match psn c z lim n T f 0 (dp + 1) 0 (sone S) (lx c z lim u.2.2) with
          | .inl x => .inl x
          | .inr y => .inr (sadd y.1 (15, 0, 0) (y.1.1 - 1, 0), y.2)) else
       if kw u ≤ 18 then .inr (sadd (sone S) (kw u, 0, 0) (0, 0), lx c z lim u.2.2) else
       if kw u ≤ 20 then
         (if fnB T n (lx c z lim u.2.2) ≠ 0 then .inl (fnB T n (lx c z lim u.2.2), (lx c z lim u.2.2).2.1) else .inr (sadd (sone S) (kw u, fdx T (lx c z lim u.2.2).1.2.1 n - 1, 0) (0, 0), lx c z lim (lx c z lim u.2.2).2.2)) else
       if ism (lx c z lim u.2.2) = false then .inl (1, (lx c z lim u.2.2).2.1) else
       if pn (lx c z lim (lx c z lim u.2.2).2.2) 0 999 ≠ 0 then .inl (pn (lx c z lim (lx c z lim u.2.2).2.2) 0 999, (lx c z lim (lx c z lim u.2.2).2.2).2.1) else
       .inr (sadd (sone S) (kw u, (lx c z lim (lx c z lim u.2.2).2.2).1.2.2, (lx c z lim u.2.2).1.2.2) (0, 0), lx c z lim (lx c z lim (lx c z lim u.2.2).2.2).2.2)) else
    if md = 1 then
      (match psn c z lim n T f 0 dp 0 S u with
       | .inl x => .inl x
       | .inr y => psn c z lim n T f 3 dp (y.1.1 - 1) y.1 y.2) else
    if md = 2 then
      (match psn c z lim n T f 1 dp 0 S u with
       | .inl x => .inl x
       | .inr y => psn c z lim n T f 4 dp (y.1.1 - 1) y.1 y.2) else
    if md = 3 then
      (if kw u = 14 then
        (match psn c z lim n T f 0 dp 0 S (lx c z lim u.2.2) with
         | .inl x => .inl x
         | .inr y => psn c z lim n T f 3 dp y.1.1 (sadd y.1 (14, 0, 0) (a, y.1.1 - 1)) y.2) else .inr (S, u)) else
      (if kw u = 13 then
        (match psn c z lim n T f 1 dp 0 S (lx c z lim u.2.2) with
         | .inl x => .inl x
         | .inr y => psn c z lim n T f 4 dp y.1.1 (sadd y.1 (13, 0, 0) (a, y.1.1 - 1)) y.2) else .inr (S, u))
def lxd (c : Nat → Nat) (z lim : Nat) (u : Cu) : Prop := ∃ p, p ≤ z ∧ u = lx c z lim p
def mu (z : Nat) (u : Cu) : Nat := if 2 ≤ u.1.1 then z + 1 - u.2.1 else 0
theorem lxd_f {c : Nat → Nat} {z lim : Nat} {u : Cu} (h : lxd c z lim u) : u.2.2 ≤ z ∧ u.2.1 ≤ lim ∧ (2 ≤ u.1.1 → u.2.1 < u.2.2 ∧ u.2.1 < lim) := by
  obtain ⟨p, hp, rfl⟩ := h
  have g := lx_good c z lim p hp
  exact ⟨g.2.2.2.2.2.1, g.2.2.2.2.1, fun q => ⟨(g.2.2.2.2.2.2.1 q).2.2, (g.2.2.2.2.2.2.1 q).1⟩⟩
theorem lxd_n {c : Nat → Nat} {z lim : Nat} {u : Cu} (h : lxd c z lim u) : lxd c z lim (lx c z lim u.2.2) := ⟨u.2.2, (lxd_f h).1, rfl⟩
theorem mu_nx {c : Nat → Nat} {z lim : Nat} {u : Cu} (h : lxd c z lim u) (h2 : 2 ≤ u.1.1) : mu z (lx c z lim u.2.2) < mu z u := by
  obtain ⟨a1, a2, a3⟩ := lxd_f h
  have a3 := a3 h2
  have g := lx_good c z lim u.2.2 a1
  unfold mu
  rw [if_pos h2]
  by_cases q : 2 ≤ (lx c z lim u.2.2).1.1
  · have := g.2.2.2.2.2.2.1 q
    rw [if_pos q]; omega
  · rw [if_neg q]; omega
theorem kw_re {u : Cu} (h : kw u ≠ 0) : 2 ≤ u.1.1 := by have := kw2 u h; omega
theorem isg_re {u : Cu} {x : Nat} (h : isg u x = true) : 2 ≤ u.1.1 := by have := (isg_f h).1; omega
theorem isn_re {u : Cu} (h : isn u = true) : 2 ≤ u.1.1 := by have := (isn_f h).1; omega
theorem ism_re {u : Cu} (h : ism u = true) : 2 ≤ u.1.1 := by
  unfold ism at h
  rcases or_f h with q | q
  · exact isg_re q
  · rcases or_f q with q | q
    · exact isg_re q
    · exact isg_re q
/-- what is so behind it -/
def psk (c : Nat → Nat) (z lim md : Nat) (S : Ssn) (u : Cu) (r : PSr) : Prop := match r with
  | .inl x => x.1 ≤ 4 ∧ x.2 ≤ lim
  | .inr y => y.1.1 + 1 ≤ 2 * y.1.2.1 ∧ y.1.2.1 ≤ 20 ∧ S.2.1 ≤ y.1.2.1 ∧ (md ≤ 2 → S.2.1 + 1 ≤ y.1.2.1 ∧ S.1 + 1 ≤ y.1.1 ∧ y.1.1 + 2 * S.2.1 + 1 ≤ S.1 + 2 * y.1.2.1 ∧ mu z y.2 < mu z u) ∧ S.1 ≤ y.1.1 ∧ y.1.1 + 2 * S.2.1 ≤ S.1 + 2 * y.1.2.1 ∧ mu z y.2 ≤ mu z u ∧ lxd c z lim y.2 ∧ (∀ i, i < S.1 → y.1.2.2.1 i = S.2.2.1 i ∧ y.1.2.2.2 i = S.2.2.2 i)
theorem sadd_k (S : Ssn) (w : Nat × Nat × Nat) (c : Nat × Nat) (i : Nat) (h : i < S.1) : (sadd S w c).2.2.1 i = S.2.2.1 i ∧ (sadd S w c).2.2.2 i = S.2.2.2 i := ⟨rug_ne _ _ _ _ (by omega), rug_ne _ _ _ _ (by omega)⟩
theorem psn_k (c : Nat → Nat) (z lim n : Nat) (T : Nat → List Nat) : ∀ (f md dp a : Nat) (S : Ssn) (u : Cu), lxd c z lim u → S.2.1 ≤ 20 → (md ≤ 2 → S.1 ≤ 2 * S.2.1) → (3 ≤ md → S.1 + 1 ≤ 2 * S.2.1) → psk c z lim md S u (psn c z lim n T f md dp a S u) := by
  intro f
  induction f with
  | zero => intro md dp a S u _ _ _ _; exact ⟨by show 0 ≤ 4; omega, by show 0 ≤ lim; omega⟩
  | succ f ih =>
    intro md dp a S u hu ho h1 h2
    obtain ⟨u1, u2, u3⟩ := lxd_f hu
    unfold psn
    by_cases m0 : md = 0
    · rw [if_pos m0]
      have h1 := h1 (by omega)
      by_cases c1 : ¬ (isg u 40 = true ∨ 15 ≤ kw u)
      · rw [if_pos c1]; exact ⟨by show 1 ≤ 4; omega, u2⟩
      rw [if_neg c1]
      have re : 2 ≤ u.1.1 := by
        rcases Classical.not_not.mp c1 with q | q
        · exact isg_re q
        · exact kw_re (by omega)
      have hn := lxd_n hu
      have mn := mu_nx hu re
      obtain ⟨n1, n2, n3⟩ := lxd_f hn
      by_cases c2 : S.2.1 = 20 ∨ 8 < dp
      · rw [if_pos c2]; exact ⟨by show 4 ≤ 4; omega, u2⟩
      rw [if_neg c2]
      have so : (sone S).2.1 = S.2.1 + 1 := rfl
      have ss : (sone S).1 = S.1 := rfl
      by_cases c3 : isg u 40 = true
      · rw [if_pos c3]
        have r := ih 2 (dp + 1) 0 (sone S) (lx c z lim u.2.2) hn (by omega) (fun _ => by omega) (fun q => by omega)
        cases hr : psn c z lim n T f 2 (dp + 1) 0 (sone S) (lx c z lim u.2.2) with
        | inl x => rw [hr] at r; exact r
        | inr y =>
          rw [hr] at r
          obtain ⟨r1, r2, r3, r4, r5, r6, r7, r8, r9⟩ := r
          obtain ⟨r41, r42, r43, r44⟩ := r4 (by omega)
          dsimp only
          by_cases c4 : isg y.2 41 = true
          · rw [if_pos c4]
            have my := mu_nx r8 (isg_re c4)
            exact ⟨r1, r2, by show S.2.1 ≤ y.1.2.1; omega, fun _ => ⟨by show S.2.1 + 1 ≤ y.1.2.1; omega, by show S.1 + 1 ≤ y.1.1; omega, by show y.1.1 + 2 * S.2.1 + 1 ≤ S.1 + 2 * y.1.2.1; omega, by show mu z (lx c z lim y.2.2.2) < mu z u; omega⟩, by show S.1 ≤ y.1.1; omega, by show y.1.1 + 2 * S.2.1 ≤ S.1 + 2 * y.1.2.1; omega, by show mu z (lx c z lim y.2.2.2) ≤ mu z u; omega, lxd_n r8, r9⟩
          · rw [if_neg c4]; exact ⟨by show 1 ≤ 4; omega, (lxd_f r8).2.1⟩
      rw [if_neg c3]
      by_cases c5 : kw u = 15
      · rw [if_pos c5]
        have r := ih 0 (dp + 1) 0 (sone S) (lx c z lim u.2.2) hn (by omega) (fun _ => by omega) (fun q => by omega)
        cases hr : psn c z lim n T f 0 (dp + 1) 0 (sone S) (lx c z lim u.2.2) with
        | inl x => rw [hr] at r; exact r
        | inr y =>
          rw [hr] at r
          obtain ⟨r1, r2, r3, r4, r5, r6, r7, r8, r9⟩ := r
          obtain ⟨r41, r42, r43, r44⟩ := r4 (by omega)
          exact ⟨by show y.1.1 + 1 + 1 ≤ 2 * y.1.2.1; omega, r2, by show S.2.1 ≤ y.1.2.1; omega, fun _ => ⟨by show S.2.1 + 1 ≤ y.1.2.1; omega, by show S.1 + 1 ≤ y.1.1 + 1; omega, by show y.1.1 + 1 + 2 * S.2.1 + 1 ≤ S.1 + 2 * y.1.2.1; omega, by show mu z y.2 < mu z u; omega⟩, by show S.1 ≤ y.1.1 + 1; omega, by show y.1.1 + 1 + 2 * S.2.1 ≤ S.1 + 2 * y.1.2.1; omega, by show mu z y.2 ≤ mu z u; omega, r8, fun i hi => by
            obtain ⟨s1, s2⟩ := sadd_k y.1 (15, 0, 0) (y.1.1 - 1, 0) i (by omega)
            obtain ⟨s3, s4⟩ := r9 i hi
            exact ⟨s1.trans s3, s2.trans s4⟩⟩
      rw [if_neg c5]
      have leaf : ∀ (w : Nat × Nat × Nat) (v : Cu), lxd c z lim v → mu z v < mu z u → psk c z lim md S u (.inr (sadd (sone S) w (0, 0), v)) := by
        intro w v hv hm
        exact ⟨by show S.1 + 1 + 1 ≤ 2 * (S.2.1 + 1); omega, by show S.2.1 + 1 ≤ 20; omega, by show S.2.1 ≤ S.2.1 + 1; omega, fun _ => ⟨by show S.2.1 + 1 ≤ S.2.1 + 1; omega, by show S.1 + 1 ≤ S.1 + 1; omega, by show S.1 + 1 + 2 * S.2.1 + 1 ≤ S.1 + 2 * (S.2.1 + 1); omega, hm⟩, by show S.1 ≤ S.1 + 1; omega, by show S.1 + 1 + 2 * S.2.1 ≤ S.1 + 2 * (S.2.1 + 1); omega, by show mu z v ≤ mu z u; omega, hv, fun i hi => sadd_k (sone S) w (0, 0) i hi⟩
      by_cases c6 : kw u ≤ 18
      · rw [if_pos c6]; exact leaf _ _ hn mn
      rw [if_neg c6]
      by_cases c7 : kw u ≤ 20
      · rw [if_pos c7]
        by_cases c8 : fnB T n (lx c z lim u.2.2) ≠ 0
        · rw [if_pos c8]; exact ⟨(fnB_in c8).2, n2⟩
        · rw [if_neg c8]
          have mn2 := mu_nx hn (isn_re (fnB0 (Classical.not_not.mp c8)).1)
          exact leaf _ _ (lxd_n hn) (by omega)
      rw [if_neg c7]
      by_cases c9 : ism (lx c z lim u.2.2) = false
      · rw [if_pos c9]; exact ⟨by show 1 ≤ 4; omega, n2⟩
      rw [if_neg c9]
      rw [Bool.not_eq_false] at c9
      have mn2 := mu_nx hn (ism_re c9)
      have hn2 := lxd_n hn
      by_cases c10 : pn (lx c z lim (lx c z lim u.2.2).2.2) 0 999 ≠ 0
      · rw [if_pos c10]; exact ⟨(pn_in _ _ _ c10).2, (lxd_f hn2).2.1⟩
      rw [if_neg c10]
      have mn3 := mu_nx hn2 (by have := (pn0 (Classical.not_not.mp c10)).1; omega)
      exact leaf _ _ (lxd_n hn2) (by omega)
    rw [if_neg m0]
    have two : ∀ (md1 md2 : Nat), md1 ≤ 2 → 3 ≤ md2 → md ≤ 2 → psk c z lim md S u (match psn c z lim n T f md1 dp 0 S u with | .inl x => .inl x | .inr y => psn c z lim n T f md2 dp (y.1.1 - 1) y.1 y.2) := by
      intro md1 md2 q1 q2 q3
      have r := ih md1 dp 0 S u hu ho (fun _ => h1 q3) (fun q => by omega)
      cases hr : psn c z lim n T f md1 dp 0 S u with
      | inl x => rw [hr] at r; exact r
      | inr y =>
        rw [hr] at r
        obtain ⟨r1, r2, r3, r4, r5, r6, r7, r8, r9⟩ := r
        obtain ⟨r41, r42, r43, r44⟩ := r4 q1
        dsimp only
        have w := ih md2 dp (y.1.1 - 1) y.1 y.2 r8 r2 (fun q => by omega) (fun _ => r1)
        cases hw : psn c z lim n T f md2 dp (y.1.1 - 1) y.1 y.2 with
        | inl x => rw [hw] at w; exact w
        | inr x =>
          rw [hw] at w
          obtain ⟨w1, w2, w3, w4, w5, w6, w7, w8, w9⟩ := w
          exact ⟨w1, w2, by omega, fun _ => ⟨by omega, by omega, by omega, by omega⟩, by omega, by omega, by omega, w8, fun i hi => by
            obtain ⟨s1, s2⟩ := w9 i (by omega)
            obtain ⟨s3, s4⟩ := r9 i hi
            exact ⟨s1.trans s3, s2.trans s4⟩⟩
    by_cases m1 : md = 1
    · rw [if_pos m1]; exact two 0 3 (by omega) (by omega) (by omega)
    rw [if_neg m1]
    by_cases m2 : md = 2
    · rw [if_pos m2]; exact two 1 4 (by omega) (by omega) (by omega)
    rw [if_neg m2]
    have h2 := h2 (by omega)
    have loop : ∀ (wd md1 md2 : Nat), wd ≠ 0 → md1 ≤ 2 → 3 ≤ md2 → psk c z lim md S u (if kw u = wd then (match psn c z lim n T f md1 dp 0 S (lx c z lim u.2.2) with | .inl x => .inl x | .inr y => psn c z lim n T f md2 dp y.1.1 (sadd y.1 (wd, 0, 0) (a, y.1.1 - 1)) y.2) else .inr (S, u)) := by
      intro wd md1 md2 q0 q1 q2
      by_cases hk : kw u = wd
      · rw [if_pos hk]
        have hn := lxd_n hu
        have mn := mu_nx hu (kw_re (by omega))
        have r := ih md1 dp 0 S (lx c z lim u.2.2) hn ho (fun _ => by omega) (fun q => by omega)
        cases hr : psn c z lim n T f md1 dp 0 S (lx c z lim u.2.2) with
        | inl x => rw [hr] at r; exact r
        | inr y =>
          rw [hr] at r
          obtain ⟨r1, r2, r3, r4, r5, r6, r7, r8, r9⟩ := r
          obtain ⟨r41, r42, r43, r44⟩ := r4 q1
          dsimp only
          have w := ih md2 dp y.1.1 (sadd y.1 (wd, 0, 0) (a, y.1.1 - 1)) y.2 r8 r2 (fun q => by omega) (fun _ => by show y.1.1 + 1 + 1 ≤ 2 * y.1.2.1; omega)
          cases hw : psn c z lim n T f md2 dp y.1.1 (sadd y.1 (wd, 0, 0) (a, y.1.1 - 1)) y.2 with
          | inl x => rw [hw] at w; exact w
          | inr x =>
            rw [hw] at w
            obtain ⟨w1, w2, w3, w4, w5, w6, w7, w8, w9⟩ := w
            have w3 : y.1.2.1 ≤ x.1.2.1 := w3
            have w5 : y.1.1 + 1 ≤ x.1.1 := w5
            have w6 : x.1.1 + 2 * y.1.2.1 ≤ y.1.1 + 1 + 2 * x.1.2.1 := w6
            exact ⟨w1, w2, by omega, fun q => by omega, by omega, by omega, by omega, w8, fun i hi => by
              obtain ⟨s1, s2⟩ := w9 i (by show i < y.1.1 + 1; omega)
              obtain ⟨s5, s6⟩ := sadd_k y.1 (wd, 0, 0) (a, y.1.1 - 1) i (by omega)
              obtain ⟨s3, s4⟩ := r9 i hi
              exact ⟨s1.trans (s5.trans s3), s2.trans (s6.trans s4)⟩⟩
      · rw [if_neg hk]
        exact ⟨h2, ho, Nat.le_refl _, fun q => by omega, Nat.le_refl _, Nat.le_refl _, Nat.le_refl _, hu, fun _ _ => ⟨rfl, rfl⟩⟩
    by_cases m3 : md = 3
    · rw [if_pos m3]; exact loop 14 0 3 (by omega) (by omega) (by omega)
    · rw [if_neg m3]; exact loop 13 1 4 (by omega) (by omega) (by omega)
def rnk (md : Nat) : Nat := if md = 0 then 0 else if md = 1 then 2 else if md = 2 then 4 else if md = 3 then 1 else 3
/-- enough fuel: an end that is one -/
theorem psn_f (c : Nat → Nat) (z lim n : Nat) (T : Nat → List Nat) : ∀ (f md dp a : Nat) (S : Ssn) (u : Cu), md ≤ 4 → lxd c z lim u → S.2.1 ≤ 20 → (md ≤ 2 → S.1 ≤ 2 * S.2.1) → (3 ≤ md → S.1 + 1 ≤ 2 * S.2.1) → 6 * mu z u + rnk md + 1 ≤ f → ∀ x, psn c z lim n T f md dp a S u = .inl x → 1 ≤ x.1 := by
  intro f
  induction f with
  | zero => intro md dp a S u _ _ _ _ _ h; omega
  | succ f ih =>
    intro md dp a S u hmd hu ho h1 h2 hf x hx
    unfold psn at hx
    by_cases m0 : md = 0
    · rw [if_pos m0] at hx
      have h1 := h1 (by omega)
      by_cases c1 : ¬ (isg u 40 = true ∨ 15 ≤ kw u)
      · rw [if_pos c1] at hx; cases hx; show 1 ≤ 1; omega
      rw [if_neg c1] at hx
      have re : 2 ≤ u.1.1 := by
        rcases Classical.not_not.mp c1 with q | q
        · exact isg_re q
        · exact kw_re (by omega)
      have hn := lxd_n hu
      have mn := mu_nx hu re
      by_cases c2 : S.2.1 = 20 ∨ 8 < dp
      · rw [if_pos c2] at hx; cases hx; show 1 ≤ 4; omega
      rw [if_neg c2] at hx
      have so : (sone S).2.1 = S.2.1 + 1 := rfl
      have ss : (sone S).1 = S.1 := rfl
      by_cases c3 : isg u 40 = true
      · rw [if_pos c3] at hx
        cases hr : psn c z lim n T f 2 (dp + 1) 0 (sone S) (lx c z lim u.2.2) with
        | inl y =>
          rw [hr] at hx
          cases hx
          exact ih 2 (dp + 1) 0 (sone S) (lx c z lim u.2.2) (by omega) hn (by omega) (fun _ => by omega) (fun q => by omega) (by show 6 * mu z _ + 4 + 1 ≤ f; omega) x hr
        | inr y =>
          rw [hr] at hx
          dsimp only at hx
          by_cases c4 : isg y.2 41 = true
          · rw [if_pos c4] at hx; cases hx
          · rw [if_neg c4] at hx; cases hx; show 1 ≤ 1; omega
      rw [if_neg c3] at hx
      by_cases c5 : kw u = 15
      · rw [if_pos c5] at hx
        cases hr : psn c z lim n T f 0 (dp + 1) 0 (sone S) (lx c z lim u.2.2) with
        | inl y =>
          rw [hr] at hx
          cases hx
          exact ih 0 (dp + 1) 0 (sone S) (lx c z lim u.2.2) (by omega) hn (by omega) (fun _ => by omega) (fun q => by omega) (by show 6 * mu z _ + 0 + 1 ≤ f; omega) x hr
        | inr y => rw [hr] at hx; cases hx
      rw [if_neg c5] at hx
      by_cases c6 : kw u ≤ 18
      · rw [if_pos c6] at hx; cases hx
      rw [if_neg c6] at hx
      by_cases c7 : kw u ≤ 20
      · rw [if_pos c7] at hx
        by_cases c8 : fnB T n (lx c z lim u.2.2) ≠ 0
        · rw [if_pos c8] at hx; cases hx; exact (fnB_in c8).1
        · rw [if_neg c8] at hx; cases hx
      rw [if_neg c7] at hx
      by_cases c9 : ism (lx c z lim u.2.2) = false
      · rw [if_pos c9] at hx; cases hx; show 1 ≤ 1; omega
      rw [if_neg c9] at hx
      by_cases c10 : pn (lx c z lim (lx c z lim u.2.2).2.2) 0 999 ≠ 0
      · rw [if_pos c10] at hx; cases hx; exact (pn_in _ _ _ c10).1
      rw [if_neg c10] at hx; cases hx
    rw [if_neg m0] at hx
    have two : ∀ (md1 md2 : Nat), md1 ≤ 2 → 3 ≤ md2 → md2 ≤ 4 → md ≤ 2 → rnk md1 < rnk md → rnk md2 < rnk md → (match psn c z lim n T f md1 dp 0 S u with | .inl x => (.inl x : PSr) | .inr y => psn c z lim n T f md2 dp (y.1.1 - 1) y.1 y.2) = .inl x → 1 ≤ x.1 := by
      intro md1 md2 q1 q2 q3 q4 q5 q6 hx
      have r := psn_k c z lim n T f md1 dp 0 S u hu ho (fun _ => h1 q4) (fun q => by omega)
      cases hr : psn c z lim n T f md1 dp 0 S u with
      | inl y =>
        rw [hr] at hx
        cases hx
        exact ih md1 dp 0 S u (by omega) hu ho (fun _ => h1 q4) (fun q => by omega) (by omega) x hr
      | inr y =>
        rw [hr] at hx r
        obtain ⟨r1, r2, r3, r4, r5, r6, r7, r8, r9⟩ := r
        exact ih md2 dp (y.1.1 - 1) y.1 y.2 q3 r8 r2 (fun q => by omega) (fun _ => r1) (by omega) x hx
    by_cases m1 : md = 1
    · rw [if_pos m1] at hx; subst m1; exact two 0 3 (by omega) (by omega) (by omega) (by omega) (by decide) (by decide) hx
    rw [if_neg m1] at hx
    by_cases m2 : md = 2
    · rw [if_pos m2] at hx; subst m2; exact two 1 4 (by omega) (by omega) (by omega) (by omega) (by decide) (by decide) hx
    rw [if_neg m2] at hx
    have h2 := h2 (by omega)
    have loop : ∀ (wd md1 md2 : Nat), wd ≠ 0 → md1 ≤ 2 → 3 ≤ md2 → md2 ≤ 4 → rnk md1 ≤ 2 → rnk md2 = rnk md → (if kw u = wd then (match psn c z lim n T f md1 dp 0 S (lx c z lim u.2.2) with | .inl x => (.inl x : PSr) | .inr y => psn c z lim n T f md2 dp y.1.1 (sadd y.1 (wd, 0, 0) (a, y.1.1 - 1)) y.2) else .inr (S, u)) = .inl x → 1 ≤ x.1 := by
      intro wd md1 md2 q0 q1 q2 q3 q4 q5 hx
      by_cases hk : kw u = wd
      · rw [if_pos hk] at hx
        have hn := lxd_n hu
        have mn := mu_nx hu (kw_re (by omega))
        have r := psn_k c z lim n T f md1 dp 0 S (lx c z lim u.2.2) hn ho (fun _ => by omega) (fun q => by omega)
        cases hr : psn c z lim n T f md1 dp 0 S (lx c z lim u.2.2) with
        | inl y =>
          rw [hr] at hx
          cases hx
          exact ih md1 dp 0 S (lx c z lim u.2.2) (by omega) hn ho (fun _ => by omega) (fun q => by omega) (by omega) x hr
        | inr y =>
          rw [hr] at hx r
          obtain ⟨r1, r2, r3, r4, r5, r6, r7, r8, r9⟩ := r
          obtain ⟨r41, r42, r43, r44⟩ := r4 q1
          exact ih md2 dp y.1.1 (sadd y.1 (wd, 0, 0) (a, y.1.1 - 1)) y.2 q3 r8 r2 (fun q => by omega) (fun _ => by show y.1.1 + 1 + 1 ≤ 2 * y.1.2.1; omega) (by omega) x hx
      · rw [if_neg hk] at hx; cases hx
    by_cases m3 : md = 3
    · rw [if_pos m3] at hx; subst m3; exact loop 14 0 3 (by omega) (by omega) (by omega) (by omega) (by decide) rfl hx
    · rw [if_neg m3] at hx
      have m4 : md = 4 := by omega
      subst m4
      exact loop 13 1 4 (by omega) (by omega) (by omega) (by omega) (by decide) rfl hx
