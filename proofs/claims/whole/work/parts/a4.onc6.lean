/-! AT ONCE: mostFrom and leastFor of the class -/
def VB (I : Nat → Nat → Int32) (W : Nat → Nat → Bool) (c : Nat → Nat) (k : Nat) : Prop := I 109 1 = Int32.ofNat k ∧ (∀ q, q < k → ∀ b, b < 8 → bt (I 111 q) b = W q b) ∧ ∀ b, b < 8 → ((∃ q, W q b = true) → I 112 b = Int32.ofNat (c b)) ∧ c b ≤ 1000
theorem VB_FS {I I' : Nat → Nat → Int32} {W : Nat → Nat → Bool} {c : Nat → Nat} {k : Nat} (h : VB I W c k) (hF : FS I I') : VB I' W c k := by
  obtain ⟨h1, h2, h3⟩ := h
  refine ⟨?_, ?_, ?_⟩
  · rw [hF.2 1 (by omega)]; exact h1
  · rw [hF.1 111 (by omega) (by omega) (by omega)]; exact h2
  · rw [hF.1 112 (by omega) (by omega) (by omega)]; exact h3
theorem FS_ur {I : Nat → Nat → Int32} (p : Nat) (r : Nat → Int32) (h : p = 113 ∨ p = 114) : FS I (am_ur I p r) :=
  ⟨fun q a b c => ur_ne _ _ _ _ (by omega), fun i _ => by rw [ur_ne _ _ _ _ (by omega)]⟩
theorem k113 : decide ((113 : Nat) < 179) = true ∧ Nat.beq (am_K 113).1 100 = true ∧ (am_K 113).2 = 6 := by decide
theorem k114 : decide ((114 : Nat) < 179) = true ∧ Nat.beq (am_K 114).1 100 = true ∧ (am_K 114).2 = 8 := by decide
theorem k110 : decide ((110 : Nat) < 179) = true ∧ Nat.beq (am_K 110).1 100 = true ∧ (am_K 110).2 = 6 := by decide
theorem ao_n_0 (p : Nat → Bool) : ∀ j r, (∀ q, r ≤ q → q < r + j → p q = false) → ao_n p r j = 0 := by
  intro j
  induction j with
  | zero => intro r _; rfl
  | succ j ih =>
    intro r h
    show (if p r = true then 1 else 0) + ao_n p (r + 1) j = 0
    rw [h r (Nat.le_refl _) (by omega), if_neg (by decide), ih (r + 1) (fun q a b => h q (by omega) (by omega))]
theorem c_most (env : am_E) (d : Nat) (W : Nat → Nat → Bool) (c : Nat → Nat) (k f0 n : Nat) (hk : k ≤ 6) (hn : n ≤ 8) (hf : f0 ≤ k) (hW : ∀ q b, W q b = true → b < n) (I : Nat → Nat → Int32) (J : Nat → Nat → Int64) (E : Nat → Nat → Nat) (hV : VB I W c k) : ∃ I', am_ev env (d + 20, 4, 0, [some (.ref 109), some (.int (Int32.ofNat f0)), none, none], [], am_hp I J E) = some (true, some (.int (Int32.ofNat (ao_R W n (k - f0) f0 c).1)), am_hp I' J E) ∧ FS I I' := by
  have e1 := c_fill env (d + 18) 113 6 (-1) (by omega) k113.1 k113.2.1 k113.2.2 I J E
  have F1 : FS I (am_ur I 113 (cpr (I 113) 0 6 (fun _ => -1))) := FS_ur 113 _ (Or.inl rfl)
  have v1 : ∀ q, q < 6 → am_ur I 113 (cpr (I 113) 0 6 (fun _ => -1)) 113 q = -1 := fun q hq => by
    rw [ur_at]
    have := cpr_in (I 113) 0 6 (fun _ => -1) q hq
    rw [Nat.zero_add] at this; exact this
  generalize am_ur I 113 (cpr (I 113) 0 6 (fun _ => -1)) = I1 at e1 F1 v1
  have e2 := c_fill env (d + 18) 114 8 0 (by omega) k114.1 k114.2.1 k114.2.2 I1 J E
  have F2 : FS I (am_ur I1 114 (cpr (I1 114) 0 8 (fun _ => 0))) := FS_tr F1 (FS_ur 114 _ (Or.inr rfl))
  have v2 : ∀ q, q < 8 → am_ur I1 114 (cpr (I1 114) 0 8 (fun _ => 0)) 114 q = 0 := fun q hq => by
    rw [ur_at]
    have := cpr_in (I1 114) 0 8 (fun _ => 0) q hq
    rw [Nat.zero_add] at this; exact this
  have v3 : ∀ q, q < 6 → am_ur I1 114 (cpr (I1 114) 0 8 (fun _ => 0)) 113 q = -1 := fun q hq => by
    rw [ur_ne _ _ _ _ (by omega)]; exact v1 q hq
  generalize am_ur I1 114 (cpr (I1 114) 0 8 (fun _ => 0)) = I2 at e2 F2 v2 v3
  have start : am_ev env (d + 20, 4, 0, [some (.ref 109), some (.int (Int32.ofNat f0)), none, none], [], am_hp I J E) = am_ev env (d + 20, 4, 20, [some (.ref 109), some (.int (Int32.ofNat f0)), some (.int (Int32.ofNat 0)), some (.int (Int32.ofNat f0))], [], am_hp I2 J E) := by
    refine (bk_4_0 _ _ _ _ _ _).trans ?_
    simp only [decide_true, decide_false, Bool.not_true, Bool.not_false, am_cont, Option.bind_some, Option.toList_some, Option.toList_none, List.singleton_append, List.nil_append, cond_true, cond_false, e1, bk_4_8, e2, bk_4_16]
    rfl
  have k0 : KI W c k f0 f0 (fun _ => -1) (fun _ => 0) 0 := by
    refine ⟨fun _ => false, ⟨fun b _ h => absurd (show false = true from h) (by decide), fun q _ b hb h => absurd h.symm (nat_ne b hb)⟩, fun q _ => Or.inl rfl, fun b hb => ⟨?_, Nat.zero_le _⟩, fun q h1 h2 => by omega, ?_⟩
    · exact (ao_n_0 _ k 0 (fun q _ _ => decide_eq_false (fun h => nat_ne b hb h.symm))).symm
    · exact (ao_n_0 _ (k - f0) f0 (fun q _ _ => rfl)).symm
  have loop : ∀ i r I3 t u m, r + i = k → f0 ≤ r → FS I I3 → (∀ q, q < k → I3 113 q = t q) → (∀ b, b < 8 → I3 114 b = Int32.ofNat (u b)) → KI W c k f0 r t u m → m ≤ r → ∃ I', am_ev env (d + 20, 4, 20, [some (.ref 109), some (.int (Int32.ofNat f0)), some (.int (Int32.ofNat m)), some (.int (Int32.ofNat r))], [], am_hp I3 J E) = some (true, some (.int (Int32.ofNat (ao_R W n (k - f0) f0 c).1)), am_hp I' J E) ∧ FS I I' := by
    intro i
    induction i with
    | zero =>
      intro r I3 t u m hr hfr hF ht hu hK hm
      have hr : r = k := hr
      subst hr
      refine ⟨I3, (bk_4_20 _ _ _ _ _ _ _ _).trans ?_, hF⟩
      rw [(VB_FS hV hF).1, zle_t r r (Nat.le_refl _) (by omega), ← KI_end hn hf hW hK]
      rfl
    | succ i ih =>
      intro r I3 t u m hr hfr hF ht hu hK hm
      have hB := VB_FS hV hF
      have hub : ∀ b, b < 8 → u b ≤ 1000 := fun b hb => by
        obtain ⟨F, -, -, c1, -⟩ := hK
        have h1 := (c1 b hb).2
        have h2 := (hB.2.2 b hb).2
        omega
      have hv : Vw (am_u I3 109 6 0) W c k t u (fun _ => false) := by
        have e : ∀ q, q ≠ 109 → am_u I3 109 6 0 q = I3 q := fun q hq => am_u_nr _ _ _ _ _ hq
        refine ⟨?_, ?_, ?_, ?_, ?_, fun b hb => ?_⟩
        · rw [am_u_sg, if_neg (by omega)]; exact hB.1
        · rw [e 111 (by omega)]; exact hB.2.1
        · rw [e 112 (by omega)]; exact hB.2.2
        · rw [e 113 (by omega)]; exact ht
        · rw [e 114 (by omega)]; exact fun b hb => ⟨hu b hb, hub b hb⟩
        · rw [am_u_at, bt_zero]
      have htr : t r = -1 := by
        obtain ⟨F, -, b, -⟩ := hK
        rcases b r (by omega) with h | ⟨h1, h2, -⟩
        · exact h
        · omega
      have hF4 : FS I (am_u I3 109 6 0) := FS_tr hF (FS_u 109 6 0 (Or.inl ⟨rfl, rfl⟩))
      have hs := c_seat env (d + 1) J E W c k hk 8 r 0 t u (fun _ => false) (am_u I3 109 6 0) (by omega) (by omega) (Nat.zero_le _) hv (Or.inl htr)
      have head := bk_4_20 env (d + 19) (Int32.ofNat f0) (Int32.ofNat m) (Int32.ofNat r) I3 J E
      rw [hB.1, zle_f k r (by omega) (by omega)] at head
      simp only [decide_true, decide_false, Bool.not_true, Bool.not_false, am_cont, Option.bind_some, Option.toList_some, Option.toList_none, List.singleton_append, List.nil_append, cond_true, cond_false] at head
      rcases hs with ⟨I', S', e, g1, g2, g3, g4⟩ | ⟨I', t', u', S', e, g1, g2, g3⟩
      · have e : am_ev env (d + 19, 5, 0, [some (.ref 109), some (.int (Int32.ofNat r)), some (.int 0), none], [], am_hp (am_u I3 109 6 0) J E) = _ := e
        rw [e] at head
        simp only [decide_true, decide_false, Bool.not_true, Bool.not_false, am_cont, Option.bind_some, Option.toList_some, Option.toList_none, List.singleton_append, List.nil_append, cond_true, cond_false, bk_4_39, bk_4_45, zd_1] at head
        rw [head]
        exact ih (r + 1) I' t u m (by omega) (by omega) (FS_tr hF4 g1) g2.2.2.2.1 (fun b hb => (g2.2.2.2.2.1 b hb).1) (KI_fail hK g3 g4) (by omega)
      · have e : am_ev env (d + 19, 5, 0, [some (.ref 109), some (.int (Int32.ofNat r)), some (.int 0), none], [], am_hp (am_u I3 109 6 0) J E) = _ := e
        rw [e] at head
        have h1 : decide ((1 : Int32) = 0) = false := by decide
        simp only [decide_true, decide_false, Bool.not_true, Bool.not_false, am_cont, Option.bind_some, Option.toList_some, Option.toList_none, List.singleton_append, List.nil_append, cond_true, cond_false, bk_4_39, h1, bk_4_45, zd_1] at head
        rw [head]
        exact ih (r + 1) I' t' u' (m + 1) (by omega) (by omega) (FS_tr hF4 g1) g2.2.2.2.1 (fun b hb => (g2.2.2.2.2.1 b hb).1) (KI_succ (by omega) hfr hK g3) (by omega)
  obtain ⟨I', h1, h2⟩ := loop (k - f0) f0 I2 (fun _ => -1) (fun _ => 0) 0 (by omega) (Nat.le_refl _) F2 (fun q hq => v3 q (by omega)) v2 k0 (Nat.zero_le _)
  exact ⟨I', start.trans h1, h2⟩
