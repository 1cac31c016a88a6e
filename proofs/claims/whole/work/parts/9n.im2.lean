/-! image, restore: the relation of a shelf; the reference's copies -/
def RSh (I : Nat → Nat → Int32) (J : Nat → Nat → Int64) (E : Nat → Nat → Nat) (p : Nat) (m : Nat → Int32) (nm : Nat → Int64) (n k : Nat) : Prop := IvL m n k ∧ IvS m n k ∧ Agr n k (rSg I (p + 1) (p + 8)) m ∧ (∃ T U : Nat → List Nat, (∀ b, b < n → gw (T b) ∧ J (p + 2) b = Int64.ofNat (pk 32 (T b)) ∧ nm b = Int64.ofNat (pk 27 (T b))) ∧ ∀ r, r < k → gw (U r) ∧ J (p + 6) r = Int64.ofNat (pk 32 (U r)) ∧ nm (8 + r) = Int64.ofNat (pk 27 (U r))) ∧ (∃ S, CSp (p + 14) I E S ∧ MSp n m S) ∧ ∃ o, I (p + 1) 4 = bi o
theorem MSp_m {n : Nat} {m m' : Nat → Int32} {S : Ssn} (he : ∀ j, j < 312 → m' j = m j) (h : MSp n m S) : MSp n m' S := by
  rcases h with ⟨s1, s2, s3⟩ | ⟨s1, s2, s3, s4, s5, s6, s7, s8⟩
  · exact Or.inl ⟨s1, s2, by rw [he 70 (by omega)]; exact s3⟩
  · refine Or.inr ⟨s1, s2, s3, s4, s5, by rw [he 70 (by omega)]; exact s6, by rw [he 71 (by omega)]; exact s7, fun i hi j hj => ?_⟩
    show m' (72 + (4 * i + j)) = _
    rw [he _ (by omega)]; exact s8 i hi j hj
theorem rel_70 {n k j : Nat} (hn : n ≤ 8) (hk : k ≤ 6) (h : rel n k j) : j < 70 := by unfold rel at h; omega
theorem RSh_m {I : Nat → Nat → Int32} {J : Nat → Nat → Int64} {E : Nat → Nat → Nat} {p : Nat} {m m' : Nat → Int32} {nm nm' : Nat → Int64} {n k : Nat} (he : ∀ j, j < 312 → m' j = m j) (hn : ∀ j, j < 14 → nm' j = nm j) (h : RSh I J E p m nm n k) : RSh I J E p m' nm' n k := by
  obtain ⟨h1, h2, h3, ⟨T, U, h4, h5⟩, ⟨S, h6, h7⟩, h8⟩ := h
  have n8 := h1.1.2
  have k6 := h1.2.1.2
  have ag : Agr n k m m' := fun j hj => (he j (by have := rel_70 n8 k6 hj; omega)).symm
  exact ⟨IvL_agr ag h1, IvS_agr ag h2, fun j hj => (h3 j hj).trans (ag j hj), ⟨T, U, fun b hb => by rw [hn b (by omega)]; exact h4 b hb, fun r hr => by rw [hn (8 + r) (by omega)]; exact h5 r hr⟩, ⟨S, h6, MSp_m he h7⟩, h8⟩
theorem RSh_p {I I' : Nat → Nat → Int32} {J J' : Nat → Nat → Int64} {E E' : Nat → Nat → Nat} {p q : Nat} {m : Nat → Int32} {nm : Nat → Int64} {n k : Nat} (ho : ∀ o, I (q + 1) 4 = bi o → I' (p + 1) 4 = bi o) (hr : ∀ j, j < 70 → rSg I' (p + 1) (p + 8) j = rSg I (q + 1) (q + 8) j) (h1 : ∀ j, j < 8 → J' (p + 2) j = J (q + 2) j) (h2 : ∀ j, j < 6 → J' (p + 6) j = J (q + 6) j) (h3 : I' (p + 14) 0 = I (q + 14) 0 ∧ I' (p + 14) 1 = I (q + 14) 1) (h4 : ∀ j, j < 40 → I' (p + 16) j = I (q + 16) j ∧ I' (p + 17) j = I (q + 17) j ∧ E' (p + 15) j = E (q + 15) j) (h : RSh I J E q m nm n k) : RSh I' J' E' p m nm n k := by
  obtain ⟨g1, g2, g3, ⟨T, U, g4, g5⟩, ⟨S, g6, g7⟩, ⟨o, g8⟩⟩ := h
  have n8 := g1.1.2
  have k6 := g1.2.1.2
  have sl : S.1 ≤ 40 := by
    rcases g7 with ⟨s1, -⟩ | ⟨-, s2, -⟩
    · omega
    · omega
  refine ⟨g1, g2, fun j hj => (hr j (rel_70 n8 k6 hj)).trans (g3 j hj), ⟨T, U, fun b hb => by rw [h1 b (by omega)]; exact g4 b hb, fun r hr => by rw [h2 r (by omega)]; exact g5 r hr⟩, ⟨S, ⟨by rw [h3.1]; exact g6.1, by rw [h3.2]; exact g6.2.1, fun i hi => ?_⟩, g7⟩, o, ho o g8⟩
  obtain ⟨e1, e2, e3⟩ := h4 i (by omega)
  obtain ⟨c1, c2, c3⟩ := g6.2.2 i hi
  exact ⟨e3.trans c1, e1.trans c2, e2.trans c3⟩
theorem z_312 (b j : Nat) : (312 : Int32) * Int32.ofNat b + Int32.ofNat j = Int32.ofNat (312 * b + j) := by
  rw [show (312 : Int32) * Int32.ofNat b = Int32.ofNat (312 * b) from zI_mul 312 b]; exact zc_add _ _
theorem z_14 (b j : Nat) : (14 : Int32) * Int32.ofNat b + Int32.ofNat j = Int32.ofNat (14 * b + j) := by
  rw [show (14 : Int32) * Int32.ofNat b = Int32.ofNat (14 * b) from zI_mul 14 b]; exact zc_add _ _
theorem m_im18 (env : am_E) (d : Nat) (b : Nat) (hb : b < 2) (I : Nat → Nat → Int32) (J : Nat → Nat → Int64) (E : Nat → Nat → Nat) : ∃ I' J', am_ev env (d + 1, 299, 18, [some (.ref 156), some (.int (Int32.ofNat b)), some (.int 0)], [], am_hp I J E) = some (true, some (.int 1), am_hp I' J' E) ∧ (∀ q, q ≠ 160 → q ≠ 166 → I' q = I q) ∧ (∀ j, j ≠ b → I' 166 j = I 166 j) ∧ I' 166 b = 1 ∧ (∀ j, j < 312 → I' 160 (312 * b + j) = I 158 j) ∧ (∀ j, (j < 312 * b ∨ 312 * b + 312 ≤ j) → I' 160 j = I 160 j) ∧ (∀ q, q ≠ 165 → J' q = J q) ∧ (∀ j, j < 14 → J' 165 (14 * b + j) = J 163 j) ∧ ∀ j, (j < 14 * b ∨ 14 * b + 14 ≤ j) → J' 165 j = J 165 j := by
  have l1 := zcopy (fun a I => am_ev env (d + 1, 299, 18, [some (.ref 156), some (.int (Int32.ofNat b)), some (.int (Int32.ofNat a))], [], am_hp I J E)) I 160 (312 * b) (I 158) 312 (fun a ha => by
    refine (bk_299_18 _ _ _ _ _ _ _).trans ?_
    rw [show decide ((312 : Int32) ≤ Int32.ofNat a) = false from zle_f 312 a ha (by omega), z_312, ur_ne _ _ _ 158 (by omega)]
    simp (disch := omega) only [decide_true, decide_false, Bool.not_true, Bool.not_false, am_cont, Option.bind_some, Option.toList_some, Option.toList_none, List.singleton_append, List.nil_append, cond_true, cond_false, zI_in, zI_nat, am_u_r, ur_ur, ur_at, zd_1])
  have e1 := bk_299_18 env d (Int32.ofNat b) (Int32.ofNat 312) (am_ur I 160 (cpr (I 160) (312 * b) 312 (I 158))) J E
  rw [show decide ((312 : Int32) ≤ Int32.ofNat 312) = true by decide, cond_true] at e1
  have loop : ∀ a, a ≤ 14 → ∃ J', am_ev env (d + 1, 299, 51, [some (.ref 156), some (.int (Int32.ofNat b)), some (.int 0)], [], am_hp (am_ur I 160 (cpr (I 160) (312 * b) 312 (I 158))) J E) = am_ev env (d + 1, 299, 51, [some (.ref 156), some (.int (Int32.ofNat b)), some (.int (Int32.ofNat a))], [], am_hp (am_ur I 160 (cpr (I 160) (312 * b) 312 (I 158))) J' E) ∧ (∀ q, q ≠ 165 → J' q = J q) ∧ (∀ j, j < a → J' 165 (14 * b + j) = J 163 j) ∧ ∀ j, (j < 14 * b ∨ 14 * b + a ≤ j) → J' 165 j = J 165 j := by
    intro a
    induction a with
    | zero => intro _; exact ⟨J, rfl, fun _ _ => rfl, fun j hj => absurd hj (Nat.not_lt_zero _), fun _ _ => rfl⟩
    | succ a ih =>
      intro ha
      obtain ⟨J1, g1, g2, g3, g4⟩ := ih (by omega)
      refine ⟨am_u J1 165 (14 * b + a) (J1 163 a), g1.trans ((bk_299_51 _ _ _ _ _ _ _).trans ?_), fun q hq => by rw [am_u_ng _ _ _ _ _ hq]; exact g2 q hq, fun j hj => ?_, fun j hj => ?_⟩
      · rw [show decide ((14 : Int32) ≤ Int32.ofNat a) = false from zle_f 14 a (by omega) (by omega), z_14, zI_in a 14 (by omega) (by omega), zI_in (14 * b + a) 28 (by omega) (by omega), zI_nat a (by omega), zI_nat (14 * b + a) (by omega), zd_1]
        rfl
      · rw [am_u_sg]
        by_cases e : 14 * b + j = 14 * b + a
        · rw [if_pos e, g2 163 (by omega), show j = a by omega]
        · rw [if_neg e]; exact g3 j (by omega)
      · rw [am_u_sg, if_neg (by omega)]; exact g4 j (by omega)
  obtain ⟨J1, g1, g2, g3, g4⟩ := loop 14 (Nat.le_refl _)
  have e2 := bk_299_51 env d (Int32.ofNat b) (Int32.ofNat 14) (am_ur I 160 (cpr (I 160) (312 * b) 312 (I 158))) J1 E
  rw [show decide ((14 : Int32) ≤ Int32.ofNat 14) = true by decide, cond_true, zI_in b 2 hb (by omega), zI_nat b (by omega)] at e2
  refine ⟨_, J1, l1.trans (e1.trans (g1.trans e2)), fun q a1 a2 => ?_, fun j hj => ?_, ?_, fun j hj => ?_, fun j hj => ?_, g2, g3, fun j hj => g4 j (by omega)⟩
  · rw [am_u_ng _ _ _ _ _ a2, ur_ne _ _ _ _ a1]
  · rw [am_u_sg, if_neg hj, ur_ne _ _ _ _ (by omega)]
  · rw [am_u_at]
  · rw [am_u_ng _ _ _ _ _ (by omega), ur_at, cpr_in _ _ _ _ _ hj]
  · rw [am_u_ng _ _ _ _ _ (by omega), ur_at, cpr_out _ _ _ _ _ (by omega)]
theorem m_re27 (env : am_E) (d : Nat) (b : Nat) (hb : b < 2) (I : Nat → Nat → Int32) (J : Nat → Nat → Int64) (E : Nat → Nat → Nat) : ∃ I' J', am_ev env (d + 1, 300, 27, [some (.ref 156), some (.int (Int32.ofNat b)), some (.int 0)], [], am_hp I J E) = some (true, some (.int 1), am_hp I' J' E) ∧ (∀ q, q ≠ 158 → q ≠ 156 → I' q = I q) ∧ (∀ j, j ≠ 24 → I' 156 j = I 156 j) ∧ I' 156 24 = 0 ∧ (∀ j, j < 312 → I' 158 j = I 160 (312 * b + j)) ∧ (∀ q, q ≠ 163 → J' q = J q) ∧ ∀ j, j < 14 → J' 163 j = J 165 (14 * b + j) := by
  have l1 := zcopy (fun a I => am_ev env (d + 1, 300, 27, [some (.ref 156), some (.int (Int32.ofNat b)), some (.int (Int32.ofNat a))], [], am_hp I J E)) I 158 0 (fun j => I 160 (312 * b + j)) 312 (fun a ha => by
    refine (bk_300_27 _ _ _ _ _ _ _).trans ?_
    rw [show decide ((312 : Int32) ≤ Int32.ofNat a) = false from zle_f 312 a ha (by omega), z_312, ur_ne _ _ _ 160 (by omega)]
    simp (disch := omega) only [decide_true, decide_false, Bool.not_true, Bool.not_false, am_cont, Option.bind_some, Option.toList_some, Option.toList_none, List.singleton_append, List.nil_append, cond_true, cond_false, zI_in, zI_nat, am_u_r, ur_ur, ur_at, zd_1, Nat.zero_add])
  have e1 := bk_300_27 env d (Int32.ofNat b) (Int32.ofNat 312) (am_ur I 158 (cpr (I 158) 0 312 (fun j => I 160 (312 * b + j)))) J E
  rw [show decide ((312 : Int32) ≤ Int32.ofNat 312) = true by decide, cond_true] at e1
  have l2 := zcopyG (fun a J => am_ev env (d + 1, 300, 60, [some (.ref 156), some (.int (Int32.ofNat b)), some (.int (Int32.ofNat a))], [], am_hp (am_ur I 158 (cpr (I 158) 0 312 (fun j => I 160 (312 * b + j)))) J E)) J 163 (fun j => J 165 (14 * b + j)) 14 (fun a ha => by
    refine (bk_300_60 _ _ _ _ _ _ _).trans ?_
    rw [show decide ((14 : Int32) ≤ Int32.ofNat a) = false from zle_f 14 a ha (by omega), z_14, ur_ne _ _ _ 165 (by omega)]
    simp (disch := omega) only [decide_true, decide_false, Bool.not_true, Bool.not_false, am_cont, Option.bind_some, Option.toList_some, Option.toList_none, List.singleton_append, List.nil_append, cond_true, cond_false, zI_in, zI_nat, am_u_g, zd_1])
  have e2 := bk_300_60 env d (Int32.ofNat b) (Int32.ofNat 14) (am_ur I 158 (cpr (I 158) 0 312 (fun j => I 160 (312 * b + j)))) (am_ur J 163 (cpg (J 163) 14 (fun j => J 165 (14 * b + j)))) E
  rw [show decide ((14 : Int32) ≤ Int32.ofNat 14) = true by decide, cond_true] at e2
  refine ⟨_, _, l1.trans (e1.trans (l2.trans e2)), fun q a1 a2 => ?_, fun j hj => ?_, ?_, fun j hj => ?_, fun q hq => ur_ne _ _ _ _ hq, fun j hj => ?_⟩
  · rw [am_u_ng _ _ _ _ _ a2, ur_ne _ _ _ _ a1]
  · rw [am_u_sg, if_neg hj, ur_ne _ _ _ _ (by omega)]
  · rw [am_u_at]
  · have := cpr_in (I 158) 0 312 (fun j => I 160 (312 * b + j)) j hj
    rw [Nat.zero_add] at this
    rw [am_u_ng _ _ _ _ _ (by omega), ur_at, this]
  · rw [ur_at]; unfold cpg; rw [if_pos hj]
