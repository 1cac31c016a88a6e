/-! the whole relation between the class's places and the reference's: kept by every call -/
def Rel (I : Nat → Nat → Int32) (J : Nat → Nat → Int64) (E : Nat → Nat → Nat) : Prop := ∃ n k, (∃ t h, R1 I n k t h) ∧ RT I ∧ RV I ∧ RTo I ∧ RSl I ∧ RW I ∧ RRg I ∧ RC I ∧ RFi I ∧ RHo I ∧ RN J n k ∧ RSe I E n ∧ RIm I J E ∧ ∃ o, I 5 4 = bi o
theorem RT_c {I I2 : Nat → Nat → Int32} (h : RT I) (e : ∀ q j, (q = 2 ∨ q = 3 ∨ (q = 156 ∧ j = 2) ∨ q = 157) → I2 q j = I q j) : RT I2 := by
  obtain ⟨z, h1, h2, h3, h4⟩ := h
  exact ⟨z, h1, by rw [e 2 0 (by omega)]; exact h2, by rw [e 156 2 (by omega)]; exact h3, fun j hj => by rw [e 3 j (by omega), e 157 j (by omega)]; exact h4 j hj⟩
theorem RV_c {I I2 : Nat → Nat → Int32} (h : RV I) (e : ∀ q j, ((q = 0 ∧ j = 13) ∨ (q = 156 ∧ j = 10)) → I2 q j = I q j) : RV I2 := by
  unfold RV at h ⊢
  rw [e 0 13 (by omega), e 156 10 (by omega)]; exact h
theorem RTo_c {I I2 : Nat → Nat → Int32} (h : RTo I) (e : ∀ q j, ((q = 156 ∧ j = 46) ∨ q = 115 ∨ q = 176) → I2 q j = I q j) : RTo I2 := by
  rcases h with ⟨h1, h2⟩ | ⟨h1, h2⟩
  · exact Or.inl ⟨by rw [e 156 46 (by omega)]; exact h1, fun j hj => by rw [e 115 j (by omega)]; exact h2 j hj⟩
  · exact Or.inr ⟨by rw [e 156 46 (by omega)]; exact h1, fun j hj => by rw [e 115 j (by omega), e 176 j (by omega)]; exact h2 j hj⟩
theorem RSl_c {I I2 : Nat → Nat → Int32} (h : RSl I) (e : ∀ q j, ((q = 0 ∧ j = 12) ∨ (q = 156 ∧ j = 41) ∨ q = 116 ∨ q = 174) → I2 q j = I q j) : RSl I2 := by
  obtain ⟨z, h1, h2, h3, h4⟩ := h
  exact ⟨z, h1, by rw [e 0 12 (by omega)]; exact h2, by rw [e 156 41 (by omega)]; exact h3, fun j hj => by rw [e 116 j (by omega), e 174 j (by omega)]; exact h4 j hj⟩
theorem RW_c {I I2 : Nat → Nat → Int32} (h : RW I) (e : ∀ q j, ((q = 104 ∧ j = 4) ∨ (q = 156 ∧ j = 26) ∨ q = 107 ∨ q = 167) → I2 q j = I q j) : RW I2 := by
  obtain ⟨z, h1, h2, h3, h4⟩ := h
  exact ⟨z, h1, by rw [e 104 4 (by omega)]; exact h2, by rw [e 156 26 (by omega)]; exact h3, fun j hj => by rw [e 107 j (by omega), e 167 j (by omega)]; exact h4 j hj⟩
theorem RRg_c {I I2 : Nat → Nat → Int32} (h : RRg I) (e : ∀ q j, ((q = 104 ∧ j = 6) ∨ (q = 156 ∧ j = 29) ∨ q = 108 ∨ q = 169) → I2 q j = I q j) : RRg I2 := by
  obtain ⟨z, h1, h2, h3, h4⟩ := h
  exact ⟨z, h1, by rw [e 104 6 (by omega)]; exact h2, by rw [e 156 29 (by omega)]; exact h3, fun j hj => by rw [e 108 j (by omega), e 169 j (by omega)]; exact h4 j hj⟩
theorem RC_c {I I2 : Nat → Nat → Int32} (h : RC I) (e : ∀ q j, ((q = 0 ∧ j = 14) ∨ (q = 156 ∧ j = 30)) → I2 q j = I q j) : RC I2 := by
  unfold RC at h ⊢
  rw [e 0 14 (by omega), e 156 30 (by omega)]; exact h
theorem RFi_c {I I2 : Nat → Nat → Int32} (h : RFi I) (e : ∀ q j, ((q = 0 ∧ (j = 15 ∨ j = 16)) ∨ (q = 156 ∧ (j = 31 ∨ j = 32))) → I2 q j = I q j) : RFi I2 := by
  unfold RFi at h ⊢
  rw [e 0 15 (by omega), e 0 16 (by omega), e 156 31 (by omega), e 156 32 (by omega)]; exact h
theorem RHo_c {I I2 : Nat → Nat → Int32} (h : RHo I) (e : ∀ q j, ((q = 109 ∧ j = 1) ∨ q = 110 ∨ (q = 156 ∧ (j = 38 ∨ j = 39)) ∨ q = 172) → I2 q j = I q j) : RHo I2 := by
  obtain ⟨k, h1, h2, h3⟩ := h
  refine ⟨k, h1, by rw [e 109 1 (by omega)]; exact h2, ?_⟩
  rw [e 156 39 (by omega), e 156 38 (by omega)]
  rcases h3 with h3 | ⟨a, b, c⟩
  · exact Or.inl h3
  · exact Or.inr ⟨a, b, fun j hj => by rw [e 110 j (by omega), e 172 j (by omega)]; exact c j hj⟩
theorem RN_c {J J2 : Nat → Nat → Int64} {n k : Nat} (h : RN J n k) (h6 : J2 6 = J 6) (h10 : J2 10 = J 10) (h163 : J2 163 = J 163) : RN J2 n k := by
  obtain ⟨T, U, a, b⟩ := h
  exact ⟨T, U, by rw [h6, h163]; exact a, by rw [h10, h163]; exact b⟩
theorem MSp_c {n : Nat} {m m' : Nat → Int32} {S : Ssn} (he : ∀ j, 70 ≤ j → m' j = m j) (h : MSp n m S) : MSp n m' S := by
  have e2 : (fun j => m' (72 + j)) = (fun j => m (72 + j)) := funext fun j => he _ (by omega)
  rcases h with ⟨a, b, c⟩ | ⟨a, b, c, d, e, f, g, i⟩
  · exact Or.inl ⟨a, b, by rw [he 70 (by omega)]; exact c⟩
  · exact Or.inr ⟨a, b, c, d, e, by rw [he 70 (by omega)]; exact f, by rw [he 71 (by omega)]; exact g, by rw [e2]; exact i⟩
theorem RSe_c {I I2 : Nat → Nat → Int32} {E E2 : Nat → Nat → Nat} {n : Nat} (h : RSe I E n) (e : ∀ q j, ((18 ≤ q ∧ q ≤ 21) ∨ (q = 158 ∧ 70 ≤ j)) → I2 q j = I q j) (h19 : E2 19 = E 19) (h38 : E2 38 = E 38) : RSe I2 E2 n := by
  obtain ⟨⟨S, ⟨a, b, c⟩, d⟩, f⟩ := h
  refine ⟨⟨S, ⟨by rw [e 18 0 (by omega)]; exact a, by rw [e 18 1 (by omega)]; exact b, fun i hi => ?_⟩, MSp_c (fun j hj => e 158 j (by omega)) d⟩, by rw [h19, h38]; exact f⟩
  have c := c i hi
  show E2 19 i = _ ∧ I2 20 i = _ ∧ I2 21 i = _
  rw [h19, e 20 i (by omega), e 21 i (by omega)]
  exact c
theorem RIm_c {I I2 : Nat → Nat → Int32} {J J2 : Nat → Nat → Int64} {E E2 : Nat → Nat → Nat} (h : RIm I J E) (e : ∀ q j, ((118 ≤ q ∧ q ≤ 155) ∨ q = 160 ∨ q = 166) → I2 q j = I q j) (hJ : ∀ q, ((118 ≤ q ∧ q ≤ 155) ∨ q = 165) → J2 q = J q) (hE : ∀ q, (118 ≤ q ∧ q ≤ 155) → E2 q = E q) : RIm I2 J2 E2 := by
  intro b hb
  exact RIb_fr (fun r h1 h2 => funext fun j => e r j (by omega)) (fun r h1 h2 => hJ r (by omega)) (hE _ (by omega)) (e 166 b (by omega)) (fun j hj => e 160 _ (by omega)) (fun j hj => by rw [hJ 165 (by omega)]) (h b hb)
theorem opR_3 {cf mf : am_O} {I : Nat → Nat → Int32} {J : Nat → Nat → Int64} {E : Nat → Nat → Nat} {P : (Nat → Nat → Int32) → Prop} (h : opR cf mf I J E P) (hp : ∀ I2, P I2 → Rel I2 J E) : opR3 cf mf I J E Rel := by
  obtain ⟨v, I1, I2, h1, h2, h3⟩ := h
  exact ⟨v, I1, J, E, I2, J, E, h1, h2, hp I2 h3⟩
theorem opR3_m {cf mf : am_O} {I : Nat → Nat → Int32} {J : Nat → Nat → Int64} {E : Nat → Nat → Nat} {P : (Nat → Nat → Int32) → (Nat → Nat → Int64) → (Nat → Nat → Nat) → Prop} (h : opR3 cf mf I J E P) (hp : ∀ I2 J2 E2, P I2 J2 E2 → Rel I2 J2 E2) : opR3 cf mf I J E Rel := by
  obtain ⟨v, I1, J1, E1, I2, J2, E2, h1, h2, h3⟩ := h
  exact ⟨v, I1, J1, E1, I2, J2, E2, h1, h2, hp I2 J2 E2 h3⟩
theorem c1_0 {q j : Nat} (h : q = 0) : ¬ C1 q j := fun hc => hc (Or.inl h)
theorem c1_1 {q j : Nat} (h : q = 2) : ¬ C1 q j := fun hc => hc (Or.inr (Or.inl h))
theorem c1_2 {q j : Nat} (h : q = 3) : ¬ C1 q j := fun hc => hc (Or.inr (Or.inr (Or.inl h)))
theorem c1_3 {q j : Nat} (h : (5 ≤ q ∧ q ≤ 11)) : ¬ C1 q j := fun hc => hc (Or.inr (Or.inr (Or.inr (Or.inl h))))
theorem c1_4 {q j : Nat} (h : (18 ≤ q ∧ q ≤ 21)) : ¬ C1 q j := fun hc => hc (Or.inr (Or.inr (Or.inr (Or.inr (Or.inl h)))))
theorem c1_5 {q j : Nat} (h : (q = 104 ∧ (j = 4 ∨ j = 6))) : ¬ C1 q j := fun hc => hc (Or.inr (Or.inr (Or.inr (Or.inr (Or.inr (Or.inl h))))))
theorem c1_6 {q j : Nat} (h : q = 107) : ¬ C1 q j := fun hc => hc (Or.inr (Or.inr (Or.inr (Or.inr (Or.inr (Or.inr (Or.inl h)))))))
theorem c1_7 {q j : Nat} (h : q = 108) : ¬ C1 q j := fun hc => hc (Or.inr (Or.inr (Or.inr (Or.inr (Or.inr (Or.inr (Or.inr (Or.inl h))))))))
theorem c1_8 {q j : Nat} (h : (q = 109 ∧ j = 1)) : ¬ C1 q j := fun hc => hc (Or.inr (Or.inr (Or.inr (Or.inr (Or.inr (Or.inr (Or.inr (Or.inr (Or.inl h)))))))))
theorem c1_9 {q j : Nat} (h : q = 110) : ¬ C1 q j := fun hc => hc (Or.inr (Or.inr (Or.inr (Or.inr (Or.inr (Or.inr (Or.inr (Or.inr (Or.inr (Or.inl h))))))))))
theorem c1_10 {q j : Nat} (h : q = 115) : ¬ C1 q j := fun hc => hc (Or.inr (Or.inr (Or.inr (Or.inr (Or.inr (Or.inr (Or.inr (Or.inr (Or.inr (Or.inr (Or.inl h)))))))))))
theorem c1_11 {q j : Nat} (h : q = 116) : ¬ C1 q j := fun hc => hc (Or.inr (Or.inr (Or.inr (Or.inr (Or.inr (Or.inr (Or.inr (Or.inr (Or.inr (Or.inr (Or.inr (Or.inl h))))))))))))
theorem c1_12 {q j : Nat} (h : (118 ≤ q ∧ q ≤ 155)) : ¬ C1 q j := fun hc => hc (Or.inr (Or.inr (Or.inr (Or.inr (Or.inr (Or.inr (Or.inr (Or.inr (Or.inr (Or.inr (Or.inr (Or.inr (Or.inl h)))))))))))))
theorem c1_13 {q j : Nat} (h : (q = 156 ∧ (j = 2 ∨ j = 10 ∨ j = 26 ∨ j = 29 ∨ j = 30 ∨ j = 31 ∨ j = 32 ∨ j = 38 ∨ j = 39 ∨ j = 41 ∨ j = 46))) : ¬ C1 q j := fun hc => hc (Or.inr (Or.inr (Or.inr (Or.inr (Or.inr (Or.inr (Or.inr (Or.inr (Or.inr (Or.inr (Or.inr (Or.inr (Or.inr (Or.inl h))))))))))))))
theorem c1_14 {q j : Nat} (h : q = 157) : ¬ C1 q j := fun hc => hc (Or.inr (Or.inr (Or.inr (Or.inr (Or.inr (Or.inr (Or.inr (Or.inr (Or.inr (Or.inr (Or.inr (Or.inr (Or.inr (Or.inr (Or.inl h)))))))))))))))
theorem c1_15 {q j : Nat} (h : (q = 158 ∧ (j < 34 ∨ 70 ≤ j))) : ¬ C1 q j := fun hc => hc (Or.inr (Or.inr (Or.inr (Or.inr (Or.inr (Or.inr (Or.inr (Or.inr (Or.inr (Or.inr (Or.inr (Or.inr (Or.inr (Or.inr (Or.inr (Or.inl h))))))))))))))))
theorem c1_16 {q j : Nat} (h : q = 160) : ¬ C1 q j := fun hc => hc (Or.inr (Or.inr (Or.inr (Or.inr (Or.inr (Or.inr (Or.inr (Or.inr (Or.inr (Or.inr (Or.inr (Or.inr (Or.inr (Or.inr (Or.inr (Or.inr (Or.inl h)))))))))))))))))
theorem c1_17 {q j : Nat} (h : q = 166) : ¬ C1 q j := fun hc => hc (Or.inr (Or.inr (Or.inr (Or.inr (Or.inr (Or.inr (Or.inr (Or.inr (Or.inr (Or.inr (Or.inr (Or.inr (Or.inr (Or.inr (Or.inr (Or.inr (Or.inr (Or.inl h))))))))))))))))))
theorem c1_18 {q j : Nat} (h : q = 167) : ¬ C1 q j := fun hc => hc (Or.inr (Or.inr (Or.inr (Or.inr (Or.inr (Or.inr (Or.inr (Or.inr (Or.inr (Or.inr (Or.inr (Or.inr (Or.inr (Or.inr (Or.inr (Or.inr (Or.inr (Or.inr (Or.inl h)))))))))))))))))))
theorem c1_19 {q j : Nat} (h : q = 169) : ¬ C1 q j := fun hc => hc (Or.inr (Or.inr (Or.inr (Or.inr (Or.inr (Or.inr (Or.inr (Or.inr (Or.inr (Or.inr (Or.inr (Or.inr (Or.inr (Or.inr (Or.inr (Or.inr (Or.inr (Or.inr (Or.inr (Or.inl h))))))))))))))))))))
theorem c1_20 {q j : Nat} (h : q = 172) : ¬ C1 q j := fun hc => hc (Or.inr (Or.inr (Or.inr (Or.inr (Or.inr (Or.inr (Or.inr (Or.inr (Or.inr (Or.inr (Or.inr (Or.inr (Or.inr (Or.inr (Or.inr (Or.inr (Or.inr (Or.inr (Or.inr (Or.inr (Or.inl h)))))))))))))))))))))
theorem c1_21 {q j : Nat} (h : q = 174) : ¬ C1 q j := fun hc => hc (Or.inr (Or.inr (Or.inr (Or.inr (Or.inr (Or.inr (Or.inr (Or.inr (Or.inr (Or.inr (Or.inr (Or.inr (Or.inr (Or.inr (Or.inr (Or.inr (Or.inr (Or.inr (Or.inr (Or.inr (Or.inr (Or.inl h))))))))))))))))))))))
theorem c1_22 {q j : Nat} (h : q = 176) : ¬ C1 q j := fun hc => hc (Or.inr (Or.inr (Or.inr (Or.inr (Or.inr (Or.inr (Or.inr (Or.inr (Or.inr (Or.inr (Or.inr (Or.inr (Or.inr (Or.inr (Or.inr (Or.inr (Or.inr (Or.inr (Or.inr (Or.inr (Or.inr (Or.inr h))))))))))))))))))))))
theorem k_RT {q j : Nat} (hq : q = 2 ∨ q = 3 ∨ (q = 156 ∧ j = 2) ∨ q = 157) : ¬ C1 q j := by
  rcases hq with h | h | h | h
  · exact c1_1 h
  · exact c1_2 h
  · exact c1_13 ⟨h.1, by omega⟩
  · exact c1_14 h
theorem k_RV {q j : Nat} (hq : (q = 0 ∧ j = 13) ∨ (q = 156 ∧ j = 10)) : ¬ C1 q j := by
  rcases hq with h | h
  · exact c1_0 h.1
  · exact c1_13 ⟨h.1, by omega⟩
theorem k_RTo {q j : Nat} (hq : (q = 156 ∧ j = 46) ∨ q = 115 ∨ q = 176) : ¬ C1 q j := by
  rcases hq with h | h | h
  · exact c1_13 ⟨h.1, by omega⟩
  · exact c1_10 h
  · exact c1_22 h
theorem k_RSl {q j : Nat} (hq : (q = 0 ∧ j = 12) ∨ (q = 156 ∧ j = 41) ∨ q = 116 ∨ q = 174) : ¬ C1 q j := by
  rcases hq with h | h | h | h
  · exact c1_0 h.1
  · exact c1_13 ⟨h.1, by omega⟩
  · exact c1_11 h
  · exact c1_21 h
theorem k_RW {q j : Nat} (hq : (q = 104 ∧ j = 4) ∨ (q = 156 ∧ j = 26) ∨ q = 107 ∨ q = 167) : ¬ C1 q j := by
  rcases hq with h | h | h | h
  · exact c1_5 ⟨h.1, by omega⟩
  · exact c1_13 ⟨h.1, by omega⟩
  · exact c1_6 h
  · exact c1_18 h
theorem k_RRg {q j : Nat} (hq : (q = 104 ∧ j = 6) ∨ (q = 156 ∧ j = 29) ∨ q = 108 ∨ q = 169) : ¬ C1 q j := by
  rcases hq with h | h | h | h
  · exact c1_5 ⟨h.1, by omega⟩
  · exact c1_13 ⟨h.1, by omega⟩
  · exact c1_7 h
  · exact c1_19 h
theorem k_RC {q j : Nat} (hq : (q = 0 ∧ j = 14) ∨ (q = 156 ∧ j = 30)) : ¬ C1 q j := by
  rcases hq with h | h
  · exact c1_0 h.1
  · exact c1_13 ⟨h.1, by omega⟩
theorem k_RFi {q j : Nat} (hq : (q = 0 ∧ (j = 15 ∨ j = 16)) ∨ (q = 156 ∧ (j = 31 ∨ j = 32))) : ¬ C1 q j := by
  rcases hq with h | h
  · exact c1_0 h.1
  · exact c1_13 ⟨h.1, by omega⟩
theorem k_RHo {q j : Nat} (hq : (q = 109 ∧ j = 1) ∨ q = 110 ∨ (q = 156 ∧ (j = 38 ∨ j = 39)) ∨ q = 172) : ¬ C1 q j := by
  rcases hq with h | h | h | h
  · exact c1_8 h
  · exact c1_9 h
  · exact c1_13 ⟨h.1, by omega⟩
  · exact c1_20 h
theorem k_RSe {q j : Nat} (hq : (18 ≤ q ∧ q ≤ 21) ∨ (q = 158 ∧ 70 ≤ j)) : ¬ C1 q j := by
  rcases hq with h | h
  · exact c1_4 h
  · exact c1_15 ⟨h.1, Or.inr h.2⟩
theorem k_RIm {q j : Nat} (hq : (118 ≤ q ∧ q ≤ 155) ∨ q = 160 ∨ q = 166) : ¬ C1 q j := by
  rcases hq with h | h | h
  · exact c1_12 h
  · exact c1_16 h
  · exact c1_17 h
theorem rel_P1 {I I2 : Nat → Nat → Int32} {J : Nat → Nat → Int64} {E : Nat → Nat → Nat} {n k : Nat} (hT : RT I) (hV : RV I) (hTo : RTo I) (hSl : RSl I) (hW : RW I) (hRg : RRg I) (hC : RC I) (hFi : RFi I) (hHo : RHo I) (hN : RN J n k) (hSe : RSe I E n) (hIm : RIm I J E) (h54 : ∃ o, I 5 4 = bi o) (hp : P1 I n k I2) : Rel I2 J E := by
  obtain ⟨h1, hf⟩ := hp
  exact ⟨n, k, h1, RT_c hT (fun q j hq => hf q j (k_RT hq)), RV_c hV (fun q j hq => hf q j (k_RV hq)), RTo_c hTo (fun q j hq => hf q j (k_RTo hq)), RSl_c hSl (fun q j hq => hf q j (k_RSl hq)), RW_c hW (fun q j hq => hf q j (k_RW hq)), RRg_c hRg (fun q j hq => hf q j (k_RRg hq)), RC_c hC (fun q j hq => hf q j (k_RC hq)), RFi_c hFi (fun q j hq => hf q j (k_RFi hq)), RHo_c hHo (fun q j hq => hf q j (k_RHo hq)), RN_c hN rfl rfl rfl, RSe_c hSe (fun q j hq => hf q j (k_RSe hq)) rfl rfl, RIm_c hIm (fun q j hq => hf q j (k_RIm hq)) (fun _ _ => rfl) (fun _ _ => rfl), (let ⟨o, ho⟩ := h54; ⟨o, (hf 5 4 (c1_3 (by omega))).trans ho⟩)⟩
theorem rl_feed (env : am_E) (d : Nat) (I : Nat → Nat → Int32) (J : Nat → Nat → Int64) (E : Nat → Nat → Nat) (hrel : Rel I J E) (a b c e f : Int32) : opR3 (fun H => am_ev env (d + 60, 115, 0, [some (.ref 0), some (.int a), some (.int b), some (.int c), some (.int e), some (.int f)], [], H)) (fun H => am_ev env (d + 60, 172, 0, [some (.ref 156), some (.int a), some (.int b), some (.int c), some (.int e), some (.int f)], [], H)) I J E Rel := by
  obtain ⟨n, k, ⟨t, h, hR⟩, hT, hV, hTo, hSl, hW, hRg, hC, hFi, hHo, hN, hSe, hIm, h54⟩ := id hrel
  refine opR_3 (op_feed env (d + 40) I J E n k t h hR hT a b c e f) (fun I2 hp => ?_)
  obtain ⟨h1, hc, hf⟩ := hp
  exact ⟨n, k, h1, hc, RV_c hV (fun q j hq => hf q j (k_RV hq) (by unfold XT; omega)), RTo_c hTo (fun q j hq => hf q j (k_RTo hq) (by unfold XT; omega)), RSl_c hSl (fun q j hq => hf q j (k_RSl hq) (by unfold XT; omega)), RW_c hW (fun q j hq => hf q j (k_RW hq) (by unfold XT; omega)), RRg_c hRg (fun q j hq => hf q j (k_RRg hq) (by unfold XT; omega)), RC_c hC (fun q j hq => hf q j (k_RC hq) (by unfold XT; omega)), RFi_c hFi (fun q j hq => hf q j (k_RFi hq) (by unfold XT; omega)), RHo_c hHo (fun q j hq => hf q j (k_RHo hq) (by unfold XT; omega)), RN_c hN rfl rfl rfl, RSe_c hSe (fun q j hq => hf q j (k_RSe hq) (by unfold XT; omega)) rfl rfl, RIm_c hIm (fun q j hq => hf q j (k_RIm hq) (by unfold XT; omega)) (fun _ _ => rfl) (fun _ _ => rfl), (let ⟨o, ho⟩ := h54; ⟨o, (hf 5 4 (c1_3 (by omega)) (by unfold XT; omega)).trans ho⟩)⟩
theorem rl_end (env : am_E) (d : Nat) (I : Nat → Nat → Int32) (J : Nat → Nat → Int64) (E : Nat → Nat → Nat) (hrel : Rel I J E) (x : Int32) : opR3 (fun H => am_ev env (d + 60, 116, 0, [some (.ref 0), some (.int x)], [], H)) (fun H => am_ev env (d + 60, 173, 0, [some (.ref 156), some (.int x)], [], H)) I J E Rel := by
  obtain ⟨n, k, ⟨t, h, hR⟩, hT, hV, hTo, hSl, hW, hRg, hC, hFi, hHo, hN, hSe, hIm, h54⟩ := id hrel
  refine opR_3 (op_end env (d + 40) I J E n k t h hR hT x) (fun I2 hp => ?_)
  obtain ⟨h1, hc, hf⟩ := hp
  exact ⟨n, k, h1, hc, RV_c hV (fun q j hq => hf q j (k_RV hq) (by unfold XT; omega)), RTo_c hTo (fun q j hq => hf q j (k_RTo hq) (by unfold XT; omega)), RSl_c hSl (fun q j hq => hf q j (k_RSl hq) (by unfold XT; omega)), RW_c hW (fun q j hq => hf q j (k_RW hq) (by unfold XT; omega)), RRg_c hRg (fun q j hq => hf q j (k_RRg hq) (by unfold XT; omega)), RC_c hC (fun q j hq => hf q j (k_RC hq) (by unfold XT; omega)), RFi_c hFi (fun q j hq => hf q j (k_RFi hq) (by unfold XT; omega)), RHo_c hHo (fun q j hq => hf q j (k_RHo hq) (by unfold XT; omega)), RN_c hN rfl rfl rfl, RSe_c hSe (fun q j hq => hf q j (k_RSe hq) (by unfold XT; omega)) rfl rfl, RIm_c hIm (fun q j hq => hf q j (k_RIm hq) (by unfold XT; omega)) (fun _ _ => rfl) (fun _ _ => rfl), (let ⟨o, ho⟩ := h54; ⟨o, (hf 5 4 (c1_3 (by omega)) (by unfold XT; omega)).trans ho⟩)⟩
theorem rl_library (env : am_E) (d : Nat) (I : Nat → Nat → Int32) (J : Nat → Nat → Int64) (E : Nat → Nat → Nat) (hrel : Rel I J E) : opR3 (fun H => am_ev env (d + 60, 117, 0, [some (.ref 0), none], [], H)) (fun H => am_ev env (d + 60, 205, 0, [some (.ref 156), none, none], [], H)) I J E Rel := by
  obtain ⟨n, k, ⟨t, h, hR⟩, hT, hV, hTo, hSl, hW, hRg, hC, hFi, hHo, hN, hSe, hIm, h54⟩ := id hrel
  refine opR3_m (op_library2 env (d + 40) I J E n k t h hR hT) (fun I2 J2 E2 hp => ?_)
  obtain ⟨⟨hc, hd, hE, hp⟩, h38⟩ := hp
  rcases hp with ⟨h1, hf, hJ⟩ | ⟨n2, k2, h1, hN2, ho, e0, e1, e70, hf, hJ⟩
  · exact ⟨n, k, h1, hc, hd, RTo_c hTo (fun q j hq => hf q j (k_RTo hq) (by unfold XLf XT; omega)), RSl_c hSl (fun q j hq => hf q j (k_RSl hq) (by unfold XLf XT; omega)), RW_c hW (fun q j hq => hf q j (k_RW hq) (by unfold XLf XT; omega)), RRg_c hRg (fun q j hq => hf q j (k_RRg hq) (by unfold XLf XT; omega)), RC_c hC (fun q j hq => hf q j (k_RC hq) (by unfold XLf XT; omega)), RFi_c hFi (fun q j hq => hf q j (k_RFi hq) (by unfold XLf XT; omega)), RHo_c hHo (fun q j hq => hf q j (k_RHo hq) (by unfold XLf XT; omega)), RN_c hN (hJ 6 (by unfold CJ; omega)) (hJ 10 (by unfold CJ; omega)) (hJ 163 (by unfold CJ; omega)), RSe_c hSe (fun q j hq => hf q j (k_RSe hq) (by unfold XLf XT; omega)) (hE 19 (by unfold CJ; omega)) h38, RIm_c hIm (fun q j hq => hf q j (k_RIm hq) (by unfold XLf XT; omega)) (fun q hq => hJ q (by unfold CJ; omega)) (fun q hq => hE q (by unfold CJ; omega)), (let ⟨o, ho⟩ := h54; ⟨o, (hf 5 4 (c1_3 (by omega)) (by unfold XLf XT; omega)).trans ho⟩)⟩
  · exact ⟨n2, k2, h1, hc, hd, RTo_c hTo (fun q j hq => hf q j (k_RTo hq) (by unfold XLs XLf XT; omega)), RSl_c hSl (fun q j hq => hf q j (k_RSl hq) (by unfold XLs XLf XT; omega)), RW_c hW (fun q j hq => hf q j (k_RW hq) (by unfold XLs XLf XT; omega)), RRg_c hRg (fun q j hq => hf q j (k_RRg hq) (by unfold XLs XLf XT; omega)), RC_c hC (fun q j hq => hf q j (k_RC hq) (by unfold XLs XLf XT; omega)), RFi_c hFi (fun q j hq => hf q j (k_RFi hq) (by unfold XLs XLf XT; omega)), RHo_c hHo (fun q j hq => hf q j (k_RHo hq) (by unfold XLs XLf XT; omega)), hN2, ⟨⟨(0, 0, fun _ => (0, 0, 0), fun _ => (0, 0)), ⟨by rw [e0]; rfl, by rw [e1]; rfl, fun i hi => absurd hi (Nat.not_lt_zero _)⟩, Or.inl ⟨rfl, rfl, e70⟩⟩, fun j hj => by rw [hE 19 (by unfold CJ; omega), h38]; exact hSe.2 j hj⟩, RIm_c hIm (fun q j hq => hf q j (k_RIm hq) (by unfold XLs XLf XT; omega)) (fun q hq => hJ q (by unfold CJ; omega) (by omega) (by omega)) (fun q hq => hE q (by unfold CJ; omega)), ho⟩
theorem rl_fault (env : am_E) (d : Nat) (I : Nat → Nat → Int32) (J : Nat → Nat → Int64) (E : Nat → Nat → Nat) (hrel : Rel I J E) : opR3 (fun H => am_ev env (d + 60, 118, 0, [some (.ref 0)], [], H)) (fun H => am_ev env (d + 60, 206, 0, [some (.ref 156)], [], H)) I J E Rel := by
  obtain ⟨n, k, ⟨t, h, hR⟩, hT, hV, hTo, hSl, hW, hRg, hC, hFi, hHo, hN, hSe, hIm, h54⟩ := id hrel
  exact opR_3 (op_fault env (d + 40) I J E n k t h hR hV) (fun I2 hp => rel_P1 hT hV hTo hSl hW hRg hC hFi hHo hN hSe hIm h54 hp)
theorem rl_book (env : am_E) (d : Nat) (I : Nat → Nat → Int32) (J : Nat → Nat → Int64) (E : Nat → Nat → Nat) (hrel : Rel I J E) (x w : Int32) : opR3 (fun H => am_ev env (d + 60, 121, 0, [some (.ref 0), some (.int x), some (.int w), none], [], H)) (fun H => am_ev env (d + 60, 219, 0, [some (.ref 156), some (.int x), some (.int w), none, none], [], H)) I J E Rel := by
  obtain ⟨n, k, ⟨t, h, hR⟩, hT, hV, hTo, hSl, hW, hRg, hC, hFi, hHo, hN, hSe, hIm, h54⟩ := id hrel
  exact opR_3 (op_book env (d + 40) I J E n k t h hR x w) (fun I2 hp => rel_P1 hT hV hTo hSl hW hRg hC hFi hHo hN hSe hIm h54 hp)
theorem rl_now (env : am_E) (d : Nat) (I : Nat → Nat → Int32) (J : Nat → Nat → Int64) (E : Nat → Nat → Nat) (hrel : Rel I J E) (x : Int32) : opR3 (fun H => am_ev env (d + 60, 122, 0, [some (.ref 0), some (.int x), none], [], H)) (fun H => am_ev env (d + 60, 224, 0, [some (.ref 156), some (.int x), none, none], [], H)) I J E Rel := by
  obtain ⟨n, k, ⟨t, h, hR⟩, hT, hV, hTo, hSl, hW, hRg, hC, hFi, hHo, hN, hSe, hIm, h54⟩ := id hrel
  exact opR_3 (op_now env (d + 40) I J E n k t h hR x) (fun I2 hp => rel_P1 hT hV hTo hSl hW hRg hC hFi hHo hN hSe hIm h54 hp)
theorem rl_lend (env : am_E) (d : Nat) (I : Nat → Nat → Int32) (J : Nat → Nat → Int64) (E : Nat → Nat → Nat) (hrel : Rel I J E) (a x : Int32) : opR3 (fun H => am_ev env (d + 60, 123, 0, [some (.ref 0), some (.int a), some (.int x)], [], H)) (fun H => am_ev env (d + 60, 232, 0, [some (.ref 156), some (.int a), some (.int x)], [], H)) I J E Rel := by
  obtain ⟨n, k, ⟨t, h, hR⟩, hT, hV, hTo, hSl, hW, hRg, hC, hFi, hHo, hN, hSe, hIm, h54⟩ := id hrel
  exact opR_3 (op_lend env (d + 40) I J E n k t h hR a x) (fun I2 hp => rel_P1 hT hV hTo hSl hW hRg hC hFi hHo hN hSe hIm h54 hp)
theorem rl_back (env : am_E) (d : Nat) (I : Nat → Nat → Int32) (J : Nat → Nat → Int64) (E : Nat → Nat → Nat) (hrel : Rel I J E) (a : Int32) : opR3 (fun H => am_ev env (d + 60, 124, 0, [some (.ref 0), some (.int a)], [], H)) (fun H => am_ev env (d + 60, 233, 0, [some (.ref 156), some (.int a)], [], H)) I J E Rel := by
  obtain ⟨n, k, ⟨t, h, hR⟩, hT, hV, hTo, hSl, hW, hRg, hC, hFi, hHo, hN, hSe, hIm, h54⟩ := id hrel
  exact opR_3 (op_back env (d + 40) I J E n k t h hR a) (fun I2 hp => rel_P1 hT hV hTo hSl hW hRg hC hFi hHo hN hSe hIm h54 hp)
theorem rl_tell (env : am_E) (d : Nat) (I : Nat → Nat → Int32) (J : Nat → Nat → Int64) (E : Nat → Nat → Nat) (hrel : Rel I J E) (a x z : Int32) : opR3 (fun H => am_ev env (d + 60, 125, 0, [some (.ref 0), some (.int a), some (.int x), some (.int z), none], [], H)) (fun H => am_ev env (d + 60, 234, 0, [some (.ref 156), some (.int a), some (.int x), some (.int z)], [], H)) I J E Rel := by
  obtain ⟨n, k, ⟨t, h, hR⟩, hT, hV, hTo, hSl, hW, hRg, hC, hFi, hHo, hN, hSe, hIm, h54⟩ := id hrel
  exact opR_3 (op_tell env (d + 40) I J E n k t h hR a x z) (fun I2 hp => rel_P1 hT hV hTo hSl hW hRg hC hFi hHo hN hSe hIm h54 hp)
theorem rl_forge (env : am_E) (d : Nat) (I : Nat → Nat → Int32) (J : Nat → Nat → Int64) (E : Nat → Nat → Nat) (hrel : Rel I J E) (x : Int32) : opR3 (fun H => am_ev env (d + 60, 126, 0, [some (.ref 0), some (.int x)], [], H)) (fun H => am_ev env (d + 60, 235, 0, [some (.ref 156), some (.int x)], [], H)) I J E Rel := by
  obtain ⟨n, k, ⟨t, h, hR⟩, hT, hV, hTo, hSl, hW, hRg, hC, hFi, hHo, hN, hSe, hIm, h54⟩ := id hrel
  exact opR_3 (op_forge env (d + 40) I J E n k t h hR x) (fun I2 hp => rel_P1 hT hV hTo hSl hW hRg hC hFi hHo hN hSe hIm h54 hp)
theorem rl_mend (env : am_E) (d : Nat) (I : Nat → Nat → Int32) (J : Nat → Nat → Int64) (E : Nat → Nat → Nat) (hrel : Rel I J E) (x : Int32) : opR3 (fun H => am_ev env (d + 60, 127, 0, [some (.ref 0), some (.int x)], [], H)) (fun H => am_ev env (d + 60, 236, 0, [some (.ref 156), some (.int x)], [], H)) I J E Rel := by
  obtain ⟨n, k, ⟨t, h, hR⟩, hT, hV, hTo, hSl, hW, hRg, hC, hFi, hHo, hN, hSe, hIm, h54⟩ := id hrel
  exact opR_3 (op_mend env (d + 40) I J E n k t h hR x) (fun I2 hp => rel_P1 hT hV hTo hSl hW hRg hC hFi hHo hN hSe hIm h54 hp)
theorem rl_burn (env : am_E) (d : Nat) (I : Nat → Nat → Int32) (J : Nat → Nat → Int64) (E : Nat → Nat → Nat) (hrel : Rel I J E) (x : Int32) : opR3 (fun H => am_ev env (d + 60, 128, 0, [some (.ref 0), some (.int x)], [], H)) (fun H => am_ev env (d + 60, 237, 0, [some (.ref 156), some (.int x)], [], H)) I J E Rel := by
  obtain ⟨n, k, ⟨t, h, hR⟩, hT, hV, hTo, hSl, hW, hRg, hC, hFi, hHo, hN, hSe, hIm, h54⟩ := id hrel
  exact opR_3 (op_burn env (d + 40) I J E n k t h hR x) (fun I2 hp => rel_P1 hT hV hTo hSl hW hRg hC hFi hHo hN hSe hIm h54 hp)
theorem rl_buy (env : am_E) (d : Nat) (I : Nat → Nat → Int32) (J : Nat → Nat → Int64) (E : Nat → Nat → Nat) (hrel : Rel I J E) (x : Int32) : opR3 (fun H => am_ev env (d + 60, 129, 0, [some (.ref 0), some (.int x)], [], H)) (fun H => am_ev env (d + 60, 238, 0, [some (.ref 156), some (.int x)], [], H)) I J E Rel := by
  obtain ⟨n, k, ⟨t, h, hR⟩, hT, hV, hTo, hSl, hW, hRg, hC, hFi, hHo, hN, hSe, hIm, h54⟩ := id hrel
  exact opR_3 (op_buy env (d + 40) I J E n k t h hR x) (fun I2 hp => rel_P1 hT hV hTo hSl hW hRg hC hFi hHo hN hSe hIm h54 hp)
theorem rl_days (env : am_E) (d : Nat) (I : Nat → Nat → Int32) (J : Nat → Nat → Int64) (E : Nat → Nat → Nat) (hrel : Rel I J E) (x : Int32) : opR3 (fun H => am_ev env (d + 60, 130, 0, [some (.ref 0), some (.int x)], [], H)) (fun H => am_ev env (d + 60, 243, 0, [some (.ref 156), some (.int x)], [], H)) I J E Rel := by
  obtain ⟨n, k, ⟨t, h, hR⟩, hT, hV, hTo, hSl, hW, hRg, hC, hFi, hHo, hN, hSe, hIm, h54⟩ := id hrel
  exact opR_3 (op_days env (d + 40) I J E n k t h hR x) (fun I2 hp => rel_P1 hT hV hTo hSl hW hRg hC hFi hHo hN hSe hIm h54 hp)
theorem rl_undo (env : am_E) (d : Nat) (I : Nat → Nat → Int32) (J : Nat → Nat → Int64) (E : Nat → Nat → Nat) (hrel : Rel I J E) : opR3 (fun H => am_ev env (d + 60, 132, 0, [some (.ref 0)], [], H)) (fun H => am_ev env (d + 60, 239, 0, [some (.ref 156), none], [], H)) I J E Rel := by
  obtain ⟨n, k, ⟨t, h, hR⟩, hT, hV, hTo, hSl, hW, hRg, hC, hFi, hHo, hN, hSe, hIm, h54⟩ := id hrel
  exact opR_3 (op_undo env (d + 40) I J E n k t h hR) (fun I2 hp => rel_P1 hT hV hTo hSl hW hRg hC hFi hHo hN hSe hIm h54 hp)
theorem rl_way (env : am_E) (d : Nat) (I : Nat → Nat → Int32) (J : Nat → Nat → Int64) (E : Nat → Nat → Nat) (hrel : Rel I J E) (x w : Int32) : opR3 (fun H => am_ev env (d + 60, 136, 0, [some (.ref 0), some (.int x), some (.int w), none, none, none], [], H)) (fun H => am_ev env (d + 60, 246, 0, [some (.ref 156), some (.int x), some (.int w), none, none, none, none, none], [], H)) I J E Rel := by
  obtain ⟨n, k, ⟨t, h, hR⟩, hT, hV, hTo, hSl, hW, hRg, hC, hFi, hHo, hN, hSe, hIm, h54⟩ := id hrel
  refine opR_3 (op_way env (d + 40) I J E n k t h hR hW x w) (fun I2 hp => ?_)
  obtain ⟨h1, hc, hf⟩ := hp
  exact ⟨n, k, h1, RT_c hT (fun q j hq => hf q j (k_RT hq) (by unfold XW; omega)), RV_c hV (fun q j hq => hf q j (k_RV hq) (by unfold XW; omega)), RTo_c hTo (fun q j hq => hf q j (k_RTo hq) (by unfold XW; omega)), RSl_c hSl (fun q j hq => hf q j (k_RSl hq) (by unfold XW; omega)), hc, RRg_c hRg (fun q j hq => hf q j (k_RRg hq) (by unfold XW; omega)), RC_c hC (fun q j hq => hf q j (k_RC hq) (by unfold XW; omega)), RFi_c hFi (fun q j hq => hf q j (k_RFi hq) (by unfold XW; omega)), RHo_c hHo (fun q j hq => hf q j (k_RHo hq) (by unfold XW; omega)), RN_c hN rfl rfl rfl, RSe_c hSe (fun q j hq => hf q j (k_RSe hq) (by unfold XW; omega)) rfl rfl, RIm_c hIm (fun q j hq => hf q j (k_RIm hq) (by unfold XW; omega)) (fun _ _ => rfl) (fun _ _ => rfl), (let ⟨o, ho⟩ := h54; ⟨o, (hf 5 4 (c1_3 (by omega)) (by unfold XW; omega)).trans ho⟩)⟩
theorem rl_wayAt (env : am_E) (d : Nat) (I : Nat → Nat → Int32) (J : Nat → Nat → Int64) (E : Nat → Nat → Nat) (hrel : Rel I J E) (x : Int32) : opR3 (fun H => am_ev env (d + 60, 137, 0, [some (.ref 0), some (.int x)], [], H)) (fun H => am_ev env (d + 60, 247, 0, [some (.ref 156), some (.int x)], [], H)) I J E Rel := by
  obtain ⟨n, k, ⟨t, h, hR⟩, hT, hV, hTo, hSl, hW, hRg, hC, hFi, hHo, hN, hSe, hIm, h54⟩ := id hrel
  exact opR_3 (op_wayAt env (d + 40) I J E n k t h hR hW x) (fun I2 hp => rel_P1 hT hV hTo hSl hW hRg hC hFi hHo hN hSe hIm h54 hp)
theorem rl_ring (env : am_E) (d : Nat) (I : Nat → Nat → Int32) (J : Nat → Nat → Int64) (E : Nat → Nat → Nat) (hrel : Rel I J E) (x : Int32) : opR3 (fun H => am_ev env (d + 60, 138, 0, [some (.ref 0), some (.int x)], [], H)) (fun H => am_ev env (d + 60, 249, 0, [some (.ref 156), some (.int x), none, none, none], [], H)) I J E Rel := by
  obtain ⟨n, k, ⟨t, h, hR⟩, hT, hV, hTo, hSl, hW, hRg, hC, hFi, hHo, hN, hSe, hIm, h54⟩ := id hrel
  refine opR_3 (op_ring env (d + 40) I J E n k t h hR hRg x) (fun I2 hp => ?_)
  obtain ⟨h1, hc, hf⟩ := hp
  exact ⟨n, k, h1, RT_c hT (fun q j hq => hf q j (k_RT hq) (by unfold XR; omega)), RV_c hV (fun q j hq => hf q j (k_RV hq) (by unfold XR; omega)), RTo_c hTo (fun q j hq => hf q j (k_RTo hq) (by unfold XR; omega)), RSl_c hSl (fun q j hq => hf q j (k_RSl hq) (by unfold XR; omega)), RW_c hW (fun q j hq => hf q j (k_RW hq) (by unfold XR; omega)), hc, RC_c hC (fun q j hq => hf q j (k_RC hq) (by unfold XR; omega)), RFi_c hFi (fun q j hq => hf q j (k_RFi hq) (by unfold XR; omega)), RHo_c hHo (fun q j hq => hf q j (k_RHo hq) (by unfold XR; omega)), RN_c hN rfl rfl rfl, RSe_c hSe (fun q j hq => hf q j (k_RSe hq) (by unfold XR; omega)) rfl rfl, RIm_c hIm (fun q j hq => hf q j (k_RIm hq) (by unfold XR; omega)) (fun _ _ => rfl) (fun _ _ => rfl), (let ⟨o, ho⟩ := h54; ⟨o, (hf 5 4 (c1_3 (by omega)) (by unfold XR; omega)).trans ho⟩)⟩
theorem rl_ringAt (env : am_E) (d : Nat) (I : Nat → Nat → Int32) (J : Nat → Nat → Int64) (E : Nat → Nat → Nat) (hrel : Rel I J E) (x : Int32) : opR3 (fun H => am_ev env (d + 60, 139, 0, [some (.ref 0), some (.int x)], [], H)) (fun H => am_ev env (d + 60, 250, 0, [some (.ref 156), some (.int x)], [], H)) I J E Rel := by
  obtain ⟨n, k, ⟨t, h, hR⟩, hT, hV, hTo, hSl, hW, hRg, hC, hFi, hHo, hN, hSe, hIm, h54⟩ := id hrel
  exact opR_3 (op_ringAt env (d + 40) I J E n k t h hR hRg x) (fun I2 hp => rel_P1 hT hV hTo hSl hW hRg hC hFi hHo hN hSe hIm h54 hp)
theorem rl_cut (env : am_E) (d : Nat) (I : Nat → Nat → Int32) (J : Nat → Nat → Int64) (E : Nat → Nat → Nat) (hrel : Rel I J E) : opR3 (fun H => am_ev env (d + 60, 140, 0, [some (.ref 0)], [], H)) (fun H => am_ev env (d + 60, 251, 0, [some (.ref 156), none, none, none], [], H)) I J E Rel := by
  obtain ⟨n, k, ⟨t, h, hR⟩, hT, hV, hTo, hSl, hW, hRg, hC, hFi, hHo, hN, hSe, hIm, h54⟩ := id hrel
  refine opR_3 (op_cut env (d + 40) I J E n k t h hR) (fun I2 hp => ?_)
  obtain ⟨h1, hc, hf⟩ := hp
  exact ⟨n, k, h1, RT_c hT (fun q j hq => hf q j (k_RT hq) (by unfold XC; omega)), RV_c hV (fun q j hq => hf q j (k_RV hq) (by unfold XC; omega)), RTo_c hTo (fun q j hq => hf q j (k_RTo hq) (by unfold XC; omega)), RSl_c hSl (fun q j hq => hf q j (k_RSl hq) (by unfold XC; omega)), RW_c hW (fun q j hq => hf q j (k_RW hq) (by unfold XC; omega)), RRg_c hRg (fun q j hq => hf q j (k_RRg hq) (by unfold XC; omega)), hc, RFi_c hFi (fun q j hq => hf q j (k_RFi hq) (by unfold XC; omega)), RHo_c hHo (fun q j hq => hf q j (k_RHo hq) (by unfold XC; omega)), RN_c hN rfl rfl rfl, RSe_c hSe (fun q j hq => hf q j (k_RSe hq) (by unfold XC; omega)) rfl rfl, RIm_c hIm (fun q j hq => hf q j (k_RIm hq) (by unfold XC; omega)) (fun _ _ => rfl) (fun _ _ => rfl), (let ⟨o, ho⟩ := h54; ⟨o, (hf 5 4 (c1_3 (by omega)) (by unfold XC; omega)).trans ho⟩)⟩
theorem rl_cutting (env : am_E) (d : Nat) (I : Nat → Nat → Int32) (J : Nat → Nat → Int64) (E : Nat → Nat → Nat) (hrel : Rel I J E) : opR3 (fun H => am_ev env (d + 60, 141, 0, [some (.ref 0)], [], H)) (fun H => am_ev env (d + 60, 252, 0, [some (.ref 156)], [], H)) I J E Rel := by
  obtain ⟨n, k, ⟨t, h, hR⟩, hT, hV, hTo, hSl, hW, hRg, hC, hFi, hHo, hN, hSe, hIm, h54⟩ := id hrel
  exact opR_3 (op_cutting env (d + 40) I J E n k t h hR hC) (fun I2 hp => rel_P1 hT hV hTo hSl hW hRg hC hFi hHo hN hSe hIm h54 hp)
theorem rl_deep (env : am_E) (d : Nat) (I : Nat → Nat → Int32) (J : Nat → Nat → Int64) (E : Nat → Nat → Nat) (hrel : Rel I J E) (x : Int32) : opR3 (fun H => am_ev env (d + 60, 142, 0, [some (.ref 0), some (.int x)], [], H)) (fun H => am_ev env (d + 60, 254, 0, [some (.ref 156), some (.int x)], [], H)) I J E Rel := by
  obtain ⟨n, k, ⟨t, h, hR⟩, hT, hV, hTo, hSl, hW, hRg, hC, hFi, hHo, hN, hSe, hIm, h54⟩ := id hrel
  exact opR_3 (op_deep env (d + 40) I J E n k t h hR x) (fun I2 hp => rel_P1 hT hV hTo hSl hW hRg hC hFi hHo hN hSe hIm h54 hp)
theorem rl_fits (env : am_E) (d : Nat) (I : Nat → Nat → Int32) (J : Nat → Nat → Int64) (E : Nat → Nat → Nat) (hrel : Rel I J E) : opR3 (fun H => am_ev env (d + 60, 145, 0, [some (.ref 0), none], [], H)) (fun H => am_ev env (d + 60, 257, 0, [some (.ref 156), none, none, none, none], [], H)) I J E Rel := by
  obtain ⟨n, k, ⟨t, h, hR⟩, hT, hV, hTo, hSl, hW, hRg, hC, hFi, hHo, hN, hSe, hIm, h54⟩ := id hrel
  refine opR_3 (op_fits env (d + 40) I J E n k t h hR hT hFi) (fun I2 hp => ?_)
  obtain ⟨h1, hc, hd, hf⟩ := hp
  exact ⟨n, k, h1, hc, RV_c hV (fun q j hq => hf q j (k_RV hq) (by unfold XF XT; omega)), RTo_c hTo (fun q j hq => hf q j (k_RTo hq) (by unfold XF XT; omega)), RSl_c hSl (fun q j hq => hf q j (k_RSl hq) (by unfold XF XT; omega)), RW_c hW (fun q j hq => hf q j (k_RW hq) (by unfold XF XT; omega)), RRg_c hRg (fun q j hq => hf q j (k_RRg hq) (by unfold XF XT; omega)), RC_c hC (fun q j hq => hf q j (k_RC hq) (by unfold XF XT; omega)), hd, RHo_c hHo (fun q j hq => hf q j (k_RHo hq) (by unfold XF XT; omega)), RN_c hN rfl rfl rfl, RSe_c hSe (fun q j hq => hf q j (k_RSe hq) (by unfold XF XT; omega)) rfl rfl, RIm_c hIm (fun q j hq => hf q j (k_RIm hq) (by unfold XF XT; omega)) (fun _ _ => rfl) (fun _ _ => rfl), (let ⟨o, ho⟩ := h54; ⟨o, (hf 5 4 (c1_3 (by omega)) (by unfold XF XT; omega)).trans ho⟩)⟩
theorem rl_fitting (env : am_E) (d : Nat) (I : Nat → Nat → Int32) (J : Nat → Nat → Int64) (E : Nat → Nat → Nat) (hrel : Rel I J E) : opR3 (fun H => am_ev env (d + 60, 151, 0, [some (.ref 0)], [], H)) (fun H => am_ev env (d + 60, 258, 0, [some (.ref 156)], [], H)) I J E Rel := by
  obtain ⟨n, k, ⟨t, h, hR⟩, hT, hV, hTo, hSl, hW, hRg, hC, hFi, hHo, hN, hSe, hIm, h54⟩ := id hrel
  exact opR_3 (op_fitting env (d + 40) I J E n k t h hR hFi) (fun I2 hp => rel_P1 hT hV hTo hSl hW hRg hC hFi hHo hN hSe hIm h54 hp)
theorem rl_ask (env : am_E) (d : Nat) (I : Nat → Nat → Int32) (J : Nat → Nat → Int64) (E : Nat → Nat → Nat) (hrel : Rel I J E) : opR3 (fun H => am_ev env (d + 60, 152, 0, [some (.ref 0)], [], H)) (fun H => am_ev env (d + 60, 259, 0, [some (.ref 156)], [], H)) I J E Rel := by
  obtain ⟨n, k, ⟨t, h, hR⟩, hT, hV, hTo, hSl, hW, hRg, hC, hFi, hHo, hN, hSe, hIm, h54⟩ := id hrel
  exact opR_3 (op_ask env (d + 40) I J E n k t h hR hFi) (fun I2 hp => rel_P1 hT hV hTo hSl hW hRg hC hFi hHo hN hSe hIm h54 hp)
theorem rl_atOnce (env : am_E) (d : Nat) (I : Nat → Nat → Int32) (J : Nat → Nat → Int64) (E : Nat → Nat → Nat) (hrel : Rel I J E) : opR3 (fun H => am_ev env (d + 60, 153, 0, [some (.ref 0)], [], H)) (fun H => am_ev env (d + 60, 261, 0, [some (.ref 156), none], [], H)) I J E Rel := by
  obtain ⟨n, k, ⟨t, h, hR⟩, hT, hV, hTo, hSl, hW, hRg, hC, hFi, hHo, hN, hSe, hIm, h54⟩ := id hrel
  refine opR_3 (op_atOnce env (d + 30) I J E n k t h hR) (fun I2 hp => ?_)
  obtain ⟨h1, hc, hf⟩ := hp
  exact ⟨n, k, h1, RT_c hT (fun q j hq => hf q j (k_RT hq) (by unfold XHo; omega)), RV_c hV (fun q j hq => hf q j (k_RV hq) (by unfold XHo; omega)), RTo_c hTo (fun q j hq => hf q j (k_RTo hq) (by unfold XHo; omega)), RSl_c hSl (fun q j hq => hf q j (k_RSl hq) (by unfold XHo; omega)), RW_c hW (fun q j hq => hf q j (k_RW hq) (by unfold XHo; omega)), RRg_c hRg (fun q j hq => hf q j (k_RRg hq) (by unfold XHo; omega)), RC_c hC (fun q j hq => hf q j (k_RC hq) (by unfold XHo; omega)), RFi_c hFi (fun q j hq => hf q j (k_RFi hq) (by unfold XHo; omega)), hc, RN_c hN rfl rfl rfl, RSe_c hSe (fun q j hq => hf q j (k_RSe hq) (by unfold XHo; omega)) rfl rfl, RIm_c hIm (fun q j hq => hf q j (k_RIm hq) (by unfold XHo; omega)) (fun _ _ => rfl) (fun _ _ => rfl), (let ⟨o, ho⟩ := h54; ⟨o, (hf 5 4 (c1_3 (by omega)) (by unfold XHo; omega)).trans ho⟩)⟩
theorem rl_atOnceOf (env : am_E) (d : Nat) (I : Nat → Nat → Int32) (J : Nat → Nat → Int64) (E : Nat → Nat → Nat) (hrel : Rel I J E) (x : Int32) : opR3 (fun H => am_ev env (d + 60, 154, 0, [some (.ref 0), some (.int x)], [], H)) (fun H => am_ev env (d + 60, 262, 0, [some (.ref 156), some (.int x)], [], H)) I J E Rel := by
  obtain ⟨n, k, ⟨t, h, hR⟩, hT, hV, hTo, hSl, hW, hRg, hC, hFi, hHo, hN, hSe, hIm, h54⟩ := id hrel
  exact opR_3 (op_atOnceOf env (d + 40) I J E n k t h hR hHo x) (fun I2 hp => rel_P1 hT hV hTo hSl hW hRg hC hFi hHo hN hSe hIm h54 hp)
theorem rl_slip (env : am_E) (d : Nat) (I : Nat → Nat → Int32) (J : Nat → Nat → Int64) (E : Nat → Nat → Nat) (hrel : Rel I J E) (x : Int32) : opR3 (fun H => am_ev env (d + 60, 155, 0, [some (.ref 0), some (.int x), none], [], H)) (fun H => am_ev env (d + 60, 269, 0, [some (.ref 156), some (.int x)], [], H)) I J E Rel := by
  obtain ⟨n, k, ⟨t, h, hR⟩, hT, hV, hTo, hSl, hW, hRg, hC, hFi, hHo, hN, hSe, hIm, h54⟩ := id hrel
  refine opR_3 (op_slip env (d + 40) I J E n k t h hR hN hSl x) (fun I2 hp => ?_)
  obtain ⟨h1, hc, hf⟩ := hp
  exact ⟨n, k, h1, RT_c hT (fun q j hq => hf q j (k_RT hq) (by unfold XSl; omega)), RV_c hV (fun q j hq => hf q j (k_RV hq) (by unfold XSl; omega)), RTo_c hTo (fun q j hq => hf q j (k_RTo hq) (by unfold XSl; omega)), hc, RW_c hW (fun q j hq => hf q j (k_RW hq) (by unfold XSl; omega)), RRg_c hRg (fun q j hq => hf q j (k_RRg hq) (by unfold XSl; omega)), RC_c hC (fun q j hq => hf q j (k_RC hq) (by unfold XSl; omega)), RFi_c hFi (fun q j hq => hf q j (k_RFi hq) (by unfold XSl; omega)), RHo_c hHo (fun q j hq => hf q j (k_RHo hq) (by unfold XSl; omega)), RN_c hN rfl rfl rfl, RSe_c hSe (fun q j hq => hf q j (k_RSe hq) (by unfold XSl; omega)) rfl rfl, RIm_c hIm (fun q j hq => hf q j (k_RIm hq) (by unfold XSl; omega)) (fun _ _ => rfl) (fun _ _ => rfl), (let ⟨o, ho⟩ := h54; ⟨o, (hf 5 4 (c1_3 (by omega)) (by unfold XSl; omega)).trans ho⟩)⟩
theorem rl_byteAt (env : am_E) (d : Nat) (I : Nat → Nat → Int32) (J : Nat → Nat → Int64) (E : Nat → Nat → Nat) (hrel : Rel I J E) (x : Int32) : opR3 (fun H => am_ev env (d + 60, 156, 0, [some (.ref 0), some (.int x)], [], H)) (fun H => am_ev env (d + 60, 270, 0, [some (.ref 156), some (.int x)], [], H)) I J E Rel := by
  obtain ⟨n, k, ⟨t, h, hR⟩, hT, hV, hTo, hSl, hW, hRg, hC, hFi, hHo, hN, hSe, hIm, h54⟩ := id hrel
  exact opR_3 (op_byteAt env (d + 40) I J E n k t h hR hSl x) (fun I2 hp => rel_P1 hT hV hTo hSl hW hRg hC hFi hHo hN hSe hIm h54 hp)
theorem rl_drawn (env : am_E) (d : Nat) (I : Nat → Nat → Int32) (J : Nat → Nat → Int64) (E : Nat → Nat → Nat) (hrel : Rel I J E) (x s : Int32) : opR3 (fun H => am_ev env (d + 60, 131, 0, [some (.ref 0), some (.int x), some (.int s)], [], H)) (fun H => am_ev env (d + 60, 275, 0, [some (.ref 156), some (.int x), some (.int s)], [], H)) I J E Rel := by
  obtain ⟨n, k, ⟨t, h, hR⟩, hT, hV, hTo, hSl, hW, hRg, hC, hFi, hHo, hN, hSe, hIm, h54⟩ := id hrel
  exact opR_3 (op_drawn env (d + 40) I J E n k t h hR x s) (fun I2 hp => rel_P1 hT hV hTo hSl hW hRg hC hFi hHo hN hSe hIm h54 hp)
theorem rl_odds (env : am_E) (d : Nat) (I : Nat → Nat → Int32) (J : Nat → Nat → Int64) (E : Nat → Nat → Nat) (hrel : Rel I J E) (a x z s : Int32) : opR3 (fun H => am_ev env (d + 60, 161, 0, [some (.ref 0), some (.int a), some (.int x), some (.int z), some (.int s), none, none, none], [], H)) (fun H => am_ev env (d + 60, 278, 0, [some (.ref 156), some (.int a), some (.int x), some (.int z), some (.int s), none, none], [], H)) I J E Rel := by
  obtain ⟨n, k, ⟨t, h, hR⟩, hT, hV, hTo, hSl, hW, hRg, hC, hFi, hHo, hN, hSe, hIm, h54⟩ := id hrel
  exact opR_3 (op_odds env (d + 40) I J E n k t h hR a x z s) (fun I2 hp => rel_P1 hT hV hTo hSl hW hRg hC hFi hHo hN hSe hIm h54 hp)
theorem rl_record (env : am_E) (d : Nat) (I : Nat → Nat → Int32) (J : Nat → Nat → Int64) (E : Nat → Nat → Nat) (hrel : Rel I J E) (x : Int32) : opR3 (fun H => am_ev env (d + 60, 162, 0, [some (.ref 0), some (.int x), none], [], H)) (fun H => am_ev env (d + 60, 285, 0, [some (.ref 156), some (.int x), none, none], [], H)) I J E Rel := by
  obtain ⟨n, k, ⟨t, h, hR⟩, hT, hV, hTo, hSl, hW, hRg, hC, hFi, hHo, hN, hSe, hIm, h54⟩ := id hrel
  refine opR3_m (op_record2 env (d + 40) I J E n k t h hR hT hV hTo hN x) (fun I2 J2 E2 hp => ?_)
  obtain ⟨⟨h1, hc, hd, he, hf, hJ, hE⟩, h38⟩ := hp
  exact ⟨n, k, h1, hc, hd, he, RSl_c hSl (fun q j hq => hf q j (k_RSl hq) (by unfold XRc XLf XT; omega)), RW_c hW (fun q j hq => hf q j (k_RW hq) (by unfold XRc XLf XT; omega)), RRg_c hRg (fun q j hq => hf q j (k_RRg hq) (by unfold XRc XLf XT; omega)), RC_c hC (fun q j hq => hf q j (k_RC hq) (by unfold XRc XLf XT; omega)), RFi_c hFi (fun q j hq => hf q j (k_RFi hq) (by unfold XRc XLf XT; omega)), RHo_c hHo (fun q j hq => hf q j (k_RHo hq) (by unfold XRc XLf XT; omega)), RN_c hN (hJ 6 (by unfold CJ; omega) (by omega)) (hJ 10 (by unfold CJ; omega) (by omega)) (hJ 163 (by unfold CJ; omega) (by omega)), RSe_c hSe (fun q j hq => hf q j (k_RSe hq) (by unfold XRc XLf XT; omega)) (hE 19 (by unfold CJ; omega)) h38, RIm_c hIm (fun q j hq => hf q j (k_RIm hq) (by unfold XRc XLf XT; omega)) (fun q hq => hJ q (by unfold CJ; omega) (by omega)) (fun q hq => hE q (by unfold CJ; omega)), (let ⟨o, ho⟩ := h54; ⟨o, (hf 5 4 (c1_3 (by omega)) (by unfold XRc XLf XT; omega)).trans ho⟩)⟩
theorem rl_told (env : am_E) (d : Nat) (I : Nat → Nat → Int32) (J : Nat → Nat → Int64) (E : Nat → Nat → Nat) (hrel : Rel I J E) (x : Int32) : opR3 (fun H => am_ev env (d + 60, 163, 0, [some (.ref 0), some (.int x)], [], H)) (fun H => am_ev env (d + 60, 287, 0, [some (.ref 156), some (.int x)], [], H)) I J E Rel := by
  obtain ⟨n, k, ⟨t, h, hR⟩, hT, hV, hTo, hSl, hW, hRg, hC, hFi, hHo, hN, hSe, hIm, h54⟩ := id hrel
  exact opR_3 (op_told env (d + 40) I J E n k t h hR hTo x) (fun I2 hp => rel_P1 hT hV hTo hSl hW hRg hC hFi hHo hN hSe hIm h54 hp)
theorem rl_sentence (env : am_E) (d : Nat) (I : Nat → Nat → Int32) (J : Nat → Nat → Int64) (E : Nat → Nat → Nat) (hrel : Rel I J E) : opR3 (fun H => am_ev env (d + 60, 164, 0, [some (.ref 0)], [], H)) (fun H => am_ev env (d + 60, 296, 0, [some (.ref 156), none], [], H)) I J E Rel := by
  obtain ⟨n, k, ⟨t, h, hR⟩, hT, hV, hTo, hSl, hW, hRg, hC, hFi, hHo, hN, hSe, hIm, h54⟩ := id hrel
  refine opR3_m (op_sentence env d I J E n k t h hR hT hN hSe) (fun I2 J2 E2 hp => ?_)
  obtain ⟨h1, hc, hd, he, hf, hJ, hE⟩ := hp
  exact ⟨n, k, h1, hc, hd, RTo_c hTo (fun q j hq => hf q j (k_RTo hq) (by unfold XSn XLf XT; omega)), RSl_c hSl (fun q j hq => hf q j (k_RSl hq) (by unfold XSn XLf XT; omega)), RW_c hW (fun q j hq => hf q j (k_RW hq) (by unfold XSn XLf XT; omega)), RRg_c hRg (fun q j hq => hf q j (k_RRg hq) (by unfold XSn XLf XT; omega)), RC_c hC (fun q j hq => hf q j (k_RC hq) (by unfold XSn XLf XT; omega)), RFi_c hFi (fun q j hq => hf q j (k_RFi hq) (by unfold XSn XLf XT; omega)), RHo_c hHo (fun q j hq => hf q j (k_RHo hq) (by unfold XSn XLf XT; omega)), RN_c hN (hJ 6 (by unfold CJ; omega) (by omega)) (hJ 10 (by unfold CJ; omega) (by omega)) (hJ 163 (by unfold CJ; omega) (by omega)), he, RIm_c hIm (fun q j hq => hf q j (k_RIm hq) (by unfold XSn XLf XT; omega)) (fun q hq => hJ q (by unfold CJ; omega) (by omega)) (fun q hq => hE q (by unfold CJ; omega) (by omega)), (let ⟨o, ho⟩ := h54; ⟨o, (hf 5 4 (c1_3 (by omega)) (by unfold XSn XLf XT; omega)).trans ho⟩)⟩
theorem rl_said (env : am_E) (d : Nat) (I : Nat → Nat → Int32) (J : Nat → Nat → Int64) (E : Nat → Nat → Nat) (hrel : Rel I J E) (a : Int32) : opR3 (fun H => am_ev env (d + 60, 165, 0, [some (.ref 0), some (.int a), none, none, none], [], H)) (fun H => am_ev env (d + 60, 298, 0, [some (.ref 156), some (.int a), none, none], [], H)) I J E Rel := by
  obtain ⟨n, k, ⟨t, h, hR⟩, hT, hV, hTo, hSl, hW, hRg, hC, hFi, hHo, hN, hSe, hIm, h54⟩ := id hrel
  refine opR3_m (op_said env d I J E n k t h hR hSe a) (fun I2 J2 E2 hp => ?_)
  obtain ⟨h1, hf0, rfl, rfl⟩ := hp
  have hf : fr1 I I2 := fun q j h => hf0 q j h (fun z => z)
  exact ⟨n, k, h1, RT_c hT (fun q j hq => hf q j (k_RT hq)), RV_c hV (fun q j hq => hf q j (k_RV hq)), RTo_c hTo (fun q j hq => hf q j (k_RTo hq)), RSl_c hSl (fun q j hq => hf q j (k_RSl hq)), RW_c hW (fun q j hq => hf q j (k_RW hq)), RRg_c hRg (fun q j hq => hf q j (k_RRg hq)), RC_c hC (fun q j hq => hf q j (k_RC hq)), RFi_c hFi (fun q j hq => hf q j (k_RFi hq)), RHo_c hHo (fun q j hq => hf q j (k_RHo hq)), RN_c hN rfl rfl rfl, RSe_c hSe (fun q j hq => hf q j (k_RSe hq)) rfl rfl, RIm_c hIm (fun q j hq => hf q j (k_RIm hq)) (fun _ _ => rfl) (fun _ _ => rfl), (let ⟨o, ho⟩ := h54; ⟨o, (hf 5 4 (c1_3 (by omega))).trans ho⟩)⟩
theorem rl_image (env : am_E) (d : Nat) (I : Nat → Nat → Int32) (J : Nat → Nat → Int64) (E : Nat → Nat → Nat) (hrel : Rel I J E) (a : Int32) : opR3 (fun H => am_ev env (d + 60, 166, 0, [some (.ref 0), some (.int a)], [], H)) (fun H => am_ev env (d + 60, 299, 0, [some (.ref 156), some (.int a), none], [], H)) I J E Rel := by
  obtain ⟨n, k, ⟨t, h, hR⟩, hT, hV, hTo, hSl, hW, hRg, hC, hFi, hHo, hN, hSe, hIm, h54⟩ := id hrel
  refine opR3_m (op_image env (d + 40) I J E n k t h hR hN hSe h54 hIm a) (fun I2 J2 E2 hp => ?_)
  obtain ⟨h1, hc, hf, hJ, hE⟩ := hp
  exact ⟨n, k, h1, RT_c hT (fun q j hq => hf q j (k_RT hq) (by unfold XIm; omega)), RV_c hV (fun q j hq => hf q j (k_RV hq) (by unfold XIm; omega)), RTo_c hTo (fun q j hq => hf q j (k_RTo hq) (by unfold XIm; omega)), RSl_c hSl (fun q j hq => hf q j (k_RSl hq) (by unfold XIm; omega)), RW_c hW (fun q j hq => hf q j (k_RW hq) (by unfold XIm; omega)), RRg_c hRg (fun q j hq => hf q j (k_RRg hq) (by unfold XIm; omega)), RC_c hC (fun q j hq => hf q j (k_RC hq) (by unfold XIm; omega)), RFi_c hFi (fun q j hq => hf q j (k_RFi hq) (by unfold XIm; omega)), RHo_c hHo (fun q j hq => hf q j (k_RHo hq) (by unfold XIm; omega)), RN_c hN (hJ 6 (by omega) (by omega)) (hJ 10 (by omega) (by omega)) (hJ 163 (by omega) (by omega)), RSe_c hSe (fun q j hq => hf q j (k_RSe hq) (by unfold XIm; omega)) (hE 19 (by omega)) (hE 38 (by omega)), hc, (let ⟨o, ho⟩ := h54; ⟨o, (hf 5 4 (c1_3 (by omega)) (by unfold XIm; omega)).trans ho⟩)⟩
theorem rl_restore (env : am_E) (d : Nat) (I : Nat → Nat → Int32) (J : Nat → Nat → Int64) (E : Nat → Nat → Nat) (hrel : Rel I J E) (a : Int32) : opR3 (fun H => am_ev env (d + 60, 167, 0, [some (.ref 0), some (.int a)], [], H)) (fun H => am_ev env (d + 60, 300, 0, [some (.ref 156), some (.int a), none], [], H)) I J E Rel := by
  obtain ⟨n, k, ⟨t, h, hR⟩, hT, hV, hTo, hSl, hW, hRg, hC, hFi, hHo, hN, hSe, hIm, h54⟩ := id hrel
  refine opR3_m (op_restore env (d + 40) I J E n k t h hR hN hSe h54 hIm a) (fun I2 J2 E2 hp => ?_)
  obtain ⟨hc, ⟨n2, k2, h1, hN2, hS2, ho⟩, hf, hJ, hE⟩ := hp
  exact ⟨n2, k2, h1, RT_c hT (fun q j hq => hf q j (k_RT hq) (by unfold XRe; omega)), RV_c hV (fun q j hq => hf q j (k_RV hq) (by unfold XRe; omega)), RTo_c hTo (fun q j hq => hf q j (k_RTo hq) (by unfold XRe; omega)), RSl_c hSl (fun q j hq => hf q j (k_RSl hq) (by unfold XRe; omega)), RW_c hW (fun q j hq => hf q j (k_RW hq) (by unfold XRe; omega)), RRg_c hRg (fun q j hq => hf q j (k_RRg hq) (by unfold XRe; omega)), RC_c hC (fun q j hq => hf q j (k_RC hq) (by unfold XRe; omega)), RFi_c hFi (fun q j hq => hf q j (k_RFi hq) (by unfold XRe; omega)), RHo_c hHo (fun q j hq => hf q j (k_RHo hq) (by unfold XRe; omega)), hN2, hS2, hc, ho⟩
theorem rl_count (env : am_E) (d : Nat) (I : Nat → Nat → Int32) (J : Nat → Nat → Int64) (E : Nat → Nat → Nat) (hrel : Rel I J E) (x : Int32) : opR3 (fun H => am_ev env (d + 60, 119, 0, [some (.ref 0), some (.int x)], [], H)) (fun H => am_ev env (d + 60, 301, 0, [some (.ref 156), some (.int x)], [], H)) I J E Rel := by
  obtain ⟨n, k, ⟨t, h, hR⟩, hT, hV, hTo, hSl, hW, hRg, hC, hFi, hHo, hN, hSe, hIm, h54⟩ := id hrel
  exact opR_3 (op_count env (d + 40) I J E n k t h hR hT x) (fun I2 hp => rel_P1 hT hV hTo hSl hW hRg hC hFi hHo hN hSe hIm h54 hp)
