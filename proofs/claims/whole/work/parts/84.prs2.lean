/-! reading texts: the reference -/
def sp1 (v : Int64) (a : Int32) : Int64 := bif decide (a ≤ 0) then v else ((27 * v) + Int32.toInt64 a) - 96
def spv (a b c d e f g : Int32) : Int64 := sp1 (sp1 (sp1 (sp1 (sp1 (((27 * ((Int32.toInt64 a) - 96)) + (Int32.toInt64 b)) - 96) c) d) e) f) g
theorem m_spelt (env : am_E) (d : Nat) (a b c x e f g : Int32) (I : Nat → Nat → Int32) (J : Nat → Nat → Int64) (E : Nat → Nat → Nat) : am_ev env (d + 1, 184, 0, [some (.int a), some (.int b), some (.int c), some (.int x), some (.int e), some (.int f), some (.int g), none, none], [], am_hp I J E) = some (true, some (.long (spv a b c x e f g)), am_hp I J E) := by
  have h38 : ∀ v : Int64, am_ev env (d + 1, 184, 38, [some (.int a), some (.int b), some (.int c), some (.int x), some (.int e), some (.int f), some (.int g), some (.long v), none], [], am_hp I J E) = am_ev env (d + 1, 184, 57, [some (.int a), some (.int b), some (.int c), some (.int x), some (.int e), some (.int f), some (.int g), some (.long (sp1 v x)), none], [], am_hp I J E) := by
    intro v; refine (bk_184_38 _ _ _ _ _ _ _ _ _ _ _ _ _).trans ?_; unfold sp1; cases decide (x ≤ 0) <;> rfl
  have h57 : ∀ v : Int64, am_ev env (d + 1, 184, 57, [some (.int a), some (.int b), some (.int c), some (.int x), some (.int e), some (.int f), some (.int g), some (.long v), none], [], am_hp I J E) = am_ev env (d + 1, 184, 78, [some (.int a), some (.int b), some (.int c), some (.int x), some (.int e), some (.int f), some (.int g), some (.long (sp1 v e)), none], [], am_hp I J E) := by
    intro v; refine (bk_184_57 _ _ _ _ _ _ _ _ _ _ _ _ _).trans ?_; unfold sp1; cases decide (e ≤ 0) <;> rfl
  have h78 : ∀ v : Int64, am_ev env (d + 1, 184, 78, [some (.int a), some (.int b), some (.int c), some (.int x), some (.int e), some (.int f), some (.int g), some (.long v), none], [], am_hp I J E) = am_ev env (d + 1, 184, 99, [some (.int a), some (.int b), some (.int c), some (.int x), some (.int e), some (.int f), some (.int g), some (.long (sp1 v f)), none], [], am_hp I J E) := by
    intro v; refine (bk_184_78 _ _ _ _ _ _ _ _ _ _ _ _ _).trans ?_; unfold sp1; cases decide (f ≤ 0) <;> rfl
  have h99 : ∀ v : Int64, am_ev env (d + 1, 184, 99, [some (.int a), some (.int b), some (.int c), some (.int x), some (.int e), some (.int f), some (.int g), some (.long v), none], [], am_hp I J E) = am_ev env (d + 1, 184, 120, [some (.int a), some (.int b), some (.int c), some (.int x), some (.int e), some (.int f), some (.int g), some (.long (sp1 v g)), none], [], am_hp I J E) := by
    intro v; refine (bk_184_99 _ _ _ _ _ _ _ _ _ _ _ _ _).trans ?_; unfold sp1; cases decide (g ≤ 0) <;> rfl
  have h0 : am_ev env (d + 1, 184, 0, [some (.int a), some (.int b), some (.int c), some (.int x), some (.int e), some (.int f), some (.int g), none, none], [], am_hp I J E) = am_ev env (d + 1, 184, 38, [some (.int a), some (.int b), some (.int c), some (.int x), some (.int e), some (.int f), some (.int g), some (.long (sp1 (((27 * ((Int32.toInt64 a) - 96)) + (Int32.toInt64 b)) - 96) c)), none], [], am_hp I J E) := by
    refine (bk_184_0 _ _ _ _ _ _ _ _ _ _ _ _).trans ?_; unfold sp1; cases decide (c ≤ 0) <;> rfl
  exact h0.trans ((h38 _).trans ((h57 _).trans ((h78 _).trans ((h99 _).trans (bk_184_120 _ _ _ _ _ _ _ _ _ _ _ _ _)))))
theorem m_wo_0 (env : am_E) (d : Nat) (I : Nat → Nat → Int32) (J : Nat → Nat → Int64) (E : Nat → Nat → Nat) : am_ev env (d + 2, 185, 0, [some (.int 0)], [], am_hp I J E) = some (true, some (.long (Int64.ofNat (pk 27 (kws.getD 0 [])))), am_hp I J E) := by
  refine (bk_185_0 _ _ _ _ _ _).trans ?_
  show am_cont env (d + 1, 184, 0, [some (.int 98), some (.int 111), some (.int 111), some (.int 107), some (.int 0), some (.int 0), some (.int 0), none, none], [], am_hp I J E) (d + 2) 185 122 [some (.int 0)] [] = _
  rw [am_cont_some (m_spelt env d 98 111 111 107 0 0 0 I J E)]
  refine (bk_185_122 _ _ _ _ _ _ _).trans ?_
  rw [show spv 98 111 111 107 0 0 0 = Int64.ofNat (pk 27 (kws.getD 0 [])) by decide +kernel]
theorem m_wo_1 (env : am_E) (d : Nat) (I : Nat → Nat → Int32) (J : Nat → Nat → Int64) (E : Nat → Nat → Nat) : am_ev env (d + 2, 185, 0, [some (.int 1)], [], am_hp I J E) = some (true, some (.long (Int64.ofNat (pk 27 (kws.getD 1 [])))), am_hp I J E) := by
  refine (bk_185_0 _ _ _ _ _ _).trans ?_
  show am_cont env (d + 1, 184, 0, [some (.int 97), some (.int 102), some (.int 116), some (.int 101), some (.int 114), some (.int 0), some (.int 0), none, none], [], am_hp I J E) (d + 2) 185 138 [some (.int 1)] [] = _
  rw [am_cont_some (m_spelt env d 97 102 116 101 114 0 0 I J E)]
  refine (bk_185_138 _ _ _ _ _ _ _).trans ?_
  rw [show spv 97 102 116 101 114 0 0 = Int64.ofNat (pk 27 (kws.getD 1 [])) by decide +kernel]
theorem m_wo_2 (env : am_E) (d : Nat) (I : Nat → Nat → Int32) (J : Nat → Nat → Int64) (E : Nat → Nat → Nat) : am_ev env (d + 2, 185, 0, [some (.int 2)], [], am_hp I J E) = some (true, some (.long (Int64.ofNat (pk 27 (kws.getD 2 [])))), am_hp I J E) := by
  refine (bk_185_0 _ _ _ _ _ _).trans ?_
  show am_cont env (d + 1, 184, 0, [some (.int 114), some (.int 101), some (.int 97), some (.int 100), some (.int 101), some (.int 114), some (.int 0), none, none], [], am_hp I J E) (d + 2) 185 155 [some (.int 2)] [] = _
  rw [am_cont_some (m_spelt env d 114 101 97 100 101 114 0 I J E)]
  refine (bk_185_155 _ _ _ _ _ _ _).trans ?_
  rw [show spv 114 101 97 100 101 114 0 = Int64.ofNat (pk 27 (kws.getD 2 [])) by decide +kernel]
theorem m_wo_3 (env : am_E) (d : Nat) (I : Nat → Nat → Int32) (J : Nat → Nat → Int64) (E : Nat → Nat → Nat) : am_ev env (d + 2, 185, 0, [some (.int 3)], [], am_hp I J E) = some (true, some (.long (Int64.ofNat (pk 27 (kws.getD 3 [])))), am_hp I J E) := by
  refine (bk_185_0 _ _ _ _ _ _).trans ?_
  show am_cont env (d + 1, 184, 0, [some (.int 102), some (.int 105), some (.int 110), some (.int 101), some (.int 0), some (.int 0), some (.int 0), none, none], [], am_hp I J E) (d + 2) 185 170 [some (.int 3)] [] = _
  rw [am_cont_some (m_spelt env d 102 105 110 101 0 0 0 I J E)]
  refine (bk_185_170 _ _ _ _ _ _ _).trans ?_
  rw [show spv 102 105 110 101 0 0 0 = Int64.ofNat (pk 27 (kws.getD 3 [])) by decide +kernel]
theorem m_wo_4 (env : am_E) (d : Nat) (I : Nat → Nat → Int32) (J : Nat → Nat → Int64) (E : Nat → Nat → Nat) : am_ev env (d + 2, 185, 0, [some (.int 4)], [], am_hp I J E) = some (true, some (.long (Int64.ofNat (pk 27 (kws.getD 4 [])))), am_hp I J E) := by
  refine (bk_185_0 _ _ _ _ _ _).trans ?_
  show am_cont env (d + 1, 184, 0, [some (.int 108), some (.int 101), some (.int 110), some (.int 100), some (.int 115), some (.int 0), some (.int 0), none, none], [], am_hp I J E) (d + 2) 185 186 [some (.int 4)] [] = _
  rw [am_cont_some (m_spelt env d 108 101 110 100 115 0 0 I J E)]
  refine (bk_185_186 _ _ _ _ _ _ _).trans ?_
  rw [show spv 108 101 110 100 115 0 0 = Int64.ofNat (pk 27 (kws.getD 4 [])) by decide +kernel]
theorem m_wo_5 (env : am_E) (d : Nat) (I : Nat → Nat → Int32) (J : Nat → Nat → Int64) (E : Nat → Nat → Nat) : am_ev env (d + 2, 185, 0, [some (.int 5)], [], am_hp I J E) = some (true, some (.long (Int64.ofNat (pk 27 (kws.getD 5 [])))), am_hp I J E) := by
  refine (bk_185_0 _ _ _ _ _ _).trans ?_
  show am_cont env (d + 1, 184, 0, [some (.int 114), some (.int 101), some (.int 116), some (.int 117), some (.int 114), some (.int 110), some (.int 115), none, none], [], am_hp I J E) (d + 2) 185 204 [some (.int 5)] [] = _
  rw [am_cont_some (m_spelt env d 114 101 116 117 114 110 115 I J E)]
  refine (bk_185_204 _ _ _ _ _ _ _).trans ?_
  rw [show spv 114 101 116 117 114 110 115 = Int64.ofNat (pk 27 (kws.getD 5 [])) by decide +kernel]
theorem m_wo_6 (env : am_E) (d : Nat) (I : Nat → Nat → Int32) (J : Nat → Nat → Int64) (E : Nat → Nat → Nat) : am_ev env (d + 2, 185, 0, [some (.int 6)], [], am_hp I J E) = some (true, some (.long (Int64.ofNat (pk 27 (kws.getD 6 [])))), am_hp I J E) := by
  refine (bk_185_0 _ _ _ _ _ _).trans ?_
  show am_cont env (d + 1, 184, 0, [some (.int 116), some (.int 101), some (.int 108), some (.int 108), some (.int 115), some (.int 0), some (.int 0), none, none], [], am_hp I J E) (d + 2) 185 220 [some (.int 6)] [] = _
  rw [am_cont_some (m_spelt env d 116 101 108 108 115 0 0 I J E)]
  refine (bk_185_220 _ _ _ _ _ _ _).trans ?_
  rw [show spv 116 101 108 108 115 0 0 = Int64.ofNat (pk 27 (kws.getD 6 [])) by decide +kernel]
theorem m_wo_7 (env : am_E) (d : Nat) (I : Nat → Nat → Int32) (J : Nat → Nat → Int64) (E : Nat → Nat → Nat) : am_ev env (d + 2, 185, 0, [some (.int 7)], [], am_hp I J E) = some (true, some (.long (Int64.ofNat (pk 27 (kws.getD 7 [])))), am_hp I J E) := by
  refine (bk_185_0 _ _ _ _ _ _).trans ?_
  show am_cont env (d + 1, 184, 0, [some (.int 102), some (.int 111), some (.int 114), some (.int 103), some (.int 101), some (.int 0), some (.int 0), none, none], [], am_hp I J E) (d + 2) 185 236 [some (.int 7)] [] = _
  rw [am_cont_some (m_spelt env d 102 111 114 103 101 0 0 I J E)]
  refine (bk_185_236 _ _ _ _ _ _ _).trans ?_
  rw [show spv 102 111 114 103 101 0 0 = Int64.ofNat (pk 27 (kws.getD 7 [])) by decide +kernel]
theorem m_wo_8 (env : am_E) (d : Nat) (I : Nat → Nat → Int32) (J : Nat → Nat → Int64) (E : Nat → Nat → Nat) : am_ev env (d + 2, 185, 0, [some (.int 8)], [], am_hp I J E) = some (true, some (.long (Int64.ofNat (pk 27 (kws.getD 8 [])))), am_hp I J E) := by
  refine (bk_185_0 _ _ _ _ _ _).trans ?_
  show am_cont env (d + 1, 184, 0, [some (.int 109), some (.int 101), some (.int 110), some (.int 100), some (.int 0), some (.int 0), some (.int 0), none, none], [], am_hp I J E) (d + 2) 185 251 [some (.int 8)] [] = _
  rw [am_cont_some (m_spelt env d 109 101 110 100 0 0 0 I J E)]
  refine (bk_185_251 _ _ _ _ _ _ _).trans ?_
  rw [show spv 109 101 110 100 0 0 0 = Int64.ofNat (pk 27 (kws.getD 8 [])) by decide +kernel]
theorem m_wo_9 (env : am_E) (d : Nat) (I : Nat → Nat → Int32) (J : Nat → Nat → Int64) (E : Nat → Nat → Nat) : am_ev env (d + 2, 185, 0, [some (.int 9)], [], am_hp I J E) = some (true, some (.long (Int64.ofNat (pk 27 (kws.getD 9 [])))), am_hp I J E) := by
  refine (bk_185_0 _ _ _ _ _ _).trans ?_
  show am_cont env (d + 1, 184, 0, [some (.int 98), some (.int 117), some (.int 114), some (.int 110), some (.int 0), some (.int 0), some (.int 0), none, none], [], am_hp I J E) (d + 2) 185 266 [some (.int 9)] [] = _
  rw [am_cont_some (m_spelt env d 98 117 114 110 0 0 0 I J E)]
  refine (bk_185_266 _ _ _ _ _ _ _).trans ?_
  rw [show spv 98 117 114 110 0 0 0 = Int64.ofNat (pk 27 (kws.getD 9 [])) by decide +kernel]
theorem m_wo_10 (env : am_E) (d : Nat) (I : Nat → Nat → Int32) (J : Nat → Nat → Int64) (E : Nat → Nat → Nat) : am_ev env (d + 2, 185, 0, [some (.int 10)], [], am_hp I J E) = some (true, some (.long (Int64.ofNat (pk 27 (kws.getD 10 [])))), am_hp I J E) := by
  refine (bk_185_0 _ _ _ _ _ _).trans ?_
  show am_cont env (d + 1, 184, 0, [some (.int 98), some (.int 117), some (.int 121), some (.int 0), some (.int 0), some (.int 0), some (.int 0), none, none], [], am_hp I J E) (d + 2) 185 280 [some (.int 10)] [] = _
  rw [am_cont_some (m_spelt env d 98 117 121 0 0 0 0 I J E)]
  refine (bk_185_280 _ _ _ _ _ _ _).trans ?_
  rw [show spv 98 117 121 0 0 0 0 = Int64.ofNat (pk 27 (kws.getD 10 [])) by decide +kernel]
theorem m_wo_11 (env : am_E) (d : Nat) (I : Nat → Nat → Int32) (J : Nat → Nat → Int64) (E : Nat → Nat → Nat) : am_ev env (d + 2, 185, 0, [some (.int 11)], [], am_hp I J E) = some (true, some (.long (Int64.ofNat (pk 27 (kws.getD 11 [])))), am_hp I J E) := by
  refine (bk_185_0 _ _ _ _ _ _).trans ?_
  show am_cont env (d + 1, 184, 0, [some (.int 100), some (.int 97), some (.int 121), some (.int 0), some (.int 0), some (.int 0), some (.int 0), none, none], [], am_hp I J E) (d + 2) 185 294 [some (.int 11)] [] = _
  rw [am_cont_some (m_spelt env d 100 97 121 0 0 0 0 I J E)]
  refine (bk_185_294 _ _ _ _ _ _ _).trans ?_
  rw [show spv 100 97 121 0 0 0 0 = Int64.ofNat (pk 27 (kws.getD 11 [])) by decide +kernel]
theorem m_wo_12 (env : am_E) (d : Nat) (I : Nat → Nat → Int32) (J : Nat → Nat → Int64) (E : Nat → Nat → Nat) : am_ev env (d + 2, 185, 0, [some (.int 12)], [], am_hp I J E) = some (true, some (.long (Int64.ofNat (pk 27 (kws.getD 12 [])))), am_hp I J E) := by
  refine (bk_185_0 _ _ _ _ _ _).trans ?_
  show am_cont env (d + 1, 184, 0, [some (.int 111), some (.int 114), some (.int 0), some (.int 0), some (.int 0), some (.int 0), some (.int 0), none, none], [], am_hp I J E) (d + 2) 185 307 [some (.int 12)] [] = _
  rw [am_cont_some (m_spelt env d 111 114 0 0 0 0 0 I J E)]
  refine (bk_185_307 _ _ _ _ _ _ _).trans ?_
  rw [show spv 111 114 0 0 0 0 0 = Int64.ofNat (pk 27 (kws.getD 12 [])) by decide +kernel]
theorem m_wo_13 (env : am_E) (d : Nat) (I : Nat → Nat → Int32) (J : Nat → Nat → Int64) (E : Nat → Nat → Nat) : am_ev env (d + 2, 185, 0, [some (.int 13)], [], am_hp I J E) = some (true, some (.long (Int64.ofNat (pk 27 (kws.getD 13 [])))), am_hp I J E) := by
  refine (bk_185_0 _ _ _ _ _ _).trans ?_
  show am_cont env (d + 1, 184, 0, [some (.int 97), some (.int 110), some (.int 100), some (.int 0), some (.int 0), some (.int 0), some (.int 0), none, none], [], am_hp I J E) (d + 2) 185 321 [some (.int 13)] [] = _
  rw [am_cont_some (m_spelt env d 97 110 100 0 0 0 0 I J E)]
  refine (bk_185_321 _ _ _ _ _ _ _).trans ?_
  rw [show spv 97 110 100 0 0 0 0 = Int64.ofNat (pk 27 (kws.getD 13 [])) by decide +kernel]
theorem m_wo_14 (env : am_E) (d : Nat) (I : Nat → Nat → Int32) (J : Nat → Nat → Int64) (E : Nat → Nat → Nat) : am_ev env (d + 2, 185, 0, [some (.int 14)], [], am_hp I J E) = some (true, some (.long (Int64.ofNat (pk 27 (kws.getD 14 [])))), am_hp I J E) := by
  refine (bk_185_0 _ _ _ _ _ _).trans ?_
  show am_cont env (d + 1, 184, 0, [some (.int 110), some (.int 111), some (.int 116), some (.int 0), some (.int 0), some (.int 0), some (.int 0), none, none], [], am_hp I J E) (d + 2) 185 335 [some (.int 14)] [] = _
  rw [am_cont_some (m_spelt env d 110 111 116 0 0 0 0 I J E)]
  refine (bk_185_335 _ _ _ _ _ _ _).trans ?_
  rw [show spv 110 111 116 0 0 0 0 = Int64.ofNat (pk 27 (kws.getD 14 [])) by decide +kernel]
theorem m_wo_15 (env : am_E) (d : Nat) (I : Nat → Nat → Int32) (J : Nat → Nat → Int64) (E : Nat → Nat → Nat) : am_ev env (d + 2, 185, 0, [some (.int 15)], [], am_hp I J E) = some (true, some (.long (Int64.ofNat (pk 27 (kws.getD 15 [])))), am_hp I J E) := by
  refine (bk_185_0 _ _ _ _ _ _).trans ?_
  show am_cont env (d + 1, 184, 0, [some (.int 105), some (.int 100), some (.int 108), some (.int 101), some (.int 0), some (.int 0), some (.int 0), none, none], [], am_hp I J E) (d + 2) 185 350 [some (.int 15)] [] = _
  rw [am_cont_some (m_spelt env d 105 100 108 101 0 0 0 I J E)]
  refine (bk_185_350 _ _ _ _ _ _ _).trans ?_
  rw [show spv 105 100 108 101 0 0 0 = Int64.ofNat (pk 27 (kws.getD 15 [])) by decide +kernel]
theorem m_wo_16 (env : am_E) (d : Nat) (I : Nat → Nat → Int32) (J : Nat → Nat → Int64) (E : Nat → Nat → Nat) : am_ev env (d + 2, 185, 0, [some (.int 16)], [], am_hp I J E) = some (true, some (.long (Int64.ofNat (pk 27 (kws.getD 16 [])))), am_hp I J E) := by
  refine (bk_185_0 _ _ _ _ _ _).trans ?_
  show am_cont env (d + 1, 184, 0, [some (.int 102), some (.int 105), some (.int 110), some (.int 101), some (.int 100), some (.int 0), some (.int 0), none, none], [], am_hp I J E) (d + 2) 185 366 [some (.int 16)] [] = _
  rw [am_cont_some (m_spelt env d 102 105 110 101 100 0 0 I J E)]
  refine (bk_185_366 _ _ _ _ _ _ _).trans ?_
  rw [show spv 102 105 110 101 100 0 0 = Int64.ofNat (pk 27 (kws.getD 16 [])) by decide +kernel]
theorem m_wo_17 (env : am_E) (d : Nat) (I : Nat → Nat → Int32) (J : Nat → Nat → Int64) (E : Nat → Nat → Nat) : am_ev env (d + 2, 185, 0, [some (.int 17)], [], am_hp I J E) = some (true, some (.long (Int64.ofNat (pk 27 (kws.getD 17 [])))), am_hp I J E) := by
  refine (bk_185_0 _ _ _ _ _ _).trans ?_
  show am_cont env (d + 1, 184, 0, [some (.int 100), some (.int 111), some (.int 110), some (.int 101), some (.int 0), some (.int 0), some (.int 0), none, none], [], am_hp I J E) (d + 2) 185 381 [some (.int 17)] [] = _
  rw [am_cont_some (m_spelt env d 100 111 110 101 0 0 0 I J E)]
  refine (bk_185_381 _ _ _ _ _ _ _).trans ?_
  rw [show spv 100 111 110 101 0 0 0 = Int64.ofNat (pk 27 (kws.getD 17 [])) by decide +kernel]
theorem m_wo_18 (env : am_E) (d : Nat) (I : Nat → Nat → Int32) (J : Nat → Nat → Int64) (E : Nat → Nat → Nat) : am_ev env (d + 2, 185, 0, [some (.int 18)], [], am_hp I J E) = some (true, some (.long (Int64.ofNat (pk 27 (kws.getD 18 [])))), am_hp I J E) := by
  refine (bk_185_0 _ _ _ _ _ _).trans ?_
  show am_cont env (d + 1, 184, 0, [some (.int 104), some (.int 97), some (.int 115), some (.int 0), some (.int 0), some (.int 0), some (.int 0), none, none], [], am_hp I J E) (d + 2) 185 395 [some (.int 18)] [] = _
  rw [am_cont_some (m_spelt env d 104 97 115 0 0 0 0 I J E)]
  refine (bk_185_395 _ _ _ _ _ _ _).trans ?_
  rw [show spv 104 97 115 0 0 0 0 = Int64.ofNat (pk 27 (kws.getD 18 [])) by decide +kernel]
theorem m_wo_19 (env : am_E) (d : Nat) (I : Nat → Nat → Int32) (J : Nat → Nat → Int64) (E : Nat → Nat → Nat) : am_ev env (d + 2, 185, 0, [some (.int 19)], [], am_hp I J E) = some (true, some (.long (Int64.ofNat (pk 27 (kws.getD 19 [])))), am_hp I J E) := by
  refine (bk_185_0 _ _ _ _ _ _).trans ?_
  show am_cont env (d + 1, 184, 0, [some (.int 114), some (.int 101), some (.int 97), some (.int 100), some (.int 0), some (.int 0), some (.int 0), none, none], [], am_hp I J E) (d + 2) 185 410 [some (.int 19)] [] = _
  rw [am_cont_some (m_spelt env d 114 101 97 100 0 0 0 I J E)]
  refine (bk_185_410 _ _ _ _ _ _ _).trans ?_
  rw [show spv 114 101 97 100 0 0 0 = Int64.ofNat (pk 27 (kws.getD 19 [])) by decide +kernel]
theorem m_wo_20 (env : am_E) (d : Nat) (I : Nat → Nat → Int32) (J : Nat → Nat → Int64) (E : Nat → Nat → Nat) : am_ev env (d + 2, 185, 0, [some (.int 20)], [], am_hp I J E) = some (true, some (.long (Int64.ofNat (pk 27 (kws.getD 20 [])))), am_hp I J E) := by
  refine (bk_185_0 _ _ _ _ _ _).trans ?_
  show am_cont env (d + 1, 184, 0, [some (.int 112), some (.int 97), some (.int 99), some (.int 101), some (.int 0), some (.int 0), some (.int 0), none, none], [], am_hp I J E) (d + 2) 185 425 [some (.int 20)] [] = _
  rw [am_cont_some (m_spelt env d 112 97 99 101 0 0 0 I J E)]
  refine (bk_185_425 _ _ _ _ _ _ _).trans ?_
  rw [show spv 112 97 99 101 0 0 0 = Int64.ofNat (pk 27 (kws.getD 20 [])) by decide +kernel]
theorem m_wo_21 (env : am_E) (d : Nat) (I : Nat → Nat → Int32) (J : Nat → Nat → Int64) (E : Nat → Nat → Nat) : am_ev env (d + 2, 185, 0, [some (.int 21)], [], am_hp I J E) = some (true, some (.long (Int64.ofNat (pk 27 (kws.getD 21 [])))), am_hp I J E) := by
  refine (bk_185_0 _ _ _ _ _ _).trans ?_
  show am_cont env (d + 1, 184, 0, [some (.int 108), some (.int 101), some (.int 102), some (.int 116), some (.int 0), some (.int 0), some (.int 0), none, none], [], am_hp I J E) (d + 2) 185 440 [some (.int 21)] [] = _
  rw [am_cont_some (m_spelt env d 108 101 102 116 0 0 0 I J E)]
  refine (bk_185_440 _ _ _ _ _ _ _).trans ?_
  rw [show spv 108 101 102 116 0 0 0 = Int64.ofNat (pk 27 (kws.getD 21 [])) by decide +kernel]
theorem m_wo_22 (env : am_E) (d : Nat) (I : Nat → Nat → Int32) (J : Nat → Nat → Int64) (E : Nat → Nat → Nat) : am_ev env (d + 2, 185, 0, [some (.int 22)], [], am_hp I J E) = some (true, some (.long (Int64.ofNat (pk 27 (kws.getD 22 [])))), am_hp I J E) := by
  refine (bk_185_0 _ _ _ _ _ _).trans ?_
  show am_cont env (d + 1, 184, 0, [some (.int 111), some (.int 119), some (.int 101), some (.int 115), some (.int 0), some (.int 0), some (.int 0), none, none], [], am_hp I J E) (d + 2) 185 455 [some (.int 22)] [] = _
  rw [am_cont_some (m_spelt env d 111 119 101 115 0 0 0 I J E)]
  refine (bk_185_455 _ _ _ _ _ _ _).trans ?_
  rw [show spv 111 119 101 115 0 0 0 = Int64.ofNat (pk 27 (kws.getD 22 [])) by decide +kernel]
theorem m_wo_23 (env : am_E) (d : Nat) (I : Nat → Nat → Int32) (J : Nat → Nat → Int64) (E : Nat → Nat → Nat) : am_ev env (d + 2, 185, 0, [some (.int 23)], [], am_hp I J E) = some (true, some (.long (Int64.ofNat (pk 27 (kws.getD 23 [])))), am_hp I J E) := by
  refine (bk_185_0 _ _ _ _ _ _).trans ?_
  show am_cont env (d + 1, 184, 0, [some (.int 110), some (.int 117), some (.int 109), some (.int 98), some (.int 101), some (.int 114), some (.int 0), none, none], [], am_hp I J E) (d + 2) 185 472 [some (.int 23)] [] = _
  rw [am_cont_some (m_spelt env d 110 117 109 98 101 114 0 I J E)]
  refine (bk_185_472 _ _ _ _ _ _ _).trans ?_
  rw [show spv 110 117 109 98 101 114 0 = Int64.ofNat (pk 27 (kws.getD 23 [])) by decide +kernel]
theorem m_wordOf (env : am_E) (d : Nat) (k : Nat) (hk : k < 24) (x : Int32) (hx : x = Int32.ofNat k) (I : Nat → Nat → Int32) (J : Nat → Nat → Int64) (E : Nat → Nat → Nat) : am_ev env (d + 2, 185, 0, [some (.int x)], [], am_hp I J E) = some (true, some (.long (Int64.ofNat (pk 27 (kws.getD k [])))), am_hp I J E) := by
  subst hx
  rcases (show k = 0 ∨ k = 1 ∨ k = 2 ∨ k = 3 ∨ k = 4 ∨ k = 5 ∨ k = 6 ∨ k = 7 ∨ k = 8 ∨ k = 9 ∨ k = 10 ∨ k = 11 ∨ k = 12 ∨ k = 13 ∨ k = 14 ∨ k = 15 ∨ k = 16 ∨ k = 17 ∨ k = 18 ∨ k = 19 ∨ k = 20 ∨ k = 21 ∨ k = 22 ∨ k = 23 by omega) with rfl | rfl | rfl | rfl | rfl | rfl | rfl | rfl | rfl | rfl | rfl | rfl | rfl | rfl | rfl | rfl | rfl | rfl | rfl | rfl | rfl | rfl | rfl | rfl
  · exact m_wo_0 env d I J E
  · exact m_wo_1 env d I J E
  · exact m_wo_2 env d I J E
  · exact m_wo_3 env d I J E
  · exact m_wo_4 env d I J E
  · exact m_wo_5 env d I J E
  · exact m_wo_6 env d I J E
  · exact m_wo_7 env d I J E
  · exact m_wo_8 env d I J E
  · exact m_wo_9 env d I J E
  · exact m_wo_10 env d I J E
  · exact m_wo_11 env d I J E
  · exact m_wo_12 env d I J E
  · exact m_wo_13 env d I J E
  · exact m_wo_14 env d I J E
  · exact m_wo_15 env d I J E
  · exact m_wo_16 env d I J E
  · exact m_wo_17 env d I J E
  · exact m_wo_18 env d I J E
  · exact m_wo_19 env d I J E
  · exact m_wo_20 env d I J E
  · exact m_wo_21 env d I J E
  · exact m_wo_22 env d I J E
  · exact m_wo_23 env d I J E
def MS (I : Nat → Nat → Int32) (J : Nat → Nat → Int64) (z : Nat) (c : Nat → Nat) (lim : Nat) (u : Cu) : Prop := MU (I 156) (J 156) u ∧ I 156 3 = Int32.ofNat z ∧ I 156 4 = Int32.ofNat lim ∧ Tm I z c ∧ u.2.2 ≤ z ∧ tg u
/-- nothing changed but rows of X and, of row 156, cells of C -/
def GM (X C : Nat → Prop) (I : Nat → Nat → Int32) (J : Nat → Nat → Int64) (I' : Nat → Nat → Int32) (J' : Nat → Nat → Int64) : Prop := (∀ q, q ≠ 156 → ¬ X q → I' q = I q) ∧ (∀ j, ¬ C j → I' 156 j = I 156 j) ∧ ∀ q, q ≠ 156 → ¬ X q → J' q = J q
theorem GM_refl (X C : Nat → Prop) (I : Nat → Nat → Int32) (J : Nat → Nat → Int64) : GM X C I J I J := ⟨fun _ _ _ => rfl, fun _ _ => rfl, fun _ _ _ => rfl⟩
theorem GM_tr {X C : Nat → Prop} {I I1 I2 : Nat → Nat → Int32} {J J1 J2 : Nat → Nat → Int64} (h1 : GM X C I J I1 J1) (h2 : GM X C I1 J1 I2 J2) : GM X C I J I2 J2 := ⟨fun q a b => (h2.1 q a b).trans (h1.1 q a b), fun j a => (h2.2.1 j a).trans (h1.2.1 j a), fun q a b => (h2.2.2 q a b).trans (h1.2.2 q a b)⟩
theorem GM_mono {X C X' C' : Nat → Prop} {I I1 : Nat → Nat → Int32} {J J1 : Nat → Nat → Int64} (h : GM X C I J I1 J1) (hx : ∀ q, X q → X' q) (hc : ∀ j, C j → C' j) : GM X' C' I J I1 J1 := ⟨fun q a b => h.1 q a (fun z => b (hx q z)), fun j a => h.2.1 j (fun z => a (hc j z)), fun q a b => h.2.2 q a (fun z => b (hx q z))⟩
abbrev X0 : Nat → Prop := fun _ => False
abbrev C5 : Nat → Prop := fun j => 5 ≤ j ∧ j ≤ 9
abbrev C13 : Nat → Prop := fun j => 5 ≤ j ∧ j ≤ 13
abbrev C5t : Nat → Prop := fun j => (5 ≤ j ∧ j ≤ 9) ∨ j = 13
theorem MS_gm {X C : Nat → Prop} {I I1 : Nat → Nat → Int32} {J J1 : Nat → Nat → Int64} {z : Nat} {c : Nat → Nat} {lim : Nat} {u : Cu} (h : MS I J z c lim u) (hf : GM X C I J I1 J1) (hC : ∀ j, j < 10 → ¬ C j) (hX : ¬ X 157) (hJ : J1 156 = J 156) : MS I1 J1 z c lim u := by
  obtain ⟨⟨a1, a2, a3, a4, a5, a6⟩, b1, b2, b3, b4⟩ := h
  have e := fun j hj => hf.2.1 j (hC j hj)
  exact ⟨⟨by rw [e 7 (by omega)]; exact a1, by rw [hJ]; exact a2, by rw [e 8 (by omega)]; exact a3, by rw [e 9 (by omega)]; exact a4, by rw [e 6 (by omega)]; exact a5, by rw [e 5 (by omega)]; exact a6⟩, by rw [e 3 (by omega)]; exact b1, by rw [e 4 (by omega)]; exact b2, fun j hj => by rw [hf.1 157 (by omega) hX]; exact b3 j hj, b4⟩
theorem m_nx0 (env : am_E) (d : Nat) (z lim p : Nat) (hz : z ≤ 940) (hlim : lim ≤ 1000) (hp : p ≤ z) (c : Nat → Nat) (I : Nat → Nat → Int32) (J : Nat → Nat → Int64) (E : Nat → Nat → Nat) (h3 : I 156 3 = Int32.ofNat z) (h4 : I 156 4 = Int32.ofNat lim) (h5 : I 156 5 = Int32.ofNat p) (ht : Tm I z c) : ∃ I' J', am_ev env (d + 2, 183, 0, [some (.ref 156), none, none, none, none], [], am_hp I J E) = some (true, none, am_hp I' J' E) ∧ MS I' J' z c lim (lx c z lim p) ∧ GM X0 C5 I J I' J' := by
  obtain ⟨r', s', k1, k2, k3, k4⟩ := m_go env d z lim p hz hp hlim c I J E ht (I 156) (J 156) h3 h4 h5
  rw [ur_self, ur_self] at k1
  refine ⟨am_ur I 156 r', am_ur J 156 s', k1, ⟨by rw [ur_at, ur_at]; exact k2, by rw [ur_at, k3 3 (by omega)]; exact h3, by rw [ur_at, k3 4 (by omega)]; exact h4, Tm_ur ht 156 (by omega) r', lx_le c z lim p hp, tg_lx c z lim p hp⟩, fun q hq _ => ur_ne _ _ _ _ hq, fun j hj => ?_, fun q hq _ => ur_ne _ _ _ _ hq⟩
  rw [ur_at]; exact k3 j (by unfold C5 at hj; omega)
theorem m_nx (env : am_E) (d : Nat) (z lim : Nat) (hz : z ≤ 940) (hlim : lim ≤ 1000) (c : Nat → Nat) (u : Cu) (I : Nat → Nat → Int32) (J : Nat → Nat → Int64) (E : Nat → Nat → Nat) (h : MS I J z c lim u) : ∃ I' J', am_ev env (d + 2, 183, 0, [some (.ref 156), none, none, none, none], [], am_hp I J E) = some (true, none, am_hp I' J' E) ∧ MS I' J' z c lim (lx c z lim u.2.2) ∧ GM X0 C5 I J I' J' := by
  obtain ⟨⟨a1, a2, a3, a4, a5, a6⟩, b1, b2, b3, b4, -⟩ := h
  exact m_nx0 env d z lim u.2.2 hz hlim b4 c I J E b1 b2 a6 b3
theorem m_kind {I : Nat → Nat → Int32} {J : Nat → Nat → Int64} {z : Nat} {c : Nat → Nat} {lim : Nat} {u : Cu} (h : MS I J z c lim u) (k : Nat) (hk : k ≤ 1000) : decide (I 156 7 = Int32.ofNat k) = decide (u.1.1 = k) := by
  obtain ⟨⟨a1, -⟩, -, -, -, -, -, -, -, g4⟩ := h
  rw [a1, zI_deq _ k (by omega) (by omega)]
theorem m_at {I : Nat → Nat → Int32} {J : Nat → Nat → Int64} {z : Nat} {c : Nat → Nat} {lim : Nat} {u : Cu} (h : MS I J z c lim u) : I 156 6 = Int32.ofNat u.2.1 := h.1.2.2.2.2.1
theorem kw_iff (u : Cu) (k : Nat) : (kw u = k + 1) = (u.1.1 = 2 ∧ kwi u.1.2.1 = k + 1) := by
  apply propext
  unfold kw cwd
  by_cases h : u.1.1 = 2
  · rw [if_pos h]; exact ⟨fun e => ⟨h, e⟩, fun e => e.2⟩
  · rw [if_neg h]; exact ⟨fun e => by omega, fun e => absurd e.1 h⟩
theorem m_isWord (env : am_E) (d : Nat) (z lim : Nat) (c : Nat → Nat) (u : Cu) (k : Nat) (hk : k < 24) (x : Int32) (hx : x = Int32.ofNat k) (I : Nat → Nat → Int32) (J : Nat → Nat → Int64) (E : Nat → Nat → Nat) (h : MS I J z c lim u) : am_ev env (d + 3, 186, 0, [some (.ref 156), some (.int x)], [], am_hp I J E) = some (true, some (.int (bi (decide (kw u = k + 1)))), am_hp I J E) := by
  refine (bk_186_0 _ _ _ _ _ _).trans ?_
  rw [show decide (I 156 7 = (2 : Int32)) = decide (u.1.1 = 2) from m_kind h 2 (by omega)]
  by_cases h2 : u.1.1 = 2
  · have hw := h.2.2.2.2.2.1 h2
    have hJ := h.1.2.1 h2
    rw [decide_eq_true h2, hJ]
    simp only [decide_true, decide_false, Bool.not_true, Bool.not_false, am_cont, Option.bind_some, Option.toList_some, Option.toList_none, List.singleton_append, List.nil_append, cond_true, cond_false, m_wordOf env _ k hk x hx, bk_186_16, lgq, bk_186_24, bk_186_25]
    rw [decide_eq_decide.mpr (show (kw u = k + 1) ↔ (u.1.2.1 = kws.getD k []) by rw [kw_iff, kwi_iff _ k hk]; exact ⟨fun e => e.2, fun e => ⟨h2, e⟩⟩), decide_eq_decide.mpr (by rw [pkq 27 (by omega) (by omega) u.1.2.1 _ hw (kws_g k hk)])]
    cases decide (u.1.2.1 = kws.getD k []) <;> rfl
  · rw [decide_eq_false h2, decide_eq_false (by rw [kw_iff]; exact fun e => h2 e.1)]
    simp only [decide_true, decide_false, Bool.not_true, Bool.not_false, am_cont, Option.bind_some, Option.toList_some, Option.toList_none, List.singleton_append, List.nil_append, cond_true, cond_false, bk_186_24, bk_186_25]
    rfl
theorem m_isSign (env : am_E) (d : Nat) (z lim : Nat) (c : Nat → Nat) (u : Cu) (k : Nat) (hk : k < 1000) (x : Int32) (hx : x = Int32.ofNat k) (I : Nat → Nat → Int32) (J : Nat → Nat → Int64) (E : Nat → Nat → Nat) (h : MS I J z c lim u) : am_ev env (d + 1, 187, 0, [some (.ref 156), some (.int x)], [], am_hp I J E) = some (true, some (.int (bi (isg u k))), am_hp I J E) := by
  refine (bk_187_0 _ _ _ _ _ _).trans ?_
  rw [show decide (I 156 7 = (4 : Int32)) = decide (u.1.1 = 4) from m_kind h 4 (by omega)]
  unfold isg
  by_cases h2 : u.1.1 = 4
  · have := (iss_iff _).mp (h.2.2.2.2.2.2.2.1 h2)
    rw [decide_eq_true h2, h.1.2.2.2.1 h2, hx, zI_deq _ k (by omega) (by omega)]
    simp only [bk_187_20, bk_187_21]
    cases decide (u.1.2.2 = k) <;> rfl
  · rw [decide_eq_false h2]
    simp only [decide_true, decide_false, Bool.not_true, Bool.not_false, am_cont, Option.bind_some, Option.toList_some, Option.toList_none, List.singleton_append, List.nil_append, cond_true, cond_false, bk_187_20, bk_187_21]
    rfl
theorem m_isName (env : am_E) (d : Nat) (z lim : Nat) (c : Nat → Nat) (u : Cu) (I : Nat → Nat → Int32) (J : Nat → Nat → Int64) (E : Nat → Nat → Nat) (h : MS I J z c lim u) : am_ev env (d + 3, 188, 0, [some (.ref 156), none], [], am_hp I J E) = some (true, some (.int (bi (isn u))), am_hp I J E) := by
  refine (bk_188_0 _ _ _ _ _).trans ?_
  rw [show decide (I 156 7 = (2 : Int32)) = decide (u.1.1 = 2) from m_kind h 2 (by omega)]
  unfold isn
  by_cases h2 : u.1.1 = 2
  · have hw := h.2.2.2.2.2.1 h2
    have hJ := h.1.2.1 h2
    rw [decide_eq_true h2, cond_true, Bool.true_and]
    have key : ∀ f k, k + f = 24 → (∀ j, j < k → kwi u.1.2.1 ≠ j + 1) → am_ev env (d + 3, 188, 12, [some (.ref 156), some (.int (Int32.ofNat k))], [], am_hp I J E) = some (true, some (.int (bi (decide (kwi u.1.2.1 = 0)))), am_hp I J E) := by
      intro f
      induction f with
      | zero =>
        intro k hk hall
        refine (bk_188_12 _ _ _ _ _ _).trans ?_
        have h0 : kwi u.1.2.1 = 0 := by
          have := kwi_lt u.1.2.1
          rcases Nat.eq_zero_or_pos (kwi u.1.2.1) with q | q
          · exact q
          · exact absurd (by omega) (hall (kwi u.1.2.1 - 1) (by omega))
        rw [show decide ((23 : Int32) < Int32.ofNat k) = true from zlt_t 23 k (by omega) (by omega), decide_eq_true h0]
        rfl
      | succ f ih =>
        intro k hk hall
        refine (bk_188_12 _ _ _ _ _ _).trans ?_
        rw [show decide ((23 : Int32) < Int32.ofNat k) = false from zlt_f 23 k (by omega) (by omega), hJ]
        simp only [decide_true, decide_false, Bool.not_true, Bool.not_false, am_cont, Option.bind_some, Option.toList_some, Option.toList_none, List.singleton_append, List.nil_append, cond_true, cond_false, m_wordOf env _ k (by omega) (Int32.ofNat k) rfl, bk_188_26, lgq]
        rw [decide_eq_decide.mpr (by rw [pkq 27 (by omega) (by omega) u.1.2.1 _ hw (kws_g k (by omega)), ← kwi_iff _ k (by omega)])]
        by_cases q : kwi u.1.2.1 = k + 1
        · rw [decide_eq_true q, decide_eq_false (by omega : ¬ kwi u.1.2.1 = 0)]; rfl
        · rw [decide_eq_false q]
          simp only [decide_true, decide_false, Bool.not_true, Bool.not_false, am_cont, Option.bind_some, Option.toList_some, Option.toList_none, List.singleton_append, List.nil_append, cond_true, cond_false, zd_1]
          exact ih (k + 1) (by omega) (fun j hj => by
            by_cases e : j = k
            · rw [e]; exact q
            · exact hall j (by omega))
    exact key 24 0 (by omega) (fun j hj => absurd hj (Nat.not_lt_zero _))
  · rw [decide_eq_false h2]; rfl
def mbd (I : Nat → Nat → Int32) (k : Int32) : Nat → Nat → Int32 := am_ur I 156 (ru (ru (I 156) 10 k) 11 (I 156 6))
theorem mbd_gm (I : Nat → Nat → Int32) (J : Nat → Nat → Int64) (k : Int32) : GM X0 C13 I J (mbd I k) J := ⟨fun q hq _ => ur_ne _ _ _ _ hq, fun j hj => by unfold C13 at hj; unfold mbd; rw [ur_at, ru_ne _ _ _ _ (by omega), ru_ne _ _ _ _ (by omega)], fun _ _ _ => rfl⟩
theorem mbd_10 (I : Nat → Nat → Int32) (k : Int32) : mbd I k 156 10 = k := by unfold mbd; rw [ur_at, ru_ne _ _ _ _ (by omega), ru_eq]
theorem mbd_11 (I : Nat → Nat → Int32) (k : Int32) : mbd I k 156 11 = I 156 6 := by unfold mbd; rw [ur_at, ru_eq]
theorem m_bad (env : am_E) (d : Nat) (z lim : Nat) (c : Nat → Nat) (u : Cu) (k : Int32) (I : Nat → Nat → Int32) (J : Nat → Nat → Int64) (E : Nat → Nat → Nat) (h : MS I J z c lim u) (hk : u.1.1 ≠ 1 ∨ k = 1) : am_ev env (d + 1, 189, 0, [some (.ref 156), some (.int k)], [], am_hp I J E) = some (true, some (.int 0), am_hp (mbd I k) J E) := by
  refine (bk_189_0 _ _ _ _ _ _).trans ?_
  rw [show decide (I 156 7 = (1 : Int32)) = decide (u.1.1 = 1) from m_kind h 1 (by omega)]
  have e : ∀ k, am_u (am_u I 156 10 k) 156 11 ((am_u I 156 10 k) 156 6) = mbd I k := by
    intro k
    unfold mbd
    rw [am_u_r I 156 10 k, am_u_g32, ur_at, ru_ne _ _ _ _ (by omega)]
  by_cases h1 : u.1.1 = 1
  · rcases hk with hk | hk
    · exact absurd h1 hk
    · rw [decide_eq_true h1, hk]; simp only [decide_true, decide_false, Bool.not_true, Bool.not_false, am_cont, Option.bind_some, Option.toList_some, Option.toList_none, List.singleton_append, List.nil_append, cond_true, cond_false, bk_189_14, e]
  · rw [decide_eq_false h1]; simp only [decide_true, decide_false, Bool.not_true, Bool.not_false, am_cont, Option.bind_some, Option.toList_some, Option.toList_none, List.singleton_append, List.nil_append, cond_true, cond_false, bk_189_14, e]
theorem m_num0 (env : am_E) (d : Nat) (z lim : Nat) (c : Nat → Nat) (u : Cu) (a b : Nat) (ha : a ≤ 1000) (hb : b ≤ 1000) (x y : Int32) (hx : x = Int32.ofNat a) (hy : y = Int32.ofNat b) (I : Nat → Nat → Int32) (J : Nat → Nat → Int64) (E : Nat → Nat → Nat) (h : MS I J z c lim u) (hp : pn u a b ≠ 0) : am_ev env (d + 3, 190, 0, [some (.ref 156), some (.int x), some (.int y)], [], am_hp I J E) = some (true, some (.int 0), am_hp (mbd I (Int32.ofNat (pn u a b))) J E) := by
  refine (bk_190_0 _ _ _ _ _ _ _).trans ?_
  rw [show decide (I 156 7 = (3 : Int32)) = decide (u.1.1 = 3) from m_kind h 3 (by omega)]
  unfold pn at hp ⊢
  by_cases h3 : u.1.1 = 3
  · have hv := h.2.2.2.2.2.2.1 h3
    have h8 := h.1.2.2.1 h3
    rw [if_pos h3] at hp ⊢
    by_cases q : a ≤ u.1.2.2 ∧ u.1.2.2 ≤ b
    · rw [if_pos q] at hp; exact absurd rfl hp
    · rw [if_neg q]
      have e : (!decide (Int32.ofNat u.1.2.2 < Int32.ofNat a) && !decide (Int32.ofNat b < Int32.ofNat u.1.2.2)) = false := by
        rw [zlt_d _ a (by omega) (by omega), zlt_d b _ (by omega) (by omega)]
        by_cases q1 : u.1.2.2 < a
        · rw [decide_eq_true q1]; rfl
        · rw [decide_eq_true (by omega : b < u.1.2.2), Bool.not_true, Bool.and_false]
      have mb := m_bad env (d + 1) z lim c u 2 I J E h (Or.inl (by omega))
      rw [decide_eq_true h3, hx, hy, h8]
      simp only [decide_true, decide_false, Bool.not_true, Bool.not_false, am_cont, Option.bind_some, Option.toList_some, Option.toList_none, List.singleton_append, List.nil_append, cond_true, cond_false, m_isIn, e, bk_190_23, bi_f, zq_0_0, mb, bk_190_31]
      rfl
  · rw [if_neg h3]
    have mb := m_bad env (d + 1) z lim c u 1 I J E h (Or.inr rfl)
    rw [decide_eq_false h3]
    simp only [decide_true, decide_false, Bool.not_true, Bool.not_false, am_cont, Option.bind_some, Option.toList_some, Option.toList_none, List.singleton_append, List.nil_append, cond_true, cond_false, mb, bk_190_13]
    rfl
theorem m_num1 (env : am_E) (d : Nat) (z lim : Nat) (hz : z ≤ 940) (hlim : lim ≤ 1000) (c : Nat → Nat) (u : Cu) (a b : Nat) (ha : a ≤ 1000) (hb : b ≤ 1000) (x y : Int32) (hx : x = Int32.ofNat a) (hy : y = Int32.ofNat b) (I : Nat → Nat → Int32) (J : Nat → Nat → Int64) (E : Nat → Nat → Nat) (h : MS I J z c lim u) (hp : pn u a b = 0) : ∃ I' J', am_ev env (d + 3, 190, 0, [some (.ref 156), some (.int x), some (.int y)], [], am_hp I J E) = some (true, some (.int 1), am_hp I' J' E) ∧ MS I' J' z c lim (lx c z lim u.2.2) ∧ I' 156 13 = Int32.ofNat u.1.2.2 ∧ GM X0 C5t I J I' J' := by
  unfold pn at hp
  by_cases h3 : u.1.1 = 3
  · rw [if_pos h3] at hp
    by_cases q : a ≤ u.1.2.2 ∧ u.1.2.2 ≤ b
    · have hv := h.2.2.2.2.2.2.1 h3
      have h8 := h.1.2.2.1 h3
      have fr : GM X0 (fun j => j = 13) I J (am_u I 156 13 (I 156 8)) J := ⟨fun q hq _ => am_u_nr _ _ _ _ _ hq, fun j hj => by rw [am_u_d, if_pos rfl, if_neg hj], fun _ _ _ => rfl⟩
      obtain ⟨I', J', k1, k2, k3⟩ := m_nx env d z lim hz hlim c u (am_u I 156 13 (I 156 8)) J E (MS_gm h fr (fun j hj => by omega) (fun q => q) rfl)
      refine ⟨I', J', ?_, k2, ?_, GM_tr (GM_mono fr (fun q hq => hq) (fun j hj => Or.inr hj)) (GM_mono k3 (fun q hq => hq) (fun j hj => Or.inl hj))⟩
      · refine (bk_190_0 _ _ _ _ _ _ _).trans ?_
        have e : (!decide (Int32.ofNat u.1.2.2 < Int32.ofNat a) && !decide (Int32.ofNat b < Int32.ofNat u.1.2.2)) = true := by
          rw [zlt_d _ a (by omega) (by omega), zlt_d b _ (by omega) (by omega), decide_eq_false (by omega : ¬ u.1.2.2 < a), decide_eq_false (by omega : ¬ b < u.1.2.2)]; rfl
        rw [show decide (I 156 7 = (3 : Int32)) = decide (u.1.1 = 3) from m_kind h 3 (by omega), decide_eq_true h3, hx, hy]
        rw [h8] at k1 ⊢
        simp only [decide_true, decide_false, Bool.not_true, Bool.not_false, am_cont, Option.bind_some, Option.toList_some, Option.toList_none, List.singleton_append, List.nil_append, cond_true, cond_false, m_isIn, e, bk_190_23, bi_t, zq_1_0, h8, k1, bk_190_44]
      · rw [k3.2.1 13 (by unfold C5; omega), am_u_at, h8]
    · rw [if_neg q] at hp; omega
  · rw [if_neg h3] at hp; omega
theorem m_end0 (env : am_E) (d : Nat) (z lim : Nat) (c : Nat → Nat) (u : Cu) (I : Nat → Nat → Int32) (J : Nat → Nat → Int64) (E : Nat → Nat → Nat) (h : MS I J z c lim u) (hp : isg u 59 = false) : am_ev env (d + 3, 191, 0, [some (.ref 156)], [], am_hp I J E) = some (true, some (.int 0), am_hp (mbd I 1) J E) := by
  have mb := m_bad env (d + 1) z lim c u 1 I J E h (Or.inr rfl)
  refine (bk_191_0 _ _ _ _ _).trans ?_
  simp only [decide_true, decide_false, Bool.not_true, Bool.not_false, am_cont, Option.bind_some, Option.toList_some, Option.toList_none, List.singleton_append, List.nil_append, cond_true, cond_false, m_isSign env _ z lim c u 59 (by omega) 59 rfl I J E h, hp, bk_191_6, bi_f, zq_0_0, mb, bk_191_14]
  rfl
theorem m_end1 (env : am_E) (d : Nat) (z lim : Nat) (hz : z ≤ 940) (hlim : lim ≤ 1000) (c : Nat → Nat) (u : Cu) (I : Nat → Nat → Int32) (J : Nat → Nat → Int64) (E : Nat → Nat → Nat) (h : MS I J z c lim u) (hp : isg u 59 = true) : ∃ I' J', am_ev env (d + 3, 191, 0, [some (.ref 156)], [], am_hp I J E) = some (true, some (.int 1), am_hp I' J' E) ∧ MS I' J' z c lim (lx c z lim u.2.2) ∧ GM X0 C5 I J I' J' := by
  obtain ⟨I', J', k1, k2, k3⟩ := m_nx env d z lim hz hlim c u I J E h
  refine ⟨I', J', ?_, k2, k3⟩
  refine (bk_191_0 _ _ _ _ _).trans ?_
  simp only [decide_true, decide_false, Bool.not_true, Bool.not_false, am_cont, Option.bind_some, Option.toList_some, Option.toList_none, List.singleton_append, List.nil_append, cond_true, cond_false, m_isSign env _ z lim c u 59 (by omega) 59 rfl I J E h, hp, bk_191_6, bi_t, zq_1_0, k1, bk_191_19]
theorem c_sign0 (env : am_E) (d : Nat) (z lim : Nat) (c : Nat → Nat) (u : Cu) (k : Nat) (hk5 : 5 ≤ k) (hk : k ≤ 1000) (x : Int32) (hx : x = Int32.ofNat k) (I : Nat → Nat → Int32) (J : Nat → Nat → Int64) (E : Nat → Nat → Nat) (h : CS I J E z c lim u) (hp : isg u k = false) : am_ev env (d + 2, 106, 0, [some (.ref 1), some (.int x)], [], am_hp I J E) = some (true, some (.int 0), am_hp (stp I 1) J E) := by
  refine (bk_106_0 _ _ _ _ _ _).trans ?_
  rw [hx, c_kindS h k hk5 hk, hp]
  simp only [decide_true, decide_false, Bool.not_true, Bool.not_false, am_cont, Option.bind_some, Option.toList_some, Option.toList_none, List.singleton_append, List.nil_append, cond_true, cond_false, c_stop, bk_106_13]
  rfl
theorem c_sign1 (env : am_E) (d : Nat) (z lim : Nat) (hz : z ≤ 940) (hlim : lim ≤ 1000) (c : Nat → Nat) (u : Cu) (k : Nat) (hk5 : 5 ≤ k) (hk : k ≤ 1000) (x : Int32) (hx : x = Int32.ofNat k) (I : Nat → Nat → Int32) (J : Nat → Nat → Int64) (E : Nat → Nat → Nat) (h : CS I J E z c lim u) (hp : isg u k = true) : ∃ I' J' E', am_ev env (d + 4, 106, 0, [some (.ref 1), some (.int x)], [], am_hp I J E) = some (true, some (.int 1), am_hp I' J' E') ∧ CS I' J' E' z c lim (lx c z lim u.2.2) ∧ FX (fun q => q = 1) I J E I' J' E' ∧ I' 1 3 = I 1 3 ∧ I' 1 4 = I 1 4 := by
  obtain ⟨I', J', E', k1, k2⟩ := c_nx env d z lim hz hlim c u I J E h
  refine ⟨I', J', E', ?_, k2⟩
  refine (bk_106_0 _ _ _ _ _ _).trans ?_
  rw [hx, c_kindS h k hk5 hk, hp]
  simp only [decide_true, decide_false, Bool.not_true, Bool.not_false, am_cont, Option.bind_some, Option.toList_some, Option.toList_none, List.singleton_append, List.nil_append, cond_true, cond_false, k1, bk_106_18]
