/-! slip: longs that are naturals, compared and divided -/
theorem z64_lt (P : Nat) (h : P < 1099511627776) : decide (lg_cmp (Int64.ofNat P) 27 < 0) = decide (P < 27) := decide_eq_decide.mpr (by rw [lg_cmp_lt, Int64.lt_iff_toInt_lt, Int64.toInt_ofNat_of_lt (by omega), show (27 : Int64).toInt = 27 by decide]; omega)
theorem z64_32 : ∀ b : Fin 27, Int64.toInt32 (Int64.ofNat b.1) = Int32.ofNat b.1 := by decide +kernel
theorem z64_mod (P : Nat) (h : P < 1099511627776) : Int64.toInt32 (Int64.ofNat P - Int64.ofNat P / 27 * 27) = Int32.ofNat (P % 27) := by
  have e : Int64.ofNat P = Int64.ofNat (P % 27) + Int64.ofNat (P / 27 * 27) := by
    rw [← Int64.ofNat_add]; exact congrArg Int64.ofNat (by omega)
  rw [z64_div P h, show Int64.ofNat (P / 27) * 27 = Int64.ofNat (P / 27 * 27) from (Int64.ofNat_mul _ 27).symm, e, Int64.add_sub_cancel]
  exact z64_32 ⟨P % 27, by omega⟩
