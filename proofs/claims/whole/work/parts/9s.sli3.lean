/-! slip: longs that are naturals -/
theorem z64_div (P : Nat) (h : P < 1099511627776) : Int64.ofNat P / 27 = Int64.ofNat (P / 27) := by
  apply Int64.toInt_inj.mp
  rw [Int64.toInt_div, Int64.toInt_ofNat_of_lt (by omega), Int64.toInt_ofNat_of_lt (by omega), show (27 : Int64).toInt = 27 by decide, show ((P : Int).tdiv 27) = ((P / 27 : Nat) : Int) from rfl]
  exact Int.bmod_eq_of_le (by omega) (by omega)
