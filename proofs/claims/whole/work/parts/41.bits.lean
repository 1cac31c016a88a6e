/-! sets of bits -/
def bt (s : Int32) (k : Nat) : Bool := s.toBitVec.getLsbD k
theorem bt_ext (a b : Int32) (h : ∀ k, k < 32 → bt a k = bt b k) : a = b := by
  apply Int32.toBitVec_inj.mp
  apply BitVec.eq_of_getLsbD_eq
  intro i hi
  exact h i hi
theorem bt_ge (s : Int32) (k : Nat) (h : 32 ≤ k) : bt s k = false := BitVec.getLsbD_of_ge _ _ h
theorem bt_or (a b : Int32) (k : Nat) : bt (a ||| b) k = (bt a k || bt b k) := by
  show (a ||| b).toBitVec.getLsbD k = _
  rw [Int32.toBitVec_or]; exact BitVec.getLsbD_or
theorem bt_and (a b : Int32) (k : Nat) : bt (a &&& b) k = (bt a k && bt b k) := by
  show (a &&& b).toBitVec.getLsbD k = _
  rw [Int32.toBitVec_and]; exact BitVec.getLsbD_and
theorem bt_xor (a b : Int32) (k : Nat) : bt (a ^^^ b) k = (bt a k ^^ bt b k) := by
  show (a ^^^ b).toBitVec.getLsbD k = _
  rw [Int32.toBitVec_xor]; exact BitVec.getLsbD_xor
theorem bt_m1 (k : Nat) (h : k < 32) : bt (-1) k = true := by
  have : ∀ k : Fin 32, bt (-1) k.1 = true := by decide +kernel
  exact this ⟨k, h⟩
theorem bt_not (a : Int32) (k : Nat) (h : k < 32) : bt (a ^^^ (-1)) k = !bt a k := by
  rw [bt_xor, bt_m1 k h]; cases bt a k <;> rfl
theorem bt_zero (k : Nat) : bt 0 k = false := by
  by_cases h : k < 32
  · have : ∀ k : Fin 32, bt 0 k.1 = false := by decide +kernel
    exact this ⟨k, h⟩
  · exact bt_ge _ _ (by omega)
theorem bt_one (j k : Nat) (hj : j < 32) : bt ((1 : Int32) <<< (Int32.ofNat j &&& 31)) k = decide (k = j) := by
  by_cases h : k < 32
  · have : ∀ j k : Fin 32, bt ((1 : Int32) <<< (Int32.ofNat j.1 &&& 31)) k.1 = decide (k.1 = j.1) := by decide +kernel
    exact this ⟨j, hj⟩ ⟨k, h⟩
  · rw [bt_ge _ _ (by omega)]
    exact (decide_eq_false (by omega)).symm
theorem bt_low (n k : Nat) (hn : n < 32) : bt ((1 : Int32) <<< (Int32.ofNat n &&& 31) - 1) k = decide (k < n) := by
  by_cases h : k < 32
  · have : ∀ j k : Fin 32, bt ((1 : Int32) <<< (Int32.ofNat j.1 &&& 31) - 1) k.1 = decide (k.1 < j.1) := by decide +kernel
    exact this ⟨n, hn⟩ ⟨k, h⟩
  · rw [bt_ge _ _ (by omega)]
    exact (decide_eq_false (by omega)).symm
theorem bt_has (s : Int32) (k : Nat) (hk : k < 32) : (s >>> (Int32.ofNat k &&& 31)) &&& 1 = if bt s k then 1 else 0 := by
  have h31 : ∀ k : Fin 32, ((Int32.ofNat k.1 &&& 31).toBitVec.smod 32).toNat = k.1 := by decide +kernel
  have e : bt (s >>> (Int32.ofNat k &&& 31)) 0 = bt s k := by
    show (s >>> (Int32.ofNat k &&& 31)).toBitVec.getLsbD 0 = _
    rw [Int32.toBitVec_shiftRight]; unfold BitVec.sshiftRight'; rw [h31 ⟨k, hk⟩, BitVec.getLsbD_sshiftRight]
    have : ¬ (32 ≤ 0) := by decide
    simp [bt, hk]
  have h1 : ∀ j : Fin 32, bt 1 j.1 = decide (j.1 = 0) := by decide +kernel
  apply bt_ext
  intro j hj
  rw [bt_and, h1 ⟨j, hj⟩]
  by_cases hz : j = 0
  · subst hz
    rw [e]
    cases bt s k with
    | true => rfl
    | false => rfl
  · have : decide (j = 0) = false := decide_eq_false hz
    simp only [this, Bool.and_false]
    cases bt s k with
    | true => exact ((h1 ⟨j, hj⟩).trans this).symm
    | false => exact (bt_zero j).symm
theorem bt_sub (a b : Int32) : (a &&& (b ^^^ (-1)) = 0) = (∀ k, bt a k = true → bt b k = true) := by
  apply propext
  constructor
  · intro h k hk
    by_cases hk32 : k < 32
    · have e := congrArg (fun x => bt x k) h
      simp only [bt_and, bt_not _ _ hk32, bt_zero, hk] at e
      cases hb : bt b k with
      | true => rfl
      | false => rw [hb] at e; cases e
    · rw [bt_ge _ _ (by omega)] at hk; cases hk
  · intro h
    apply bt_ext
    intro k hk
    rw [bt_and, bt_not _ _ hk, bt_zero]
    cases ha : bt a k with
    | true => rw [h k ha]; rfl
    | false => rfl
