/-! numbers that are small, loops -/
theorem zI_toInt (a : Nat) (h : a < 2147483648) : (Int32.ofNat a).toInt = a := Int32.toInt_ofNat_of_lt h
theorem zI_nat (a : Nat) (h : a < 2147483648) : (Int32.ofNat a).toNatClampNeg = a := by
  rw [← Int32.toNat_toInt, zI_toInt a h]; rfl
theorem zI_lt (a b : Nat) (ha : a < 2147483648) (hb : b < 2147483648) : (Int32.ofNat a < Int32.ofNat b) = (a < b) := by
  rw [Int32.lt_iff_toInt_lt, zI_toInt a ha, zI_toInt b hb]; simp
theorem zI_le (a b : Nat) (ha : a < 2147483648) (hb : b < 2147483648) : (Int32.ofNat a ≤ Int32.ofNat b) = (a ≤ b) := by
  rw [Int32.le_iff_toInt_le, zI_toInt a ha, zI_toInt b hb]; simp
theorem zI_eq (a b : Nat) (ha : a < 2147483648) (hb : b < 2147483648) : (Int32.ofNat a = Int32.ofNat b) = (a = b) := by
  apply propext
  constructor
  · intro h
    have h := congrArg Int32.toInt h
    rw [zI_toInt a ha, zI_toInt b hb] at h
    exact Int.ofNat.inj h
  · intro h; rw [h]
theorem zI_add (a b : Nat) : Int32.ofNat a + Int32.ofNat b = Int32.ofNat (a + b) := (Int32.ofNat_add a b).symm
theorem zI_succ (a : Nat) : Int32.ofNat a + 1 = Int32.ofNat (a + 1) := (Int32.ofNat_add a 1).symm
theorem zI_pred (a : Nat) (h : 0 < a) : Int32.ofNat a + (-1) = Int32.ofNat (a - 1) := by
  obtain ⟨b, rfl⟩ : ∃ b, a = b + 1 := ⟨a - 1, by omega⟩
  rw [← zI_succ, Int32.add_assoc]; simp
theorem zI_sub (a b : Nat) (h : b ≤ a) : Int32.ofNat a - Int32.ofNat b = Int32.ofNat (a - b) := by
  obtain ⟨c, rfl⟩ : ∃ c, a = c + b := ⟨a - b, by omega⟩
  rw [Int32.ofNat_add, Int32.add_sub_cancel]; simp
theorem zI_nneg (a : Nat) (h : a < 2147483648) : (Int32.ofNat a < 0) = False := by
  have := zI_lt a 0 h (by omega)
  rw [show (0 : Int32) = Int32.ofNat 0 from rfl, this]; simp
theorem zI_ne (a : Nat) (h : a < 2147483648) : (Int32.ofNat a = -1) = False := by
  apply eq_false
  intro e
  have e := congrArg Int32.toInt e
  rw [zI_toInt a h] at e
  have : (-1 : Int32).toInt = -1 := by decide
  omega
theorem zI_of (x : Int32) (h : 0 ≤ x) : x = Int32.ofNat x.toNatClampNeg ∧ x.toNatClampNeg < 2147483648 := by
  have h1 : 0 ≤ x.toInt := by
    have := Int32.le_iff_toInt_le.mp h
    simpa using this
  have h2 := Int32.toInt_lt x
  have h3 : (x.toNatClampNeg : Int) = x.toInt := by rw [← Int32.toNat_toInt]; omega
  refine ⟨?_, by omega⟩
  apply Int32.toInt_inj.mp
  rw [zI_toInt _ (by omega), h3]
/-- a loop that counts up, its state a -/
def lp {α : Type} (f : Nat → α → α) : Nat → α → α
  | 0, a => a
  | n + 1, a => f n (lp f n a)
theorem lp_run {α β : Type} (F : Nat → α → β) (f : Nat → α → α) (P : Nat → α → Prop) (N : Nat) (step : ∀ k a, k < N → P k a → F k a = F (k + 1) (f k a) ∧ P (k + 1) (f k a)) (a : α) (h0 : P 0 a) : ∀ n, n ≤ N → F 0 a = F n (lp f n a) ∧ P n (lp f n a) := by
  intro n
  induction n with
  | zero => intro _; exact ⟨rfl, h0⟩
  | succ n ih =>
    intro hn
    obtain ⟨e, hp⟩ := ih (by omega)
    obtain ⟨e2, hp2⟩ := step n _ (by omega) hp
    exact ⟨e.trans e2, hp2⟩
