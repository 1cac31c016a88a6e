def am_wns : List String := ["BOOK", "AFTER", "READER", "FINE", "LENDS", "RETURNS", "TELLS", "FORGE", "MEND", "BURN", "BUY", "DAY", "OR", "AND", "NOT", "IDLE", "FINED", "DONE", "HAS", "READ", "PACE", "LEFT", "OWES", "NUMBER"]
theorem am_or {a b : Bool} (h : (a || b) = true) : a = true ∨ b = true := by
  cases a
  · exact Or.inr h
  · exact Or.inl rfl
/-! what holds where the law begins -/
def am_NF : List Cond := flatC (Jvm.Cond.and given_1 narrow_1)
set_option maxRecDepth 100000 in
theorem st_nw : (am_nw.all fun w => decide (w ∈ lw_tbl)) = true := by decide +kernel
set_option maxRecDepth 100000 in
theorem st_lay : ((List.range 24).all fun i => decide (Cond.laysStatic RX10 (am_wns.getD i "") "LSequelShelf$Word;" ∈ lw_tbl)) = true := by decide +kernel
set_option maxRecDepth 100000 in
theorem st_layA : decide (Cond.laysStatic RX10 "ALL" "[LSequelShelf$Word;" ∈ lw_tbl) = true := by decide +kernel
set_option maxRecDepth 100000 in
theorem st_ini : decide (Cond.initialized RX10 ∈ lw_tbl) = true := by decide +kernel
set_option maxRecDepth 100000 in
theorem st_ao : ([RX7, RX6, RX10].all fun C => decide (Cond.arrayOver (.object C) ∈ lw_tbl)) = true := by decide +kernel
set_option maxRecDepth 100000 in
theorem st_ac : ([FieldType.int, .long, .boolean].all fun C => decide (Cond.arrayClass C ∈ lw_tbl)) = true := by decide +kernel
set_option maxRecDepth 100000 in
theorem st_ex : ((List.range 24).all fun i => decide (Cond.exactly (.static RX10 (am_wns.getD i "") "LSequelShelf$Word;") RX10 ∈ am_NF)) = true := by decide +kernel
set_option maxRecDepth 100000 in
theorem st_pk : ((List.range 24).all fun i => decide (Cond.eq (.field (.static RX10 (am_wns.getD i "") "LSequelShelf$Word;") RX10 "packed" "J") (.long (am_pk.getD i 0)) ∈ am_NF)) = true := by decide +kernel
set_option maxRecDepth 100000 in
theorem st_el : ((List.range 24).all fun i => decide (Cond.eq (.elem (.static RX10 "ALL" "[LSequelShelf$Word;") (.int (Int32.ofNat i))) (.static RX10 (am_wns.getD i "") "LSequelShelf$Word;") ∈ am_NF)) = true := by decide +kernel
set_option maxRecDepth 100000 in
theorem st_arr : decide (Cond.arrayOf (.static RX10 "ALL" "[LSequelShelf$Word;") (.object RX10) ∈ am_NF) = true := by decide +kernel
set_option maxRecDepth 100000 in
theorem st_len : decide (Cond.eq (.length (.static RX10 "ALL" "[LSequelShelf$Word;")) (.int 24) ∈ am_NF) = true := by decide +kernel
def st_neq (i j : Nat) : Cond := .not (.eq (.static RX10 (am_wns.getD i "") "LSequelShelf$Word;") (.static RX10 (am_wns.getD j "") "LSequelShelf$Word;"))
set_option maxRecDepth 100000 in
theorem st_ne_0 : ((List.range 24).all fun j => Nat.ble j 0 || decide (st_neq 0 j ∈ am_NF) || decide (st_neq j 0 ∈ am_NF)) = true := by decide +kernel
set_option maxRecDepth 100000 in
theorem st_ne_1 : ((List.range 24).all fun j => Nat.ble j 1 || decide (st_neq 1 j ∈ am_NF) || decide (st_neq j 1 ∈ am_NF)) = true := by decide +kernel
set_option maxRecDepth 100000 in
theorem st_ne_2 : ((List.range 24).all fun j => Nat.ble j 2 || decide (st_neq 2 j ∈ am_NF) || decide (st_neq j 2 ∈ am_NF)) = true := by decide +kernel
set_option maxRecDepth 100000 in
theorem st_ne_3 : ((List.range 24).all fun j => Nat.ble j 3 || decide (st_neq 3 j ∈ am_NF) || decide (st_neq j 3 ∈ am_NF)) = true := by decide +kernel
set_option maxRecDepth 100000 in
theorem st_ne_4 : ((List.range 24).all fun j => Nat.ble j 4 || decide (st_neq 4 j ∈ am_NF) || decide (st_neq j 4 ∈ am_NF)) = true := by decide +kernel
set_option maxRecDepth 100000 in
theorem st_ne_5 : ((List.range 24).all fun j => Nat.ble j 5 || decide (st_neq 5 j ∈ am_NF) || decide (st_neq j 5 ∈ am_NF)) = true := by decide +kernel
set_option maxRecDepth 100000 in
theorem st_ne_6 : ((List.range 24).all fun j => Nat.ble j 6 || decide (st_neq 6 j ∈ am_NF) || decide (st_neq j 6 ∈ am_NF)) = true := by decide +kernel
set_option maxRecDepth 100000 in
theorem st_ne_7 : ((List.range 24).all fun j => Nat.ble j 7 || decide (st_neq 7 j ∈ am_NF) || decide (st_neq j 7 ∈ am_NF)) = true := by decide +kernel
set_option maxRecDepth 100000 in
theorem st_ne_8 : ((List.range 24).all fun j => Nat.ble j 8 || decide (st_neq 8 j ∈ am_NF) || decide (st_neq j 8 ∈ am_NF)) = true := by decide +kernel
set_option maxRecDepth 100000 in
theorem st_ne_9 : ((List.range 24).all fun j => Nat.ble j 9 || decide (st_neq 9 j ∈ am_NF) || decide (st_neq j 9 ∈ am_NF)) = true := by decide +kernel
set_option maxRecDepth 100000 in
theorem st_ne_10 : ((List.range 24).all fun j => Nat.ble j 10 || decide (st_neq 10 j ∈ am_NF) || decide (st_neq j 10 ∈ am_NF)) = true := by decide +kernel
set_option maxRecDepth 100000 in
theorem st_ne_11 : ((List.range 24).all fun j => Nat.ble j 11 || decide (st_neq 11 j ∈ am_NF) || decide (st_neq j 11 ∈ am_NF)) = true := by decide +kernel
set_option maxRecDepth 100000 in
theorem st_ne_12 : ((List.range 24).all fun j => Nat.ble j 12 || decide (st_neq 12 j ∈ am_NF) || decide (st_neq j 12 ∈ am_NF)) = true := by decide +kernel
set_option maxRecDepth 100000 in
theorem st_ne_13 : ((List.range 24).all fun j => Nat.ble j 13 || decide (st_neq 13 j ∈ am_NF) || decide (st_neq j 13 ∈ am_NF)) = true := by decide +kernel
set_option maxRecDepth 100000 in
theorem st_ne_14 : ((List.range 24).all fun j => Nat.ble j 14 || decide (st_neq 14 j ∈ am_NF) || decide (st_neq j 14 ∈ am_NF)) = true := by decide +kernel
set_option maxRecDepth 100000 in
theorem st_ne_15 : ((List.range 24).all fun j => Nat.ble j 15 || decide (st_neq 15 j ∈ am_NF) || decide (st_neq j 15 ∈ am_NF)) = true := by decide +kernel
set_option maxRecDepth 100000 in
theorem st_ne_16 : ((List.range 24).all fun j => Nat.ble j 16 || decide (st_neq 16 j ∈ am_NF) || decide (st_neq j 16 ∈ am_NF)) = true := by decide +kernel
set_option maxRecDepth 100000 in
theorem st_ne_17 : ((List.range 24).all fun j => Nat.ble j 17 || decide (st_neq 17 j ∈ am_NF) || decide (st_neq j 17 ∈ am_NF)) = true := by decide +kernel
set_option maxRecDepth 100000 in
theorem st_ne_18 : ((List.range 24).all fun j => Nat.ble j 18 || decide (st_neq 18 j ∈ am_NF) || decide (st_neq j 18 ∈ am_NF)) = true := by decide +kernel
set_option maxRecDepth 100000 in
theorem st_ne_19 : ((List.range 24).all fun j => Nat.ble j 19 || decide (st_neq 19 j ∈ am_NF) || decide (st_neq j 19 ∈ am_NF)) = true := by decide +kernel
set_option maxRecDepth 100000 in
theorem st_ne_20 : ((List.range 24).all fun j => Nat.ble j 20 || decide (st_neq 20 j ∈ am_NF) || decide (st_neq j 20 ∈ am_NF)) = true := by decide +kernel
set_option maxRecDepth 100000 in
theorem st_ne_21 : ((List.range 24).all fun j => Nat.ble j 21 || decide (st_neq 21 j ∈ am_NF) || decide (st_neq j 21 ∈ am_NF)) = true := by decide +kernel
set_option maxRecDepth 100000 in
theorem st_ne_22 : ((List.range 24).all fun j => Nat.ble j 22 || decide (st_neq 22 j ∈ am_NF) || decide (st_neq j 22 ∈ am_NF)) = true := by decide +kernel
theorem st_range {n : Nat} {f : Nat → Bool} (h : ((List.range n).all f) = true) {i : Nat} (hi : i < n) : f i = true := List.all_eq_true.mp h i (List.mem_range.mpr hi)
theorem st_ne {i j : Nat} (hij : i < j) (hj : j < 24) : st_neq i j ∈ am_NF ∨ st_neq j i ∈ am_NF := by
  have key : ∀ {k : Nat}, ((List.range 24).all fun j => Nat.ble j k || decide (st_neq k j ∈ am_NF) || decide (st_neq j k ∈ am_NF)) = true → k < j → st_neq k j ∈ am_NF ∨ st_neq j k ∈ am_NF := by
    intro k hk hkj
    rcases am_or (st_range hk hj) with q | q
    · rcases am_or q with q | q
      · have := Nat.le_of_ble_eq_true q
        omega
      · exact Or.inl (of_decide_eq_true q)
    · exact Or.inr (of_decide_eq_true q)
  rcases (show i = 0 ∨ i = 1 ∨ i = 2 ∨ i = 3 ∨ i = 4 ∨ i = 5 ∨ i = 6 ∨ i = 7 ∨ i = 8 ∨ i = 9 ∨ i = 10 ∨ i = 11 ∨ i = 12 ∨ i = 13 ∨ i = 14 ∨ i = 15 ∨ i = 16 ∨ i = 17 ∨ i = 18 ∨ i = 19 ∨ i = 20 ∨ i = 21 ∨ i = 22 by omega) with rfl | rfl | rfl | rfl | rfl | rfl | rfl | rfl | rfl | rfl | rfl | rfl | rfl | rfl | rfl | rfl | rfl | rfl | rfl | rfl | rfl | rfl | rfl
  · exact key st_ne_0 hij
  · exact key st_ne_1 hij
  · exact key st_ne_2 hij
  · exact key st_ne_3 hij
  · exact key st_ne_4 hij
  · exact key st_ne_5 hij
  · exact key st_ne_6 hij
  · exact key st_ne_7 hij
  · exact key st_ne_8 hij
  · exact key st_ne_9 hij
  · exact key st_ne_10 hij
  · exact key st_ne_11 hij
  · exact key st_ne_12 hij
  · exact key st_ne_13 hij
  · exact key st_ne_14 hij
  · exact key st_ne_15 hij
  · exact key st_ne_16 hij
  · exact key st_ne_17 hij
  · exact key st_ne_18 hij
  · exact key st_ne_19 hij
  · exact key st_ne_20 hij
  · exact key st_ne_21 hij
  · exact key st_ne_22 hij
