/-! words of the block equations -/
/-- the heap behind the making of all objects -/
def am_hp (I : Nat → Nat → Int32) (J : Nat → Nat → Int64) (E : Nat → Nat → Nat) : am_H := (179, fun _ _ => true, I, J, E)
def am_stp (mid : Nat) (l : List Nat) : Nat → Nat → Bool := fun m pc => !(Nat.beq m mid) || l.any (fun q => Nat.beq pc q)
abbrev am_ushr (x y : Int32) : Int32 := (x.toUInt32 >>> (y.toUInt32 &&& Int32.toUInt32 31)).toInt32
abbrev am_lushr (x : Int64) (y : Int32) : Int64 := (x.toUInt64 >>> (y.toInt64.toUInt64 &&& Int64.toUInt64 63)).toInt64
abbrev am_slen (q : Nat) : Int32 := Int32.ofNat (am_strs.getD (q - 50000) []).length
abbrev am_schr (q : Nat) (i : Int32) : Int32 := Int32.ofNat ((am_strs.getD (q - 50000) []).getD i.toNatClampNeg 0)
