def am_K (p : Nat) : Nat × Nat := (am_Kl.getD (p / 16) []).getD (p % 16) (999, 0)
def am_ft (ci k : Nat) : Nat := (am_ftl.getD ci []).getD k 9
/-- the place that a static reference holds: by the kind of its cell -/
def am_of (ci k : Nat) : Nat := bif Nat.beq ci 103 then 1 + 6 * k else bif Nat.beq ci 104 then 76 + 19 * k else (am_ofl.getD ci []).getD k 0
def am_SR (p k : Nat) : Nat := p + am_of (am_K p).1 k
def am_bad : am_A := .inl none
def am_go (s : am_S) : am_A := .inr (.inl ([], some s))
def am_gd (b : Bool) (s : am_S) : am_A := .inr (.inl ([(b, s)], none))
def am_if (b : Bool) (s t : am_S) : am_A := .inr (.inl ([(b, s)], some t))
def am_in (i : Int32) (n : Nat) : Bool := !(decide (i < 0)) && decide (i.toNatClampNeg < n)
/-- a value of two words is gone when its second is written -/
def am_dr (o : Option Value) : Option Value := match o with
  | some v => bif Nat.beq v.category 2 then none else some v
  | none => none
def am_kill (L : am_L) (i : Nat) : am_L := match i with
  | 0 => L
  | j + 1 => L.set j (am_dr (L.getD j none))
def am_st1 (L : am_L) (i : Nat) (v : Value) : am_L := (am_kill L i).set i (some v)
def am_st2 (L : am_L) (i : Nat) (v : Value) : am_L := ((am_kill L i).set i (some v)).set (i + 1) none
def am_loc : List Value → am_L
  | [] => []
  | v :: vs => bif Nat.beq v.category 2 then some v :: none :: am_loc vs else some v :: am_loc vs
def am_loc0 (vs : List Value) (n : Nat) : am_L := am_loc vs ++ List.replicate (n - (am_loc vs).length) none
def am_cats (st : List Value) : Nat := (st.map fun v => v.category).sum
def am_strs : List (List Nat) := [[32, 104, 97, 115, 32], [32], [32, 105, 100, 108, 101], [32, 111, 119, 101, 115, 32]]
def am_pk : List Int64 := [81387, 1265842, 609259698, 206277, 12761235, 19516803539, 21148051, 6801637, 431556, 87630, 2745, 4153, 498, 1476, 14836, 299397, 6600868, 146885, 8243, 594980, 525413, 398548, 515251, 492210354]
def am_find (x : Int64) : List Int64 → Nat → Nat
  | [], _ => 0
  | y :: t, i => bif decide (y = x) then i else am_find x t (i + 1)
def am_wordOf (x : Int64) : Nat := am_find x am_pk 1
def am_mi (mid : Nat) : am_MI := (am_mis.getD (mid / 16) []).getD (mid % 16) ("", ⟨"", "", ""⟩, ⟨#[]⟩, 0, none, 9999)
def am_cd (mid pc : Nat) : Option am_I := (((am_tabs.getD (mid / 16) []).getD (mid % 16) []).getD (pc / 16) []).getD (pc % 16) none
/-- a new cell of a kind, with nothing in it -/
def am_new (h : am_H) : am_H := match h with
  | (n, Z, I, J, E) => (n + 1, am_ur Z n (fun _ => false), am_ur I n (fun _ => 0), am_ur J n (fun _ => 0), am_ur E n (fun _ => 0))
def am_tg (pc : Nat) (off : Int) : Nat := ((pc : Int) + off).toNat
def am_jp (d mid pc : Nat) (L : am_L) (st : List Value) (h : am_H) (off : Int) (b : Bool) : am_A :=
  .inr (.inl ([(b, (d, mid, am_tg pc off, L, st, h))], some (d, mid, pc + 3, L, st, h)))
def am_cmp (c : Jvm.ClassFile.Cond) (x y : Int32) : Bool := match c with
  | .eq => decide (x = y)
  | .ne => !(decide (x = y))
  | .lt => decide (x < y)
  | .ge => decide (y ≤ x)
  | .gt => decide (y < x)
  | .le => decide (x ≤ y)
def am_get (d mid pc : Nat) (L : am_L) (r : List Value) (h : am_H) (p ci k : Nat) : am_A :=
  match am_ft ci k with
  | 0 => am_gd (decide (p < h.1) && Nat.beq (am_K p).1 ci) (d, mid, pc + 3, L, .int (h.2.2.1 p k) :: r, h)
  | 4 => am_gd (decide (p < h.1) && Nat.beq (am_K p).1 ci) (d, mid, pc + 3, L, .int (h.2.2.1 p k) :: r, h)
  | 1 => am_gd (decide (p < h.1) && Nat.beq (am_K p).1 ci) (d, mid, pc + 3, L, .long (h.2.2.2.1 p k) :: r, h)
  | 2 => am_gd (decide (p < h.1) && Nat.beq (am_K p).1 ci && h.2.1 p k) (d, mid, pc + 3, L, .ref (am_SR p k) :: r, h)
  | 3 => am_gd (decide (p < h.1) && Nat.beq (am_K p).1 ci) (d, mid, pc + 3, L, .retAddr (h.2.2.2.2 p k) :: r, h)
  | _ => am_bad
def am_put (d mid pc : Nat) (L : am_L) (r : List Value) (h : am_H) (p ci k : Nat) (v : Value) : am_A :=
  match am_ft ci k, v with
  | 0, .int x => am_gd (decide (p < h.1) && Nat.beq (am_K p).1 ci) (d, mid, pc + 3, L, r, (h.1, h.2.1, am_u h.2.2.1 p k x, h.2.2.2))
  | 4, .int x => am_gd (decide (p < h.1) && Nat.beq (am_K p).1 ci && decide (x &&& 1 = x)) (d, mid, pc + 3, L, r, (h.1, h.2.1, am_u h.2.2.1 p k x, h.2.2.2))
  | 1, .long x => am_gd (decide (p < h.1) && Nat.beq (am_K p).1 ci) (d, mid, pc + 3, L, r, (h.1, h.2.1, h.2.2.1, am_u h.2.2.2.1 p k x, h.2.2.2.2))
  | 2, .ref q => am_gd (decide (p < h.1) && Nat.beq (am_K p).1 ci && Nat.beq q (am_SR p k)) (d, mid, pc + 3, L, r, (h.1, am_u h.2.1 p k true, h.2.2))
  | 3, .retAddr e => am_gd (decide (p < h.1) && Nat.beq (am_K p).1 ci) (d, mid, pc + 3, L, r, (h.1, h.2.1, h.2.2.1, h.2.2.2.1, am_u h.2.2.2.2 p k e))
  | _, _ => am_bad
/-- a call of a method of the table: b values of the stack are its own -/
def am_call (d mid pc : Nat) (L : am_L) (st : List Value) (h : am_H) (a b : Nat) (ok : List Value → Bool) : am_A :=
  match d with
  | 0 => am_bad
  | d' + 1 => .inr (.inr (Nat.ble b st.length && (ok (st.take b).reverse && Nat.ble (am_loc (st.take b).reverse).length (am_mi a).2.2.2.1) && Nat.ble (am_cats (st.drop b)) 8,
      (d', a, 0, am_loc0 (st.take b).reverse (am_mi a).2.2.2.1, [], h),
      fun r => match r with
        | (true, v, h') => some (d, mid, pc + 3, L, v.toList ++ st.drop b, h')
        | (false, _, _) => none))
def am_okV (h : am_H) (ci : Nat) (vs : List Value) : Bool := match vs with
  | .ref p :: _ => decide (p < h.1) && Nat.beq (am_K p).1 ci
  | _ => false
def am_okI (vs : List Value) : Bool := match vs with
  | .ref _ :: _ => true
  | _ => false
def am_tryK (d mid pc : Nat) (L : am_L) (r : List Value) (o : Nat) (q : am_R) : Option am_S := match q with
  | (true, some (.int v), h') => some (d, mid, pc + 3, L, .int 0 :: r, (h'.1, h'.2.1, h'.2.2.1, am_u h'.2.2.2.1 o 0 v.toInt64, h'.2.2.2.2))
  | (false, _, h') => some (d, mid, pc + 3, L, .int 1 :: r, h')
  | _ => none
/-- the law's own reader and mean: 0 and the answer in the long row, or 1 -/
def am_try (d mid pc : Nat) (L : am_L) (st : List Value) (h : am_H) (a : Nat) : am_A :=
  match d, st with
  | d' + 2, .ref o :: .int y :: .int x :: .ref p :: r => .inr (.inr (decide (p < h.1) && Nat.beq (am_K p).1 10 && decide (o < h.1) && Nat.beq (am_K o).1 101 && Nat.beq (am_K o).2 1 && Nat.ble (am_cats r) 8,
      (d', a, 0, am_loc0 [.ref p, .int x, .int y] (am_mi a).2.2.2.1, [], h), am_tryK d mid pc L r o))
  | _, _ => am_bad
def am_cpi (d mid pc : Nat) (L : am_L) (r : List Value) (h : am_H) (p q : Nat) (sp dp n : Int32) : am_A :=
  am_gd (decide (p < h.1) && Nat.beq (am_K p).1 100 && decide (q < h.1) && Nat.beq (am_K q).1 100 && !(decide (sp < 0)) && !(decide (dp < 0)) && !(decide (n < 0)) && Nat.ble (sp.toNatClampNeg + n.toNatClampNeg) (am_K p).2 && Nat.ble (dp.toNatClampNeg + n.toNatClampNeg) (am_K q).2)
    (d, mid, pc + 3, L, r, (h.1, h.2.1, am_ur h.2.2.1 q (va_cpy (h.2.2.1 p) (h.2.2.1 q) sp.toNatClampNeg dp.toNatClampNeg n.toNatClampNeg), h.2.2.2))
def am_cpl (d mid pc : Nat) (L : am_L) (r : List Value) (h : am_H) (p q : Nat) (sp dp n : Int32) : am_A :=
  am_gd (decide (p < h.1) && Nat.beq (am_K p).1 101 && decide (q < h.1) && Nat.beq (am_K q).1 101 && !(decide (sp < 0)) && !(decide (dp < 0)) && !(decide (n < 0)) && Nat.ble (sp.toNatClampNeg + n.toNatClampNeg) (am_K p).2 && Nat.ble (dp.toNatClampNeg + n.toNatClampNeg) (am_K q).2)
    (d, mid, pc + 3, L, r, (h.1, h.2.1, h.2.2.1, am_ur h.2.2.2.1 q (va_cpy (h.2.2.2.1 p) (h.2.2.2.1 q) sp.toNatClampNeg dp.toNatClampNeg n.toNatClampNeg), h.2.2.2.2))
/-- a static call: 9000 and on are the machine's own -/
def am_stat (d mid pc : Nat) (L : am_L) (st : List Value) (h : am_H) (a b : Nat) : am_A :=
  bif Nat.blt a 9000 then am_call d mid pc L st h a b (fun _ => true) else
  match d with
  | 0 => am_bad
  | _ + 1 => match a, st with
    | 9000, .int n :: .int dp :: .ref q :: .int sp :: .ref p :: r => bif Nat.ble (am_cats r) 8 then am_cpi d mid pc L r h p q sp dp n else am_bad
    | 9010, .int n :: .int dp :: .ref q :: .int sp :: .ref p :: r => bif Nat.ble (am_cats r) 8 then am_cpl d mid pc L r h p q sp dp n else am_bad
    | 9004, .long x :: r => am_gd (Nat.ble (am_cats r) 8) (d, mid, pc + 3, L, .retAddr (am_wordOf x) :: r, h)
    | 9006, _ => am_try d mid pc L st h 120
    | 9007, _ => am_try d mid pc L st h 143
    | 9008, .int y :: .int x :: r => am_gd (Nat.ble (am_cats r) 8) (d, mid, pc + 3, L, .int (if y < x then y else x) :: r, h)
    | 9009, .int y :: .int x :: r => am_gd (Nat.ble (am_cats r) 8) (d, mid, pc + 3, L, .int (if x < y then y else x) :: r, h)
    | _, _ => am_bad
def am_virt (d mid pc : Nat) (L : am_L) (st : List Value) (h : am_H) (a b : Nat) : am_A :=
  bif Nat.blt a 9000 then am_call d mid pc L st h a b (am_okV h (am_mi a).2.2.2.2.2) else
  match d with
  | 0 => am_bad
  | _ + 1 => match a, st with
    | 9002, .ref q :: r => am_gd (Nat.ble 50000 q && Nat.blt q 50004 && Nat.ble (am_cats r) 8) (d, mid, pc + 3, L, .int (Int32.ofNat (am_strs.getD (q - 50000) []).length) :: r, h)
    | 9003, .int i :: .ref q :: r => am_gd (Nat.ble 50000 q && Nat.blt q 50004 && am_in i (am_strs.getD (q - 50000) []).length && Nat.ble (am_cats r) 8) (d, mid, pc + 3, L, .int (Int32.ofNat ((am_strs.getD (q - 50000) []).getD i.toNatClampNeg 0)) :: r, h)
    | _, _ => am_bad
def am_spec (d mid pc : Nat) (L : am_L) (st : List Value) (h : am_H) (a b : Nat) : am_A :=
  bif Nat.blt a 9000 then am_call d mid pc L st h a b am_okI else
  match d with
  | 0 => am_bad
  | _ + 1 => match a, st with
    | 9005, .ref _ :: r => am_gd (Nat.ble (am_cats r) 8) (d, mid, pc + 3, L, r, h)
    | _, _ => am_bad
def am_sw (d mid pc : Nat) (L : am_L) (r : List Value) (h : am_H) (x : Int32) (l : List (Int × Int)) (dflt : Int) : am_A :=
  .inr (.inl (l.map (fun q => (decide (x = Int32.ofInt q.1), (d, mid, am_tg pc q.2, L, r, h))), some (d, mid, am_tg pc dflt, L, r, h)))
def am_lvl (lo : Int) : List Int → List (Int × Int)
  | [] => []
  | o :: t => (lo, o) :: am_lvl (lo + 1) t
def am_ld (d mid pc len : Nat) (L : am_L) (st : List Value) (h : am_H) (i ty : Nat) : am_A :=
  match L[i]?, ty with
  | some (some (.int x)), 0 => am_go (d, mid, pc + len, L, .int x :: st, h)
  | some (some (.long x)), 1 => am_go (d, mid, pc + len, L, .long x :: st, h)
  | some (some (.ref x)), 2 => am_go (d, mid, pc + len, L, .ref x :: st, h)
  | some (some (.retAddr x)), 2 => am_go (d, mid, pc + len, L, .retAddr x :: st, h)
  | _, _ => am_bad
def am_sto (d mid pc len : Nat) (L : am_L) (st : List Value) (h : am_H) (i ty : Nat) : am_A :=
  match st, ty with
  | .int x :: r, 0 => am_gd (Nat.blt i L.length) (d, mid, pc + len, am_st1 L i (.int x), r, h)
  | .long x :: r, 1 => am_gd (Nat.blt (i + 1) L.length) (d, mid, pc + len, am_st2 L i (.long x), r, h)
  | .ref x :: r, 2 => am_gd (Nat.blt i L.length) (d, mid, pc + len, am_st1 L i (.ref x), r, h)
  | .retAddr x :: r, 2 => am_gd (Nat.blt i L.length) (d, mid, pc + len, am_st1 L i (.retAddr x), r, h)
  | _, _ => am_bad
def am_b2 (d mid pc : Nat) (L : am_L) (st : List Value) (h : am_H) (f : Int32 → Int32 → Int32) : am_A := match st with
  | .int y :: .int x :: r => am_go (d, mid, pc + 1, L, .int (f x y) :: r, h)
  | _ => am_bad
def am_l2 (d mid pc : Nat) (L : am_L) (st : List Value) (h : am_H) (f : Int64 → Int64 → Int64) : am_A := match st with
  | .long y :: .long x :: r => am_go (d, mid, pc + 1, L, .long (f x y) :: r, h)
  | _ => am_bad
def am_mk (o : Bool) (d mid pc len : Nat) (L : am_L) (r : List Value) (h : am_H) (kd ln : Nat) : am_A :=
  am_gd (o && Nat.blt h.1 1000 && Nat.beq (am_K h.1).1 kd && Nat.beq (am_K h.1).2 ln) (d, mid, pc + len, L, .ref h.1 :: r, am_new h)
def am_do (env : am_E) (d mid pc : Nat) (L : am_L) (st : List Value) (h : am_H) (raw : Instr) (len a b : Nat) : am_A :=
  match raw with
  | .aload_n i => am_ld d mid pc 1 L st h i.val 2
  | .iload_n i => am_ld d mid pc 1 L st h i.val 0
  | .lload_n i => am_ld d mid pc 1 L st h i.val 1
  | .aload i => am_ld d mid pc 2 L st h i 2
  | .iload i => am_ld d mid pc 2 L st h i 0
  | .lload i => am_ld d mid pc 2 L st h i 1
  | .astore_n i => am_sto d mid pc 1 L st h i.val 2
  | .istore_n i => am_sto d mid pc 1 L st h i.val 0
  | .lstore_n i => am_sto d mid pc 1 L st h i.val 1
  | .astore i => am_sto d mid pc 2 L st h i 2
  | .istore i => am_sto d mid pc 2 L st h i 0
  | .lstore i => am_sto d mid pc 2 L st h i 1
  | .iconst v => am_go (d, mid, pc + 1, L, .int (Int32.ofInt v) :: st, h)
  | .bipush v => am_go (d, mid, pc + 2, L, .int (Int8.ofInt v).toInt32 :: st, h)
  | .sipush v => am_go (d, mid, pc + 3, L, .int (Int16.ofInt v).toInt32 :: st, h)
  | .lconst v => am_go (d, mid, pc + 1, L, .long (Int64.ofNat v.val) :: st, h)
  | .aconst_null => am_go (d, mid, pc + 1, L, .retAddr 0 :: st, h)
  | .ldc _ => bif Nat.beq b 0 then am_go (d, mid, pc + 2, L, .int (Int32.ofNat a) :: st, h) else am_bad
  | .ldc_w _ => bif Nat.beq b 0 then am_go (d, mid, pc + 3, L, .int (Int32.ofNat a) :: st, h) else am_go (d, mid, pc + 3, L, .ref (50000 + a) :: st, h)
  | .ldc2_w _ => am_go (d, mid, pc + 3, L, .long (Int64.ofNat a) :: st, h)
  | .iinc i n => match L[i]? with
    | some (some (.int x)) => am_go (d, mid, pc + 3, am_st1 L i (.int (x + Int32.ofInt n)), st, h)
    | _ => am_bad
  | .dup => match st with
    | v :: r => am_gd (Nat.beq v.category 1) (d, mid, pc + 1, L, v :: v :: r, h)
    | _ => am_bad
  | .dup2 => match st with
    | v :: w :: r => am_gd (Nat.beq v.category 1 && Nat.beq w.category 1) (d, mid, pc + 1, L, v :: w :: v :: w :: r, h)
    | _ => am_bad
  | .pop => match st with
    | v :: r => am_gd (Nat.beq v.category 1) (d, mid, pc + 1, L, r, h)
    | _ => am_bad
  | .iadd => am_b2 d mid pc L st h (fun x y => x + y)
  | .isub => am_b2 d mid pc L st h (fun x y => x - y)
  | .imul => am_b2 d mid pc L st h (fun x y => x * y)
  | .iand => am_b2 d mid pc L st h (fun x y => x &&& y)
  | .ior => am_b2 d mid pc L st h (fun x y => x ||| y)
  | .ixor => am_b2 d mid pc L st h (fun x y => x ^^^ y)
  | .ishl => am_b2 d mid pc L st h (fun x y => x <<< (y &&& 31))
  | .ishr => am_b2 d mid pc L st h (fun x y => x >>> (y &&& 31))
  | .iushr => am_b2 d mid pc L st h (fun x y => (x.toUInt32 >>> (y.toUInt32 &&& Int32.toUInt32 31)).toInt32)
  | .idiv => match st with
    | .int y :: .int x :: r => am_gd (!(decide (y = 0))) (d, mid, pc + 1, L, .int (x / y) :: r, h)
    | _ => am_bad
  | .irem => match st with
    | .int y :: .int x :: r => am_gd (!(decide (y = 0))) (d, mid, pc + 1, L, .int (x - x / y * y) :: r, h)
    | _ => am_bad
  | .ladd => am_l2 d mid pc L st h (fun x y => x + y)
  | .lsub => am_l2 d mid pc L st h (fun x y => x - y)
  | .lmul => am_l2 d mid pc L st h (fun x y => x * y)
  | .lor => am_l2 d mid pc L st h (fun x y => x ||| y)
  | .ldiv => match st with
    | .long y :: .long x :: r => am_gd (!(decide (y = 0))) (d, mid, pc + 1, L, .long (x / y) :: r, h)
    | _ => am_bad
  | .lrem => match st with
    | .long y :: .long x :: r => am_gd (!(decide (y = 0))) (d, mid, pc + 1, L, .long (x - x / y * y) :: r, h)
    | _ => am_bad
  | .lshl => match st with
    | .int y :: .long x :: r => am_go (d, mid, pc + 1, L, .long (x <<< (y.toInt64 &&& 63)) :: r, h)
    | _ => am_bad
  | .lushr => match st with
    | .int y :: .long x :: r => am_go (d, mid, pc + 1, L, .long (x.toUInt64 >>> (y.toInt64.toUInt64 &&& Int64.toUInt64 63)).toInt64 :: r, h)
    | _ => am_bad
  | .lcmp => match st with
    | .long y :: .long x :: r => am_go (d, mid, pc + 1, L, .int (lg_cmp x y) :: r, h)
    | _ => am_bad
  | .i2l => match st with
    | .int x :: r => am_go (d, mid, pc + 1, L, .long x.toInt64 :: r, h)
    | _ => am_bad
  | .l2i => match st with
    | .long x :: r => am_go (d, mid, pc + 1, L, .int x.toInt32 :: r, h)
    | _ => am_bad
  | .goto off => am_gd (decide (0 ≤ (pc : Int) + off)) (d, mid, am_tg pc off, L, st, h)
  | .if_icmp c off => match st with
    | .int y :: .int x :: r => bif decide (0 ≤ (pc : Int) + off) then am_jp d mid pc L r h off (am_cmp c x y) else am_bad
    | _ => am_bad
  | .ifCond c off => match st with
    | .int x :: r => bif decide (0 ≤ (pc : Int) + off) then am_jp d mid pc L r h off (am_cmp c x 0) else am_bad
    | _ => am_bad
  | .if_acmp c off => match st, c with
    | .retAddr y :: .retAddr x :: r, .eq => bif decide (0 ≤ (pc : Int) + off) then am_jp d mid pc L r h off (decide (x = y)) else am_bad
    | .retAddr y :: .retAddr x :: r, .ne => bif decide (0 ≤ (pc : Int) + off) then am_jp d mid pc L r h off (!(decide (x = y))) else am_bad
    | _, _ => am_bad
  | .ifnonnull off => match st with
    | .retAddr x :: r => bif decide (0 ≤ (pc : Int) + off) then am_jp d mid pc L r h off (!(decide (x = 0))) else am_bad
    | _ => am_bad
  | .tableswitch dflt lo hi offs => match st with
    | .int x :: r => bif decide (hi + 1 = lo + (offs.size : Int)) && decide (-2147483648 ≤ lo) && decide (hi ≤ 2147483647) && decide (0 ≤ (pc : Int) + dflt) && offs.toList.all (fun o => decide (0 ≤ (pc : Int) + o)) then am_sw d mid pc L r h x (am_lvl lo offs.toList) dflt else am_bad
    | _ => am_bad
  | .lookupswitch dflt ps => match st with
    | .int x :: r => bif ps.toList.all (fun q => decide (0 ≤ (pc : Int) + q.2) && decide (-2147483648 ≤ q.1) && decide (q.1 ≤ 2147483647)) && decide (0 ≤ (pc : Int) + dflt) && (ps.toList.zip (ps.toList.drop 1)).all (fun q => decide (q.1.1 < q.2.1)) then am_sw d mid pc L r h x ps.toList dflt else am_bad
    | _ => am_bad
  | .getfield _ => match st with
    | .ref p :: r => am_get d mid pc L r h p a b
    | _ => am_bad
  | .putfield _ => match st with
    | v :: .ref p :: r => am_put d mid pc L r h p a b v
    | _ => am_bad
  | .getstatic _ => bif Nat.blt a 24 then am_go (d, mid, pc + 3, L, .retAddr (a + 1) :: st, h) else am_bad
  | .iaload => match st with
    | .int i :: .ref p :: r => bif Nat.beq a 1 then am_gd (Nat.beq p 60000 && am_in i env.2.1) (d, mid, pc + 1, L, .int (env.2.2 i.toNatClampNeg) :: r, h) else am_gd (decide (p < h.1) && Nat.beq (am_K p).1 100 && am_in i (am_K p).2) (d, mid, pc + 1, L, .int (h.2.2.1 p i.toNatClampNeg) :: r, h)
    | _ => am_bad
  | .iastore => match st with
    | .int x :: .int i :: .ref p :: r => am_gd (decide (p < h.1) && Nat.beq (am_K p).1 100 && am_in i (am_K p).2) (d, mid, pc + 1, L, r, (h.1, h.2.1, am_u h.2.2.1 p i.toNatClampNeg x, h.2.2.2))
    | _ => am_bad
  | .laload => match st with
    | .int i :: .ref p :: r => am_gd (decide (p < h.1) && Nat.beq (am_K p).1 101 && am_in i (am_K p).2) (d, mid, pc + 1, L, .long (h.2.2.2.1 p i.toNatClampNeg) :: r, h)
    | _ => am_bad
  | .lastore => match st with
    | .long x :: .int i :: .ref p :: r => am_gd (decide (p < h.1) && Nat.beq (am_K p).1 101 && am_in i (am_K p).2) (d, mid, pc + 1, L, r, (h.1, h.2.1, h.2.2.1, am_u h.2.2.2.1 p i.toNatClampNeg x, h.2.2.2.2))
    | _ => am_bad
  | .baload => match st with
    | .int i :: .ref p :: r => am_gd (decide (p < h.1) && Nat.beq (am_K p).1 102 && am_in i (am_K p).2) (d, mid, pc + 1, L, .int (h.2.2.1 p i.toNatClampNeg) :: r, h)
    | _ => am_bad
  | .bastore => match st with
    | .int x :: .int i :: .ref p :: r => am_gd (decide (p < h.1) && Nat.beq (am_K p).1 102 && am_in i (am_K p).2 && decide (x &&& 1 = x)) (d, mid, pc + 1, L, r, (h.1, h.2.1, am_u h.2.2.1 p i.toNatClampNeg x, h.2.2.2))
    | _ => am_bad
  | .aaload => match st with
    | .int i :: .ref p :: r => bif Nat.beq a 105 then am_gd (decide (p < h.1) && Nat.beq (am_K p).1 105 && am_in i (am_K p).2) (d, mid, pc + 1, L, .retAddr (h.2.2.2.2 p i.toNatClampNeg) :: r, h) else am_gd (decide (p < h.1) && (Nat.beq (am_K p).1 103 || Nat.beq (am_K p).1 104) && am_in i (am_K p).2 && h.2.1 p i.toNatClampNeg) (d, mid, pc + 1, L, .ref (am_SR p i.toNatClampNeg) :: r, h)
    | _ => am_bad
  | .aastore => match st with
    | .retAddr e :: .int i :: .ref p :: r => am_gd (decide (p < h.1) && Nat.beq (am_K p).1 105 && am_in i (am_K p).2 && Nat.ble e 24) (d, mid, pc + 1, L, r, (h.1, h.2.1, h.2.2.1, h.2.2.2.1, am_u h.2.2.2.2 p i.toNatClampNeg e))
    | .ref q :: .int i :: .ref p :: r => am_gd (decide (p < h.1) && decide (q < h.1) && (Nat.beq (am_K p).1 103 && Nat.beq (am_K q).1 7 || Nat.beq (am_K p).1 104 && Nat.beq (am_K q).1 6) && am_in i (am_K p).2 && Nat.beq q (am_SR p i.toNatClampNeg)) (d, mid, pc + 1, L, r, (h.1, am_u h.2.1 p i.toNatClampNeg true, h.2.2))
    | _ => am_bad
  | .arraylength => match st with
    | .ref p :: r => bif Nat.beq a 1 then am_gd (Nat.beq p 60000) (d, mid, pc + 1, L, .int (Int32.ofNat env.2.1) :: r, h) else am_gd (decide (p < h.1) && Nat.ble 100 (am_K p).1 && Nat.blt (am_K p).1 106) (d, mid, pc + 1, L, .int (Int32.ofNat (am_K p).2) :: r, h)
    | _ => am_bad
  | .new _ => bif Nat.beq a 9999 then (bif st.isEmpty then .inl (some (false, none, h)) else am_bad) else am_mk env.1 d mid pc 3 L st h a 0
  | .newarray _ => match st with
    | .int n :: r => bif decide (n < 0) then am_bad else am_mk env.1 d mid pc 2 L r h a n.toNatClampNeg
    | _ => am_bad
  | .anewarray _ => match st with
    | .int n :: r => bif decide (n < 0) then am_bad else am_mk env.1 d mid pc 3 L r h a n.toNatClampNeg
    | _ => am_bad
  | .invokevirtual _ => am_virt d mid pc L st h a b
  | .invokespecial _ => am_spec d mid pc L st h a b
  | .invokestatic _ => am_stat d mid pc L st h a b
  | .return_ => match st with
    | [] => .inl (some (true, none, h))
    | _ => am_bad
  | .ireturn => match st with
    | [.int v] => .inl (bif decide ((am_mi mid).2.2.2.2.1 = some .int) || decide (v &&& 1 = v) then some (true, some (.int v), h) else none)
    | _ => am_bad
  | .lreturn => match st with
    | [.long v] => .inl (some (true, some (.long v), h))
    | _ => am_bad
  | .areturn => am_bad
  | _ => am_bad
def am_act (env : am_E) (s : am_S) : am_A := match s with
  | (d, mid, pc, L, st, h) => match am_cd mid pc with
    | none => am_bad
    | some (raw, len, a, b, _) => am_do env d mid pc L st h raw len a b
def am_br (ev : am_S → Option am_R) : List (Bool × am_S) → Option am_S → Option am_R
  | [], none => none
  | [], some s => ev s
  | (b, s) :: t, o => bif b then ev s else am_br ev t o
def am_F (env : am_E) (ev : am_S → Option am_R) (s : am_S) : Option am_R := match am_act env s with
  | .inl r => r
  | .inr (.inl (l, o)) => am_br ev l o
  | .inr (.inr (b, s1, k)) => bif b then (ev s1).bind (fun r => (k r).bind ev) else none
def am_ex (env : am_E) : Nat → am_S → Option am_R
  | 0, _ => none
  | n + 1, s => am_F env (am_ex env n) s
