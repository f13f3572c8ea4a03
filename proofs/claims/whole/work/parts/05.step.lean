/-! ONE INSTRUCTION over places: pc, instruction, length, its constant -/
abbrev xI : Type := Nat × Instr × Nat × Value
/-- a field's link: pool index, class's number, field's number, sort (0 int, 1 boolean, 2 reference), final -/
abbrev xFl : Type := Nat × Nat × Nat × Nat × Bool
def xokB (cc : ByteArray) (q : xI) : Bool := decide (decode cc q.1 = .ok (q.2.1, q.2.2.1)) && match q.2.1, q.2.2.2 with
  | .iconst n, .int v => decide (Int32.ofInt n = v)
  | .bipush n, .int v => decide ((Int8.ofInt n).toInt32 = v)
  | .sipush n, .int v => decide ((Int16.ofInt n).toInt32 = v)
  | .lconst n, .long v => decide (Int64.ofNat (n : Nat) = v)
  | .iconst _, _ => false
  | .bipush _, _ => false
  | .sipush _, _ => false
  | .lconst _, _ => false
  | _, _ => true
abbrev xR : Type := Option (Prop × List (Nat × Value) × List Value × xG)
def xfl (fl : List xFl) (idx : Nat) : Option (Nat × Nat × Nat × Bool) := (fl.find? (fun q => q.1 == idx)).map (·.2)
def xkc (kc : List (Nat × Value)) (idx : Nat) : Option Value := (kc.find? (fun q => q.1 == idx)).map (·.2)
def xload (lv : List (Nat × Value)) (st : List Value) (σ : xG) (i : Nat) : xR := match xld lv i with
  | some v => some (True, lv, v :: st, σ)
  | none => none
def xloadI (lv : List (Nat × Value)) (st : List Value) (σ : xG) (i : Nat) : xR := match xld lv i with
  | some (.int v) => some (True, lv, .int v :: st, σ)
  | _ => none
def xloadL (lv : List (Nat × Value)) (st : List Value) (σ : xG) (i : Nat) : xR := match xld lv i with
  | some (.long v) => some (True, lv, .long v :: st, σ)
  | _ => none
def xloadA (lv : List (Nat × Value)) (st : List Value) (σ : xG) (i : Nat) : xR := match xld lv i with
  | some (.ref v) => some (True, lv, .ref v :: st, σ)
  | _ => none
def xstore1 (nL : Nat) (lv : List (Nat × Value)) (v : Value) (st : List Value) (σ : xG) (i : Nat) : xR := if i < nL then some (True, xst1 i v lv, st, σ) else none
def xstore2 (nL : Nat) (lv : List (Nat × Value)) (v : Value) (st : List Value) (σ : xG) (i : Nat) : xR := if i + 1 < nL then some (True, xst2 i v lv, st, σ) else none
def xgetf (fl : List xFl) (lay : List xL) (lv : List (Nat × Value)) (st : List Value) (σ : xG) (k idx : Nat) : xR := match xfl fl idx, lay[k]? with
  | some (ci, j, _), some (.inr o) => if o.1 = ci then match o.2[j]? with
      | some none => some (True, lv, .int (σ.1 k j) :: st, σ)
      | some (some v) => some (True, lv, v :: st, σ)
      | none => none
    else none
  | _, _ => none
def xputf (fl : List xFl) (lay : List xL) (lv : List (Nat × Value)) (st : List Value) (σ : xG) (k idx : Nat) (x : Int32) : xR := match xfl fl idx, lay[k]? with
  | some (ci, j, tc, fin), some (.inr o) => if o.1 = ci ∧ fin = false then match o.2[j]?, tc with
      | some none, 0 => some (True, lv, st, (xup σ.1 k j x, σ.2))
      | some none, 1 => some (x = 0 ∨ x = 1, lv, st, (xup σ.1 k j x, σ.2))
      | _, _ => none
    else none
  | _, _ => none
def xiald (lay : List xL) (lv : List (Nat × Value)) (st : List Value) (σ : xG) (k : Nat) (i : Int32) : xR := match lay[k]? with
  | some (.inl (0, n)) => some (vp_in i n, lv, .int (σ.1 k i.toNatClampNeg) :: st, σ)
  | _ => none
def xiast (lay : List xL) (lv : List (Nat × Value)) (st : List Value) (σ : xG) (k : Nat) (i x : Int32) : xR := match lay[k]? with
  | some (.inl (0, n)) => some (vp_in i n, lv, st, (xup σ.1 k i.toNatClampNeg x, σ.2))
  | _ => none
def xlald (lay : List xL) (lv : List (Nat × Value)) (st : List Value) (σ : xG) (k : Nat) (i : Int32) : xR := match lay[k]? with
  | some (.inl (1, n)) => some (vp_in i n, lv, .long (σ.2 k i.toNatClampNeg) :: st, σ)
  | _ => none
def xlast (lay : List xL) (lv : List (Nat × Value)) (st : List Value) (σ : xG) (k : Nat) (i : Int32) (x : Int64) : xR := match lay[k]? with
  | some (.inl (1, n)) => some (vp_in i n, lv, st, (σ.1, xupL σ.2 k i.toNatClampNeg x))
  | _ => none
def x1 (fl : List xFl) (kc : List (Nat × Value)) (nL : Nat) (lay : List xL) (q : xI) (lv : List (Nat × Value)) (st : List Value) (σ : xG) : xR := match q.2.1, st with
  | .iconst _, st => some (True, lv, q.2.2.2 :: st, σ)
  | .bipush _, st => some (True, lv, q.2.2.2 :: st, σ)
  | .sipush _, st => some (True, lv, q.2.2.2 :: st, σ)
  | .lconst _, st => some (True, lv, q.2.2.2 :: st, σ)
  | .ldc i, st => match xkc kc i with
    | some (.int v) => some (True, lv, .int v :: st, σ)
    | _ => none
  | .ldc_w i, st => match xkc kc i with
    | some (.int v) => some (True, lv, .int v :: st, σ)
    | _ => none
  | .ldc2_w i, st => match xkc kc i with
    | some (.long v) => some (True, lv, .long v :: st, σ)
    | _ => none
  | .iload_n i, st => xloadI lv st σ i
  | .iload i, st => xloadI lv st σ i
  | .lload_n i, st => xloadL lv st σ i
  | .lload i, st => xloadL lv st σ i
  | .aload_n i, st => xloadA lv st σ i
  | .aload i, st => xloadA lv st σ i
  | .istore_n i, .int x :: st => xstore1 nL lv (.int x) st σ i
  | .istore i, .int x :: st => xstore1 nL lv (.int x) st σ i
  | .lstore_n i, .long x :: st => xstore2 nL lv (.long x) st σ i
  | .lstore i, .long x :: st => xstore2 nL lv (.long x) st σ i
  | .astore_n i, .ref x :: st => xstore1 nL lv (.ref x) st σ i
  | .astore i, .ref x :: st => xstore1 nL lv (.ref x) st σ i
  | .iinc i n, st => match xld lv i with
    | some (.int x) => xstore1 nL lv (.int (x + Int32.ofInt n)) st σ i
    | _ => none
  | .iadd, .int y :: .int x :: st => some (True, lv, .int (x + y) :: st, σ)
  | .isub, .int y :: .int x :: st => some (True, lv, .int (x - y) :: st, σ)
  | .imul, .int y :: .int x :: st => some (True, lv, .int (x * y) :: st, σ)
  | .iand, .int y :: .int x :: st => some (True, lv, .int (x &&& y) :: st, σ)
  | .ior, .int y :: .int x :: st => some (True, lv, .int (x ||| y) :: st, σ)
  | .ixor, .int y :: .int x :: st => some (True, lv, .int (x ^^^ y) :: st, σ)
  | .ineg, .int x :: st => some (True, lv, .int (-x) :: st, σ)
  | .ishl, .int y :: .int x :: st => some (True, lv, .int (x <<< (y &&& 31)) :: st, σ)
  | .ishr, .int y :: .int x :: st => some (True, lv, .int (x >>> (y &&& 31)) :: st, σ)
  | .iushr, .int y :: .int x :: st => some (True, lv, .int (x.toUInt32 >>> (y.toUInt32 &&& Int32.toUInt32 31)).toInt32 :: st, σ)
  | .idiv, .int y :: .int x :: st => some (¬ y = 0, lv, .int (x / y) :: st, σ)
  | .irem, .int y :: .int x :: st => some (¬ y = 0, lv, .int (x - x / y * y) :: st, σ)
  | .ladd, .long y :: .long x :: st => some (True, lv, .long (x + y) :: st, σ)
  | .lsub, .long y :: .long x :: st => some (True, lv, .long (x - y) :: st, σ)
  | .lmul, .long y :: .long x :: st => some (True, lv, .long (x * y) :: st, σ)
  | .land, .long y :: .long x :: st => some (True, lv, .long (x &&& y) :: st, σ)
  | .lor, .long y :: .long x :: st => some (True, lv, .long (x ||| y) :: st, σ)
  | .lxor, .long y :: .long x :: st => some (True, lv, .long (x ^^^ y) :: st, σ)
  | .lneg, .long x :: st => some (True, lv, .long (-x) :: st, σ)
  | .ldiv, .long y :: .long x :: st => some (¬ y = 0, lv, .long (x / y) :: st, σ)
  | .lrem, .long y :: .long x :: st => some (¬ y = 0, lv, .long (x - x / y * y) :: st, σ)
  | .lshl, .int y :: .long x :: st => some (True, lv, .long (x <<< (y.toInt64 &&& 63)) :: st, σ)
  | .lshr, .int y :: .long x :: st => some (True, lv, .long (x >>> (y.toInt64 &&& 63)) :: st, σ)
  | .lushr, .int y :: .long x :: st => some (True, lv, .long (x.toUInt64 >>> (y.toInt64.toUInt64 &&& Int64.toUInt64 63)).toInt64 :: st, σ)
  | .lcmp, .long y :: .long x :: st => some (True, lv, .int (lg_cmp x y) :: st, σ)
  | .i2l, .int x :: st => some (True, lv, .long x.toInt64 :: st, σ)
  | .l2i, .long x :: st => some (True, lv, .int x.toInt32 :: st, σ)
  | .i2b, .int x :: st => some (True, lv, .int x.toInt8.toInt32 :: st, σ)
  | .i2s, .int x :: st => some (True, lv, .int x.toInt16.toInt32 :: st, σ)
  | .i2c, .int x :: st => some (True, lv, .int (x.toUInt32 % 65536).toInt32 :: st, σ)
  | .dup, a :: st => if a.category = 1 then some (True, lv, a :: a :: st, σ) else none
  | .pop, a :: st => if a.category = 1 then some (True, lv, st, σ) else none
  | .dup_x1, a :: b :: st => if a.category = 1 ∧ b.category = 1 then some (True, lv, a :: b :: a :: st, σ) else none
  | .dup_x2, a :: b :: d :: st => if a.category = 1 ∧ b.category = 1 ∧ d.category = 1 then some (True, lv, a :: b :: d :: a :: st, σ) else none
  | .dup2, a :: b :: st => if a.category = 1 ∧ b.category = 1 then some (True, lv, a :: b :: a :: b :: st, σ) else if a.category = 2 then some (True, lv, a :: a :: b :: st, σ) else none
  | .getfield i, .ref k :: st => xgetf fl lay lv st σ k i
  | .putfield i, .int x :: .ref k :: st => xputf fl lay lv st σ k i x
  | .iaload, .int i :: .ref k :: st => xiald lay lv st σ k i
  | .iastore, .int x :: .int i :: .ref k :: st => xiast lay lv st σ k i x
  | .laload, .int i :: .ref k :: st => xlald lay lv st σ k i
  | .lastore, .long x :: .int i :: .ref k :: st => xlast lay lv st σ k i x
  | .arraylength, .ref k :: st => match lay[k]? with
    | some (.inl (0, n)) => some (True, lv, .int (Int32.ofNat n) :: st, σ)
    | _ => none
  | _, _ => none
