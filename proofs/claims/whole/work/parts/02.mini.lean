/-! THE SMALL MACHINE: cells by their number, one instruction as a function, a method as a run. Later parts tie it to the machine itself, once for all methods. -/
/-- a cell: an object (its class's number, its fields), or an array (its kind: 0 int, 1 byte, 2 boolean, 3 long, 4 int[]; its places) -/
abbrev mC : Type := (Nat × List Value) ⊕ (Nat × (List Int32 ⊕ (List Int64 ⊕ List (Option Nat))))
abbrev mH : Type := List mC
/-- an instruction, its length, three numbers that it links to, an int, a long, a switch's pairs -/
abbrev mI : Type := Instr × Nat × Nat × Nat × Nat × Int32 × Int64 × List (Int32 × Nat)
/-- behind an instruction: pc, locals, stack, cells, how many cells and slots are new -/
abbrev mN : Type := Nat × List (Option Value) × List Value × mH × Nat × Nat
abbrev mR : Type := mN ⊕ (Option Value ⊕ (Nat × List Value × List Value))
abbrev mO : Type := List (Option Value)
def mGo (pc : Nat) (lo : mO) (st : List Value) (h : mH) : Option mR := some (.inl (pc, lo, st, h, 0, 0))
/-- a local is stored: a long that it cuts is lost -/
def mClr (lo : mO) (i : Nat) : mO := match i with
  | 0 => lo
  | j + 1 => match lo[j]? with
    | some (some v) => bif Nat.beq v.category 2 then lo.set j none else lo
    | _ => lo
def mSt1 (lo : mO) (i : Nat) (v : Value) : mO := (mClr lo i).set i (some v)
def mSt2 (lo : mO) (i : Nat) (v : Value) : mO := ((mClr lo i).set i (some v)).set (i + 1) none
def mI2 (f : Int32 → Int32 → Int32) (pc : Nat) (lo : mO) (st : List Value) (h : mH) : Option mR := match st with
  | .int y :: .int x :: r => mGo pc lo (.int (f x y) :: r) h
  | _ => none
def mL2 (f : Int64 → Int64 → Int64) (pc : Nat) (lo : mO) (st : List Value) (h : mH) : Option mR := match st with
  | .long y :: .long x :: r => mGo pc lo (.long (f x y) :: r) h
  | _ => none
def mLI (f : Int64 → Int32 → Int64) (pc : Nat) (lo : mO) (st : List Value) (h : mH) : Option mR := match st with
  | .int y :: .long x :: r => mGo pc lo (.long (f x y) :: r) h
  | _ => none
def mCd (cd : ClassFile.Cond) (x y : Int32) (t f : Nat) : Nat := match cd with
  | .eq => if x = y then t else f
  | .ne => if ¬ x = y then t else f
  | .lt => if x < y then t else f
  | .ge => if y ≤ x then t else f
  | .gt => if y < x then t else f
  | .le => if x ≤ y then t else f
/-- a switch -/
def mSw (x : Int32) (sw : List (Int32 × Nat)) (d : Nat) : Nat := match sw with
  | [] => d
  | q :: r => if x = q.1 then q.2 else mSw x r d
def mLc (x y : Int64) : Int32 := if x < y then -1 else if x = y then 0 else 1
/-- an index is within -/
def mIn (i : Int32) (n : Nat) : Prop := ¬ (i < 0 ∨ n ≤ i.toNatClampNeg)
def mStat : List (List Int32) := [[0, 0, 1, 0], [20, 60, 9, 9999], [0, 0, 0, 1], [999, 99, 6, 6], [999, 99, 100, 999]]
def mBase : Nat := 1000000
/-- the numbers of a row: a cell's, or one of those that nobody writes -/
def mRow (ro : List (List Int32)) (h : mH) (k : Nat) : Option (List Int32) := bif Nat.blt k mBase then
    (match h[k]? with
    | some (.inr (0, .inl l)) => some l
    | _ => none)
  else ro[k - mBase]?
/-- a value may lie in a field: 0 int, 1 boolean, 2 long, 3 a reference -/
def mFit (k : Nat) (v : Value) : Prop := match k, v with
  | 0, .int _ => True
  | 1, .int x => x = 0 ∨ x = 1
  | 2, .long _ => True
  | 3, .ref _ => True
  | _, _ => False
def mLoad (lo : mO) (i : Nat) : Option Value := match lo[i]? with
  | some v => v
  | none => none
/-- what a new object of each class holds -/
def mNew (ci : Nat) : List Value := ((vwCl[ci]?).map fun q => (List.range q.2.2).map fun k => match parseFieldDescriptor (q.2.1 k).2.2.1 with
  | some .int => Value.int 0
  | some .boolean => Value.int 0
  | some .long => Value.long 0
  | _ => Value.null).getD []
/-- what a new array holds -/
def mArr (k n : Nat) : mC := bif Nat.beq k 3 then .inr (k, .inr (.inl (List.replicate n 0))) else .inr (k, .inl (List.replicate n 0))
def mCat (st : List Value) : Nat := match st with
  | [] => 0
  | v :: r => v.category + mCat r
/-- the receiver is an object of the class -/
def mRecv (h : mH) (ci : Nat) (a : List Value) : Bool := match a with
  | .ref k :: _ => match h[k]? with
    | some (.inl (c, _)) => Nat.beq c ci
    | _ => false
  | _ => false
def mStep1 (ro : List (List Int32)) (i : mI) (pc : Nat) (lo : mO) (st : List Value) (h : mH) : Option mR := match i with
  | (ins, len, a1, a2, a3, v32, v64, sw) => match ins with
    | .iload_n _ | .iload _ => match mLoad lo a1 with
      | some (.int x) => mGo (pc + len) lo (.int x :: st) h
      | _ => none
    | .aload_n _ => match mLoad lo a1 with
      | some (.ref x) => mGo (pc + len) lo (.ref x :: st) h
      | _ => none
    | .lload_n _ | .lload _ => match mLoad lo a1 with
      | some (.long x) => mGo (pc + len) lo (.long x :: st) h
      | _ => none
    | .istore_n _ | .istore _ => match st with
      | .int x :: r => bif Nat.blt a1 lo.length then mGo (pc + len) (mSt1 lo a1 (.int x)) r h else none
      | _ => none
    | .astore_n _ => match st with
      | .ref x :: r => bif Nat.blt a1 lo.length then mGo (pc + len) (mSt1 lo a1 (.ref x)) r h else none
      | _ => none
    | .lstore_n _ | .lstore _ => match st with
      | .long x :: r => bif Nat.blt (a1 + 1) lo.length then mGo (pc + len) (mSt2 lo a1 (.long x)) r h else none
      | _ => none
    | .iinc _ _ => match mLoad lo a1 with
      | some (.int x) => bif Nat.blt a1 lo.length then mGo (pc + len) (mSt1 lo a1 (.int (x + v32))) st h else none
      | _ => none
    | .iconst _ | .bipush _ | .sipush _ | .ldc _ | .ldc_w _ => mGo (pc + len) lo (.int v32 :: st) h
    | .lconst _ | .ldc2_w _ => mGo (pc + len) lo (.long v64 :: st) h
    | .dup => match st with
      | v :: r => bif Nat.beq v.category 1 then mGo (pc + len) lo (v :: v :: r) h else none
      | _ => none
    | .dup2 => match st with
      | v :: w :: r => bif Nat.beq v.category 1 && Nat.beq w.category 1 then mGo (pc + len) lo (v :: w :: v :: w :: r) h else none
      | _ => none
    | .pop => match st with
      | v :: r => bif Nat.beq v.category 1 then mGo (pc + len) lo r h else none
      | _ => none
    | .iadd => mI2 (fun x y => x + y) (pc + len) lo st h
    | .isub => mI2 (fun x y => x - y) (pc + len) lo st h
    | .imul => mI2 (fun x y => x * y) (pc + len) lo st h
    | .iand => mI2 (fun x y => x &&& y) (pc + len) lo st h
    | .ior => mI2 (fun x y => x ||| y) (pc + len) lo st h
    | .ixor => mI2 (fun x y => x ^^^ y) (pc + len) lo st h
    | .ishl => mI2 (fun x y => x <<< (y &&& 31)) (pc + len) lo st h
    | .ishr => mI2 (fun x y => x >>> (y &&& 31)) (pc + len) lo st h
    | .iushr => mI2 (fun x y => (x.toUInt32 >>> (y.toUInt32 &&& Int32.toUInt32 31)).toInt32) (pc + len) lo st h
    | .idiv => match st with
      | .int y :: .int x :: r => if y = 0 then none else mGo (pc + len) lo (.int (x / y) :: r) h
      | _ => none
    | .irem => match st with
      | .int y :: .int x :: r => if y = 0 then none else mGo (pc + len) lo (.int (x - x / y * y) :: r) h
      | _ => none
    | .ineg => match st with
      | .int x :: r => mGo (pc + len) lo (.int (-x) :: r) h
      | _ => none
    | .ladd => mL2 (fun x y => x + y) (pc + len) lo st h
    | .lsub => mL2 (fun x y => x - y) (pc + len) lo st h
    | .lmul => mL2 (fun x y => x * y) (pc + len) lo st h
    | .land => mL2 (fun x y => x &&& y) (pc + len) lo st h
    | .lor => mL2 (fun x y => x ||| y) (pc + len) lo st h
    | .lshl => mLI (fun x y => x <<< (y.toInt64 &&& 63)) (pc + len) lo st h
    | .lshr => mLI (fun x y => x >>> (y.toInt64 &&& 63)) (pc + len) lo st h
    | .lushr => mLI (fun x y => (x.toUInt64 >>> (y.toInt64.toUInt64 &&& Int64.toUInt64 63)).toInt64) (pc + len) lo st h
    | .lcmp => match st with
      | .long y :: .long x :: r => mGo (pc + len) lo (.int (mLc x y) :: r) h
      | _ => none
    | .i2l => match st with
      | .int x :: r => mGo (pc + len) lo (.long x.toInt64 :: r) h
      | _ => none
    | .l2i => match st with
      | .long x :: r => mGo (pc + len) lo (.int x.toInt32 :: r) h
      | _ => none
    | .i2b => match st with
      | .int x :: r => mGo (pc + len) lo (.int x.toInt8.toInt32 :: r) h
      | _ => none
    | .goto _ => mGo a1 lo st h
    | .if_icmp cd _ => match st with
      | .int y :: .int x :: r => mGo (mCd cd x y a1 (pc + len)) lo r h
      | _ => none
    | .ifCond cd _ => match st with
      | .int x :: r => mGo (mCd cd x 0 a1 (pc + len)) lo r h
      | _ => none
    | .tableswitch _ _ _ _ | .lookupswitch _ _ => match st with
      | .int x :: r => mGo (mSw x sw a1) lo r h
      | _ => none
    | .getstatic _ => mGo (pc + len) lo (.ref (mBase + a1) :: st) h
    | .getfield _ => match st with
      | .ref k :: r => match h[k]? with
        | some (.inl (c, fs)) => bif Nat.beq c a1 then (match fs[a2]? with
          | some v => mGo (pc + len) lo (v :: r) h
          | none => none) else none
        | _ => none
      | _ => none
    | _ => none
def mStep2 (ro : List (List Int32)) (rk : Nat) (i : mI) (pc : Nat) (lo : mO) (st : List Value) (h : mH) : Option mR := match i with
  | (ins, len, a1, a2, a3, v32, v64, sw) => match ins with
    | .putfield _ => match st with
      | v :: .ref k :: r => match h[k]? with
        | some (.inl (c, fs)) => bif Nat.beq c a1 && Nat.blt a2 fs.length then (match a3, v with
          | 0, .int x => mGo (pc + len) lo r (h.set k (.inl (c, fs.set a2 (.int x))))
          | 1, .int x => if x = 0 ∨ x = 1 then mGo (pc + len) lo r (h.set k (.inl (c, fs.set a2 (.int x)))) else none
          | 2, .long x => mGo (pc + len) lo r (h.set k (.inl (c, fs.set a2 (.long x))))
          | 3, .ref x => mGo (pc + len) lo r (h.set k (.inl (c, fs.set a2 (.ref x))))
          | _, _ => none) else none
        | _ => none
      | _ => none
    | .iaload => match st with
      | .int i :: .ref k :: r => match mRow ro h k with
        | some l => if i < 0 then none else (match l[i.toNatClampNeg]? with
          | some x => mGo (pc + len) lo (.int x :: r) h
          | none => none)
        | none => none
      | _ => none
    | .baload => match st with
      | .int i :: .ref k :: r => match h[k]? with
        | some (.inr (t, .inl l)) => bif Nat.beq t 1 || Nat.beq t 2 then (if i < 0 then none else (match l[i.toNatClampNeg]? with
          | some x => mGo (pc + len) lo (.int x :: r) h
          | none => none)) else none
        | _ => none
      | _ => none
    | .laload => match st with
      | .int i :: .ref k :: r => match h[k]? with
        | some (.inr (3, .inr (.inl l))) => if i < 0 then none else (match l[i.toNatClampNeg]? with
          | some x => mGo (pc + len) lo (.long x :: r) h
          | none => none)
        | _ => none
      | _ => none
    | .aaload => match st with
      | .int i :: .ref k :: r => match h[k]? with
        | some (.inr (4, .inr (.inr l))) => if i < 0 then none else (match l[i.toNatClampNeg]? with
          | some (some x) => mGo (pc + len) lo (.ref x :: r) h
          | _ => none)
        | _ => none
      | _ => none
    | .iastore => match st with
      | .int x :: .int i :: .ref k :: r => match h[k]? with
        | some (.inr (0, .inl l)) => if i < 0 ∨ l.length ≤ i.toNatClampNeg then none else mGo (pc + len) lo r (h.set k (.inr (0, .inl (l.set i.toNatClampNeg x))))
        | _ => none
      | _ => none
    | .bastore => match st with
      | .int x :: .int i :: .ref k :: r => match h[k]? with
        | some (.inr (1, .inl l)) => if i < 0 ∨ l.length ≤ i.toNatClampNeg then none else mGo (pc + len) lo r (h.set k (.inr (1, .inl (l.set i.toNatClampNeg x.toInt8.toInt32))))
        | some (.inr (2, .inl l)) => if (i < 0 ∨ l.length ≤ i.toNatClampNeg) ∨ ¬ (x = 0 ∨ x = 1) then none else mGo (pc + len) lo r (h.set k (.inr (2, .inl (l.set i.toNatClampNeg x))))
        | _ => none
      | _ => none
    | .lastore => match st with
      | .long x :: .int i :: .ref k :: r => match h[k]? with
        | some (.inr (3, .inr (.inl l))) => if i < 0 ∨ l.length ≤ i.toNatClampNeg then none else mGo (pc + len) lo r (h.set k (.inr (3, .inr (.inl (l.set i.toNatClampNeg x)))))
        | _ => none
      | _ => none
    | .arraylength => match st with
      | .ref k :: r => match mRow ro h k with
        | some l => mGo (pc + len) lo (.int (Int32.ofNat l.length) :: r) h
        | none => none
      | _ => none
    | .new _ => some (.inl (pc + len, lo, .ref h.length :: st, h ++ [.inl (a1, mNew a1)], 1, a2))
    | .newarray _ => match st with
      | .int n :: r => if n < 0 ∨ 4096 < n.toNatClampNeg then none else some (.inl (pc + len, lo, .ref h.length :: r, h ++ [mArr a1 n.toNatClampNeg], 1, n.toNatClampNeg))
      | _ => none
    | .multianewarray _ _ => match st with
      | .int m :: .int n :: r => if (n < 0 ∨ 4096 < n.toNatClampNeg) ∨ (m < 0 ∨ 4096 < m.toNatClampNeg) then none else
          some (.inl (pc + len, lo, .ref h.length :: r, h ++ (.inr (4, .inr (.inr ((List.range n.toNatClampNeg).map fun i => some (h.length + 1 + i)))) :: List.replicate n.toNatClampNeg (mArr 0 m.toNatClampNeg)), 1 + n.toNatClampNeg, n.toNatClampNeg + n.toNatClampNeg * m.toNatClampNeg))
      | _ => none
    | .ireturn => match rk, st with
      | 1, [.int x] => some (.inr (.inl (some (.int x))))
      | 2, [.int x] => if x = 0 ∨ x = 1 then some (.inr (.inl (some (.int x)))) else none
      | _, _ => none
    | .lreturn => match rk, st with
      | 3, [.long x] => some (.inr (.inl (some (.long x))))
      | _, _ => none
    | .return_ => match rk, st with
      | 0, [] => some (.inr (.inl none))
      | _, _ => none
    | .invokespecial _ => bif Nat.beq a3 1 then (match st with
        | .ref _ :: r => bif Nat.ble (mCat r) 8 then mGo (pc + len) lo r h else none
        | _ => none)
      else (match (st.take a2).reverse with
        | .ref k :: as => bif Nat.ble a2 st.length && Nat.ble (mCat (st.drop a2)) 8 then some (.inr (.inr (a1, .ref k :: as, st.drop a2))) else none
        | _ => none)
    | .invokevirtual _ => bif Nat.ble a2 st.length && Nat.ble (mCat (st.drop a2)) 8 && mRecv h a3 (st.take a2).reverse then some (.inr (.inr (a1, (st.take a2).reverse, st.drop a2))) else none
    | .invokestatic _ => bif Nat.beq a3 1 then (match st with
        | .int n :: .int dp :: .ref d :: .int sp :: .ref s :: r => match h[s]?, h[d]? with
          | some (.inr (0, .inl ls)), some (.inr (0, .inl ld)) => if ((sp < 0 ∨ dp < 0) ∨ n < 0) ∨ (ls.length < sp.toNatClampNeg + n.toNatClampNeg ∨ ld.length < dp.toNatClampNeg + n.toNatClampNeg) ∨ 8 < mCat r then none else
            mGo (pc + len) lo r (h.set d (.inr (0, .inl (ld.take dp.toNatClampNeg ++ ((ls.drop sp.toNatClampNeg).take n.toNatClampNeg ++ ld.drop (dp.toNatClampNeg + n.toNatClampNeg))))))
          | _, _ => none
        | _ => none)
      else bif Nat.ble a2 st.length && Nat.ble (mCat (st.drop a2)) 8 then some (.inr (.inr (a1, (st.take a2).reverse, st.drop a2))) else none
    | _ => none
/-- is it one of the first kind -/
def mKind (i : Instr) : Bool := match i with
  | .putfield _ | .iaload | .baload | .laload | .aaload | .iastore | .bastore | .lastore | .arraylength | .new _ | .newarray _ | .multianewarray _ _ | .ireturn | .lreturn | .return_ | .invokespecial _ | .invokevirtual _ | .invokestatic _ => false
  | _ => true
def mStep (ro : List (List Int32)) (rk : Nat) (i : mI) (pc : Nat) (lo : mO) (st : List Value) (h : mH) : Option mR :=
  bif mKind i.1 then mStep1 ro i pc lo st h else mStep2 ro rk i pc lo st h
