/-! an abstract machine: resolved code, a memory of rows; a method is run by fuel -/
/-- memory: the cells' shapes (a class below 12 and its fields; 20 int, 21 byte, 22 long, 23 Part, 24 Chip, 25 Sheet, 26 int[] and a length), ints, longs, references -/
abbrev aV : Type := List (Nat × Nat) × (Nat → Nat → Int32) × (Nat → Nat → Int64) × (Nat → Nat → Option Nat)
abbrev aL : Type := List (Option Value)
abbrev aS : Type := Nat × aL × List Value × aV
abbrev aR : Type := aS ⊕ ((Option Value × aV) ⊕ (Nat × List Value × aS))
def mY (i : Nat) : MethodName := mYs.getD i yX0_has
def mB (i : Nat) : ByteArray := mBs.getD i cX0_has
def mK (i : Nat) : aI := mKs.getD i []
def mL (i : Nat) : Nat := mLs.getD i 0
def mR (i : Nat) : Option FieldType := mRs.getD i none
def mO (i : Nat) : Nat := mOs.getD i 0
def mC (i : Nat) : Nat := mCs.getD i 99
def mV (i : Nat) : Nat := mVs.getD i 0
def mA (i : Nat) : Nat := mAs.getD i 0
def mW (i : Nat) : Nat := mWs.getD i 0
def mKd (i : Nat) : Nat := (mXs.getD i (0, 0, 9, 0)).2.2.1
def mIni (i : Nat) : Bool := decide ((mY i).name = "<init>")
def aAt : aI → Nat → Option (Instr × Nat)
  | [], _ => none
  | e :: t, q => bif Nat.beq e.1 q then some e.2 else aAt t q
def aK : Int → Int32
  | .ofNat n => nI n
  | .negSucc n => -(nI (n + 1))
def aKL : Int → Int64
  | .ofNat n => lN n
  | .negSucc n => -(lN (n + 1))
def aUp {α : Type} (f : Nat → Nat → α) (a j : Nat) (x : α) : Nat → Nat → α := fun b k => if b = a ∧ k = j then x else f b k
def aIn (i : Int32) (n : Nat) : Bool := !(decide (i < 0)) && Nat.blt i.toNatClampNeg n
def aFk (c j : Nat) : Nat := (aFkT.getD c []).getD j 9
def aT (c : ClassFile.Cond) (x y : Int32) : Bool := match c with
  | .eq => decide (x = y)
  | .ne => !decide (x = y)
  | .lt => decide (x < y)
  | .ge => decide (y ≤ x)
  | .gt => decide (y < x)
  | .le => decide (x ≤ y)
/-- what needs the stack alone -/
def aPure : Instr → List Value → Option (List Value)
  | .iconst n, st => some (.int (aK n) :: st)
  | .jsr_w n, st => some (.long (aKL n) :: st)
  | .getstatic w, st => some (.ref (1000000 + w) :: st)
  | .ldc w, st => some (.ref (1000010 + w) :: st)
  | .iadd, .int y :: .int x :: r => some (.int (x + y) :: r)
  | .isub, .int y :: .int x :: r => some (.int (x - y) :: r)
  | .imul, .int y :: .int x :: r => some (.int (x * y) :: r)
  | .iand, .int y :: .int x :: r => some (.int (x &&& y) :: r)
  | .ior, .int y :: .int x :: r => some (.int (x ||| y) :: r)
  | .ixor, .int y :: .int x :: r => some (.int (x ^^^ y) :: r)
  | .ishl, .int y :: .int x :: r => some (.int (x <<< (y &&& 31)) :: r)
  | .ishr, .int y :: .int x :: r => some (.int (x >>> (y &&& 31)) :: r)
  | .iushr, .int y :: .int x :: r => some (.int (x.toUInt32 >>> (y.toUInt32 &&& Int32.toUInt32 31)).toInt32 :: r)
  | .idiv, .int y :: .int x :: r => if y = 0 then none else some (.int (x / y) :: r)
  | .irem, .int y :: .int x :: r => if y = 0 then none else some (.int (x - x / y * y) :: r)
  | .i2l, .int x :: r => some (.long x.toInt64 :: r)
  | .l2i, .long x :: r => some (.int x.toInt32 :: r)
  | .i2b, .int x :: r => some (.int x.toInt8.toInt32 :: r)
  | .i2s, .int x :: r => some (.int x.toInt16.toInt32 :: r)
  | .ladd, .long y :: .long x :: r => some (.long (x + y) :: r)
  | .lsub, .long y :: .long x :: r => some (.long (x - y) :: r)
  | .land, .long y :: .long x :: r => some (.long (x &&& y) :: r)
  | .lor, .long y :: .long x :: r => some (.long (x ||| y) :: r)
  | .lshl, .int y :: .long x :: r => some (.long (x <<< (y.toInt64 &&& 63)) :: r)
  | .lshr, .int y :: .long x :: r => some (.long (x >>> (y.toInt64 &&& 63)) :: r)
  | .lushr, .int y :: .long x :: r => some (.long (x.toUInt64 >>> (y.toInt64.toUInt64 &&& Int64.toUInt64 63)).toInt64 :: r)
  | .lcmp, .long y :: .long x :: r => some (.int (lg_cmp x y) :: r)
  | .dup, .int x :: r => some (.int x :: .int x :: r)
  | .dup, .ref x :: r => some (.ref x :: .ref x :: r)
  | .dup2, .int x :: .ref a :: r => some (.int x :: .ref a :: .int x :: .ref a :: r)
  | .pop, .int _ :: r => some r
  | _, _ => none
def aLd (ls : aL) (i : Nat) : Option Value := match ls[i]? with
  | some (some v) => some v
  | _ => none
def aClr (ls : aL) : Nat → aL
  | 0 => ls
  | j + 1 => match ls[j]? with
    | some (some v) => bif Nat.beq v.category 2 then ls.set j none else ls
    | _ => ls
def aJ (pc : Nat) (off : Int) : Nat := ((pc : Int) + off).toNat
/-- loads and stores of locals -/
def aLoc : Instr → aL → List Value → Option (aL × List Value)
  | .iload i, ls, st => match aLd ls i with
    | some (.int x) => some (ls, .int x :: st)
    | _ => none
  | .lload i, ls, st => match aLd ls i with
    | some (.long x) => some (ls, .long x :: st)
    | _ => none
  | .aload i, ls, st => match aLd ls i with
    | some (.ref x) => some (ls, .ref x :: st)
    | _ => none
  | .istore i, ls, .int x :: r => bif Nat.blt i ls.length then some ((aClr ls i).set i (some (.int x)), r) else none
  | .astore i, ls, .ref x :: r => bif Nat.blt i ls.length then some ((aClr ls i).set i (some (.ref x)), r) else none
  | .lstore i, ls, .long x :: r => bif Nat.blt (i + 1) ls.length then some (((aClr ls i).set i (some (.long x))).set (i + 1) none, r) else none
  | .iinc i n, ls, st => match aLd ls i with
    | some (.int x) => some ((aClr ls i).set i (some (.int (x + aK n))), st)
    | _ => none
  | _, _, _ => none
/-- where a jump goes, and what it leaves -/
def aBr : Instr → Nat → Nat → List Value → Option (Nat × List Value)
  | .goto off, pc, _, st => some (aJ pc off, st)
  | .ifCond c off, pc, len, .int x :: r => some (bif aT c x (nI 0) then aJ pc off else pc + len, r)
  | .if_icmp c off, pc, len, .int y :: .int x :: r => some (bif aT c x y then aJ pc off else pc + len, r)
  | .tableswitch d lo hi os, pc, _, .int x :: r => if x.toInt < lo ∨ hi < x.toInt then some (aJ pc d, r) else match os[(x.toInt - lo).toNat]? with
    | some off => some (aJ pc off, r)
    | none => none
  | .lookupswitch d ps, pc, _, .int x :: r => some (aJ pc (Op.lookupswitch.offset ps.toList d x.toInt), r)
  | _, _, _, _ => none
def aGet (N : aV) (c j a : Nat) : Option Value := match N.1[a]? with
  | some (c', n) => bif Nat.beq c' c && Nat.blt j n then (match aFk c j with
    | 0 => some (.int (N.2.1 a j))
    | 1 => some (.long (N.2.2.1 a j))
    | 2 => some (va_rf (N.2.2.2 a j))
    | _ => none) else none
  | none => none
def aPut (N : aV) (c j a : Nat) (v : Value) : Option aV := match N.1[a]? with
  | some (c', n) => bif Nat.beq c' c && Nat.blt j n then (match aFk c j, v with
    | 0, .int x => some (N.1, aUp N.2.1 a j x, N.2.2)
    | 1, .long x => some (N.1, N.2.1, aUp N.2.2.1 a j x, N.2.2.2)
    | 2, .ref x => some (N.1, N.2.1, N.2.2.1, aUp N.2.2.2 a j (some x))
    | _, _ => none) else none
  | none => none
def aA0 : List Int32 := [1, 1, 3, 4, 4, 6, 6, 4, 1, 10, 11, 11, 13, 13, 11, 1]
def aA1 : List Int32 := [0, 2, 9, 5, 5, 8, 7, 8, 2, 0, 12, 12, 15, 14, 15, 2]
def aA (w : Nat) (j : Nat) : Int32 := (bif Nat.beq w 0 then aA0 else aA1).getD j 0
/-- a new cell of zeros -/
def aNew (N : aV) (e : Nat × Nat) : aV := (N.1 ++ [e], (fun b k => if b = N.1.length then 0 else N.2.1 b k), (fun b k => if b = N.1.length then 0 else N.2.2.1 b k), (fun b k => if b = N.1.length then none else N.2.2.2 b k))
def aNews (N : aV) (e : Nat × Nat) : Nat → aV
  | 0 => N
  | i + 1 => aNew (aNews N e i) e
def aKind : ArrayType → Nat
  | .int => 20
  | .byte => 21
  | .long => 22
  | _ => 99
def aElt (k : Nat) : Nat := bif Nat.beq k 23 then 3 else bif Nat.beq k 24 then 1 else bif Nat.beq k 25 then 7 else 99
def aNF (c : Nat) : Nat := (aFkT.getD c []).length
/-- reads and writes of the memory -/
def aMem (al : Bool) : Instr → List Value → aV → Option (List Value × aV)
  | .getfield f, .ref a :: r, N => match aGet N (f / 100) (f % 100) a with
    | some v => some (v :: r, N)
    | none => none
  | .putfield f, v :: .ref a :: r, N => match aPut N (f / 100) (f % 100) a v with
    | some N' => some (r, N')
    | none => none
  | .iaload, .int i :: .ref a :: r, N => bif Nat.ble 1000000 a then (bif Nat.blt a 1000002 && aIn i 16 then some (.int (aA (a - 1000000) i.toNatClampNeg) :: r, N) else none) else match N.1[a]? with
    | some (k, n) => bif Nat.beq k 20 && aIn i n then some (.int (N.2.1 a i.toNatClampNeg) :: r, N) else none
    | none => none
  | .baload, .int i :: .ref a :: r, N => match N.1[a]? with
    | some (k, n) => bif Nat.beq k 21 && aIn i n then some (.int (N.2.1 a i.toNatClampNeg) :: r, N) else none
    | none => none
  | .laload, .int i :: .ref a :: r, N => match N.1[a]? with
    | some (k, n) => bif Nat.beq k 22 && aIn i n then some (.long (N.2.2.1 a i.toNatClampNeg) :: r, N) else none
    | none => none
  | .aaload, .int i :: .ref a :: r, N => match N.1[a]? with
    | some (k, n) => bif Nat.blt 22 k && Nat.blt k 27 && aIn i n then some (va_rf (N.2.2.2 a i.toNatClampNeg) :: r, N) else none
    | none => none
  | .iastore, .int x :: .int i :: .ref a :: r, N => match N.1[a]? with
    | some (k, n) => bif Nat.beq k 20 && aIn i n then some (r, N.1, aUp N.2.1 a i.toNatClampNeg x, N.2.2) else none
    | none => none
  | .bastore, .int x :: .int i :: .ref a :: r, N => match N.1[a]? with
    | some (k, n) => bif Nat.beq k 21 && aIn i n then some (r, N.1, aUp N.2.1 a i.toNatClampNeg x.toInt8.toInt32, N.2.2) else none
    | none => none
  | .lastore, .long x :: .int i :: .ref a :: r, N => match N.1[a]? with
    | some (k, n) => bif Nat.beq k 22 && aIn i n then some (r, N.1, N.2.1, aUp N.2.2.1 a i.toNatClampNeg x, N.2.2.2) else none
    | none => none
  | .aastore, .ref v :: .int i :: .ref a :: r, N => match N.1[a]?, N.1[v]? with
    | some (k, n), some (c, f) => bif Nat.blt 22 k && Nat.blt k 26 && Nat.beq c (aElt k) && aIn i n then some (r, N.1, N.2.1, N.2.2.1, aUp N.2.2.2 a i.toNatClampNeg (some v)) else none
    | _, _ => none
  | .arraylength, .ref a :: r, N => match N.1[a]? with
    | some (k, n) => bif Nat.blt 19 k && Nat.blt k 27 then some (.int (nI n) :: r, N) else none
    | none => none
  | .new c, st, N => bif al && Nat.blt c 12 then some (.ref N.1.length :: st, aNew N (c, aNF c)) else none
  | .newarray t, .int n :: r, N => bif al && !(decide (n < 0)) && Nat.blt (aKind t) 23 && Nat.ble n.toNatClampNeg 60000 then some (.ref N.1.length :: r, aNew N (aKind t, n.toNatClampNeg)) else none
  | .anewarray k, .int n :: r, N => bif al && !(decide (n < 0)) && Nat.blt 22 k && Nat.blt k 26 && Nat.ble n.toNatClampNeg 60000 then some (.ref N.1.length :: r, aNew N (k, n.toNatClampNeg)) else none
  | .multianewarray _ _, .int k :: .int n :: r, N => bif al && !(decide (n < 0)) && !(decide (k < 0)) && Nat.ble n.toNatClampNeg 60000 && Nat.ble k.toNatClampNeg 60000 then
      some (.ref N.1.length :: r, (let X := aNews (aNew N (26, n.toNatClampNeg)) (20, k.toNatClampNeg) n.toNatClampNeg; (X.1, X.2.1, X.2.2.1, fun b j => if b = N.1.length ∧ j < n.toNatClampNeg then some (N.1.length + 1 + j) else X.2.2.2 b j))) else none
  | _, _, _ => none
def aSl : List Value → aL
  | [] => []
  | v :: t => bif Nat.beq v.category 2 then some v :: none :: aSl t else some v :: aSl t
def aEn (m : Nat) (as : List Value) (N : aV) : aS := (0, aSl as ++ List.replicate (mL m - (aSl as).length) none, [], N)
def aCat : List Value → Nat
  | [] => 0
  | v :: t => v.category + aCat t
def aOkC (mid m : Nat) (as rest : List Value) : Bool := Nat.blt (mV m) (mV mid) && Nat.beq as.length (mA m) && Nat.ble (aCat rest) 8
def aCal (mid : Nat) : Instr → List Value → aV → Option (Nat × List Value × List Value)
  | .invokestatic m, st, _ => bif Nat.beq (mKd m) 0 && Nat.blt m mNm && aOkC mid m (st.take (mA m)) (st.drop (mA m)) && Nat.ble (aSl (st.take (mA m)).reverse).length (mL m) then some (m, (st.take (mA m)).reverse, st.drop (mA m)) else none
  | .invokevirtual m, st, N => match st.drop (mA m) with
    | .ref b :: rest => match N.1[b]? with
      | some (c, _) => bif Nat.ble 2 (mKd m) && Nat.blt m mNm && Nat.beq c (mC m) && aOkC mid m (st.take (mA m)) rest && Nat.ble (aSl (.ref b :: (st.take (mA m)).reverse)).length (mL m) then some (m, .ref b :: (st.take (mA m)).reverse, rest) else none
      | none => none
    | _ => none
  | .invokespecial m, st, _ => match st.drop (mA m) with
    | .ref b :: rest => bif Nat.beq (mKd m) 1 && Nat.blt m mNm && aOkC mid m (st.take (mA m)) rest && Nat.ble (aSl (.ref b :: (st.take (mA m)).reverse)).length (mL m) then some (m, .ref b :: (st.take (mA m)).reverse, rest) else none
    | _ => none
  | _, _, _ => none
def aRet (mid : Nat) : Instr → List Value → Option (Option Value)
  | .ireturn, [.int x] => bif decide (mR mid = some .int) || (decide (mR mid = some .boolean) && (decide (x = 0) || decide (x = 1))) then some (some (.int x)) else none
  | .lreturn, [.long x] => bif decide (mR mid = some .long) then some (some (.long x)) else none
  | .return_, [] => bif decide (mR mid = none) then some none else none
  | _, _ => none
/-- Object's <init>, Math.max and Math.min -/
def aSpc : Instr → List Value → Option (List Value)
  | .invokespecial _, .ref _ :: r => bif Nat.ble (aCat r) 8 then some r else none
  | .invokestatic m, .int y :: .int x :: r => bif Nat.ble (aCat r) 8 then (bif Nat.beq m 997 then some (.int (if x < y then y else x) :: r) else bif Nat.beq m 998 then some (.int (if y < x then y else x) :: r) else none) else none
  | _, _ => none
/-- which group an instruction is of: 0 the stack alone, 1 locals, 2 jumps, 3 memory, 4 calls, 5 ends, 6 Object's <init>, Math -/
def aGrp : Instr → Nat
  | .iload _ | .lload _ | .aload _ | .istore _ | .lstore _ | .astore _ | .iinc _ _ => 1
  | .goto _ | .ifCond _ _ | .if_icmp _ _ | .tableswitch _ _ _ _ | .lookupswitch _ _ => 2
  | .getfield _ | .putfield _ | .iaload | .baload | .laload | .aaload | .iastore | .bastore | .lastore | .aastore | .arraylength | .new _ | .newarray _ | .anewarray _ | .multianewarray _ _ => 3
  | .invokestatic m => bif Nat.ble 997 m then 6 else 4
  | .invokevirtual _ => 4
  | .invokespecial m => bif Nat.beq m 999 then 6 else 4
  | .ireturn | .lreturn | .return_ => 5
  | _ => 0
def aOp (al : Bool) (mid : Nat) (op : Instr) (len : Nat) (s : aS) : Option aR := match aGrp op with
  | 0 => match aPure op s.2.2.1 with
    | some st => some (.inl (s.1 + len, s.2.1, st, s.2.2.2))
    | none => none
  | 1 => match aLoc op s.2.1 s.2.2.1 with
    | some q => some (.inl (s.1 + len, q.1, q.2, s.2.2.2))
    | none => none
  | 2 => match aBr op s.1 len s.2.2.1 with
    | some q => some (.inl (q.1, s.2.1, q.2, s.2.2.2))
    | none => none
  | 3 => match aMem al op s.2.2.1 s.2.2.2 with
    | some q => some (.inl (s.1 + len, s.2.1, q.1, q.2))
    | none => none
  | 4 => match aCal mid op s.2.2.1 s.2.2.2 with
    | some q => some (.inr (.inr (q.1, q.2.1, s.1 + len, s.2.1, q.2.2, s.2.2.2)))
    | none => none
  | 5 => match aRet mid op s.2.2.1 with
    | some q => some (.inr (.inl (q, s.2.2.2)))
    | none => none
  | _ => match aSpc op s.2.2.1 with
    | some st => some (.inl (s.1 + len, s.2.1, st, s.2.2.2))
    | none => none
def aStp (al : Bool) (mid : Nat) (s : aS) : Option aR := match aAt (mK mid) s.1 with
  | some q => aOp al mid q.1 q.2 s
  | none => none
/-- Reader.isName: its token is the name w (the tape's bytes 1 behind the tape) -/
def aStr : List (List Int32) := [[112, 97, 114, 116], [105, 100], [115, 97, 109, 112, 108, 101], [101, 120, 116, 101, 115, 116], [99, 101, 108, 108, 115]]
def aNm : List Value → aV → Option (Option Value × aV)
  | [.ref t, .ref w], N => match N.1[t]?, N.2.2.2 t 0 with
    | some (6, 9), some tp => match N.1[tp]?, N.2.2.2 tp 0 with
      | some (8, 2), some by_ => bif decide (N.1[by_]? = some (21, 240)) && Nat.ble 1000010 w && Nat.blt w 1000015 && decide (0 ≤ (N.2.1 t 6).toInt) && decide ((N.2.1 t 6).toInt ≤ 240) && decide (0 ≤ (N.2.1 t 7).toInt) && decide ((N.2.1 t 7).toInt ≤ 240) then
          some (some (.int (if N.2.1 t 5 = 1 ∧ N.2.1 t 7 - N.2.1 t 6 = nI (aStr.getD (w - 1000010) []).length ∧ ∀ j : Nat, j < (aStr.getD (w - 1000010) []).length → N.2.1 by_ ((N.2.1 t 6).toNatClampNeg + j) = (aStr.getD (w - 1000010) []).getD j 0 then 1 else 0)), N) else none
      | _, _ => none
    | _, _ => none
  | _, _ => none
def aX (al : Bool) : Nat → Nat → aS → Option (Option Value × aV)
  | 0, _, _ => none
  | n + 1, mid, s => match aStp al mid s with
    | some (.inl s') => aX al n mid s'
    | some (.inr (.inl r)) => some r
    | some (.inr (.inr q)) => match (bif Nat.beq q.1 mIsName then aNm q.2.1 q.2.2.2.2.2 else aX al n q.1 (aEn q.1 q.2.1 q.2.2.2.2.2)) with
      | some v => aX al n mid (q.2.2.1, q.2.2.2.1, v.1.toList ++ q.2.2.2.2.1, v.2)
      | none => none
    | none => none
