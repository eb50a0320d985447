/-! A pure interpreter of resolved instructions: tables, heap, one step, a method's run, calls by depth. Nothing of the machine here. -/
/-- (operation, i, j, x, length) -/
abbrev zI : Type := Nat × Nat × Nat × Int × Nat
/-- a cell: its kind (0: not known; 1..19: an object of the class kind - 1, by its fields; 20..26: an array; 27, 28: an array that nobody writes), its contents -/
abbrev zC : Type := Nat × List Value
/-- the cells, the heap's size, the slots that were made so far -/
abbrev zH : Type := (Nat → zC) × Nat × Nat
/-- how a method ends: with a value or without, or by throwing the exception of that number -/
abbrev zO : Type := Option Value ⊕ Nat
/-- what a step leads to: the next place; a call (method, arguments, the stack that is left); the end -/
abbrev zS : Type := Option ((Nat × List Slot × List Value × zH) ⊕ ((Nat × List Value × List Value) ⊕ (zO × zH)))
/-- the program: instructions, locals, handlers (from, to, exception, the local that takes it, the number that is returned), switches, a new object's fields -/
abbrev zProg : Type := (Nat → Nat → zI) × (Nat → Nat) × (Nat → List (Nat × Nat × Nat × Nat × Int)) × (Nat → List (Int × Nat)) × (Nat → List Value)
def zup (h : zH) (a : Nat) (c : zC) : zH := (fun q => if q = a then c else h.1 q, h.2)
def znew (h : zH) (c : zC) (n : Nat) : zH := (fun q => if q = h.2.1 then c else h.1 q, h.2.1 + 1, h.2.2 + n)
def zty : Nat → Value → Bool
  | 0, .int _ => true
  | 1, .long _ => true
  | 2, .float _ => true
  | 3, .double _ => true
  | 4, .ref _ => true
  | 4, .null => true
  | 5, .int v => v == 0 || v == 1
  | 6, .int v => decide (-128 ≤ v) && decide (v ≤ 127)
  | 7, .int v => decide (0 ≤ v) && decide (v ≤ 65535)
  | _, _ => false
def zcond : Nat → Int32 → Int32 → Bool
  | 0, x, y => decide (x = y)
  | 1, x, y => decide (¬ x = y)
  | 2, x, y => decide (x < y)
  | 3, x, y => decide (y ≤ x)
  | 4, x, y => decide (y < x)
  | _, x, y => decide (x ≤ y)
def zbin : Nat → Int32 → Int32 → Option Int32
  | 0, x, y => some (x + y)
  | 1, x, y => some (x - y)
  | 2, x, y => some (x * y)
  | 3, x, y => some (x &&& y)
  | 4, x, y => some (x ||| y)
  | 5, x, y => some (x ^^^ y)
  | 6, x, y => some (x <<< (y &&& 31))
  | 7, x, y => some (x >>> (y &&& 31))
  | 8, x, y => if y = 0 then none else some (x / y)
  | 9, x, y => if y = 0 then none else some (x - x / y * y)
  | 10, x, y => some ((x.toUInt32 >>> (y.toUInt32 &&& Int32.toUInt32 31)).toInt32)
  | _, _, _ => none
def zlbin : Nat → Int64 → Int64 → Option Int64
  | 0, x, y => some (x + y)
  | 1, x, y => some (x - y)
  | 2, x, y => if y = 0 then none else some (x / y)
  | 3, x, y => if y = 0 then none else some (x - x / y * y)
  | _, _, _ => none
/-- one operand: negations and conversions -/
def zun : Nat → Value → Option Value
  | 0, .int x => some (.int (-x))
  | 1, .int x => some (.long x.toInt64)
  | 2, .long x => some (.int x.toInt32)
  | 3, .int x => some (.int (x.toUInt32 % 65536).toInt32)
  | 4, .int x => some (.int x.toInt8.toInt32)
  | 5, .int x => some (.double (FP.i2d x))
  | 6, .int x => some (.float (FP.i2f x))
  | 7, .float x => if FP.f2d x &&& 0x7fffffffffffffff ≤ 0x7ff0000000000000 then some (.double (FP.f2d x)) else none
  | 8, .long x => some (.long (-x))
  | _, _ => none
/-- an index into an array of n -/
def zix (i : Int32) (n : Nat) : Bool := decide (¬ i < 0) && decide (i.toNatClampNeg < n)
/-- what an array of a kind keeps of a value -/
def znar : Nat → Value → Option Value
  | 20, .int x => some (.int x)
  | 21, .int x => some (narrow .char (.int x))
  | 22, .long x => some (.long x)
  | 23, .double x => some (.double x)
  | 24, .int x => some (narrow .byte (.int x))
  | _, _ => none
/-- a new array's elements -/
def zel : Nat → Value
  | 22 => .long 0
  | 23 => .double 0
  | 25 => .null
  | 26 => .null
  | _ => .int 0
def zgo (pc : Nat) (ls : List Slot) (st : List Value) (h : zH) : zS := some (.inl (pc, ls, st, h))
def zld (t : Nat) (x : Option Slot) (k : Value → zS) : zS := match x with
  | some (.val v) => if zty t v then k v else none
  | _ => none
def zstore (t i pc : Nat) (ls : List Slot) (st : List Value) (h : zH) : zS := match st with
  | v :: st' => if zty t v then (match storeLocals ls.toArray i v with
    | some l => zgo pc l.toList st' h
    | none => none) else none
  | _ => none
def ziinc (i pc : Nat) (x : Int) (ls : List Slot) (st : List Value) (h : zH) : zS := match ls[i]? with
  | some (.val (.int v)) => (match storeLocals ls.toArray i (.int (v + Int32.ofInt x)) with
    | some l => zgo pc l.toList st h
    | none => none)
  | _ => none
/-- stack, heap -/
def zstk (o pc : Nat) (ls : List Slot) (st : List Value) (h : zH) : zS := match o with
  | 0 => (match st with
    | a :: st' => if a.category = 1 then zgo pc ls (a :: a :: st') h else none
    | _ => none)
  | 1 => (match st with
    | a :: b :: st' => if a.category = 1 ∧ b.category = 1 then zgo pc ls (a :: b :: a :: st') h else none
    | _ => none)
  | 2 => (match st with
    | a :: b :: d :: st' => if a.category = 1 ∧ b.category = 1 ∧ d.category = 1 then zgo pc ls (a :: b :: d :: a :: st') h else none
    | _ => none)
  | 3 => (match st with
    | a :: b :: st' => if a.category = 1 ∧ b.category = 1 then zgo pc ls (a :: b :: a :: b :: st') h else none
    | _ => none)
  | 4 => (match st with
    | a :: st' => if a.category = 1 then zgo pc ls st' h else none
    | _ => none)
  | _ => none
def zgetf (kd j pc : Nat) (ls : List Slot) (st : List Value) (h : zH) : zS := match st with
  | .ref a :: st' => if (h.1 a).1 = kd ∧ j < (h.1 a).2.length then zgo pc ls ((h.1 a).2.getD j .null :: st') h else none
  | _ => none
def zputf (kd j t pc : Nat) (ls : List Slot) (st : List Value) (h : zH) : zS := match st with
  | v :: .ref a :: st' => if (h.1 a).1 = kd ∧ j < (h.1 a).2.length ∧ zty t v = true then zgo pc ls st' (zup h a (kd, (h.1 a).2.set j v)) else none
  | _ => none
def zald (kd pc : Nat) (ls : List Slot) (st : List Value) (h : zH) : zS := match st with
  | .int i :: .ref a :: st' => if (h.1 a).1 = kd ∧ zix i (h.1 a).2.length = true then zgo pc ls ((h.1 a).2.getD i.toNatClampNeg .null :: st') h else none
  | _ => none
def zast (kd pc : Nat) (ls : List Slot) (st : List Value) (h : zH) : zS := match st with
  | v :: .int i :: .ref a :: st' => if (h.1 a).1 = kd ∧ zix i (h.1 a).2.length = true then (match znar kd v with
    | some w => zgo pc ls st' (zup h a (kd, (h.1 a).2.set i.toNatClampNeg w))
    | none => none) else none
  | _ => none
/-- into an array of references to objects of one kind -/
def zastq (kd ko pc : Nat) (ls : List Slot) (st : List Value) (h : zH) : zS := match st with
  | .ref b :: .int i :: .ref a :: st' => if (h.1 a).1 = kd ∧ (h.1 b).1 = ko ∧ zix i (h.1 a).2.length = true then zgo pc ls st' (zup h a (kd, (h.1 a).2.set i.toNatClampNeg (.ref b))) else none
  | .null :: .int i :: .ref a :: st' => if (h.1 a).1 = kd ∧ zix i (h.1 a).2.length = true then zgo pc ls st' (zup h a (kd, (h.1 a).2.set i.toNatClampNeg .null)) else none
  | _ => none
def zalen (pc : Nat) (ls : List Slot) (st : List Value) (h : zH) : zS := match st with
  | .ref a :: st' => if 20 ≤ (h.1 a).1 then zgo pc ls (.int (Int32.ofNat (h.1 a).2.length) :: st') h else none
  | _ => none
def znewo (P : zProg) (kd pc : Nat) (ls : List Slot) (st : List Value) (h : zH) : zS :=
  zgo pc ls (.ref h.2.1 :: st) (znew h (kd, P.2.2.2.2 kd) (P.2.2.2.2 kd).length)
def znewa (kd pc : Nat) (ls : List Slot) (st : List Value) (h : zH) : zS := match st with
  | .int n :: st' => if ¬ n < 0 ∧ n.toNatClampNeg ≤ 65536 then zgo pc ls (.ref h.2.1 :: st') (znew h (kd, List.replicate n.toNatClampNeg (zel kd)) n.toNatClampNeg) else none
  | _ => none
/-- System.arraycopy of bytes -/
def zcopy (pc : Nat) (ls : List Slot) (st : List Value) (h : zH) : zS := match st with
  | .int n :: .int dp :: .ref b :: .int sp :: .ref a :: st' =>
    if (h.1 a).1 = 24 ∧ (h.1 b).1 = 24 ∧ a ≠ b ∧ ¬ sp < 0 ∧ ¬ dp < 0 ∧ ¬ n < 0 ∧ sp.toNatClampNeg + n.toNatClampNeg ≤ (h.1 a).2.length ∧ dp.toNatClampNeg + n.toNatClampNeg ≤ (h.1 b).2.length ∧ st'.length ≤ 4 ∧ (h.1 a).2.all (zty 6) = true then
      zgo pc ls st' (zup h b (24, (h.1 b).2.take dp.toNatClampNeg ++ (((h.1 a).2.drop sp.toNatClampNeg).take n.toNatClampNeg ++ (h.1 b).2.drop (dp.toNatClampNeg + n.toNatClampNeg)))) else none
  | _ => none
/-- what runs without a frame of its own: arraycopy, Math.max, min of ints, abs of longs -/
def znat (o pc : Nat) (ls : List Slot) (st : List Value) (h : zH) : zS := match o with
  | 0 => zcopy pc ls st h
  | 1 => (match st with
    | .int y :: .int x :: st' => if st'.length ≤ 4 then zgo pc ls (.int (if x < y then y else x) :: st') h else none
    | _ => none)
  | 2 => (match st with
    | .int y :: .int x :: st' => if st'.length ≤ 4 then zgo pc ls (.int (if y < x then y else x) :: st') h else none
    | _ => none)
  | 3 => (match st with
    | .long x :: st' => if st'.length ≤ 4 then zgo pc ls (.long (if 0 < x then x else -x) :: st') h else none
    | _ => none)
  | _ => none
def zswt (P : zProg) (i j : Nat) (ls : List Slot) (st : List Value) (h : zH) : zS := match st with
  | .int x :: st' => zgo (((P.2.2.2.1 i).find? (fun q => q.1 == x.toInt)).elim j (fun q => q.2)) ls st' h
  | _ => none
def zcmp (o pc : Nat) (ls : List Slot) (st : List Value) (h : zH) : zS := match o with
  | 0 => (match st with
    | .long y :: .long x :: st' => zgo pc ls (.int (lg_cmp x y) :: st') h
    | _ => none)
  | 1 => (match st with
    | .double y :: .double x :: st' => zgo pc ls (.int (Op.cmpValue (FP.dcmp x y) .l) :: st') h
    | _ => none)
  | 2 => (match st with
    | .float y :: .float x :: st' => zgo pc ls (.int (Op.cmpValue (FP.fcmp x y) .l) :: st') h
    | _ => none)
  | 3 => (match st with
    | .double y :: .double x :: st' => if FP.ddiv x y &&& 0x7fffffffffffffff ≤ 0x7ff0000000000000 then zgo pc ls (.double (FP.ddiv x y) :: st') h else none
    | _ => none)
  | 4 => (match st with
    | .float y :: .float x :: st' => if FP.fdiv x y &&& 0x7fffffff ≤ 0x7f800000 then zgo pc ls (.float (FP.fdiv x y) :: st') h else none
    | _ => none)
  | _ => none
def zif (o j pc : Nat) (ls : List Slot) (st : List Value) (h : zH) : zS := match st with
  | .int x :: st' => if zcond o x 0 then zgo j ls st' h else zgo pc ls st' h
  | _ => none
def zicmp (o j pc : Nat) (ls : List Slot) (st : List Value) (h : zH) : zS := match st with
  | .int y :: .int x :: st' => if zcond o x y then zgo j ls st' h else zgo pc ls st' h
  | _ => none
/-- o = 0: goes to j on null -/
def zifn (o j pc : Nat) (ls : List Slot) (st : List Value) (h : zH) : zS := match st with
  | .null :: st' => zgo (if o = 0 then j else pc) ls st' h
  | .ref _ :: st' => zgo (if o = 0 then pc else j) ls st' h
  | _ => none
/-- the receiver, where there is one, is an object of that kind -/
def zrecv (kd : Nat) (vs : List Value) (h : zH) : Bool := kd == 0 || (match vs with
  | .ref b :: _ => (h.1 b).1 == kd
  | _ => false)
/-- few enough words stay on the stack -/
def zfew (st : List Value) (j : Nat) : Bool := Nat.ble (st.length - j) 4 || Nat.ble ((st.drop j).map fun v => v.category).sum 8
def zcalls (i j kd : Nat) (st : List Value) (h : zH) : zS := if j ≤ st.length ∧ zfew st j = true ∧ zrecv kd (st.take j).reverse h = true then some (.inr (.inl (i, (st.take j).reverse, st.drop j))) else none
def zrets (t : Nat) (st : List Value) (h : zH) : zS := match st with
  | [v] => if zty t v then some (.inr (.inr (.inl (some v), h))) else none
  | _ => none
def zstep (P : zProg) (sv : Nat → Value) (I : zI) (pc : Nat) (ls : List Slot) (st : List Value) (h : zH) : zS :=
  match I.1 with
  | 0 => zgo (pc + I.2.2.2.2) ls (.int (Int32.ofInt I.2.2.2.1) :: st) h
  | 1 => zgo (pc + I.2.2.2.2) ls (.null :: st) h
  | 2 => zgo (pc + I.2.2.2.2) ls (.long (Int64.ofInt I.2.2.2.1) :: st) h
  | 3 => zgo (pc + I.2.2.2.2) ls (.float FP.fconst0 :: st) h
  | 4 => zld I.2.2.1 (ls[I.2.1]?) (fun v => zgo (pc + I.2.2.2.2) ls (v :: st) h)
  | 5 => zstore I.2.2.1 I.2.1 (pc + I.2.2.2.2) ls st h
  | 6 => ziinc I.2.1 (pc + I.2.2.2.2) I.2.2.2.1 ls st h
  | 7 => (match st with
    | .int y :: .int x :: st' => (match zbin I.2.1 x y with
      | some v => zgo (pc + I.2.2.2.2) ls (.int v :: st') h
      | none => none)
    | _ => none)
  | 8 => (match st with
    | .long y :: .long x :: st' => (match zlbin I.2.1 x y with
      | some v => zgo (pc + I.2.2.2.2) ls (.long v :: st') h
      | none => none)
    | _ => none)
  | 9 => (match st with
    | v :: st' => (match zun I.2.1 v with
      | some w => zgo (pc + I.2.2.2.2) ls (w :: st') h
      | none => none)
    | _ => none)
  | 10 => zcmp I.2.1 (pc + I.2.2.2.2) ls st h
  | 11 => zstk I.2.1 (pc + I.2.2.2.2) ls st h
  | 12 => zif I.2.1 I.2.2.1 (pc + 3) ls st h
  | 13 => zicmp I.2.1 I.2.2.1 (pc + 3) ls st h
  | 14 => zifn I.2.1 I.2.2.1 (pc + 3) ls st h
  | 15 => zgo I.2.2.1 ls st h
  | 16 => zgetf I.2.1 I.2.2.1 (pc + 3) ls st h
  | 17 => zputf I.2.1 I.2.2.1 I.2.2.2.1.toNat (pc + 3) ls st h
  | 18 => zald I.2.1 (pc + 1) ls st h
  | 19 => zast I.2.1 (pc + 1) ls st h
  | 20 => zastq I.2.1 I.2.2.1 (pc + 1) ls st h
  | 21 => zalen (pc + 1) ls st h
  | 22 => znewo P I.2.1 (pc + 3) ls st h
  | 23 => znewa I.2.1 (pc + I.2.2.2.2) ls st h
  | 24 => zcalls I.2.1 I.2.2.1 I.2.2.2.1.toNat st h
  | 25 => (match st with
    | .ref _ :: st' => if st'.length ≤ 4 then zgo (pc + 3) ls st' h else none
    | _ => none)
  | 26 => zrets I.2.1 st h
  | 27 => (match st with
    | [] => some (.inr (.inr (.inl none, h)))
    | _ => none)
  | 28 => if st.length ≤ 4 then some (.inr (.inr (.inr I.2.1, znew h (0, []) 6))) else none
  | 29 => zswt P I.2.1 I.2.2.1 ls st h
  | 30 => zgo (pc + 3) ls (sv I.2.1 :: st) h
  | 31 => znat I.2.1 (pc + 3) ls st h
  | _ => none
/-- the handler of a method for an exception thrown by the call at pc; a method without handlers hands it on -/
def zcatch (P : zProg) (k pc E : Nat) (ls : List Slot) (h : zH) : Option (zO × zH) := match P.2.2.1 k with
  | [] => some (.inr E, h)
  | hs => (match hs.find? (fun q => decide (q.1 ≤ pc) && decide (pc < q.2.1) && decide (q.2.2.1 = E)) with
    | some q => if ls[q.2.2.2.1]? = some .unset then some (.inl (some (.int (Int32.ofInt q.2.2.2.2))), h) else none
    | none => none)
abbrev zCall : Type := Nat → List Value → zH → Option (zO × zH)
def zrun (P : zProg) (sv : Nat → Value) (C : zCall) (k pc : Nat) (ls : List Slot) (st : List Value) (h : zH) : Option (zO × zH) :=
  match zstep P sv (P.1 k pc) pc ls st h with
  | some (.inl q) => zrun P sv C k q.1 q.2.1 q.2.2.1 q.2.2.2
  | some (.inr (.inl q)) => (match C q.1 q.2.1 h with
    | some (.inl v, h') => zrun P sv C k (pc + 3) ls (v.toList ++ q.2.2) h'
    | some (.inr E, h') => zcatch P k pc E ls h'
    | none => none)
  | some (.inr (.inr q)) => some q
  | none => none
partial_fixpoint
/-- behind a call -/
def zback (P : zProg) (sv : Nat → Value) (C : zCall) (k pc : Nat) (ls : List Slot) (st : List Value) (r : Option (zO × zH)) : Option (zO × zH) := match r with
  | some (.inl v, h') => zrun P sv C k (pc + 3) ls (v.toList ++ st) h'
  | some (.inr E, h') => zcatch P k pc E ls h'
  | none => none
/-- the locals at a method's entry -/
def zent (vs : List Value) (n : Nat) : List Slot := lg_sl vs ++ List.replicate (n - (lg_sl vs).length) Slot.unset
def zcall (P : zProg) (sv : Nat → Value) : Nat → zCall
  | 0, _, _, _ => none
  | d + 1, k, vs, h => if (lg_sl vs).length ≤ P.2.1 k then zrun P sv (zcall P sv d) k 0 (zent vs (P.2.1 k)) [] h else none
