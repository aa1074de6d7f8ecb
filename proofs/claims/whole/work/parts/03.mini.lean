/-! THE SMALL MACHINE: the bytecode of this system over a heap of numbers, longs and references by place. -/
/-- its heap: the next free place, tags, lengths, ints, longs, references -/
abbrev ZH : Type := Nat × (Nat → Nat) × (Nat → Nat) × (Nat → Int32 → Int32) × (Nat → Int32 → Int64) × (Nat → Int32 → Option Nat)
/-- what an instruction does: the next frame -/
abbrev ZA : Type := Nat × List (Option Value) × List Value × ZH
def zu {α : Type} (f : Nat → Int32 → α) (a : Nat) (k : Int32) (v : α) : Nat → Int32 → α := fun b j => if b = a ∧ j = k then v else f b j
def zp {α : Type} (f : Nat → α) (a : Nat) (v : α) : Nat → α := fun b => if b = a then v else f b
def zrf (r : Option Nat) : Value := match r with
  | some q => .ref q
  | none => .null
abbrev zN (pc : Nat) (ls : List (Option Value)) (st : List Value) (h : ZH) : Option ZA := some (pc, ls, st, h)
def zgo (pc : Nat) (off : Int) (ls : List (Option Value)) (st : List Value) (h : ZH) : Option ZA := match (pc : Int) + off with
  | .ofNat t => zN t ls st h
  | .negSucc _ => none
def zbr (q : Bool) (pc : Nat) (off : Int) (ls : List (Option Value)) (st : List Value) (h : ZH) : Option ZA := match (pc : Int) + off with
  | .ofNat t => bif q then zN t ls st h else zN (pc + 3) ls st h
  | .negSucc _ => none
def zcmp (c : ClassFile.Cond) (x y : Int32) : Bool := match c with
  | .eq => decide (x = y)
  | .ne => decide (¬ x = y)
  | .lt => decide (x < y)
  | .ge => decide (y ≤ x)
  | .gt => decide (y < x)
  | .le => decide (x ≤ y)
def zdrop (o : Option Value) : Option Value := match o with
  | some (.long _) => none
  | some (.double _) => none
  | o => o
/-- storing at a place: a long whose second half lay there is gone -/
def zst (ls : List (Option Value)) (i : Nat) (v : Value) : List (Option Value) := match i with
  | 0 => ls.set 0 (some v)
  | i + 1 => (ls.modify i zdrop).set (i + 1) (some v)
def zst1 (pc : Nat) (ls : List (Option Value)) (i : Nat) (v : Value) (st : List Value) (h : ZH) : Option ZA :=
  bif Nat.blt i ls.length then zN pc (zst ls i v) st h else none
def zst2 (pc : Nat) (ls : List (Option Value)) (i : Nat) (v : Int64) (st : List Value) (h : ZH) : Option ZA :=
  bif Nat.blt (i + 1) ls.length then zN pc ((zst ls i (.long v)).set (i + 1) none) st h else none
def zldi (pc : Nat) (ls : List (Option Value)) (i : Nat) (st : List Value) (h : ZH) : Option ZA := match ls[i]? with
  | some (some (.int x)) => zN pc ls (.int x :: st) h
  | _ => none
def zldl (pc : Nat) (ls : List (Option Value)) (i : Nat) (st : List Value) (h : ZH) : Option ZA := match ls[i]? with
  | some (some (.long x)) => zN pc ls (.long x :: st) h
  | _ => none
def zlda (pc : Nat) (ls : List (Option Value)) (i : Nat) (st : List Value) (h : ZH) : Option ZA := match ls[i]? with
  | some (some (.ref x)) => zN pc ls (.ref x :: st) h
  | some (some .null) => zN pc ls (.null :: st) h
  | _ => none
/-- the locals at a method's start -/
def zarg : List Value → List (Option Value)
  | [] => []
  | .long x :: vs => some (.long x) :: none :: zarg vs
  | .double x :: vs => some (.double x) :: none :: zarg vs
  | v :: vs => some v :: zarg vs
def zent (mL : Nat) (As : List Value) : List (Option Value) := zarg As ++ List.replicate (mL - (zarg As).length) none
def zin (i : Int32) (n : Nat) : Bool := decide (0 ≤ i) && decide (i < Int32.ofNat n)
/-- kinds of fields: 0 int, 1 long, 2 a reference -/
def zfk (ci k : Nat) : Nat := match zty ci k with
  | .int => 0
  | .boolean => 0
  | .long => 1
  | _ => 2
def zfin (ci k : Nat) : Bool := match zcl[ci]? with
  | some q => (q.2.1 k).2.2.2
  | none => true
def zisb (ci k : Nat) : Bool := match zty ci k with
  | .boolean => true
  | _ => false
def zsumc (st : List Value) : Nat := (st.map fun v => v.category).sum
/-- new cells -/
def znew (h : ZH) (t n : Nat) : ZH := (h.1 + 1, zp h.2.1 h.1 t, zp h.2.2.1 h.1 n, zp h.2.2.2.1 h.1 (fun _ => 0), zp h.2.2.2.2.1 h.1 (fun _ => 0), zp h.2.2.2.2.2 h.1 (fun _ => none))
def zI (h : ZH) (f : Nat → Int32 → Int32) : ZH := (h.1, h.2.1, h.2.2.1, f, h.2.2.2.2.1, h.2.2.2.2.2)
def zJ (h : ZH) (f : Nat → Int32 → Int64) : ZH := (h.1, h.2.1, h.2.2.1, h.2.2.2.1, f, h.2.2.2.2.2)
def zO (h : ZH) (f : Nat → Int32 → Option Nat) : ZH := (h.1, h.2.1, h.2.2.1, h.2.2.2.1, h.2.2.2.2.1, f)
/-- arraycopy from place 0 to place 0 -/
def zcpy (f : Nat → Int32 → Int32) (a b : Nat) (n : Int32) : Nat → Int32 → Int32 := fun q j => if q = a ∧ 0 ≤ j ∧ j < n then f b j else f q j
def zfm (h : ZH) (ci a k : Nat) : Value := match zfk ci k with
  | 0 => .int (h.2.2.2.1 a (nI k))
  | 1 => .long (h.2.2.2.2.1 a (nI k))
  | _ => zrf (h.2.2.2.2.2 a (nI k))
def zput (h : ZH) (ci a k : Nat) (v : Value) : Option ZH := match zfk ci k, v with
  | 0, .int x => bif !(zisb ci k) || decide (x = 0) || decide (x = 1) then some (zI h (zu h.2.2.2.1 a (nI k) x)) else none
  | 1, .long x => some (zJ h (zu h.2.2.2.2.1 a (nI k) x))
  | 2, .ref x => some (zO h (zu h.2.2.2.2.2 a (nI k) (some x)))
  | 2, .null => some (zO h (zu h.2.2.2.2.2 a (nI k) none))
  | _, _ => none
def zact (mi pc : Nat) (ins : Instr) (ls : List (Option Value)) (st : List Value) (h : ZH) : Option ZA := match ins with
  | .iconst c => zN (pc + 1) ls (.int (Int32.ofInt c) :: st) h
  | .bipush c => zN (pc + 2) ls (.int (Int8.ofInt c).toInt32 :: st) h
  | .sipush c => zN (pc + 3) ls (.int (Int16.ofInt c).toInt32 :: st) h
  | .lconst c => zN (pc + 1) ls (.long (Int64.ofNat (c : Nat)) :: st) h
  | .aconst_null => zN (pc + 1) ls (.null :: st) h
  | .ldc i => match zk1 (zown mi) i with
    | some (v, _) => zN (pc + 2) ls (v :: st) h
    | none => none
  | .ldc_w i => match zk1 (zown mi) i with
    | some (.int v, _) => zN (pc + 3) ls (.int v :: st) h
    | _ => none
  | .ldc2_w i => match zk2 (zown mi) i with
    | some (.long v, _) => zN (pc + 3) ls (.long v :: st) h
    | _ => none
  | .iload_n k => zldi (pc + 1) ls (k : Nat) st h
  | .iload k => zldi (pc + 2) ls k st h
  | .lload_n k => zldl (pc + 1) ls (k : Nat) st h
  | .lload k => zldl (pc + 2) ls k st h
  | .aload_n k => zlda (pc + 1) ls (k : Nat) st h
  | .aload k => zlda (pc + 2) ls k st h
  | .istore_n k => match st with
    | .int v :: st => zst1 (pc + 1) ls (k : Nat) (.int v) st h
    | _ => none
  | .istore k => match st with
    | .int v :: st => zst1 (pc + 2) ls k (.int v) st h
    | _ => none
  | .lstore_n k => match st with
    | .long v :: st => zst2 (pc + 1) ls (k : Nat) v st h
    | _ => none
  | .lstore k => match st with
    | .long v :: st => zst2 (pc + 2) ls k v st h
    | _ => none
  | .astore_n k => match st with
    | .ref v :: st => zst1 (pc + 1) ls (k : Nat) (.ref v) st h
    | .null :: st => zst1 (pc + 1) ls (k : Nat) .null st h
    | _ => none
  | .astore k => match st with
    | .ref v :: st => zst1 (pc + 2) ls k (.ref v) st h
    | .null :: st => zst1 (pc + 2) ls k .null st h
    | _ => none
  | .iinc k c => match ls[k]? with
    | some (some (.int x)) => zst1 (pc + 3) ls k (.int (x + Int32.ofInt c)) st h
    | _ => none
  | .iadd => match st with
    | .int y :: .int x :: st => zN (pc + 1) ls (.int (x + y) :: st) h
    | _ => none
  | .isub => match st with
    | .int y :: .int x :: st => zN (pc + 1) ls (.int (x - y) :: st) h
    | _ => none
  | .imul => match st with
    | .int y :: .int x :: st => zN (pc + 1) ls (.int (x * y) :: st) h
    | _ => none
  | .iand => match st with
    | .int y :: .int x :: st => zN (pc + 1) ls (.int (x &&& y) :: st) h
    | _ => none
  | .ior => match st with
    | .int y :: .int x :: st => zN (pc + 1) ls (.int (x ||| y) :: st) h
    | _ => none
  | .ixor => match st with
    | .int y :: .int x :: st => zN (pc + 1) ls (.int (x ^^^ y) :: st) h
    | _ => none
  | .idiv => match st with
    | .int y :: .int x :: st => if y = 0 then none else zN (pc + 1) ls (.int (x / y) :: st) h
    | _ => none
  | .irem => match st with
    | .int y :: .int x :: st => if y = 0 then none else zN (pc + 1) ls (.int (x - x / y * y) :: st) h
    | _ => none
  | .ishl => match st with
    | .int y :: .int x :: st => zN (pc + 1) ls (.int (x <<< (y &&& 31)) :: st) h
    | _ => none
  | .ishr => match st with
    | .int y :: .int x :: st => zN (pc + 1) ls (.int (x >>> (y &&& 31)) :: st) h
    | _ => none
  | .iushr => match st with
    | .int y :: .int x :: st => zN (pc + 1) ls (.int (x.toUInt32 >>> (y.toUInt32 &&& Int32.toUInt32 31)).toInt32 :: st) h
    | _ => none
  | .ladd => match st with
    | .long y :: .long x :: st => zN (pc + 1) ls (.long (x + y) :: st) h
    | _ => none
  | .lmul => match st with
    | .long y :: .long x :: st => zN (pc + 1) ls (.long (x * y) :: st) h
    | _ => none
  | .land => match st with
    | .long y :: .long x :: st => zN (pc + 1) ls (.long (x &&& y) :: st) h
    | _ => none
  | .lor => match st with
    | .long y :: .long x :: st => zN (pc + 1) ls (.long (x ||| y) :: st) h
    | _ => none
  | .lxor => match st with
    | .long y :: .long x :: st => zN (pc + 1) ls (.long (x ^^^ y) :: st) h
    | _ => none
  | .ldiv => match st with
    | .long y :: .long x :: st => if y = 0 then none else zN (pc + 1) ls (.long (x / y) :: st) h
    | _ => none
  | .lrem => match st with
    | .long y :: .long x :: st => if y = 0 then none else zN (pc + 1) ls (.long (x - x / y * y) :: st) h
    | _ => none
  | .lneg => match st with
    | .long x :: st => zN (pc + 1) ls (.long (-x) :: st) h
    | _ => none
  | .lshl => match st with
    | .int y :: .long x :: st => zN (pc + 1) ls (.long (x <<< (y.toInt64 &&& 63)) :: st) h
    | _ => none
  | .lcmp => match st with
    | .long y :: .long x :: st => zN (pc + 1) ls (.int (lg_cmp x y) :: st) h
    | _ => none
  | .i2l => match st with
    | .int x :: st => zN (pc + 1) ls (.long x.toInt64 :: st) h
    | _ => none
  | .l2i => match st with
    | .long x :: st => zN (pc + 1) ls (.int x.toInt32 :: st) h
    | _ => none
  | .dup => match st with
    | .ref v :: st => zN (pc + 1) ls (.ref v :: .ref v :: st) h
    | .int v :: st => zN (pc + 1) ls (.int v :: .int v :: st) h
    | _ => none
  | .dup2 => match st with
    | .int y :: .ref x :: st => zN (pc + 1) ls (.int y :: .ref x :: .int y :: .ref x :: st) h
    | _ => none
  | .pop => match st with
    | .int _ :: st => zN (pc + 1) ls st h
    | _ => none
  | .goto off => zgo pc off ls st h
  | .ifCond c off => match st with
    | .int x :: st => zbr (zcmp c x 0) pc off ls st h
    | _ => none
  | .if_icmp c off => match st with
    | .int y :: .int x :: st => zbr (zcmp c x y) pc off ls st h
    | _ => none
  | .ifnull off => match st with
    | .ref _ :: st => zN (pc + 3) ls st h
    | .null :: st => zgo pc off ls st h
    | _ => none
  | .ifnonnull off => match st with
    | .ref _ :: st => zgo pc off ls st h
    | .null :: st => zN (pc + 3) ls st h
    | _ => none
  | .tableswitch dflt lo hi offs => match st with
    | .int x :: st => if x.toInt < lo ∨ hi < x.toInt then zgo pc dflt ls st h else match offs[(x.toInt - lo).toNat]? with
      | some off => zgo pc off ls st h
      | none => none
    | _ => none
  | .getfield i => match zfl (zown mi) i, st with
    | some (ci, k, _), .ref a :: st => bif Nat.beq (h.2.1 a) (ci + 1) then zN (pc + 3) ls (zfm h ci a k :: st) h else none
    | _, _ => none
  | .putfield i => match zfl (zown mi) i, st with
    | some (ci, k, _), v :: .ref a :: st => bif Nat.beq (h.2.1 a) (ci + 1) && (!(zfin ci k) || (Nat.beq (zown mi) ci && decide ((zy mi).name = "<init>"))) then (match zput h ci a k v with
        | some h' => zN (pc + 3) ls st h'
        | none => none) else none
    | _, _ => none
  | .iaload => match st with
    | .int i :: .ref a :: st => bif (Nat.beq (h.2.1 a) 20 || Nat.beq (h.2.1 a) 30) && zin i (h.2.2.1 a) then zN (pc + 1) ls (.int (h.2.2.2.1 a i) :: st) h else none
    | _ => none
  | .baload => match st with
    | .int i :: .ref a :: st => bif Nat.beq (h.2.1 a) 22 && zin i (h.2.2.1 a) then zN (pc + 1) ls (.int (h.2.2.2.1 a i) :: st) h else none
    | _ => none
  | .laload => match st with
    | .int i :: .ref a :: st => bif Nat.beq (h.2.1 a) 21 && zin i (h.2.2.1 a) then zN (pc + 1) ls (.long (h.2.2.2.2.1 a i) :: st) h else none
    | _ => none
  | .aaload => match st with
    | .int i :: .ref a :: st => bif (Nat.beq (h.2.1 a) 23 || Nat.beq (h.2.1 a) 24 || Nat.beq (h.2.1 a) 25) && zin i (h.2.2.1 a) then zN (pc + 1) ls (zrf (h.2.2.2.2.2 a i) :: st) h else none
    | _ => none
  | .iastore => match st with
    | .int x :: .int i :: .ref a :: st => bif Nat.beq (h.2.1 a) 20 && zin i (h.2.2.1 a) then zN (pc + 1) ls st (zI h (zu h.2.2.2.1 a i x)) else none
    | _ => none
  | .bastore => match st with
    | .int x :: .int i :: .ref a :: st => bif Nat.beq (h.2.1 a) 22 && zin i (h.2.2.1 a) && (decide (x = 0) || decide (x = 1)) then zN (pc + 1) ls st (zI h (zu h.2.2.2.1 a i x)) else none
    | _ => none
  | .lastore => match st with
    | .long x :: .int i :: .ref a :: st => bif Nat.beq (h.2.1 a) 21 && zin i (h.2.2.1 a) then zN (pc + 1) ls st (zJ h (zu h.2.2.2.2.1 a i x)) else none
    | _ => none
  | .aastore => match st with
    | .ref q :: .int i :: .ref a :: st => bif ((Nat.beq (h.2.1 a) 23 && Nat.beq (h.2.1 q) 5) || (Nat.beq (h.2.1 a) 24 && Nat.beq (h.2.1 q) 1) || (Nat.beq (h.2.1 a) 25 && Nat.beq (h.2.1 q) 3)) && zin i (h.2.2.1 a) then zN (pc + 1) ls st (zO h (zu h.2.2.2.2.2 a i (some q))) else none
    | .null :: .int i :: .ref a :: st => bif (Nat.beq (h.2.1 a) 23 || Nat.beq (h.2.1 a) 24 || Nat.beq (h.2.1 a) 25) && zin i (h.2.2.1 a) then zN (pc + 1) ls st (zO h (zu h.2.2.2.2.2 a i none)) else none
    | _ => none
  | .arraylength => match st with
    | .ref a :: st => bif Nat.beq (h.2.1 a) 20 || Nat.beq (h.2.1 a) 30 then zN (pc + 1) ls (.int (Int32.ofNat (h.2.2.1 a)) :: st) h else none
    | _ => none
  | .new i => match zkl (zown mi) i with
    | some (ci, _) => zN (pc + 3) ls (.ref h.1 :: st) (znew h (ci + 1) 0)
    | none => none
  | .newarray ty => match st with
    | .int n :: st => bif decide (0 ≤ n) && decide (n ≤ 4096) then (match ty with
        | .int => zN (pc + 2) ls (.ref h.1 :: st) (znew h 20 n.toNatClampNeg)
        | .long => zN (pc + 2) ls (.ref h.1 :: st) (znew h 21 n.toNatClampNeg)
        | .boolean => zN (pc + 2) ls (.ref h.1 :: st) (znew h 22 n.toNatClampNeg)
        | _ => none) else none
    | _ => none
  | .anewarray i => match zkl (zown mi) i, st with
    | some (ci, _), .int n :: st => bif decide (0 ≤ n) && decide (n ≤ 4096) then (match ci with
        | 4 => zN (pc + 3) ls (.ref h.1 :: st) (znew h 23 n.toNatClampNeg)
        | 0 => zN (pc + 3) ls (.ref h.1 :: st) (znew h 24 n.toNatClampNeg)
        | 2 => zN (pc + 3) ls (.ref h.1 :: st) (znew h 25 n.toNatClampNeg)
        | _ => none) else none
    | _, _ => none
  | .invokevirtual i => match zml (zown mi) i with
    | some (12, _, _) => (match st with
      | .ref a :: rest => bif Nat.beq (h.2.1 a) 31 && Nat.ble (zsumc rest) 8 then zN (pc + 3) ls (.int (Int32.ofNat (h.2.2.1 a)) :: rest) h else none
      | _ => none)
    | some (13, _, _) => (match st with
      | .int i :: .ref a :: rest => bif Nat.beq (h.2.1 a) 31 && zin i (h.2.2.1 a) && Nat.ble (zsumc rest) 8 then zN (pc + 3) ls (.int (h.2.2.2.1 a i) :: rest) h else none
      | _ => none)
    | _ => none
  | .invokespecial i => match zml (zown mi) i with
    | some (10, _, _) => (match st with
      | .ref _ :: rest => bif Nat.ble (zsumc rest) 8 then zN (pc + 3) ls rest h else none
      | _ => none)
    | _ => none
  | .invokestatic i => match zml (zown mi) i with
    | some (11, _, _) => (match st with
      | .int n :: .int d :: .ref a :: .int s :: .ref b :: rest => bif Nat.beq (h.2.1 a) 20 && Nat.beq (h.2.1 b) 20 && decide (d = 0) && decide (s = 0) && decide (0 ≤ n) && decide (n ≤ Int32.ofNat (h.2.2.1 a)) && decide (n ≤ Int32.ofNat (h.2.2.1 b)) && Nat.ble (zsumc rest) 8 then zN (pc + 3) ls rest (zI h (zcpy h.2.2.2.1 a b n)) else none
      | _ => none)
    | _ => none
  | _ => none
/-- an answer -/
def zretf (mi : Nat) (ins : Instr) (st : List Value) : Option (Option Value) := match ins with
  | .ireturn => match st with
    | [.int x] => bif Nat.beq (zret mi) 1 || (Nat.beq (zret mi) 2 && (decide (x = 0) || decide (x = 1))) then some (some (.int x)) else none
    | _ => none
  | .lreturn => match st with
    | [.long x] => bif Nat.beq (zret mi) 3 then some (some (.long x)) else none
    | _ => none
  | .areturn => match st with
    | [.ref x] => bif Nat.beq (zret mi) 4 then some (some (.ref x)) else none
    | [.null] => bif Nat.beq (zret mi) 4 then some (some .null) else none
    | _ => none
  | .return_ => match st with
    | [] => bif Nat.beq (zret mi) 0 then some none else none
    | _ => none
  | _ => none
/-- a call: the method, what it is given, what is left on the stack -/
def zcallf (mi : Nat) (ins : Instr) (st : List Value) (h : ZH) : Option (Nat × List Value × List Value) := match ins with
  | .invokevirtual i => match zml (zown mi) i with
    | some (0, mj, _) => (match zq mj with
      | some (oj, mL, _, np, _) => (match st.drop np with
        | .ref a :: rest => bif Nat.beq (h.2.1 a) (oj + 1) && Nat.ble (zsumc rest) 8 && Nat.ble (zarg (.ref a :: (st.take np).reverse)).length mL then some (mj, .ref a :: (st.take np).reverse, rest) else none
        | _ => none)
      | none => none)
    | _ => none
  | .invokespecial i => match zml (zown mi) i with
    | some (kd, mj, _) => bif Nat.beq kd 1 || Nat.beq kd 2 then (match zq mj with
      | some (_, mL, _, np, _) => (match st.drop np with
        | .ref a :: rest => bif Nat.ble (zsumc rest) 8 && Nat.ble (zarg (.ref a :: (st.take np).reverse)).length mL then some (mj, .ref a :: (st.take np).reverse, rest) else none
        | _ => none)
      | none => none) else none
    | none => none
  | .invokestatic i => match zml (zown mi) i with
    | some (3, mj, _) => (match zq mj with
      | some (_, mL, _, np, _) => bif Nat.ble np st.length && Nat.ble (zsumc (st.drop np)) 8 && Nat.ble (zarg (st.take np).reverse).length mL then some (mj, (st.take np).reverse, st.drop np) else none
      | none => none)
    | _ => none
  | _ => none
/-- the locals with which a call of mj begins -/
def zentry (mj : Nat) (As : List Value) : List (Option Value) := match zq mj with
  | some q => zent q.2.1 As
  | none => []
def zex : Nat → Nat → Nat → List (Option Value) → List Value → ZH → Option (Option Value × ZH)
  | 0, _, _, _, _, _ => none
  | n + 1, mi, pc, ls, st, h => match zC mi pc with
    | none => none
    | some (ins, _) => match zretf mi ins st with
      | some v => some (v, h)
      | none => match zcallf mi ins st h with
        | some (mj, As, rest) => (match zex n mj 0 (zentry mj As) [] h with
          | none => none
          | some (v, h') => zex n mi (pc + 3) ls (v.toList ++ rest) h')
        | none => match zact mi pc ins ls st h with
          | none => none
          | some (pc', ls', st', h') => bif Nat.ble h.1 h'.1 then zex n mi pc' ls' st' h' else none
def Runs (mi pc : Nat) (ls : List (Option Value)) (st : List Value) (h : ZH) (Q : Option Value → ZH → Prop) : Prop := ∃ (n : Nat) (v : Option Value) (h' : ZH), zex n mi pc ls st h = some (v, h') ∧ Q v h'
theorem zex_mono : ∀ (n k : Nat) (mi pc : Nat) (ls : List (Option Value)) (st : List Value) (h : ZH) (r : Option Value × ZH), zex n mi pc ls st h = some r → n ≤ k → zex k mi pc ls st h = some r := by
  intro n
  induction n with
  | zero => intro k mi pc ls st h r hr; simp [zex] at hr
  | succ n ih =>
    intro k mi pc ls st h r hr hk
    obtain ⟨k, rfl⟩ : ∃ j, k = j + 1 := ⟨k - 1, by omega⟩
    have hk' : n ≤ k := by omega
    unfold zex at hr ⊢
    cases hc : zC mi pc with
    | none => rw [hc] at hr; cases hr
    | some e =>
      obtain ⟨ins, len⟩ := e
      rw [hc] at hr
      dsimp only at hr ⊢
      cases ha : zretf mi ins st with
      | some v => rw [ha] at hr; exact hr
      | none =>
        rw [ha] at hr
        dsimp only at hr ⊢
        cases hb : zcallf mi ins st h with
        | some x =>
          obtain ⟨mj, As, rest⟩ := x
          rw [hb] at hr
          dsimp only at hr ⊢
          cases hz : zex n mj 0 (zentry mj As) [] h with
          | none => rw [hz] at hr; cases hr
          | some q =>
            obtain ⟨v, h'⟩ := q
            rw [hz] at hr
            rw [ih k _ _ _ _ _ _ hz hk']
            exact ih k _ _ _ _ _ r hr hk'
        | none =>
          rw [hb] at hr
          dsimp only at hr ⊢
          cases hx : zact mi pc ins ls st h with
          | none => rw [hx] at hr; cases hr
          | some x =>
            obtain ⟨pc', ls', st', h'⟩ := x
            rw [hx] at hr
            dsimp only at hr ⊢
            cases hq : Nat.ble h.1 h'.1 with
            | false => rw [hq] at hr; cases hr
            | true => rw [hq] at hr; exact ih k _ _ _ _ _ r hr hk'
theorem zex_le : ∀ (n : Nat) (mi pc : Nat) (ls : List (Option Value)) (st : List Value) (h : ZH) (v : Option Value) (hf : ZH), zex n mi pc ls st h = some (v, hf) → h.1 ≤ hf.1 := by
  intro n
  induction n with
  | zero => intro mi pc ls st h v hf hr; simp [zex] at hr
  | succ n ih =>
    intro mi pc ls st h v hf hr
    unfold zex at hr
    cases hc : zC mi pc with
    | none => rw [hc] at hr; cases hr
    | some e =>
      obtain ⟨ins, len⟩ := e
      rw [hc] at hr
      dsimp only at hr
      cases ha : zretf mi ins st with
      | some v => rw [ha] at hr; cases hr; exact Nat.le_refl _
      | none =>
        rw [ha] at hr
        dsimp only at hr
        cases hb : zcallf mi ins st h with
        | some x =>
          obtain ⟨mj, As, rest⟩ := x
          rw [hb] at hr
          dsimp only at hr
          cases hz : zex n mj 0 (zentry mj As) [] h with
          | none => rw [hz] at hr; cases hr
          | some q =>
            obtain ⟨v, h'⟩ := q
            rw [hz] at hr
            exact Nat.le_trans (ih _ _ _ _ _ _ _ hz) (ih _ _ _ _ _ _ _ hr)
        | none =>
          rw [hb] at hr
          dsimp only at hr
          cases hx : zact mi pc ins ls st h with
          | none => rw [hx] at hr; cases hr
          | some x =>
            obtain ⟨pc', ls', st', h'⟩ := x
            rw [hx] at hr
            dsimp only at hr
            cases hq : Nat.ble h.1 h'.1 with
            | false => rw [hq] at hr; cases hr
            | true => rw [hq] at hr; exact Nat.le_trans (Nat.ble_eq.mp hq) (ih _ _ _ _ _ _ _ hr)
theorem zex_eq {n mi pc : Nat} {ins : Instr} {len : Nat} {ls : List (Option Value)} {st : List Value} {h : ZH} (hc : zC mi pc = some (ins, len)) : zex (n + 1) mi pc ls st h = (match zretf mi ins st with
      | some v => some (v, h)
      | none => match zcallf mi ins st h with
        | some (mj, As, rest) => (match zex n mj 0 (zentry mj As) [] h with
          | none => none
          | some (v, h') => zex n mi (pc + 3) ls (v.toList ++ rest) h')
        | none => match zact mi pc ins ls st h with
          | none => none
          | some (pc', ls', st', h') => bif Nat.ble h.1 h'.1 then zex n mi pc' ls' st' h' else none) := by
  conv => lhs; unfold zex
  rw [hc]
theorem Rn {mi pc pc' len : Nat} {ins : Instr} {ls ls' : List (Option Value)} {st st' : List Value} {h h' : ZH} {Q : Option Value → ZH → Prop} (hc : zC mi pc = some (ins, len)) (h1 : zretf mi ins st = none) (h2 : zcallf mi ins st h = none) (ha : zact mi pc ins ls st h = some (pc', ls', st', h')) (hle : h.1 ≤ h'.1) : Runs mi pc ls st h Q ↔ Runs mi pc' ls' st' h' Q := by
  have key : ∀ n, zex (n + 1) mi pc ls st h = zex n mi pc' ls' st' h' := fun n => by
    rw [zex_eq hc, h1]
    dsimp only
    rw [h2]
    dsimp only
    rw [ha]
    dsimp only
    rw [Nat.ble_eq.mpr hle]
    rfl
  constructor
  · rintro ⟨n, v, g, hn, hq⟩
    cases n with
    | zero => simp [zex] at hn
    | succ n => exact ⟨n, v, g, by rw [← key]; exact hn, hq⟩
  · rintro ⟨n, v, g, hn, hq⟩
    exact ⟨n + 1, v, g, by rw [key]; exact hn, hq⟩
theorem Rr {mi pc len : Nat} {ins : Instr} {ls : List (Option Value)} {st : List Value} {h : ZH} {v : Option Value} {Q : Option Value → ZH → Prop} (hc : zC mi pc = some (ins, len)) (ha : zretf mi ins st = some v) : Runs mi pc ls st h Q ↔ Q v h := by
  have key : ∀ n, zex (n + 1) mi pc ls st h = some (v, h) := fun n => by rw [zex_eq hc, ha]
  constructor
  · rintro ⟨n, w, g, hn, hq⟩
    cases n with
    | zero => simp [zex] at hn
    | succ n => rw [key] at hn; cases hn; exact hq
  · intro hq
    exact ⟨1, v, h, key 0, hq⟩
theorem Rk {mi pc len mj : Nat} {ins : Instr} {ls : List (Option Value)} {st As rest : List Value} {h : ZH} {Q : Option Value → ZH → Prop} (hc : zC mi pc = some (ins, len)) (h1 : zretf mi ins st = none) (ha : zcallf mi ins st h = some (mj, As, rest)) : Runs mi pc ls st h Q ↔ Runs mj 0 (zentry mj As) [] h (fun v h' => Runs mi (pc + 3) ls (v.toList ++ rest) h' Q) := by
  have key : ∀ n, zex (n + 1) mi pc ls st h = (match zex n mj 0 (zentry mj As) [] h with
          | none => none
          | some (v, h') => zex n mi (pc + 3) ls (v.toList ++ rest) h') := fun n => by
    rw [zex_eq hc, h1]
    dsimp only
    rw [ha]
  constructor
  · rintro ⟨n, w, g, hn, hq⟩
    cases n with
    | zero => simp [zex] at hn
    | succ n =>
      rw [key] at hn
      cases hz : zex n mj 0 (zentry mj As) [] h with
      | none => rw [hz] at hn; cases hn
      | some q =>
        obtain ⟨v, h'⟩ := q
        rw [hz] at hn
        exact ⟨n, v, h', hz, n, w, g, hn, hq⟩
  · rintro ⟨n, v, h', hz, k, w, g, hn, hq⟩
    refine ⟨max n k + 1, w, g, ?_, hq⟩
    rw [key, zex_mono n _ _ _ _ _ _ _ hz (Nat.le_max_left n k)]
    exact zex_mono k _ _ _ _ _ _ _ hn (Nat.le_max_right n k)
