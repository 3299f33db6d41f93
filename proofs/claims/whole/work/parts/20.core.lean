/-! A small machine of my own over logical heaps: labels in place of addresses, three maps (ints, longs, references) in place of cells. Behind it: the real machine follows it. -/
abbrev jm_S : Nat := 1000000
def jm_ad (B b k : Nat) : Nat := if k = jm_S then b else B + k
def jm_rz (B b : Nat) (v : Value) : Value := match v with
  | .ref k => .ref (jm_ad B b k)
  | w => w
abbrev jm_H : Type := Nat × Nat × (Nat → Nat → Int32) × (Nat → Nat → Int64) × (Nat → Nat → Option Nat)
abbrev jm_F : Type := Nat → Option Value
def jm_n (g : jm_H) : Nat := g.1
def jm_j (g : jm_H) : Nat := g.2.1
def jm_i (g : jm_H) (a k : Nat) : Int32 := g.2.2.1 a k
def jm_l (g : jm_H) (a k : Nat) : Int64 := g.2.2.2.1 a k
def jm_r (g : jm_H) (a k : Nat) : Option Nat := g.2.2.2.2 a k
def jm_u {α : Type} (f : Nat → Nat → α) (a k : Nat) (v : α) : Nat → Nat → α := fun b j => if b = a then (if j = k then v else f b j) else f b j
def jm_ua {α : Type} (f : Nat → Nat → α) (a : Nat) (v : Nat → α) : Nat → Nat → α := fun b j => if b = a then v j else f b j
def jm_si (g : jm_H) (a k : Nat) (v : Int32) : jm_H := (g.1, g.2.1, jm_u g.2.2.1 a k v, g.2.2.2.1, g.2.2.2.2)
def jm_sl (g : jm_H) (a k : Nat) (v : Int64) : jm_H := (g.1, g.2.1, g.2.2.1, jm_u g.2.2.2.1 a k v, g.2.2.2.2)
def jm_sr (g : jm_H) (a k : Nat) (v : Option Nat) : jm_H := (g.1, g.2.1, g.2.2.1, g.2.2.2.1, jm_u g.2.2.2.2 a k v)
/-- a whole int row is written -/
def jm_sa (g : jm_H) (a : Nat) (v : Nat → Int32) : jm_H := (g.1, g.2.1, jm_ua g.2.2.1 a v, g.2.2.2.1, g.2.2.2.2)
/-- a new label, blank -/
def jm_new (g : jm_H) : jm_H := (g.1 + 1, g.2.1, jm_ua g.2.2.1 g.1 (fun _ => 0), jm_ua g.2.2.2.1 g.1 (fun _ => 0), jm_ua g.2.2.2.2 g.1 (fun _ => none))
/-- a cell that no label has: an exception -/
def jm_junk (g : jm_H) : jm_H := (g.1, g.2.1 + 1, g.2.2.1, g.2.2.2.1, g.2.2.2.2)
def jm_upd (f : jm_F) (i : Nat) (v : Option Value) : jm_F := fun j => if j = i then v else f j
def jm_lng (v : Option Value) : Bool := match v with
  | some (.long _) => true
  | some (.double _) => true
  | _ => false
/-- a store of one slot, of two -/
def jm_st1 (nL : Nat) (f : jm_F) (i : Nat) (v : Value) : Option jm_F := if i < nL ∧ ¬ (i ≠ 0 ∧ jm_lng (f (i - 1)) = true) then some (jm_upd f i (some v)) else none
def jm_st2 (nL : Nat) (f : jm_F) (i : Nat) (v : Value) : Option jm_F := if i + 1 < nL ∧ ¬ (i ≠ 0 ∧ jm_lng (f (i - 1)) = true) then some (jm_upd (jm_upd f (i + 1) none) i (some v)) else none
def jm_ent (av : List Value) : jm_F := fun i => (lv_args 0 av).lookup i
def jm_len (i : Instr) (len : Nat) : Nat := match i with
  | .bipush _ => 2
  | .sipush _ => 3
  | .iload _ => 2
  | .lload _ => 2
  | .aload _ => 2
  | .istore _ => 2
  | .lstore _ => 2
  | .astore _ => 2
  | .ldc _ => 2
  | .ldc2_w _ => 3
  | .iinc _ _ => 3
  | .ifCond _ _ => 3
  | .if_icmp _ _ => 3
  | .goto _ => 3
  | .getfield _ => 3
  | .putfield _ => 3
  | .new _ => 3
  | .anewarray _ => 3
  | .newarray _ => 2
  | .invokestatic _ => 3
  | .invokevirtual _ => 3
  | .invokespecial _ => 3
  | .tableswitch _ _ _ _ => len
  | .lookupswitch _ _ => len
  | _ => 1
abbrev jm_N : Type := Nat × jm_F × List Value
/-- constants, locals, stack -/
def jm_p1 (nL pc : Nat) (i : Instr) (f : jm_F) (st : List Value) : Option jm_N := match i with
  | .iconst n => some (pc + 1, f, .int (Int32.ofInt n) :: st)
  | .bipush n => some (pc + 2, f, .int (Int8.ofInt n).toInt32 :: st)
  | .sipush n => some (pc + 3, f, .int (Int16.ofInt n).toInt32 :: st)
  | .lconst n => some (pc + 1, f, .long (Int64.ofNat (n : Nat)) :: st)
  | .iload_n k => match f k with
    | some (.int x) => some (pc + 1, f, .int x :: st)
    | _ => none
  | .iload k => match f k with
    | some (.int x) => some (pc + 2, f, .int x :: st)
    | _ => none
  | .lload_n k => match f k with
    | some (.long x) => some (pc + 1, f, .long x :: st)
    | _ => none
  | .lload k => match f k with
    | some (.long x) => some (pc + 2, f, .long x :: st)
    | _ => none
  | .aload_n k => match f k with
    | some (.ref x) => some (pc + 1, f, .ref x :: st)
    | _ => none
  | .aload k => match f k with
    | some (.ref x) => some (pc + 2, f, .ref x :: st)
    | _ => none
  | .istore_n k => match st with
    | .int x :: r => (jm_st1 nL f k (.int x)).map (fun f' => (pc + 1, f', r))
    | _ => none
  | .istore k => match st with
    | .int x :: r => (jm_st1 nL f k (.int x)).map (fun f' => (pc + 2, f', r))
    | _ => none
  | .lstore_n k => match st with
    | .long x :: r => (jm_st2 nL f k (.long x)).map (fun f' => (pc + 1, f', r))
    | _ => none
  | .lstore k => match st with
    | .long x :: r => (jm_st2 nL f k (.long x)).map (fun f' => (pc + 2, f', r))
    | _ => none
  | .astore_n k => match st with
    | .ref x :: r => (jm_st1 nL f k (.ref x)).map (fun f' => (pc + 1, f', r))
    | _ => none
  | .astore k => match st with
    | .ref x :: r => (jm_st1 nL f k (.ref x)).map (fun f' => (pc + 2, f', r))
    | _ => none
  | .iinc k n => match f k with
    | some (.int x) => (jm_st1 nL f k (.int (x + Int32.ofInt n))).map (fun f' => (pc + 3, f', st))
    | _ => none
  | .dup => match st with
    | a :: r => if a.category = 1 then some (pc + 1, f, a :: a :: r) else none
    | _ => none
  | .pop => match st with
    | a :: r => if a.category = 1 then some (pc + 1, f, r) else none
    | _ => none
  | .dup_x1 => match st with
    | a :: b :: r => if a.category = 1 ∧ b.category = 1 then some (pc + 1, f, a :: b :: a :: r) else none
    | _ => none
  | .dup_x2 => match st with
    | a :: b :: d :: r => if a.category = 1 ∧ b.category = 1 ∧ d.category = 1 then some (pc + 1, f, a :: b :: d :: a :: r) else none
    | _ => none
  | .dup2 => match st with
    | a :: b :: r => if a.category = 1 ∧ b.category = 1 then some (pc + 1, f, a :: b :: a :: b :: r) else none
    | _ => none
  | _ => none
/-- arithmetic on two ints, on two longs, on a long and an int, on one -/
def jm_p2 (pc : Nat) (i : Instr) (f : jm_F) (st : List Value) : Option jm_N := match i with
  | .iadd => match st with
    | .int y :: .int x :: r => some (pc + 1, f, .int (x + y) :: r)
    | _ => none
  | .isub => match st with
    | .int y :: .int x :: r => some (pc + 1, f, .int (x - y) :: r)
    | _ => none
  | .imul => match st with
    | .int y :: .int x :: r => some (pc + 1, f, .int (x * y) :: r)
    | _ => none
  | .iand => match st with
    | .int y :: .int x :: r => some (pc + 1, f, .int (x &&& y) :: r)
    | _ => none
  | .ior => match st with
    | .int y :: .int x :: r => some (pc + 1, f, .int (x ||| y) :: r)
    | _ => none
  | .ixor => match st with
    | .int y :: .int x :: r => some (pc + 1, f, .int (x ^^^ y) :: r)
    | _ => none
  | .ishl => match st with
    | .int y :: .int x :: r => some (pc + 1, f, .int (x <<< (y &&& 31)) :: r)
    | _ => none
  | .ishr => match st with
    | .int y :: .int x :: r => some (pc + 1, f, .int (x >>> (y &&& 31)) :: r)
    | _ => none
  | .idiv => match st with
    | .int y :: .int x :: r => if y = 0 then none else some (pc + 1, f, .int (x / y) :: r)
    | _ => none
  | .irem => match st with
    | .int y :: .int x :: r => if y = 0 then none else some (pc + 1, f, .int (x - x / y * y) :: r)
    | _ => none
  | .ladd => match st with
    | .long y :: .long x :: r => some (pc + 1, f, .long (x + y) :: r)
    | _ => none
  | .lsub => match st with
    | .long y :: .long x :: r => some (pc + 1, f, .long (x - y) :: r)
    | _ => none
  | .lmul => match st with
    | .long y :: .long x :: r => some (pc + 1, f, .long (x * y) :: r)
    | _ => none
  | .land => match st with
    | .long y :: .long x :: r => some (pc + 1, f, .long (x &&& y) :: r)
    | _ => none
  | .lor => match st with
    | .long y :: .long x :: r => some (pc + 1, f, .long (x ||| y) :: r)
    | _ => none
  | .lcmp => match st with
    | .long y :: .long x :: r => some (pc + 1, f, .int (lg_cmp x y) :: r)
    | _ => none
  | .ldiv => match st with
    | .long y :: .long x :: r => if y = 0 then none else some (pc + 1, f, .long (x / y) :: r)
    | _ => none
  | .lrem => match st with
    | .long y :: .long x :: r => if y = 0 then none else some (pc + 1, f, .long (x - x / y * y) :: r)
    | _ => none
  | .lshl => match st with
    | .int y :: .long x :: r => some (pc + 1, f, .long (x <<< (y.toInt64 &&& 63)) :: r)
    | _ => none
  | .lshr => match st with
    | .int y :: .long x :: r => some (pc + 1, f, .long (x >>> (y.toInt64 &&& 63)) :: r)
    | _ => none
  | .i2l => match st with
    | .int y :: r => some (pc + 1, f, .long y.toInt64 :: r)
    | _ => none
  | .l2i => match st with
    | .long y :: r => some (pc + 1, f, .int y.toInt32 :: r)
    | _ => none
  | .ineg => match st with
    | .int y :: r => some (pc + 1, f, .int (-y) :: r)
    | _ => none
  | _ => none
def jm_cb (c : ClassFile.Cond) (x y : Int32) : Bool := match c with
  | .eq => decide (x = y)
  | .ne => decide (¬ x = y)
  | .lt => decide (x < y)
  | .ge => decide (y ≤ x)
  | .gt => decide (y < x)
  | .le => decide (x ≤ y)
/-- a place by its distance; none ahead of the code -/
def jm_tg (pc : Nat) (off : Int) : Option Nat := if (pc : Int) + off < 0 then none else some ((pc : Int) + off).toNat
/-- branches -/
def jm_p3 (pc : Nat) (i : Instr) (f : jm_F) (st : List Value) : Option jm_N := match i with
  | .ifCond c off => match st with
    | .int x :: r => if jm_cb c x 0 = true then (jm_tg pc off).map (fun t => (t, f, r)) else some (pc + 3, f, r)
    | _ => none
  | .if_icmp c off => match st with
    | .int y :: .int x :: r => if jm_cb c x y = true then (jm_tg pc off).map (fun t => (t, f, r)) else some (pc + 3, f, r)
    | _ => none
  | .goto off => (jm_tg pc off).map (fun t => (t, f, st))
  | .tableswitch d lo hi offs => match st with
    | .int x :: r => if x.toInt < lo ∨ hi < x.toInt then (jm_tg pc d).map (fun t => (t, f, r)) else (offs[(x.toInt - lo).toNat]?).bind (fun o => (jm_tg pc o).map (fun t => (t, f, r)))
    | _ => none
  | .lookupswitch d ps => match st with
    | .int x :: r => if (ps.toList.zip (ps.toList.drop 1)).all (fun (a, next) => a.1 < next.1) = true then (jm_tg pc (Op.lookupswitch.offset ps.toList d x.toInt)).map (fun t => (t, f, r)) else none
    | _ => none
  | _ => none
/-- label a is there, and of kind t -/
def jm_isA (g : jm_H) (a t : Nat) : Bool := decide (a < jm_n g) && ((jm_SH a).1 == t)
def jm_inb (i : Int32) (n : Nat) : Bool := decide (¬ (i < 0 ∨ n ≤ i.toNatClampNeg))
def jm_rv (r : Option Nat) : Value := match r with
  | some x => .ref x
  | none => .null
/-- what a field holds; how one is written -/
def jm_gv (g : jm_H) (a c k : Nat) : Value := match jm_ft c k with
  | 1 => .long (jm_l g a k)
  | 2 => jm_rv (jm_r g a k)
  | _ => .int (jm_i g a k)
def jm_pv (g : jm_H) (a c k : Nat) (v : Value) : Option jm_H := match jm_ft c k with
  | 0 => match v with
    | .int x => some (jm_si g a k x)
    | _ => none
  | 1 => match v with
    | .long x => some (jm_sl g a k x)
    | _ => none
  | 2 => match v with
    | .ref x => some (jm_sr g a k (some x))
    | _ => none
  | _ => match v with
    | .int x => if x = 0 ∨ x = 1 then some (jm_si g a k x) else none
    | _ => none
abbrev jm_M : Type := Nat × jm_F × List Value × jm_H
/-- fields -/
def jm_p4 (mi pc : Nat) (i : Instr) (f : jm_F) (st : List Value) (g : jm_H) : Option jm_M := match i with
  | .getfield x => match st with
    | .ref a :: r => match jm_fl (jm_oc mi) x with
      | some (c, k) => if jm_isA g a c = true ∧ k < jm_nf c then some (pc + 3, f, jm_gv g a c k :: r, g) else none
      | none => none
    | _ => none
  | .putfield x => match st with
    | v :: .ref a :: r => match jm_fl (jm_oc mi) x with
      | some (c, k) => if jm_isA g a c = true ∧ k < jm_nf c ∧ jm_pf mi x = true then (jm_pv g a c k v).map (fun g' => (pc + 3, f, r, g')) else none
      | none => none
    | _ => none
  | .ldc x => match jm_ld (jm_oc mi) x with
    | some (.int v) => some (pc + 2, f, .int v :: st, g)
    | _ => none
  | .ldc2_w x => match jm_ld (jm_oc mi) x with
    | some (.long v) => some (pc + 3, f, .long v :: st, g)
    | _ => none
  | _ => none
/-- rows -/
def jm_p5 (L : Nat) (xs : Nat → Int32) (pc : Nat) (i : Instr) (f : jm_F) (st : List Value) (g : jm_H) : Option jm_M := match i with
  | .iaload => match st with
    | .int j :: .ref a :: r => if a = jm_S then (if jm_inb j L = true then some (pc + 1, f, .int (xs j.toNatClampNeg) :: r, g) else none)
        else if jm_isA g a 20 = true ∧ jm_inb j (jm_SH a).2 = true then some (pc + 1, f, .int (jm_i g a j.toNatClampNeg) :: r, g) else none
    | _ => none
  | .laload => match st with
    | .int j :: .ref a :: r => if jm_isA g a 21 = true ∧ jm_inb j (jm_SH a).2 = true then some (pc + 1, f, .long (jm_l g a j.toNatClampNeg) :: r, g) else none
    | _ => none
  | .baload => match st with
    | .int j :: .ref a :: r => if jm_isA g a 22 = true ∧ jm_inb j (jm_SH a).2 = true then some (pc + 1, f, .int (jm_i g a j.toNatClampNeg) :: r, g) else none
    | _ => none
  | .aaload => match st with
    | .int j :: .ref a :: r => if a < jm_n g ∧ 30 ≤ (jm_SH a).1 ∧ (jm_SH a).1 < 50 ∧ jm_inb j (jm_SH a).2 = true then some (pc + 1, f, jm_rv (jm_r g a j.toNatClampNeg) :: r, g) else none
    | _ => none
  | .iastore => match st with
    | .int x :: .int j :: .ref a :: r => if jm_isA g a 20 = true ∧ jm_inb j (jm_SH a).2 = true then some (pc + 1, f, r, jm_si g a j.toNatClampNeg x) else none
    | _ => none
  | .lastore => match st with
    | .long x :: .int j :: .ref a :: r => if jm_isA g a 21 = true ∧ jm_inb j (jm_SH a).2 = true then some (pc + 1, f, r, jm_sl g a j.toNatClampNeg x) else none
    | _ => none
  | .bastore => match st with
    | .int x :: .int j :: .ref a :: r => if jm_isA g a 22 = true ∧ jm_inb j (jm_SH a).2 = true ∧ (x = 0 ∨ x = 1) then some (pc + 1, f, r, jm_si g a j.toNatClampNeg x) else none
    | _ => none
  | .aastore => match st with
    | .ref x :: .int j :: .ref a :: r => if a < jm_n g ∧ 30 ≤ (jm_SH a).1 ∧ (jm_SH a).1 < 50 ∧ jm_isA g x ((jm_SH a).1 - 30) = true ∧ jm_inb j (jm_SH a).2 = true then some (pc + 1, f, r, jm_sr g a j.toNatClampNeg (some x)) else none
    | _ => none
  | .arraylength => match st with
    | .ref a :: r => if a = jm_S then some (pc + 1, f, .int (Int32.ofNat L) :: r, g)
        else if a < jm_n g ∧ 20 ≤ (jm_SH a).1 ∧ (jm_SH a).1 < 50 then some (pc + 1, f, .int (Int32.ofNat (jm_SH a).2) :: r, g) else none
    | _ => none
  | _ => none
def jm_at (t : ArrayType) : Nat := match t with
  | .int => 20
  | .long => 21
  | .boolean => 22
  | _ => 99
/-- what is made -/
def jm_p6 (oc pc : Nat) (i : Instr) (f : jm_F) (st : List Value) (g : jm_H) : Option jm_M := match i with
  | .new x => match jm_cl oc x with
    | some c => if c < 20 ∧ jm_j g = 0 ∧ jm_SH (jm_n g) = (c, jm_nf c) then some (pc + 3, f, .ref (jm_n g) :: st, jm_new g) else none
    | none => none
  | .newarray t => match st with
    | .int n :: r => if ¬ n < 0 ∧ jm_j g = 0 ∧ jm_at t < 99 ∧ n.toNatClampNeg ≤ 1000 ∧ jm_SH (jm_n g) = (jm_at t, n.toNatClampNeg) then some (pc + 2, f, .ref (jm_n g) :: r, jm_new g) else none
    | _ => none
  | .anewarray x => match st with
    | .int n :: r => match jm_cl oc x with
      | some c => if ¬ n < 0 ∧ jm_j g = 0 ∧ c < 20 ∧ n.toNatClampNeg ≤ 1000 ∧ jm_SH (jm_n g) = (30 + c, n.toNatClampNeg) then some (pc + 3, f, .ref (jm_n g) :: r, jm_new g) else none
      | none => none
    | _ => none
  | _ => none
/-- members that are one step here: Object() 900, arraycopy 901, Math.min of ints 902, of longs 903, Math.max of longs 904 -/
def jm_p7 (oc pc : Nat) (i : Instr) (f : jm_F) (st : List Value) (g : jm_H) : Option jm_M := match i with
  | .invokespecial x => match jm_mt oc x with
    | some 900 => match st with
      | .ref _ :: r => if (r.map fun v => v.category).sum ≤ 8 then some (pc + 3, f, r, g) else none
      | _ => none
    | _ => none
  | .invokestatic x => match jm_mt oc x with
    | some 901 => match st with
      | .int n :: .int dp :: .ref d :: .int sp :: .ref s :: r =>
        if jm_isA g s 20 = true ∧ jm_isA g d 20 = true ∧ ¬ sp < 0 ∧ ¬ dp < 0 ∧ ¬ n < 0 ∧ sp.toNatClampNeg + n.toNatClampNeg ≤ (jm_SH s).2 ∧ dp.toNatClampNeg + n.toNatClampNeg ≤ (jm_SH d).2 ∧ (r.map fun v => v.category).sum ≤ 8 then
          some (pc + 3, f, r, jm_sa g d (va_cpy (jm_i g s) (jm_i g d) sp.toNatClampNeg dp.toNatClampNeg n.toNatClampNeg)) else none
      | _ => none
    | some 902 => match st with
      | .int y :: .int x :: r => if (r.map fun v => v.category).sum ≤ 8 then some (pc + 3, f, .int (if y < x then y else x) :: r, g) else none
      | _ => none
    | some 903 => match st with
      | .long y :: .long x :: r => if (r.map fun v => v.category).sum ≤ 8 then some (pc + 3, f, .long (if y < x then y else x) :: r, g) else none
      | _ => none
    | some 904 => match st with
      | .long y :: .long x :: r => if (r.map fun v => v.category).sum ≤ 8 then some (pc + 3, f, .long (if y < x then x else y) :: r, g) else none
      | _ => none
    | _ => none
  | _ => none
abbrev jm_K : Type := Nat × List Value × Nat × List Value
/-- calls -/
def jm_p8 (oc pc : Nat) (i : Instr) (st : List Value) (g : jm_H) : Option jm_K := match i with
  | .invokestatic x => match jm_mt oc x with
    | some k => if k < 900 ∧ jm_rc k = none ∧ jm_na k ≤ st.length ∧ ((st.drop (jm_na k)).map fun v => v.category).sum ≤ 8 ∧ ((st.take (jm_na k)).map fun v => v.category).sum ≤ jm_ml k then some (k, (st.take (jm_na k)).reverse, pc + 3, st.drop (jm_na k)) else none
    | none => none
  | .invokevirtual x => match jm_mt oc x with
    | some k => match jm_rc k with
      | some c => match st.drop (jm_na k) with
        | .ref b :: r => if k < 900 ∧ jm_isI k = false ∧ jm_isA g b c = true ∧ jm_na k ≤ st.length ∧ (r.map fun v => v.category).sum ≤ 8 ∧ 1 + ((st.take (jm_na k)).map fun v => v.category).sum ≤ jm_ml k then some (k, .ref b :: (st.take (jm_na k)).reverse, pc + 3, r) else none
        | _ => none
      | none => none
    | none => none
  | .invokespecial x => match jm_mt oc x with
    | some k => match jm_rc k with
      | some c => match st.drop (jm_na k) with
        | .ref b :: r => if k < 900 ∧ jm_isI k = true ∧ jm_isA g b c = true ∧ jm_na k ≤ st.length ∧ (r.map fun v => v.category).sum ≤ 8 ∧ 1 + ((st.take (jm_na k)).map fun v => v.category).sum ≤ jm_ml k then some (k, .ref b :: (st.take (jm_na k)).reverse, pc + 3, r) else none
        | _ => none
      | none => none
    | none => none
  | _ => none
/-- the kinds of answer: 0 none, 1 int, 2 boolean, 3 long, 4 a reference -/
def jm_rk (mi : Nat) : Nat := match jm_rt mi with
  | none => 0
  | some .int => 1
  | some .boolean => 2
  | some .long => 3
  | some (.object _) => 4
  | some (.array _) => 4
  | _ => 9
abbrev jm_O : Type := (Option Value ⊕ Nat) × jm_H
/-- ends -/
def jm_p9 (mi oc : Nat) (i : Instr) (st : List Value) (g : jm_H) : Option jm_O := match i with
  | .ireturn => match st with
    | [.int v] => if jm_rk mi = 1 ∨ (jm_rk mi = 2 ∧ (v = 0 ∨ v = 1)) then some (.inl (some (.int v)), g) else none
    | _ => none
  | .lreturn => match st with
    | [.long v] => if jm_rk mi = 3 then some (.inl (some (.long v)), g) else none
    | _ => none
  | .areturn => match st with
    | [.ref v] => if jm_rk mi = 4 then some (.inl (some (.ref v)), g) else none
    | _ => none
  | .return_ => match st with
    | [] => if jm_rk mi = 0 then some (.inl none, g) else none
    | _ => none
  | .new x => match st with
    | [] => match jm_cl oc x with
      | some c => if 50 ≤ c then some (.inr c, jm_junk g) else none
      | none => none
    | _ => none
  | _ => none
abbrev jm_X : Type := jm_M ⊕ jm_K ⊕ jm_O
def jm_ins (L : Nat) (xs : Nat → Int32) (mi pc : Nat) (i : Instr) (f : jm_F) (st : List Value) (g : jm_H) : Option jm_X :=
  match jm_p1 (jm_ml mi) pc i f st with
  | some (a, b, d) => some (.inl (a, b, d, g))
  | none => match jm_p2 pc i f st with
    | some (a, b, d) => some (.inl (a, b, d, g))
    | none => match jm_p3 pc i f st with
      | some (a, b, d) => some (.inl (a, b, d, g))
      | none => match jm_p4 mi pc i f st g with
        | some z => some (.inl z)
        | none => match jm_p5 L xs pc i f st g with
          | some z => some (.inl z)
          | none => match jm_p6 (jm_oc mi) pc i f st g with
            | some z => some (.inl z)
            | none => match jm_p7 (jm_oc mi) pc i f st g with
              | some z => some (.inl z)
              | none => match jm_p8 (jm_oc mi) pc i st g with
                | some z => some (.inr (.inl z))
                | none => match jm_p9 mi (jm_oc mi) i st g with
                  | some z => some (.inr (.inr z))
                  | none => none
def jm_step (L : Nat) (xs : Nat → Int32) (mi pc : Nat) (f : jm_F) (st : List Value) (g : jm_H) : Option jm_X :=
  match jm_tab mi pc with
  | none => none
  | some (i, len) => if jm_len i len = len then jm_ins L xs mi pc i f st g else none
/-- where an exception of class x, thrown by the call at pc, goes on: the place behind the handler's store, and the local that it stores to -/
def jm_run (L : Nat) (xs : Nat → Int32) : Nat → Nat → Nat → Nat → jm_F → List Value → jm_H → Option jm_O
  | 0, _, _, _, _, _, _ => none
  | n + 1, d, mi, pc, f, st, g => match jm_step L xs mi pc f st g with
    | none => none
    | some (.inl (pc', f', st', g')) => jm_run L xs n d mi pc' f' st' g'
    | some (.inr (.inl (k, av, pc', st'))) => match d with
      | 0 => none
      | d' + 1 => match jm_run L xs n d' k 0 (jm_ent av) [] g with
        | none => none
        | some (.inl v, g1) => jm_run L xs n (d' + 1) mi pc' f (v.toList ++ st') g1
        | some (.inr x, g1) => match jm_hn mi pc x with
          | none => none
          | some (h, _) => jm_run L xs n (d' + 1) mi h (fun _ => none) [] g1
    | some (.inr (.inr z)) => some z
/-! facts -/
theorem jm_run_mono (L : Nat) (xs : Nat → Int32) : ∀ (n d mi pc : Nat) (f : jm_F) (st : List Value) (g : jm_H) (z : jm_O), jm_run L xs n d mi pc f st g = some z → ∀ n', n ≤ n' → jm_run L xs n' d mi pc f st g = some z := by
  intro n
  induction n with
  | zero => intro d mi pc f st g z h; simp [jm_run] at h
  | succ n ih =>
    intro d mi pc f st g z h n' hn
    obtain ⟨m, rfl⟩ : ∃ m, n' = m + 1 := ⟨n' - 1, by omega⟩
    have hm : n ≤ m := by omega
    unfold jm_run at h ⊢
    cases hs : jm_step L xs mi pc f st g with
    | none => rw [hs] at h; cases h
    | some y =>
      rw [hs] at h
      rcases y with ⟨pc', f', st', g'⟩ | ⟨k, av, pc', st'⟩ | y
      · exact ih _ _ _ _ _ _ _ h m hm
      · dsimp only at h ⊢
        cases d with
        | zero => exact h
        | succ d' =>
          dsimp only at h ⊢
          cases hr : jm_run L xs n d' k 0 (jm_ent av) [] g with
          | none => rw [hr] at h; cases h
          | some w =>
            rw [hr] at h
            rw [ih _ _ _ _ _ _ _ hr m hm]
            obtain ⟨v | x, g1⟩ := w
            · exact ih _ _ _ _ _ _ _ h m hm
            · dsimp only at h ⊢
              cases hh : jm_hn mi pc x with
              | none => rw [hh] at h; cases h
              | some q =>
                rw [hh] at h
                obtain ⟨h1, k1⟩ := q
                exact ih _ _ _ _ _ _ _ h m hm
      · exact h
