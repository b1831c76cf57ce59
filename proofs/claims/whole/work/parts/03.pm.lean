/-! THE PURE MACHINE: whole numbers without bound, wrapped where the machine looks at them; a cell is a number, its contents a function -/
abbrev jV : Type := Nat × Int
abbrev jM : Type := Int → Int → Int
abbrev jX : Type := Nat × Nat × Int
abbrev jC : Type := Nat × List jV × List jV × jM
abbrev jE : Type := Nat × Instr × Nat × jX
/-- a method: name, bytes, locals, sort of its answer (0 none, 1 int, 2 long, 3 boolean), tags of what it is given, 0 by an object or 1 without -/
abbrev jS : Type := MethodName × ByteArray × Nat × Nat × List Nat × Nat
def w32 (x : Int) : Int := (x + 2147483648) % 4294967296 - 2147483648
def w64 (x : Int) : Int := (x + 9223372036854775808) % 18446744073709551616 - 9223372036854775808
def w8 (x : Int) : Int := (x + 128) % 256 - 128
def w16 (x : Int) : Int := (x + 32768) % 65536 - 32768
def jup (s : jM) (k j v : Int) : jM := fun a b => if a = k ∧ b = j then v else s a b
def jcp (s : jM) (k sp k2 dp n : Int) : jM := fun a b => if a = k2 ∧ dp ≤ b ∧ b < dp + n then s k (sp + (b - dp)) else s a b
def jdiv (a b : Int) : Int := Int.tdiv (w32 a) (w32 b)
def jrem (a b : Int) : Int := Int.tmod (w32 a) (w32 b)
def jldiv (a b : Int) : Int := Int.tdiv (w64 a) (w64 b)
def jlrem (a b : Int) : Int := Int.tmod (w64 a) (w64 b)
def jiand (a b : Int) : Int := (Int32.ofInt a &&& Int32.ofInt b).toInt
def jior (a b : Int) : Int := (Int32.ofInt a ||| Int32.ofInt b).toInt
def jishl (a b : Int) : Int := (Int32.ofInt a <<< (Int32.ofInt b &&& 31)).toInt
def jishr (a b : Int) : Int := (Int32.ofInt a >>> (Int32.ofInt b &&& 31)).toInt
def jland (a b : Int) : Int := (Int64.ofInt a &&& Int64.ofInt b).toInt
def jlor (a b : Int) : Int := (Int64.ofInt a ||| Int64.ofInt b).toInt
def jlshl (a b : Int) : Int := (Int64.ofInt a <<< ((Int32.ofInt b).toInt64 &&& 63)).toInt
def jlcmp (a b : Int) : Int := if w64 a < w64 b then -1 else if w64 a = w64 b then 0 else 1
def jmax (a b : Int) : Int := if w32 a < w32 b then w32 b else w32 a
def jmin (a b : Int) : Int := if w32 b < w32 a then w32 b else w32 a
def jlabs (a : Int) : Int := if 0 < w64 a then w64 a else - w64 a
/-- is it the number of a cell of that kind? -/
def jok (t : Nat) (k : Int) : Bool := decide (0 ≤ k) && decide (jcells[k.toNat]? = some t)
def jref (t : Nat) : Bool := Nat.ble 2 t && Nat.ble t 90
def jcat (st : List jV) : Nat := (st.map fun v => bif Nat.beq v.1 1 then 2 else 1).sum
def jpush (c : jC) (n : Nat) (v : jV) : Option (List Prop × jC) := some ([], c.1 + n, c.2.1, v :: c.2.2.1, c.2.2.2)
def jld (c : jC) (n i : Nat) (q : Nat → Bool) : Option (List Prop × jC) := match c.2.1[i]? with
  | some v => bif q v.1 then some ([], c.1 + n, c.2.1, v :: c.2.2.1, c.2.2.2) else none
  | none => none
def jkill (L : List jV) (i : Nat) : List jV := match i with
  | 0 => L
  | k + 1 => match L[k]? with
    | some v => bif Nat.beq v.1 1 then L.set k (99, 0) else L
    | none => L
def jset1 (L : List jV) (i : Nat) (v : jV) : List jV := (jkill L i).set i v
def jset2 (L : List jV) (i : Nat) (v : jV) : List jV := ((jkill L i).set i v).set (i + 1) (99, 0)
def jst1 (c : jC) (n i : Nat) (q : Nat → Bool) : Option (List Prop × jC) := match c.2.2.1 with
  | v :: r => bif q v.1 && Nat.blt i c.2.1.length then some ([], c.1 + n, jset1 c.2.1 i v, r, c.2.2.2) else none
  | _ => none
def jst2 (c : jC) (n i : Nat) : Option (List Prop × jC) := match c.2.2.1 with
  | v :: r => bif Nat.beq 1 v.1 && Nat.blt (i + 1) c.2.1.length then some ([], c.1 + n, jset2 c.2.1 i v, r, c.2.2.2) else none
  | _ => none
def jinc (c : jC) (n i : Nat) (k : Int) : Option (List Prop × jC) := match c.2.1[i]? with
  | some v => bif Nat.beq 0 v.1 then some ([], c.1 + n, jset1 c.2.1 i (0, v.2 + k), c.2.2.1, c.2.2.2) else none
  | none => none
def jbin (c : jC) (n t1 t2 tr : Nat) (f : Int → Int → Int) : Option (List Prop × jC) := match c.2.2.1 with
  | b :: a :: r => bif Nat.beq t1 b.1 && Nat.beq t2 a.1 then some ([], c.1 + n, c.2.1, (tr, f a.2 b.2) :: r, c.2.2.2) else none
  | _ => none
def jbinN (c : jC) (n t : Nat) (wr : Int → Int) (f : Int → Int → Int) : Option (List Prop × jC) := match c.2.2.1 with
  | b :: a :: r => bif Nat.beq t b.1 && Nat.beq t a.1 then some ([¬ wr b.2 = 0], c.1 + n, c.2.1, (t, f a.2 b.2) :: r, c.2.2.2) else none
  | _ => none
def jun (c : jC) (n t1 tr : Nat) (f : Int → Int) : Option (List Prop × jC) := match c.2.2.1 with
  | a :: r => bif Nat.beq t1 a.1 then some ([], c.1 + n, c.2.1, (tr, f a.2) :: r, c.2.2.2) else none
  | _ => none
def jdup (c : jC) (n : Nat) : Option (List Prop × jC) := match c.2.2.1 with
  | a :: r => bif Nat.beq 1 a.1 then none else some ([], c.1 + n, c.2.1, a :: a :: r, c.2.2.2)
  | _ => none
def jdup2 (c : jC) (n : Nat) : Option (List Prop × jC) := match c.2.2.1 with
  | a :: b :: r => bif Nat.beq 1 a.1 || Nat.beq 1 b.1 then none else some ([], c.1 + n, c.2.1, a :: b :: a :: b :: r, c.2.2.2)
  | _ => none
def jpop (c : jC) (n : Nat) : Option (List Prop × jC) := match c.2.2.1 with
  | a :: r => bif Nat.beq 1 a.1 then none else some ([], c.1 + n, c.2.1, r, c.2.2.2)
  | _ => none
/-- what a field of that sort gives -/
def jfget (f : Nat × Int × Nat) (k v : Int) : List Prop × jV := match f.1 with
  | 0 => ([], (0, v))
  | 1 => ([], (1, v))
  | 2 => ([], (0, v))
  | 3 => ([], (4 + f.2.2, k + f.2.1))
  | _ => ([jok f.2.2 v = true], (4 + f.2.2, v))
def jgetf (c : jC) (n cl j : Nat) : Option (List Prop × jC) := match c.2.2.1 with
  | a :: r => bif Nat.beq (4 + cl) a.1 then (match (jfields.getD cl [])[j]? with
    | some f => some ((jfget f a.2 (c.2.2.2 a.2 j)).1, c.1 + n, c.2.1, (jfget f a.2 (c.2.2.2 a.2 j)).2 :: r, c.2.2.2)
    | none => none) else none
  | _ => none
def jfput (f : Nat × Int × Nat) (v : jV) : Option (List Prop) := match f.1 with
  | 0 => bif Nat.beq 0 v.1 then some [] else none
  | 1 => bif Nat.beq 1 v.1 then some [] else none
  | 2 => bif Nat.beq 0 v.1 then some [v.2 = 0 ∨ v.2 = 1] else none
  | 3 => none
  | _ => bif Nat.beq (4 + f.2.2) v.1 then some [] else none
def jputf (c : jC) (n cl j : Nat) : Option (List Prop × jC) := match c.2.2.1 with
  | v :: a :: r => bif Nat.beq (4 + cl) a.1 then (match (jfields.getD cl [])[j]? with
    | some f => (match jfput f v with
      | some g => some (g, c.1 + n, c.2.1, r, jup c.2.2.2 a.2 j v.2)
      | none => none)
    | none => none) else none
  | _ => none
/-- the length of what an array's tag stands for; 26 kept words; the script's length -/
def jlen (t : Nat) (s : jM) : Int := match t with
  | 2 => 26
  | 3 => s (-2) 0
  | _ => match jarr (t - 4) with
    | some a => (a.2.1 : Int)
    | none => 0
/-- the sort of its numbers: 0 int, 1 long, 2 byte, 3 references, 4 none -/
def jelt (t : Nat) : Nat := match t with
  | 0 => 9
  | 1 => 9
  | 2 => 5
  | 3 => 6
  | _ => match jarr (t - 4) with
    | some a => a.1
    | none => 9
def jalen (c : jC) (n : Nat) : Option (List Prop × jC) := match c.2.2.1 with
  | a :: r => bif Nat.ble (jelt a.1) 6 then some ([], c.1 + n, c.2.1, (0, jlen a.1 c.2.2.2) :: r, c.2.2.2) else none
  | _ => none
/-- what stands at a place of an array -/
def jel (t : Nat) (k i : Int) (s : jM) : jV := match jelt t with
  | 0 => (0, s k i)
  | 1 => (1, s k i)
  | 2 => (0, s k i)
  | 5 => (1, jkw i)
  | 6 => (0, s (-1) i)
  | _ => match jarr (t - 4) with
    | some a => (4 + a.2.2.2.2, k + a.2.2.1 + a.2.2.2.1 * i)
    | none => (99, 0)
def jald (c : jC) (n : Nat) (q : Nat → Bool) : Option (List Prop × jC) := match c.2.2.1 with
  | i :: a :: r => bif Nat.beq 0 i.1 && q (jelt a.1) then some ([0 ≤ w32 i.2 ∧ w32 i.2 < jlen a.1 c.2.2.2], c.1 + n, c.2.1, jel a.1 a.2 (w32 i.2) c.2.2.2 :: r, c.2.2.2) else none
  | _ => none
def jast (c : jC) (n t e : Nat) (f : Int → Int) : Option (List Prop × jC) := match c.2.2.1 with
  | v :: i :: a :: r => bif Nat.beq t v.1 && Nat.beq 0 i.1 && Nat.beq e (jelt a.1) then some ([0 ≤ w32 i.2 ∧ w32 i.2 < jlen a.1 c.2.2.2], c.1 + n, c.2.1, r, jup c.2.2.2 a.2 (w32 i.2) (f v.2)) else none
  | _ => none
def jcopy (c : jC) (n : Nat) : Option (List Prop × jC) := match c.2.2.1 with
  | m :: dp :: b :: sp :: a :: r => bif Nat.beq 0 m.1 && Nat.beq 0 dp.1 && Nat.beq 0 sp.1 && Nat.beq (jelt a.1) (jelt b.1) && Nat.ble (jelt a.1) 1 && Nat.ble (jcat r) 8 then
      some ([0 ≤ w32 sp.2 ∧ 0 ≤ w32 dp.2 ∧ 0 ≤ w32 m.2 ∧ w32 sp.2 + w32 m.2 ≤ jlen a.1 c.2.2.2 ∧ w32 dp.2 + w32 m.2 ≤ jlen b.1 c.2.2.2], c.1 + n, c.2.1, r, jcp c.2.2.2 a.2 (w32 sp.2) b.2 (w32 dp.2) (w32 m.2)) else none
  | _ => none
def jmath2 (c : jC) (n : Nat) (f : Int → Int → Int) : Option (List Prop × jC) := match c.2.2.1 with
  | b :: a :: r => bif Nat.beq 0 b.1 && Nat.beq 0 a.1 && Nat.ble (jcat r) 8 then some ([], c.1 + n, c.2.1, (0, f a.2 b.2) :: r, c.2.2.2) else none
  | _ => none
def jmathL (c : jC) (n : Nat) : Option (List Prop × jC) := match c.2.2.1 with
  | a :: r => bif Nat.beq 1 a.1 && Nat.ble (jcat r) 8 then some ([], c.1 + n, c.2.1, (1, jlabs a.2) :: r, c.2.2.2) else none
  | _ => none
def jintr (c : jC) (n f : Nat) : Option (List Prop × jC) := match f with
  | 1 => jmath2 c n jmax
  | 2 => jmath2 c n jmin
  | 3 => jmathL c n
  | 4 => jcopy c n
  | _ => none
/-- one instruction that goes straight on: what must hold, and where it leads -/
def jx (i : Instr) (n : Nat) (x : jX) (c : jC) : Option (List Prop × jC) := match i with
  | .iconst v => jpush c n (0, v)
  | .bipush v => jpush c n (0, v)
  | .sipush v => jpush c n (0, v)
  | .lconst v => jpush c n (1, (v.val : Int))
  | .ldc _ => jpush c n (0, x.2.2)
  | .ldc_w _ => jpush c n (0, x.2.2)
  | .ldc2_w _ => jpush c n (1, x.2.2)
  | .iload i => jld c n i (Nat.beq 0)
  | .iload_n i => jld c n i.val (Nat.beq 0)
  | .lload i => jld c n i (Nat.beq 1)
  | .lload_n i => jld c n i.val (Nat.beq 1)
  | .aload i => jld c n i jref
  | .aload_n i => jld c n i.val jref
  | .istore i => jst1 c n i (Nat.beq 0)
  | .istore_n i => jst1 c n i.val (Nat.beq 0)
  | .astore i => jst1 c n i jref
  | .astore_n i => jst1 c n i.val jref
  | .lstore i => jst2 c n i
  | .lstore_n i => jst2 c n i.val
  | .iinc i k => jinc c n i k
  | .iadd => jbin c n 0 0 0 (fun a b => a + b)
  | .isub => jbin c n 0 0 0 (fun a b => a - b)
  | .imul => jbin c n 0 0 0 (fun a b => a * b)
  | .iand => jbin c n 0 0 0 jiand
  | .ior => jbin c n 0 0 0 jior
  | .ishl => jbin c n 0 0 0 jishl
  | .ishr => jbin c n 0 0 0 jishr
  | .ladd => jbin c n 1 1 1 (fun a b => a + b)
  | .lsub => jbin c n 1 1 1 (fun a b => a - b)
  | .lmul => jbin c n 1 1 1 (fun a b => a * b)
  | .land => jbin c n 1 1 1 jland
  | .lor => jbin c n 1 1 1 jlor
  | .lshl => jbin c n 0 1 1 jlshl
  | .lcmp => jbin c n 1 1 0 jlcmp
  | .idiv => jbinN c n 0 w32 jdiv
  | .irem => jbinN c n 0 w32 jrem
  | .ldiv => jbinN c n 1 w64 jldiv
  | .lrem => jbinN c n 1 w64 jlrem
  | .i2l => jun c n 0 1 w32
  | .l2i => jun c n 1 0 (fun a => a)
  | .i2b => jun c n 0 0 w8
  | .i2s => jun c n 0 0 w16
  | .dup => jdup c n
  | .dup2 => jdup2 c n
  | .pop => jpop c n
  | .goto off => some ([], ((c.1 : Int) + off).toNat, c.2.1, c.2.2.1, c.2.2.2)
  | .getfield _ => jgetf c n (x.2.1 / 100) (x.2.1 % 100)
  | .putfield _ => jputf c n (x.2.1 / 100) (x.2.1 % 100)
  | .getstatic _ => jpush c n (2, 0)
  | .arraylength => jalen c n
  | .iaload => jald c n (fun e => Nat.beq e 0 || Nat.beq e 6)
  | .laload => jald c n (fun e => Nat.beq e 1 || Nat.beq e 5)
  | .baload => jald c n (Nat.beq 2)
  | .aaload => jald c n (Nat.beq 3)
  | .iastore => jast c n 0 0 (fun v => v)
  | .lastore => jast c n 1 1 (fun v => v)
  | .bastore => jast c n 0 2 w8
  | .invokestatic _ => jintr c n x.2.1
  | _ => none
/-- a row of instructions -/
def jrun : List jE → jC → Option (List Prop × jC)
  | [], c => some ([], c)
  | e :: r, c => bif Nat.beq e.1 c.1 then (match jx e.2.1 e.2.2.1 e.2.2.2 c with
    | some (g, c1) => (match jrun r c1 with
      | some (h, c2) => some (g ++ h, c2)
      | none => none)
    | none => none) else none
def jand : List Prop → Prop
  | [] => True
  | [a] => a
  | a :: b :: r => a ∧ jand (b :: r)
/-- a branch: the question, the stack behind it, where yes and no lead -/
def jbr (i : Instr) (c : jC) : Option (Prop × jC × jC) := match i with
  | .if_icmp k off => (match c.2.2.1 with
    | b :: a :: r => bif Nat.beq 0 b.1 && Nat.beq 0 a.1 then (match k with
      | .eq => some (w32 a.2 = w32 b.2, (((c.1 : Int) + off).toNat, c.2.1, r, c.2.2.2), (c.1 + 3, c.2.1, r, c.2.2.2))
      | .ne => some (w32 a.2 = w32 b.2, (c.1 + 3, c.2.1, r, c.2.2.2), (((c.1 : Int) + off).toNat, c.2.1, r, c.2.2.2))
      | .lt => some (w32 a.2 < w32 b.2, (((c.1 : Int) + off).toNat, c.2.1, r, c.2.2.2), (c.1 + 3, c.2.1, r, c.2.2.2))
      | .ge => some (w32 a.2 < w32 b.2, (c.1 + 3, c.2.1, r, c.2.2.2), (((c.1 : Int) + off).toNat, c.2.1, r, c.2.2.2))
      | .gt => some (w32 b.2 < w32 a.2, (((c.1 : Int) + off).toNat, c.2.1, r, c.2.2.2), (c.1 + 3, c.2.1, r, c.2.2.2))
      | .le => some (w32 b.2 < w32 a.2, (c.1 + 3, c.2.1, r, c.2.2.2), (((c.1 : Int) + off).toNat, c.2.1, r, c.2.2.2))) else none
    | _ => none)
  | .ifCond k off => (match c.2.2.1 with
    | a :: r => bif Nat.beq 0 a.1 then (match k with
      | .eq => some (w32 a.2 = 0, (((c.1 : Int) + off).toNat, c.2.1, r, c.2.2.2), (c.1 + 3, c.2.1, r, c.2.2.2))
      | .ne => some (w32 a.2 = 0, (c.1 + 3, c.2.1, r, c.2.2.2), (((c.1 : Int) + off).toNat, c.2.1, r, c.2.2.2))
      | .lt => some (w32 a.2 < 0, (((c.1 : Int) + off).toNat, c.2.1, r, c.2.2.2), (c.1 + 3, c.2.1, r, c.2.2.2))
      | .ge => some (w32 a.2 < 0, (c.1 + 3, c.2.1, r, c.2.2.2), (((c.1 : Int) + off).toNat, c.2.1, r, c.2.2.2))
      | .gt => some (0 < w32 a.2, (((c.1 : Int) + off).toNat, c.2.1, r, c.2.2.2), (c.1 + 3, c.2.1, r, c.2.2.2))
      | .le => some (0 < w32 a.2, (c.1 + 3, c.2.1, r, c.2.2.2), (((c.1 : Int) + off).toNat, c.2.1, r, c.2.2.2))) else none
    | _ => none)
  | _ => none
/-- where a table of jumps leads for v -/
def jtgt (i : Instr) (v : Int) : Option Int := match i with
  | .tableswitch d lo hi offs => if v < lo ∨ hi < v then some d else offs[(v - lo).toNat]?
  | .lookupswitch d ps => some (Op.lookupswitch.offset ps.toList d v)
  | _ => none
/-- what comes behind a call -/
def jb (x : Option (Int × jM)) (f : Int → jM → Option (Int × jM)) : Option (Int × jM) := match x with
  | some r => f r.1 r.2
  | none => none
theorem jb_some {x : Option (Int × jM)} {f : Int → jM → Option (Int × jM)} {o : Int × jM} (h : jb x f = some o) : ∃ v s, x = some (v, s) ∧ f v s = some o := by
  cases x with
  | none => cases h
  | some r => exact ⟨r.1, r.2, rfl, h⟩
/-- more rounds than any loop makes -/
def jFU : Nat := 2000000
