/-! THE ABSTRACT MACHINE: cells by place; a shape a cell (an array: its type and length; an object: its class, its fields: none a number, some r a reference) and a row of numbers a cell. Places from 999 on: 999 the script, 1000 + j a String constant, 2000 + j its bytes, 3000 a static that nobody reads. -/
abbrev xSh : Type := (FieldType × Nat) ⊕ (Nat × List (Option (Option Nat)))
abbrev xM : Type := Nat → Nat → Int32
abbrev xS : Type := Nat × List (Option Value) × List Value × Nat × List xSh × xM
abbrev xR : Type := Option (xS ⊕ ((Nat × List Value × xS) ⊕ Option Value))
def xup (M : xM) (p i : Nat) (v : Int32) : xM := va_up M p (upd (M p) i v)
/-- slots of a shape -/
def xsl1 : xSh → Nat
  | .inl a => a.2
  | .inr o => o.2.length
def xsl (sh : List xSh) : Nat := (sh.map xsl1).sum
def xout (i : Int32) (n : Nat) : Prop := i < 0 ∨ n ≤ i.toNatClampNeg
def xoutB (i : Int32) (n : Nat) : Bool := decide (i < 0) || Nat.ble n i.toNatClampNeg
def xcat (st : List Value) : Bool := Nat.ble ((st.map fun v => v.category).sum) 8
def xok1 (pl : List (Option Value)) (i : Nat) : Bool := Nat.ble (i + 1) pl.length && (match i with
  | 0 => true
  | j + 1 => match pl[j]? with
    | some (some w) => Nat.beq w.category 1
    | _ => true)
/-- a value that names no place k -/
def xnov (k : Nat) : Value → Bool
  | .ref q => !(Nat.beq q k)
  | _ => true
def xnoc (k : Nat) : xSh → Bool
  | .inl _ => true
  | .inr o => o.2.all (fun f => match f with
    | some (some q) => !(Nat.beq q k)
    | _ => true)
def xfree (k : Nat) (pl : List (Option Value)) (st : List Value) (sh : List xSh) : Bool :=
  pl.all (fun v => match v with
    | some w => xnov k w
    | none => true) && st.all (xnov k) && sh.all (xnoc k)
/-- the values name places below k alone, or ones from 999 on -/
def xbv (k : Nat) : Value → Bool
  | .ref q => Nat.ble (q + 1) k || Nat.ble 999 q
  | _ => true
def xbelow (k : Nat) (pl : List (Option Value)) (st : List Value) : Bool :=
  pl.all (fun v => match v with
    | some w => xbv k w
    | none => true) && st.all (xbv k)
-- ---- instructions
def xo_const (v : Value) (len : Nat) : xS → xR
  | (pc, pl, st, h) => some (.inl (pc + len, pl, v :: st, h))
def xo_iload (i len : Nat) : xS → xR
  | (pc, pl, st, h) => match pl[i]? with
    | some (some (.int x)) => some (.inl (pc + len, pl, .int x :: st, h))
    | _ => none
def xo_lload (i len : Nat) : xS → xR
  | (pc, pl, st, h) => match pl[i]? with
    | some (some (.long x)) => some (.inl (pc + len, pl, .long x :: st, h))
    | _ => none
def xo_aload (i len : Nat) : xS → xR
  | (pc, pl, st, h) => match pl[i]? with
    | some (some (.ref x)) => bif Nat.ble 3000 x then none else some (.inl (pc + len, pl, .ref x :: st, h))
    | _ => none
def xo_istore (i len : Nat) : xS → xR
  | (pc, pl, .int x :: st, h) => bif xok1 pl i then some (.inl (pc + len, pl.set i (some (.int x)), st, h)) else none
  | _ => none
def xo_astore (i len : Nat) : xS → xR
  | (pc, pl, .ref x :: st, h) => bif xok1 pl i && Nat.ble (x + 1) 3000 then some (.inl (pc + len, pl.set i (some (.ref x)), st, h)) else none
  | _ => none
def xo_iinc (i : Nat) (n : Int) (len : Nat) : xS → xR
  | (pc, pl, st, h) => match pl[i]? with
    | some (some (.int x)) => bif xok1 pl i && Nat.beq len 3 then some (.inl (pc + 3, pl.set i (some (.int (x + Int32.ofInt n))), st, h)) else none
    | _ => none
def xo_bin (f : Int32 → Int32 → Int32) : xS → xR
  | (pc, pl, .int y :: .int x :: st, h) => some (.inl (pc + 1, pl, .int (f x y) :: st, h))
  | _ => none
def xo_div (f : Int32 → Int32 → Int32) : xS → xR
  | (pc, pl, .int y :: .int x :: st, h) => if y = 0 then none else some (.inl (pc + 1, pl, .int (f x y) :: st, h))
  | _ => none
def xo_lbin (f : Int64 → Int64 → Int64) : xS → xR
  | (pc, pl, .long y :: .long x :: st, h) => some (.inl (pc + 1, pl, .long (f x y) :: st, h))
  | _ => none
def xo_lsh (f : Int64 → Int32 → Int64) : xS → xR
  | (pc, pl, .int y :: .long x :: st, h) => some (.inl (pc + 1, pl, .long (f x y) :: st, h))
  | _ => none
def xo_un (f : Int32 → Int32) : xS → xR
  | (pc, pl, .int x :: st, h) => some (.inl (pc + 1, pl, .int (f x) :: st, h))
  | _ => none
def xo_i2l : xS → xR
  | (pc, pl, .int x :: st, h) => some (.inl (pc + 1, pl, .long x.toInt64 :: st, h))
  | _ => none
def xo_l2i : xS → xR
  | (pc, pl, .long x :: st, h) => some (.inl (pc + 1, pl, .int x.toInt32 :: st, h))
  | _ => none
def xo_lcmp : xS → xR
  | (pc, pl, .long y :: .long x :: st, h) => some (.inl (pc + 1, pl, .int (lg_cmp x y) :: st, h))
  | _ => none
def xc1 (v : Value) : Bool := Nat.beq v.category 1
def xo_pop : xS → xR
  | (pc, pl, v :: st, h) => bif xc1 v then some (.inl (pc + 1, pl, st, h)) else none
  | _ => none
def xo_dup : xS → xR
  | (pc, pl, v :: st, h) => bif xc1 v then some (.inl (pc + 1, pl, v :: v :: st, h)) else none
  | _ => none
def xo_dup_x1 : xS → xR
  | (pc, pl, v :: w :: st, h) => bif xc1 v && xc1 w then some (.inl (pc + 1, pl, v :: w :: v :: st, h)) else none
  | _ => none
def xo_dup_x2 : xS → xR
  | (pc, pl, v :: w :: u :: st, h) => bif xc1 v && xc1 w && xc1 u then some (.inl (pc + 1, pl, v :: w :: u :: v :: st, h)) else none
  | _ => none
def xo_dup2 : xS → xR
  | (pc, pl, v :: w :: st, h) => bif xc1 v && xc1 w then some (.inl (pc + 1, pl, v :: w :: v :: w :: st, h)) else none
  | _ => none
def xcmp (op : Jvm.ClassFile.Cond) (x y : Int32) (a b : Nat) : Nat := match op with
  | .eq => if x = y then a else b
  | .ne => if x = y then b else a
  | .lt => if x < y then a else b
  | .ge => if y ≤ x then a else b
  | .gt => if y < x then a else b
  | .le => if x ≤ y then a else b
def xo_if (op : Jvm.ClassFile.Cond) (tgt : Nat) : xS → xR
  | (pc, pl, .int x :: st, h) => some (.inl (xcmp op x 0 tgt (pc + 3), pl, st, h))
  | _ => none
def xo_icmp (op : Jvm.ClassFile.Cond) (tgt : Nat) : xS → xR
  | (pc, pl, .int y :: .int x :: st, h) => some (.inl (xcmp op x y tgt (pc + 3), pl, st, h))
  | _ => none
def xo_goto (tgt : Nat) : xS → xR
  | (_, pl, st, h) => some (.inl (tgt, pl, st, h))
/-- where a switch goes: none if it leaves the code -/
def xtgt (pc : Nat) (off : Int) : Option Nat := match (pc : Int) + off with
  | .ofNat t => some t
  | _ => none
def xtab (pc : Nat) (dflt lo hi : Int) (offs : Array Int) (x : Int32) : Option Nat :=
  if x.toInt < lo ∨ hi < x.toInt then xtgt pc dflt else match offs[(x.toInt - lo).toNat]? with
    | some off => xtgt pc off
    | none => none
def xo_tab (dflt lo hi : Int) (offs : Array Int) : xS → xR
  | (pc, pl, .int x :: st, h) => match xtab pc dflt lo hi offs x with
    | some t => some (.inl (t, pl, st, h))
    | none => none
  | _ => none
def xo_look (dflt : Int) (ps : Array (Int × Int)) : xS → xR
  | (pc, pl, .int x :: st, h) => match xtgt pc (Op.lookupswitch.offset ps.toList dflt x.toInt) with
    | some t => bif (ps.toList.zip (ps.toList.drop 1)).all (fun (a, next) => a.1 < next.1) then some (.inl (t, pl, st, h)) else none
    | none => none
  | _ => none
section XSC
variable (xs : Nat → Int32) (L : Nat)
def xo_iald : xS → xR
  | (pc, pl, .int i :: .ref p :: st, nz, sh, M) => bif Nat.beq p 999 then (bif xoutB i L then none else some (.inl (pc + 1, pl, .int (xs i.toNatClampNeg) :: st, nz, sh, M)))
    else match sh[p]? with
    | some (.inl (.int, n)) => bif xoutB i n then none else some (.inl (pc + 1, pl, .int (M p i.toNatClampNeg) :: st, nz, sh, M))
    | _ => none
  | _ => none
def xo_alen : xS → xR
  | (pc, pl, .ref p :: st, nz, sh, M) => bif Nat.beq p 999 then some (.inl (pc + 1, pl, .int (Int32.ofNat L) :: st, nz, sh, M))
    else bif Nat.ble 2000 p then (bif Nat.ble (p + 1) 2008 then some (.inl (pc + 1, pl, .int (Int32.ofNat (xSl.getD (p - 2000) 0)) :: st, nz, sh, M)) else none)
    else match sh[p]? with
    | some (.inl (.int, n)) => some (.inl (pc + 1, pl, .int (Int32.ofNat n) :: st, nz, sh, M))
    | _ => none
  | _ => none
end XSC
def xo_bald : xS → xR
  | (pc, pl, .int i :: .ref p :: st, nz, sh, M) => bif Nat.ble 2000 p then (bif Nat.ble (p + 1) 2008 then (bif xoutB i (xSl.getD (p - 2000) 0) then none else some (.inl (pc + 1, pl, .int ((xSb.getD (p - 2000) []).getD i.toNatClampNeg 0) :: st, nz, sh, M))) else none)
    else match sh[p]? with
    | some (.inl (.byte, n)) => bif xoutB i n then none else some (.inl (pc + 1, pl, .int (M p i.toNatClampNeg) :: st, nz, sh, M))
    | some (.inl (.boolean, n)) => bif xoutB i n then none else some (.inl (pc + 1, pl, .int (M p i.toNatClampNeg) :: st, nz, sh, M))
    | _ => none
  | _ => none
def xo_cald : xS → xR
  | (pc, pl, .int i :: .ref p :: st, nz, sh, M) => match sh[p]? with
    | some (.inl (.char, n)) => bif xoutB i n then none else some (.inl (pc + 1, pl, .int (M p i.toNatClampNeg) :: st, nz, sh, M))
    | _ => none
  | _ => none
def xo_iast : xS → xR
  | (pc, pl, .int x :: .int i :: .ref p :: st, nz, sh, M) => match sh[p]? with
    | some (.inl (.int, n)) => bif xoutB i n then none else some (.inl (pc + 1, pl, st, nz, sh, xup M p i.toNatClampNeg x))
    | _ => none
  | _ => none
def xo_bast : xS → xR
  | (pc, pl, .int x :: .int i :: .ref p :: st, nz, sh, M) => match sh[p]? with
    | some (.inl (.byte, n)) => bif xoutB i n then none else some (.inl (pc + 1, pl, st, nz, sh, xup M p i.toNatClampNeg (vp_nar .byte x)))
    | some (.inl (.boolean, n)) => bif xoutB i n then none else some (.inl (pc + 1, pl, st, nz, sh, xup M p i.toNatClampNeg (vp_nar .boolean x)))
    | _ => none
  | _ => none
def xo_cast : xS → xR
  | (pc, pl, .int x :: .int i :: .ref p :: st, nz, sh, M) => match sh[p]? with
    | some (.inl (.char, n)) => bif xoutB i n then none else some (.inl (pc + 1, pl, st, nz, sh, xup M p i.toNatClampNeg (vp_nar .char x)))
    | _ => none
  | _ => none
def xo_gets (a : Nat) : xS → xR
  | (pc, pl, st, h) => bif Nat.beq a 0 then some (.inl (pc + 3, pl, .int 1 :: st, h)) else bif Nat.beq a 1 then some (.inl (pc + 3, pl, .ref 3000 :: st, h)) else none
/-- getfield: field b of class a; of a String (a = 100) its bytes (0), its coder (1) -/
def xo_getf (a b : Nat) : xS → xR
  | (pc, pl, .ref p :: st, nz, sh, M) => bif Nat.beq a 100 then (bif Nat.ble 1000 p && Nat.ble (p + 1) 1008 then some (.inl (pc + 3, pl, (bif Nat.beq b 0 then Value.ref (p + 1000) else .int 0) :: st, nz, sh, M)) else none)
    else match sh[p]? with
    | some (.inr (ci, fs)) => bif Nat.beq ci a then (match fs[b]? with
      | some none => some (.inl (pc + 3, pl, .int (M p b) :: st, nz, sh, M))
      | some (some (some q)) => bif Nat.ble 999 q then none else some (.inl (pc + 3, pl, .ref q :: st, nz, sh, M))
      | _ => none) else none
    | _ => none
  | _ => none
/-- putfield: field b of class a (from 50 on: of class a - 50, a boolean; from 100 on: of class a - 100, a reference) -/
def xo_putf (a b : Nat) : xS → xR
  | (pc, pl, .int x :: .ref p :: st, nz, sh, M) => match sh[p]? with
    | some (.inr (ci, fs)) => (match fs[b]? with
      | some none => bif Nat.beq ci a || (Nat.beq (ci + 50) a && (decide (x = 0) || decide (x = 1))) then some (.inl (pc + 3, pl, st, nz, sh, xup M p b x)) else none
      | _ => none)
    | _ => none
  | (pc, pl, .ref q :: .ref p :: st, nz, sh, M) => match sh[p]? with
    | some (.inr (ci, fs)) => (match fs[b]? with
      | some (some _) => bif Nat.beq (ci + 100) a && Nat.ble (q + 1) 999 then some (.inl (pc + 3, pl, st, nz, sh.set p (.inr (ci, fs.set b (some (some q)))), M)) else none
      | _ => none)
    | _ => none
  | _ => none
def xo_new (ini : List (Option (Option Nat))) (a : Nat) : xS → xR
  | (pc, pl, st, nz, sh, M) => bif xfree nz pl st sh && Nat.ble (nz + 1) 900 then some (.inl (pc + 3, pl, .ref nz :: st, nz + 1, sh ++ [.inr (a, ini)], va_up M nz (fun _ => 0))) else none
def xo_newa (ty : FieldType) : xS → xR
  | (pc, pl, .int n :: st, nz, sh, M) => bif xfree nz pl st sh && Nat.ble (nz + 1) 900 && !(decide (n < 0)) && Nat.ble n.toNatClampNeg 10000 then some (.inl (pc + 2, pl, .ref nz :: st, nz + 1, sh ++ [.inl (ty, n.toNatClampNeg)], va_up M nz (fun _ => 0))) else none
  | _ => none
def xo_obj : xS → xR
  | (pc, pl, .ref p :: st, h) => bif xcat st && Nat.ble (p + 1) 3000 then some (.inl (pc + 3, pl, st, h)) else none
  | _ => none
def xo_copy : xS → xR
  | (pc, pl, .int n :: .int dp :: .ref q :: .int sp :: .ref p :: st, nz, sh, M) => match sh[p]?, sh[q]? with
    | some (.inl (.int, n0)), some (.inl (.int, n1)) => bif xcat st && !(decide (sp < 0)) && !(decide (dp < 0)) && !(decide (n < 0)) && Nat.ble (sp.toNatClampNeg + n.toNatClampNeg) n0 && Nat.ble (dp.toNatClampNeg + n.toNatClampNeg) n1 then some (.inl (pc + 3, pl, st, nz, sh, va_up M q (va_cpy (M p) (M q) sp.toNatClampNeg dp.toNatClampNeg n.toNatClampNeg))) else none
    | _, _ => none
  | _ => none
/-- the cell at p is of class ci (100: a String) -/
def xrcv (ci p : Nat) (sh : List xSh) : Bool := bif Nat.beq ci 100 then Nat.ble 1000 p && Nat.ble (p + 1) 1008 else match sh[p]? with
  | some (.inr (c, _)) => Nat.beq c ci
  | _ => false
/-- a call of method z with n arguments; inst: on an object of class ci (100: a String) -/
def xo_call (inst : Bool) (ci z n : Nat) : xS → xR
  | (pc, pl, st, nz, sh, M) => bif Nat.ble n st.length then (bif inst then (match st.drop n with
      | .ref p :: rest => bif xcat rest && xrcv ci p sh then some (.inr (.inl (z, .ref p :: (st.take n).reverse, (pc + 3, pl, rest, nz, sh, M)))) else none
      | _ => none) else (bif xcat (st.drop n) then some (.inr (.inl (z, (st.take n).reverse, (pc + 3, pl, st.drop n, nz, sh, M)))) else none)) else none
/-- a constructor's call: the cell may be of any class -/
def xo_init (z n : Nat) : xS → xR
  | (pc, pl, st, nz, sh, M) => bif Nat.ble n st.length then (match st.drop n with
      | .ref p :: rest => bif xcat rest && Nat.ble (p + 1) 999 then some (.inr (.inl (z, .ref p :: (st.take n).reverse, (pc + 3, pl, rest, nz, sh, M)))) else none
      | _ => none) else none
def xo_iret (ret : Option FieldType) : xS → xR
  | (_, _, [.int v], _) => match ret with
    | some .int => some (.inr (.inr (some (.int v))))
    | some ty => bif decide (narrow ty (.int v) = .int v) then some (.inr (.inr (some (.int v)))) else none
    | none => none
  | _ => none
def xo_vret (ret : Option FieldType) : xS → xR
  | (_, _, [], _) => match ret with
    | none => some (.inr (.inr none))
    | _ => none
  | _ => none
def xini : List (List (Option (Option Nat))) := [[some none, some none, some none, some none, some none, none, none],
  [some none, some none, some none, none],
  [some none, some none, some none, none, none, none],
  [some none, some none, some none, some none, some none, none],
  [some none, some none, some none, none],
  [some none, some none, some none, some none, some none, some none, some none, some none, none],
  [some none, some none, some none, none],
  [some none, some none, some none, some none, some none, some none, some none, some none, some none, none],
  [some none, some none, some none, some none, some none, none, none],
  [some none, none, none, none],
  [some none, some none, some none, some none, some none, some none, some none, some none, some none, some none, none, none],
  [none, some none, some none, some none, some none, some none, none, some none, some none, some none, some none, some none, some none, some none, some none, some none, none, none, some none, some none, some none, some none, some none, some none, some none, some none, none, none, some none, some none, some none, none, some none, some none, some none, some none, some none, none, none, none, some none, some none, some none, none, some none, some none, some none, some none, some none, some none, none, some none, none, some none, some none, none, some none, some none, some none]]
/-- the class number of a method's class: 0 .. 11, 100 String -/
def xci : Nat → Nat := fun y => (cond (Nat.ble y 6) 0 (cond (Nat.ble y 15) 1 (cond (Nat.ble y 22) 2 (cond (Nat.ble y 34) 3 (cond (Nat.ble y 43) 4 (cond (Nat.ble y 54) 5 (cond (Nat.ble y 61) 6 (cond (Nat.ble y 76) 7 (cond (Nat.ble y 85) 8 (cond (Nat.ble y 101) 9 (cond (Nat.ble y 152) 10 (cond (Nat.ble y 220) 11 (cond (Nat.ble y 222) 99 (cond (Nat.ble y 227) 100 (cond (Nat.ble y 231) 99 99)))))))))))))))
def xex (xs : Nat → Int32) (L y : Nat) (e : xEn) : xS → xR := match e with
  | (i, len, a, b, _) => match i with
    | .iconst n => xo_const (.int (Int32.ofInt n)) len
    | .bipush n => xo_const (.int (Int8.ofInt n).toInt32) len
    | .sipush n => xo_const (.int (Int16.ofInt n).toInt32) len
    | .lconst n => xo_const (.long (Int64.ofNat (n : Nat))) len
    | .ldc _ => bif Nat.ble (a + 1) 8 then xo_const (.ref (1000 + a)) len else fun _ => none
    | .ldc2_w _ => xo_const (.long (Int64.ofNat a)) len
    | .iload_n k => xo_iload k len
    | .iload k => xo_iload k len
    | .lload_n k => xo_lload k len
    | .lload k => xo_lload k len
    | .aload_n k => xo_aload k len
    | .aload k => xo_aload k len
    | .istore_n k => xo_istore k len
    | .istore k => xo_istore k len
    | .astore_n k => xo_astore k len
    | .astore k => xo_astore k len
    | .iinc k n => xo_iinc k n len
    | .iadd => xo_bin (fun x y => x + y)
    | .isub => xo_bin (fun x y => x - y)
    | .imul => xo_bin (fun x y => x * y)
    | .iand => xo_bin (fun x y => x &&& y)
    | .ior => xo_bin (fun x y => x ||| y)
    | .ixor => xo_bin (fun x y => x ^^^ y)
    | .ishl => xo_bin (fun x y => x <<< (y &&& 31))
    | .ishr => xo_bin (fun x y => x >>> (y &&& 31))
    | .iushr => xo_bin (fun x y => (x.toUInt32 >>> (y.toUInt32 &&& Int32.toUInt32 31)).toInt32)
    | .idiv => xo_div (fun x y => x / y)
    | .irem => xo_div (fun x y => x - x / y * y)
    | .land => xo_lbin (fun x y => x &&& y)
    | .lor => xo_lbin (fun x y => x ||| y)
    | .lshl => xo_lsh (fun x y => x <<< (y.toInt64 &&& 63))
    | .lshr => xo_lsh (fun x y => x >>> (y.toInt64 &&& 63))
    | .lushr => xo_lsh (fun x y => (x.toUInt64 >>> (y.toInt64.toUInt64 &&& Int64.toUInt64 63)).toInt64)
    | .i2b => xo_un (fun x => x.toInt8.toInt32)
    | .i2c => xo_un (fun x => (x.toUInt32 % 65536).toInt32)
    | .i2l => xo_i2l
    | .l2i => xo_l2i
    | .lcmp => xo_lcmp
    | .pop => xo_pop
    | .dup => xo_dup
    | .dup_x1 => xo_dup_x1
    | .dup_x2 => xo_dup_x2
    | .dup2 => xo_dup2
    | .ifCond op _ => xo_if op a
    | .if_icmp op _ => xo_icmp op a
    | .goto _ => xo_goto a
    | .tableswitch dflt lo hi offs => xo_tab dflt lo hi offs
    | .lookupswitch dflt ps => xo_look dflt ps
    | .iaload => xo_iald xs L
    | .baload => xo_bald
    | .caload => xo_cald
    | .iastore => xo_iast
    | .bastore => xo_bast
    | .castore => xo_cast
    | .arraylength => xo_alen L
    | .getstatic _ => xo_gets a
    | .getfield _ => xo_getf a b
    | .putfield _ => xo_putf a b
    | .new _ => bif Nat.ble (a + 1) 12 then xo_new (xini.getD a []) a else fun _ => none
    | .newarray t => xo_newa (newarray.typeOf t)
    | .invokevirtual _ => bif Nat.ble (a + 1) xN then xo_call true (xci a) a b else fun _ => none
    | .invokestatic _ => bif Nat.ble (a + 1) xN then xo_call false 0 a b else bif Nat.beq a 901 then xo_copy else fun _ => none
    | .invokespecial _ => bif Nat.beq a 900 then xo_obj else bif Nat.ble (a + 1) xN then xo_init a b else fun _ => none
    | .ireturn => xo_iret (xm y).2.2.2.1
    | .return_ => xo_vret (xm y).2.2.2.1
    | _ => fun _ => none
def xstep (xs : Nat → Int32) (L y : Nat) (s : xS) : xR := match xI y s.1 with
  | some e => xex xs L y e s
  | none => none
/-- locals at a method's entry -/
def xargs : List Value → List (Option Value)
  | [] => []
  | .long x :: l => some (.long x) :: none :: xargs l
  | .double x :: l => some (.double x) :: none :: xargs l
  | v :: l => some v :: xargs l
def xent (z : Nat) (as : List Value) : List (Option Value) := xargs as ++ List.replicate ((xm z).2.2.1 - (xargs as).length) none
abbrev xZ : Type := Option Value × Nat × List xSh × xM
def xrun (xs : Nat → Int32) (L : Nat) : Nat → Nat → xS → Option xZ
  | 0, _, _ => none
  | n + 1, y, s => match xstep xs L y s with
    | none => none
    | some (.inl s') => xrun xs L n y s'
    | some (.inr (.inl (z, as, pc, pl, st, nz, sh, M))) => bif Nat.ble (xargs as).length (xm z).2.2.1 then (match xrun xs L n z (0, xent z as, [], nz, sh, M) with
      | none => none
      | some (v, nz', sh', M') => bif Nat.beq nz' nz || xbelow nz pl st then xrun xs L n y (pc, pl, v.toList ++ st, nz', sh', M') else none) else none
    | some (.inr (.inr v)) => some (v, s.2.2.2)
