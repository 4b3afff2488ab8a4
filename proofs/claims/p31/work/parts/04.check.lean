/-! WHAT THE TABLES OWE: each row of the instruction tables is what its method's bytes decode to, and its resolved numbers are what the Statement's tables say -/
def xow (y : Nat) : String := (xm y).1.cls
def xfr (y : Nat) : Nat := (xm y).2.2.2.2.1
def xlo (y : Nat) : Nat := (xm y).2.2.2.2.2.1
def xkd (y : Nat) : Nat := (xm y).2.2.2.2.2.2.2.2.2.2.1
def xna (y : Nat) : Nat := (xm y).2.2.2.2.2.2.2.2.2.2.2
def xfchk (own : String) (idx a b w : Nat) (ok : String → String → String → Bool → Bool) : Bool := match vwCl[a]? with
  | some (_, T, N) => Nat.ble (b + 1) N && decide (lw_tbl[w]? = some (.fieldLink own idx (T b).1 (T b).2.1 (T b).2.2.1)) && ok (T b).1 (T b).2.1 (T b).2.2.1 (T b).2.2.2
  | none => false
def xrefd (d : String) : Bool := match parseFieldDescriptor d with
  | some (.object _) => true
  | some (.array _) => true
  | _ => false
def xroom (y z : Nat) : Bool := Nat.ble (xfr z + 1) (xfr y) && Nat.ble (8 + ((xm z).2.2.1 + 11) + xlo z) (xlo y)
def xlink (y idx z w : Nat) : Bool := decide (lw_tbl[w]? = some (.methodLink (xow y) idx (xm z).1)) || decide (lw_tbl[w]? = some (.methodLinkNest (xow y) idx (xm z).1 "RollHall"))
def xchk (y pc : Nat) (e : xEn) : Bool := match e with
  | (i, len, a, b, w) => match i with
    | .bipush _ => Nat.beq len 2
    | .iload _ => Nat.beq len 2
    | .lload _ => Nat.beq len 2
    | .aload _ => Nat.beq len 2
    | .istore _ => Nat.beq len 2
    | .astore _ => Nat.beq len 2
    | .sipush _ => Nat.beq len 3
    | .ldc idx => Nat.beq len 2 && (Nat.ble 8 a || (decide (xow y = RX5) && decide (xSk.getD a 0 = idx)))
    | .ldc2_w idx => Nat.beq len 3 && decide (lw_tbl[w]? = some (.constantLong (xow y) idx (Int64.ofNat a)))
    | .iinc _ _ => true
    | .ifCond _ off => Nat.beq len 3 && decide ((pc : Int) + off = (a : Int))
    | .if_icmp _ off => Nat.beq len 3 && decide ((pc : Int) + off = (a : Int))
    | .goto off => Nat.beq len 3 && decide ((pc : Int) + off = (a : Int))
    | .tableswitch _ _ _ _ => true
    | .lookupswitch _ _ => true
    | .newarray t => Nat.beq len 2 && decide (lw_tbl[w]? = some (.arrayClass (newarray.typeOf t))) && (decide (newarray.typeOf t = .int) || decide (newarray.typeOf t = .byte) || decide (newarray.typeOf t = .boolean) || decide (newarray.typeOf t = .char))
    | .getstatic idx => Nat.beq len 3 && (bif Nat.beq a 0 then decide (lw_tbl[w]? = some (.fieldLink (xow y) idx "java/lang/String" "COMPACT_STRINGS" "Z")) else bif Nat.beq a 1 then decide (lw_tbl[w]? = some (.fieldLink (xow y) idx "jdk/internal/util/Preconditions" "SIOOBE_FORMATTER" "Ljava/util/function/BiFunction;")) else true)
    | .getfield idx => Nat.beq len 3 && (bif Nat.beq a 100 then (bif Nat.beq b 0 then decide (lw_tbl[w]? = some (.fieldLink (xow y) idx "java/lang/String" "value" "[B")) else decide (lw_tbl[w]? = some (.fieldLink (xow y) idx "java/lang/String" "coder" "B"))) else xfchk (xow y) idx a b w (fun _ _ _ _ => true))
    | .putfield idx => Nat.beq len 3 && (bif Nat.ble 100 a then xfchk (xow y) idx (a - 100) b w (fun o _ d f => xrefd d && (!f || (decide ((xm y).1.name = "<init>") && decide (o = xow y)))) else bif Nat.ble 50 a then xfchk (xow y) idx (a - 50) b w (fun o _ d f => decide (d = "Z") && (!f || (decide ((xm y).1.name = "<init>") && decide (o = xow y)))) else xfchk (xow y) idx a b w (fun o _ d f => decide (d = "I") && (!f || (decide ((xm y).1.name = "<init>") && decide (o = xow y)))))
    | .new idx => Nat.beq len 3 && (Nat.ble 12 a || match vwCl[a]? with
      | some (C, _, N) => decide (lw_tbl[w]? = some (.classLink (xow y) idx C)) && Nat.beq (xini.getD a []).length N
      | none => false)
    | .invokevirtual idx => Nat.beq len 3 && (Nat.ble xN a || (Nat.ble (a + 2) xN && xlink y idx a w && xroom y a && Nat.beq (xkd a) 1 && Nat.beq (xna a) b))
    | .invokestatic idx => Nat.beq len 3 && (bif Nat.beq a 901 then decide (lw_tbl[w]? = some (.methodLink (xow y) idx arraycopyName)) && Nat.ble 1 (xfr y) && Nat.ble 26 (xlo y) else (Nat.ble xN a || (Nat.ble (a + 2) xN && xlink y idx a w && xroom y a && Nat.beq (xkd a) 0 && Nat.beq (xna a) b)))
    | .invokespecial idx => Nat.beq len 3 && (bif Nat.beq a 900 then decide (lw_tbl[w]? = some (.methodLink (xow y) idx objectInit)) && Nat.ble 1 (xfr y) && Nat.ble 20 (xlo y) else (Nat.ble xN a || (Nat.ble (a + 2) xN && xlink y idx a w && xroom y a && Nat.beq (xkd a) 2 && Nat.beq (xna a) b)))
    | _ => Nat.beq len 1
def xgood (y pc : Nat) (e : xEn) : Bool := xchk y pc e && decide (decode (xm y).2.1 pc = .ok (e.1, e.2.1))
/-- what a method that is called owes -/
def xmchk (z : Nat) : Bool := match xm z with
  | (y, cc, ml, ret, _, _, w1, w2, w3, w4, kd, na) => decide (lw_tbl[w1]? = some (.code y cc ml ret)) && decide (lw_tbl[w2]? = some (.initialized y.cls)) && plainName y.cls && decide (y.cls ≠ "java/lang/invoke/MethodHandle") && decide (y.cls ≠ "java/lang/invoke/VarHandle") && decide ((parseMethodDescriptor y.desc).map (fun d => d.parameters.length) = some na) &&
    (bif Nat.beq kd 0 then decide (lw_tbl[w3]? = some (.static y)) else bif Nat.beq kd 1 then decide (lw_tbl[w3]? = some (.instanceMethod y)) && decide (lw_tbl[w4]? = some (.selects y.cls y y)) && (bif Nat.beq (xci z) 100 then decide (y.cls = "java/lang/String") else decide (vwCl[xci z]?.map (fun q => q.1) = some y.cls)) else decide (lw_tbl[w3]? = some (.instanceMethod y)) && decide (y.name = "<init>") && decide (ret = none))
theorem xgood_of {f : Nat → Option xEn} {y sz : Nat} (h0 : ∀ pc, sz ≤ pc → f pc = none) (h1 : (List.range sz).all (fun pc => match f pc with
    | none => true
    | some e => xgood y pc e) = true) : ∀ pc e, f pc = some e → xgood y pc e = true := by
  intro pc e he
  rcases Nat.lt_or_ge pc sz with h | h
  · have := List.all_eq_true.mp h1 pc (List.mem_range.mpr h)
    rw [he] at this
    exact this
  · rw [h0 pc h] at he
    cases he
