set_option maxRecDepth 100000 in
theorem law_out (xs : Nat → Int32) : PL xs 5 231 (1139, [some (.ref 999), some (.ref 0), some (.ref 56), some (.int 0)], [], 102, xsh0, xM0) xfin := law_end xs _
set_option maxRecDepth 100000 in
set_option maxHeartbeats 40000000 in
theorem law_full (xs : Nat → Int32) : PL xs 5 231 (18, [some (.ref 999), some (.ref 0), some (.ref 56), some (.int 0)], [], 102, xsh0, xM0) xfin := by
  refine PL.go (k := 5) (s' := (23, [some (.ref 999), some (.ref 0), some (.ref 56), some (.int 0)], [.int (Int32.ofNat 5 - Int32.ofInt 5), .int 0], 102, xsh0, xM0)) rfl ?_
  refine PL.topi (x' := 0) (by decide) ?_
  refine PL.go (k := 6) (s' := (32, [some (.ref 999), some (.ref 0), some (.ref 56), some (.int 0)], [.int (xs 0 &&& 63)], 102, xsh0, xM0)) rfl ?_
  obtain ⟨j, hj, e⟩ := pk_andE (xs 0) (m := 63) 6 (by decide)
  have hj : j < 64 := hj
  match j, hj, e with
  | 0, _, e =>
    rw [e]
    refine PL.go (k := 1) (s' := (180, [some (.ref 999), some (.ref 0), some (.ref 56), some (.int 0)], [], 102, xsh0, xM0)) rfl ?_
    exact law_0 xs
  | 1, _, e =>
    rw [e]
    refine PL.go (k := 1) (s' := (233, [some (.ref 999), some (.ref 0), some (.ref 56), some (.int 0)], [], 102, xsh0, xM0)) rfl ?_
    exact law_1 xs
  | 2, _, e =>
    rw [e]
    refine PL.go (k := 1) (s' := (266, [some (.ref 999), some (.ref 0), some (.ref 56), some (.int 0)], [], 102, xsh0, xM0)) rfl ?_
    exact law_2 xs
  | 3, _, e =>
    rw [e]
    refine PL.go (k := 1) (s' := (289, [some (.ref 999), some (.ref 0), some (.ref 56), some (.int 0)], [], 102, xsh0, xM0)) rfl ?_
    exact law_3 xs
  | 4, _, e =>
    rw [e]
    refine PL.go (k := 1) (s' := (342, [some (.ref 999), some (.ref 0), some (.ref 56), some (.int 0)], [], 102, xsh0, xM0)) rfl ?_
    exact law_4 xs
  | 5, _, e =>
    rw [e]
    refine PL.go (k := 1) (s' := (375, [some (.ref 999), some (.ref 0), some (.ref 56), some (.int 0)], [], 102, xsh0, xM0)) rfl ?_
    exact law_5 xs
  | 6, _, e =>
    rw [e]
    refine PL.go (k := 1) (s' := (408, [some (.ref 999), some (.ref 0), some (.ref 56), some (.int 0)], [], 102, xsh0, xM0)) rfl ?_
    exact law_6 xs
  | 7, _, e =>
    rw [e]
    refine PL.go (k := 1) (s' := (431, [some (.ref 999), some (.ref 0), some (.ref 56), some (.int 0)], [], 102, xsh0, xM0)) rfl ?_
    exact law_7 xs
  | 8, _, e =>
    rw [e]
    refine PL.go (k := 1) (s' := (454, [some (.ref 999), some (.ref 0), some (.ref 56), some (.int 0)], [], 102, xsh0, xM0)) rfl ?_
    exact law_8 xs
  | 9, _, e =>
    rw [e]
    refine PL.go (k := 1) (s' := (487, [some (.ref 999), some (.ref 0), some (.ref 56), some (.int 0)], [], 102, xsh0, xM0)) rfl ?_
    exact law_9 xs
  | 10, _, e =>
    rw [e]
    refine PL.go (k := 1) (s' := (550, [some (.ref 999), some (.ref 0), some (.ref 56), some (.int 0)], [], 102, xsh0, xM0)) rfl ?_
    exact law_10 xs
  | 11, _, e =>
    rw [e]
    refine PL.go (k := 1) (s' := (563, [some (.ref 999), some (.ref 0), some (.ref 56), some (.int 0)], [], 102, xsh0, xM0)) rfl ?_
    exact law_11 xs
  | 12, _, e =>
    rw [e]
    refine PL.go (k := 1) (s' := (586, [some (.ref 999), some (.ref 0), some (.ref 56), some (.int 0)], [], 102, xsh0, xM0)) rfl ?_
    exact law_12 xs
  | 13, _, e =>
    rw [e]
    refine PL.go (k := 1) (s' := (619, [some (.ref 999), some (.ref 0), some (.ref 56), some (.int 0)], [], 102, xsh0, xM0)) rfl ?_
    exact law_13 xs
  | 14, _, e =>
    rw [e]
    refine PL.go (k := 1) (s' := (642, [some (.ref 999), some (.ref 0), some (.ref 56), some (.int 0)], [], 102, xsh0, xM0)) rfl ?_
    exact law_14 xs
  | 15, _, e =>
    rw [e]
    refine PL.go (k := 1) (s' := (675, [some (.ref 999), some (.ref 0), some (.ref 56), some (.int 0)], [], 102, xsh0, xM0)) rfl ?_
    exact law_15 xs
  | 16, _, e =>
    rw [e]
    refine PL.go (k := 1) (s' := (708, [some (.ref 999), some (.ref 0), some (.ref 56), some (.int 0)], [], 102, xsh0, xM0)) rfl ?_
    exact law_16 xs
  | 17, _, e =>
    rw [e]
    refine PL.go (k := 1) (s' := (741, [some (.ref 999), some (.ref 0), some (.ref 56), some (.int 0)], [], 102, xsh0, xM0)) rfl ?_
    exact law_17 xs
  | 18, _, e =>
    rw [e]
    refine PL.go (k := 1) (s' := (754, [some (.ref 999), some (.ref 0), some (.ref 56), some (.int 0)], [], 102, xsh0, xM0)) rfl ?_
    exact law_18 xs
  | 19, _, e =>
    rw [e]
    refine PL.go (k := 1) (s' := (777, [some (.ref 999), some (.ref 0), some (.ref 56), some (.int 0)], [], 102, xsh0, xM0)) rfl ?_
    exact law_19 xs
  | 20, _, e =>
    rw [e]
    refine PL.go (k := 1) (s' := (790, [some (.ref 999), some (.ref 0), some (.ref 56), some (.int 0)], [], 102, xsh0, xM0)) rfl ?_
    exact law_20 xs
  | 21, _, e =>
    rw [e]
    refine PL.go (k := 1) (s' := (803, [some (.ref 999), some (.ref 0), some (.ref 56), some (.int 0)], [], 102, xsh0, xM0)) rfl ?_
    exact law_21 xs
  | 22, _, e =>
    rw [e]
    refine PL.go (k := 1) (s' := (816, [some (.ref 999), some (.ref 0), some (.ref 56), some (.int 0)], [], 102, xsh0, xM0)) rfl ?_
    exact law_22 xs
  | 23, _, e =>
    rw [e]
    refine PL.go (k := 1) (s' := (849, [some (.ref 999), some (.ref 0), some (.ref 56), some (.int 0)], [], 102, xsh0, xM0)) rfl ?_
    exact law_23 xs
  | 24, _, e =>
    rw [e]
    refine PL.go (k := 1) (s' := (872, [some (.ref 999), some (.ref 0), some (.ref 56), some (.int 0)], [], 102, xsh0, xM0)) rfl ?_
    exact law_24 xs
  | 25, _, e =>
    rw [e]
    refine PL.go (k := 1) (s' := (915, [some (.ref 999), some (.ref 0), some (.ref 56), some (.int 0)], [], 102, xsh0, xM0)) rfl ?_
    exact law_25 xs
  | 26, _, e =>
    rw [e]
    refine PL.go (k := 1) (s' := (948, [some (.ref 999), some (.ref 0), some (.ref 56), some (.int 0)], [], 102, xsh0, xM0)) rfl ?_
    exact law_26 xs
  | 27, _, e =>
    rw [e]
    refine PL.go (k := 1) (s' := (971, [some (.ref 999), some (.ref 0), some (.ref 56), some (.int 0)], [], 102, xsh0, xM0)) rfl ?_
    exact law_27 xs
  | 28, _, e =>
    rw [e]
    refine PL.go (k := 1) (s' := (984, [some (.ref 999), some (.ref 0), some (.ref 56), some (.int 0)], [], 102, xsh0, xM0)) rfl ?_
    exact law_28 xs
  | 29, _, e =>
    rw [e]
    refine PL.go (k := 1) (s' := (1027, [some (.ref 999), some (.ref 0), some (.ref 56), some (.int 0)], [], 102, xsh0, xM0)) rfl ?_
    exact law_29 xs
  | 30, _, e =>
    rw [e]
    refine PL.go (k := 1) (s' := (1070, [some (.ref 999), some (.ref 0), some (.ref 56), some (.int 0)], [], 102, xsh0, xM0)) rfl ?_
    exact law_30 xs
  | 31, _, e =>
    rw [e]
    refine PL.go (k := 1) (s' := (1093, [some (.ref 999), some (.ref 0), some (.ref 56), some (.int 0)], [], 102, xsh0, xM0)) rfl ?_
    exact law_31 xs
  | 32, _, e =>
    rw [e]
    refine PL.go (k := 1) (s' := (1116, [some (.ref 999), some (.ref 0), some (.ref 56), some (.int 0)], [], 102, xsh0, xM0)) rfl ?_
    exact law_32 xs
  | 33, _, e =>
    rw [e]
    refine PL.go (k := 1) (s' := (1139, [some (.ref 999), some (.ref 0), some (.ref 56), some (.int 0)], [], 102, xsh0, xM0)) rfl ?_
    exact law_out xs
  | 34, _, e =>
    rw [e]
    refine PL.go (k := 1) (s' := (1139, [some (.ref 999), some (.ref 0), some (.ref 56), some (.int 0)], [], 102, xsh0, xM0)) rfl ?_
    exact law_out xs
  | 35, _, e =>
    rw [e]
    refine PL.go (k := 1) (s' := (1139, [some (.ref 999), some (.ref 0), some (.ref 56), some (.int 0)], [], 102, xsh0, xM0)) rfl ?_
    exact law_out xs
  | 36, _, e =>
    rw [e]
    refine PL.go (k := 1) (s' := (1139, [some (.ref 999), some (.ref 0), some (.ref 56), some (.int 0)], [], 102, xsh0, xM0)) rfl ?_
    exact law_out xs
  | 37, _, e =>
    rw [e]
    refine PL.go (k := 1) (s' := (1139, [some (.ref 999), some (.ref 0), some (.ref 56), some (.int 0)], [], 102, xsh0, xM0)) rfl ?_
    exact law_out xs
  | 38, _, e =>
    rw [e]
    refine PL.go (k := 1) (s' := (1139, [some (.ref 999), some (.ref 0), some (.ref 56), some (.int 0)], [], 102, xsh0, xM0)) rfl ?_
    exact law_out xs
  | 39, _, e =>
    rw [e]
    refine PL.go (k := 1) (s' := (1139, [some (.ref 999), some (.ref 0), some (.ref 56), some (.int 0)], [], 102, xsh0, xM0)) rfl ?_
    exact law_out xs
  | 40, _, e =>
    rw [e]
    refine PL.go (k := 1) (s' := (1139, [some (.ref 999), some (.ref 0), some (.ref 56), some (.int 0)], [], 102, xsh0, xM0)) rfl ?_
    exact law_out xs
  | 41, _, e =>
    rw [e]
    refine PL.go (k := 1) (s' := (1139, [some (.ref 999), some (.ref 0), some (.ref 56), some (.int 0)], [], 102, xsh0, xM0)) rfl ?_
    exact law_out xs
  | 42, _, e =>
    rw [e]
    refine PL.go (k := 1) (s' := (1139, [some (.ref 999), some (.ref 0), some (.ref 56), some (.int 0)], [], 102, xsh0, xM0)) rfl ?_
    exact law_out xs
  | 43, _, e =>
    rw [e]
    refine PL.go (k := 1) (s' := (1139, [some (.ref 999), some (.ref 0), some (.ref 56), some (.int 0)], [], 102, xsh0, xM0)) rfl ?_
    exact law_out xs
  | 44, _, e =>
    rw [e]
    refine PL.go (k := 1) (s' := (1139, [some (.ref 999), some (.ref 0), some (.ref 56), some (.int 0)], [], 102, xsh0, xM0)) rfl ?_
    exact law_out xs
  | 45, _, e =>
    rw [e]
    refine PL.go (k := 1) (s' := (1139, [some (.ref 999), some (.ref 0), some (.ref 56), some (.int 0)], [], 102, xsh0, xM0)) rfl ?_
    exact law_out xs
  | 46, _, e =>
    rw [e]
    refine PL.go (k := 1) (s' := (1139, [some (.ref 999), some (.ref 0), some (.ref 56), some (.int 0)], [], 102, xsh0, xM0)) rfl ?_
    exact law_out xs
  | 47, _, e =>
    rw [e]
    refine PL.go (k := 1) (s' := (1139, [some (.ref 999), some (.ref 0), some (.ref 56), some (.int 0)], [], 102, xsh0, xM0)) rfl ?_
    exact law_out xs
  | 48, _, e =>
    rw [e]
    refine PL.go (k := 1) (s' := (1139, [some (.ref 999), some (.ref 0), some (.ref 56), some (.int 0)], [], 102, xsh0, xM0)) rfl ?_
    exact law_out xs
  | 49, _, e =>
    rw [e]
    refine PL.go (k := 1) (s' := (1139, [some (.ref 999), some (.ref 0), some (.ref 56), some (.int 0)], [], 102, xsh0, xM0)) rfl ?_
    exact law_out xs
  | 50, _, e =>
    rw [e]
    refine PL.go (k := 1) (s' := (1139, [some (.ref 999), some (.ref 0), some (.ref 56), some (.int 0)], [], 102, xsh0, xM0)) rfl ?_
    exact law_out xs
  | 51, _, e =>
    rw [e]
    refine PL.go (k := 1) (s' := (1139, [some (.ref 999), some (.ref 0), some (.ref 56), some (.int 0)], [], 102, xsh0, xM0)) rfl ?_
    exact law_out xs
  | 52, _, e =>
    rw [e]
    refine PL.go (k := 1) (s' := (1139, [some (.ref 999), some (.ref 0), some (.ref 56), some (.int 0)], [], 102, xsh0, xM0)) rfl ?_
    exact law_out xs
  | 53, _, e =>
    rw [e]
    refine PL.go (k := 1) (s' := (1139, [some (.ref 999), some (.ref 0), some (.ref 56), some (.int 0)], [], 102, xsh0, xM0)) rfl ?_
    exact law_out xs
  | 54, _, e =>
    rw [e]
    refine PL.go (k := 1) (s' := (1139, [some (.ref 999), some (.ref 0), some (.ref 56), some (.int 0)], [], 102, xsh0, xM0)) rfl ?_
    exact law_out xs
  | 55, _, e =>
    rw [e]
    refine PL.go (k := 1) (s' := (1139, [some (.ref 999), some (.ref 0), some (.ref 56), some (.int 0)], [], 102, xsh0, xM0)) rfl ?_
    exact law_out xs
  | 56, _, e =>
    rw [e]
    refine PL.go (k := 1) (s' := (1139, [some (.ref 999), some (.ref 0), some (.ref 56), some (.int 0)], [], 102, xsh0, xM0)) rfl ?_
    exact law_out xs
  | 57, _, e =>
    rw [e]
    refine PL.go (k := 1) (s' := (1139, [some (.ref 999), some (.ref 0), some (.ref 56), some (.int 0)], [], 102, xsh0, xM0)) rfl ?_
    exact law_out xs
  | 58, _, e =>
    rw [e]
    refine PL.go (k := 1) (s' := (1139, [some (.ref 999), some (.ref 0), some (.ref 56), some (.int 0)], [], 102, xsh0, xM0)) rfl ?_
    exact law_out xs
  | 59, _, e =>
    rw [e]
    refine PL.go (k := 1) (s' := (1139, [some (.ref 999), some (.ref 0), some (.ref 56), some (.int 0)], [], 102, xsh0, xM0)) rfl ?_
    exact law_out xs
  | 60, _, e =>
    rw [e]
    refine PL.go (k := 1) (s' := (1139, [some (.ref 999), some (.ref 0), some (.ref 56), some (.int 0)], [], 102, xsh0, xM0)) rfl ?_
    exact law_out xs
  | 61, _, e =>
    rw [e]
    refine PL.go (k := 1) (s' := (1139, [some (.ref 999), some (.ref 0), some (.ref 56), some (.int 0)], [], 102, xsh0, xM0)) rfl ?_
    exact law_out xs
  | 62, _, e =>
    rw [e]
    refine PL.go (k := 1) (s' := (1139, [some (.ref 999), some (.ref 0), some (.ref 56), some (.int 0)], [], 102, xsh0, xM0)) rfl ?_
    exact law_out xs
  | 63, _, e =>
    rw [e]
    refine PL.go (k := 1) (s' := (1139, [some (.ref 999), some (.ref 0), some (.ref 56), some (.int 0)], [], 102, xsh0, xM0)) rfl ?_
    exact law_out xs
  | k + 64, hk, _ => omega
set_option maxRecDepth 100000 in
theorem law_short_0 (xs : Nat → Int32) : PL xs 0 231 (18, [some (.ref 999), some (.ref 0), some (.ref 56), some (.int 0)], [], 102, xsh0, xM0) xfin := by
  refine PL.go (k := 5) (s' := (23, [some (.ref 999), some (.ref 0), some (.ref 56), some (.int 0)], [.int (Int32.ofNat 0 - Int32.ofInt 5), .int 0], 102, xsh0, xM0)) rfl ?_
  refine PL.topi (x' := (-5)) (by decide) ?_
  refine PL.go (k := 2) (s' := (1146, [some (.ref 999), some (.ref 0), some (.ref 56), some (.int 0)], [.int 1], 102, xsh0, xM0)) rfl ?_
  exact PL.ret (v := some (.int 1)) rfl ⟨rfl, Nat.le_refl _, Nat.le_of_eq xsl_sh0⟩
set_option maxRecDepth 100000 in
theorem law_short_1 (xs : Nat → Int32) : PL xs 1 231 (18, [some (.ref 999), some (.ref 0), some (.ref 56), some (.int 0)], [], 102, xsh0, xM0) xfin := by
  refine PL.go (k := 5) (s' := (23, [some (.ref 999), some (.ref 0), some (.ref 56), some (.int 0)], [.int (Int32.ofNat 1 - Int32.ofInt 5), .int 0], 102, xsh0, xM0)) rfl ?_
  refine PL.topi (x' := (-4)) (by decide) ?_
  refine PL.go (k := 2) (s' := (1146, [some (.ref 999), some (.ref 0), some (.ref 56), some (.int 0)], [.int 1], 102, xsh0, xM0)) rfl ?_
  exact PL.ret (v := some (.int 1)) rfl ⟨rfl, Nat.le_refl _, Nat.le_of_eq xsl_sh0⟩
set_option maxRecDepth 100000 in
theorem law_short_2 (xs : Nat → Int32) : PL xs 2 231 (18, [some (.ref 999), some (.ref 0), some (.ref 56), some (.int 0)], [], 102, xsh0, xM0) xfin := by
  refine PL.go (k := 5) (s' := (23, [some (.ref 999), some (.ref 0), some (.ref 56), some (.int 0)], [.int (Int32.ofNat 2 - Int32.ofInt 5), .int 0], 102, xsh0, xM0)) rfl ?_
  refine PL.topi (x' := (-3)) (by decide) ?_
  refine PL.go (k := 2) (s' := (1146, [some (.ref 999), some (.ref 0), some (.ref 56), some (.int 0)], [.int 1], 102, xsh0, xM0)) rfl ?_
  exact PL.ret (v := some (.int 1)) rfl ⟨rfl, Nat.le_refl _, Nat.le_of_eq xsl_sh0⟩
set_option maxRecDepth 100000 in
theorem law_short_3 (xs : Nat → Int32) : PL xs 3 231 (18, [some (.ref 999), some (.ref 0), some (.ref 56), some (.int 0)], [], 102, xsh0, xM0) xfin := by
  refine PL.go (k := 5) (s' := (23, [some (.ref 999), some (.ref 0), some (.ref 56), some (.int 0)], [.int (Int32.ofNat 3 - Int32.ofInt 5), .int 0], 102, xsh0, xM0)) rfl ?_
  refine PL.topi (x' := (-2)) (by decide) ?_
  refine PL.go (k := 2) (s' := (1146, [some (.ref 999), some (.ref 0), some (.ref 56), some (.int 0)], [.int 1], 102, xsh0, xM0)) rfl ?_
  exact PL.ret (v := some (.int 1)) rfl ⟨rfl, Nat.le_refl _, Nat.le_of_eq xsl_sh0⟩
set_option maxRecDepth 100000 in
theorem law_short_4 (xs : Nat → Int32) : PL xs 4 231 (18, [some (.ref 999), some (.ref 0), some (.ref 56), some (.int 0)], [], 102, xsh0, xM0) xfin := by
  refine PL.go (k := 5) (s' := (23, [some (.ref 999), some (.ref 0), some (.ref 56), some (.int 0)], [.int (Int32.ofNat 4 - Int32.ofInt 5), .int 0], 102, xsh0, xM0)) rfl ?_
  refine PL.topi (x' := (-1)) (by decide) ?_
  refine PL.go (k := 2) (s' := (1146, [some (.ref 999), some (.ref 0), some (.ref 56), some (.int 0)], [.int 1], 102, xsh0, xM0)) rfl ?_
  exact PL.ret (v := some (.int 1)) rfl ⟨rfl, Nat.le_refl _, Nat.le_of_eq xsl_sh0⟩
set_option maxRecDepth 100000 in
theorem law_begin (xs : Nat → Int32) (L : Nat) (k : PL xs L 231 (18, [some (.ref 999), some (.ref 0), some (.ref 56), some (.int 0)], [], 102, xsh0, xM0) xfin) : PL xs L 231 (0, xent 231 [.ref 999], [], 0, [], fun _ _ => 0) xfin := by
  refine PL.go (k := 2) (s' := (4, [some (.ref 999), none, none, none], [.ref 0, .ref 0], 1, [(Sum.inr (10, xini.getD 10 []) : xSh)], va_up (fun _ _ => 0) 0 (fun _ => 0))) rfl ?_
  refine PL.call0 (al := true) (n1 := 3000) (r := (none, 56, xsh1, xM1)) (z := 102) (as := [.ref 0]) (pc := 7) (pl := [some (.ref 999), none, none, none]) (st := [.ref 0]) (nz := 1) (sh := [(Sum.inr (10, xini.getD 10 []) : xSh)]) (M := va_up (fun _ _ => 0) 0 (fun _ => 0)) rfl (Nat.le_of_ble_eq_true rfl) xA1_eq rfl ?_
  show PL xs L 231 (7, [some (.ref 999), none, none, none], [.ref 0], 56, xsh1, xM1) _
  refine PL.go (k := 3) (s' := (12, [some (.ref 999), some (.ref 0), none, none], [.ref 56, .ref 56], 57, xsh1 ++ [(Sum.inr (11, xini.getD 11 []) : xSh)], va_up xM1 56 (fun _ => 0))) rfl ?_
  refine PL.call0 (al := true) (n1 := 3000) (r := (none, 102, xsh0, xM0)) (z := 153) (as := [.ref 56]) (pc := 15) (pl := [some (.ref 999), some (.ref 0), none, none]) (st := [.ref 56]) (nz := 57) (sh := xsh1 ++ [(Sum.inr (11, xini.getD 11 []) : xSh)]) (M := va_up xM1 56 (fun _ => 0)) rfl (Nat.le_of_ble_eq_true rfl) xA2_eq rfl ?_
  show PL xs L 231 (15, [some (.ref 999), some (.ref 0), none, none], [.ref 56], 102, xsh0, xM0) _
  refine PL.go (k := 3) (s' := (18, [some (.ref 999), some (.ref 0), some (.ref 56), some (.int 0)], [], 102, xsh0, xM0)) rfl ?_
  exact k
theorem law_true (xs : Nat → Int32) (L : Nat) (hL : L ≤ 5) : ∃ n r, xrun xs L n 231 (0, xent 231 [.ref 999], [], 0, [], fun _ _ => 0) = some r ∧ r.1 = some (.int 1) ∧ r.2.1 ≤ 102 ∧ xsl r.2.2.1 ≤ 2663 := by
  have h : PL xs L 231 (0, xent 231 [.ref 999], [], 0, [], fun _ _ => 0) xfin := by
    refine law_begin xs L ?_
    match L, hL with
    | 0, _ => exact law_short_0 xs
    | 1, _ => exact law_short_1 xs
    | 2, _ => exact law_short_2 xs
    | 3, _ => exact law_short_3 xs
    | 4, _ => exact law_short_4 xs
    | 5, _ => exact law_full xs
    | k + 6, hk => omega
  obtain ⟨n, r, h1, h2, h3, h4⟩ := h
  exact ⟨n, r, h1, h2, h3, h4⟩
