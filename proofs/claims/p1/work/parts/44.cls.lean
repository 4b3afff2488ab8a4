set_option maxRecDepth 100000 in
set_option maxHeartbeats 4000000 in
theorem wc_meeting (a b c d : Int32) : P0 103 (0, [some (.ref 0), some (.int a), some (.int b), some (.int c), some (.int d)], [], 102, xshC, xMt) (fun r => r.1 = some (.int (F_meeting a b c d))) := by
  refine P0.go (k := 1) (s' := (1, [some (.ref 0), some (.int a), some (.int b), some (.int c), some (.int d)], [.int a], 102, xshC, xMt)) rfl ?_
  refine P0.call (z := 137) (as := [.int a]) (pc := 4) (pl := [some (.ref 0), some (.int a), some (.int b), some (.int c), some (.int d)]) (st := []) (nz := 102) (sh := xshC) (M := xMt) rfl (Nat.le_of_ble_eq_true rfl) ?_
  show P0 137 (0, [some (.int a)], [], 102, xshC, xMt) _
  refine P0.go (k := 3) (s' := (4, [some (.int a)], [.int 7, .int 0, .int a], 102, xshC, xMt)) rfl ?_
  refine P0.call (z := 136) (as := [.int a, .int 0, .int 7]) (pc := 7) (pl := [some (.int a)]) (st := []) (nz := 102) (sh := xshC) (M := xMt) rfl (Nat.le_of_ble_eq_true rfl) ?_
  show P0 136 (0, [some (.int a), some (.int 0), some (.int 7)], [], 102, xshC, xMt) _
  refine P0.go (k := 3) (s' := (xcmp .gt (0) (a) 14 5, [some (.int a), some (.int 0), some (.int 7)], [], 102, xshC, xMt)) rfl ?_
  refine P0.gt (fun h1 => ?_) (fun h1 => ?_)
  · refine P0.go (k := 1) (s' := (15, [some (.int a), some (.int 0), some (.int 7)], [.int 0], 102, xshC, xMt)) rfl ?_
    refine P0.ret (v := some (.int 0)) rfl ?_
    refine ⟨rfl, ?_⟩
    show P0 137 (7, [some (.int a)], [.int 0], 102, xshC, xMt) _
    refine P0.ret (v := some (.int 0)) rfl ?_
    refine ⟨rfl, ?_⟩
    show P0 103 (4, [some (.ref 0), some (.int a), some (.int b), some (.int c), some (.int d)], [.int 0], 102, xshC, xMt) _
    refine P0.go (k := 2) (s' := (24, [some (.ref 0), some (.int a), some (.int b), some (.int c), some (.int d)], [.int (-1)], 102, xshC, xMt)) rfl ?_
    refine P0.ret (v := some (.int (-1))) rfl ?_
    exact congrArg (fun z => some (Value.int z)) (show (-1) = F_meeting a b c d from by unfold F_meeting; (repeat' split) <;> first | rfl | (exfalso; simp only [Int32.lt_iff_toInt_lt, Int32.le_iff_toInt_le, Int64.lt_iff_toInt_lt, Int64.le_iff_toInt_le, ← Int32.toInt_inj, Int32.toInt_toInt64, xl_0, xl_1, xl_2, xl_3, xl_4, xl_5, xl_6, xl_7, xl_8, xl_9, xl_10, xl_11, xl_12, xl_13, xl_20, xl_30, xl_59, xl_63, xl_64, xl_99, xl_100, xl_120, xl_999, xl_m1, xl_m2, xl_m3, xl_m4, xl_m5, xL_0, xL_1, xL_2, xL_3, xL_4, xL_5, xL_6, xL_7, xL_8, xL_20, xL_59, xL_63, xL_99, xL_999] at *; omega) | (exfalso; simp_all; done))
  · refine P0.go (k := 3) (s' := (xcmp .gt (a) (7) 14 10, [some (.int a), some (.int 0), some (.int 7)], [], 102, xshC, xMt)) rfl ?_
    refine P0.gt (fun h2 => ?_) (fun h2 => ?_)
    · refine P0.go (k := 1) (s' := (15, [some (.int a), some (.int 0), some (.int 7)], [.int 0], 102, xshC, xMt)) rfl ?_
      refine P0.ret (v := some (.int 0)) rfl ?_
      refine ⟨rfl, ?_⟩
      show P0 137 (7, [some (.int a)], [.int 0], 102, xshC, xMt) _
      refine P0.ret (v := some (.int 0)) rfl ?_
      refine ⟨rfl, ?_⟩
      show P0 103 (4, [some (.ref 0), some (.int a), some (.int b), some (.int c), some (.int d)], [.int 0], 102, xshC, xMt) _
      refine P0.go (k := 2) (s' := (24, [some (.ref 0), some (.int a), some (.int b), some (.int c), some (.int d)], [.int (-1)], 102, xshC, xMt)) rfl ?_
      refine P0.ret (v := some (.int (-1))) rfl ?_
      exact congrArg (fun z => some (Value.int z)) (show (-1) = F_meeting a b c d from by unfold F_meeting; (repeat' split) <;> first | rfl | (exfalso; simp only [Int32.lt_iff_toInt_lt, Int32.le_iff_toInt_le, Int64.lt_iff_toInt_lt, Int64.le_iff_toInt_le, ← Int32.toInt_inj, Int32.toInt_toInt64, xl_0, xl_1, xl_2, xl_3, xl_4, xl_5, xl_6, xl_7, xl_8, xl_9, xl_10, xl_11, xl_12, xl_13, xl_20, xl_30, xl_59, xl_63, xl_64, xl_99, xl_100, xl_120, xl_999, xl_m1, xl_m2, xl_m3, xl_m4, xl_m5, xL_0, xL_1, xL_2, xL_3, xL_4, xL_5, xL_6, xL_7, xL_8, xL_20, xL_59, xL_63, xL_99, xL_999] at *; omega) | (exfalso; simp_all; done))
    · refine P0.go (k := 2) (s' := (15, [some (.int a), some (.int 0), some (.int 7)], [.int 1], 102, xshC, xMt)) rfl ?_
      refine P0.ret (v := some (.int 1)) rfl ?_
      refine ⟨rfl, ?_⟩
      show P0 137 (7, [some (.int a)], [.int 1], 102, xshC, xMt) _
      refine P0.ret (v := some (.int 1)) rfl ?_
      refine ⟨rfl, ?_⟩
      show P0 103 (4, [some (.ref 0), some (.int a), some (.int b), some (.int c), some (.int d)], [.int 1], 102, xshC, xMt) _
      refine P0.go (k := 4) (s' := (xcmp .eq (b) ((-1)) 25 12, [some (.ref 0), some (.int a), some (.int b), some (.int c), some (.int d)], [], 102, xshC, xMt)) rfl ?_
      refine P0.eq (fun h3 => ?_) (fun h3 => ?_)
      · refine P0.go (k := 3) (s' := (29, [some (.ref 0), some (.int a), some (.int b), some (.int c), some (.int d)], [.int 99, .int 0, .int c], 102, xshC, xMt)) rfl ?_
        refine P0.call (z := 136) (as := [.int c, .int 0, .int 99]) (pc := 32) (pl := [some (.ref 0), some (.int a), some (.int b), some (.int c), some (.int d)]) (st := []) (nz := 102) (sh := xshC) (M := xMt) rfl (Nat.le_of_ble_eq_true rfl) ?_
        show P0 136 (0, [some (.int c), some (.int 0), some (.int 99)], [], 102, xshC, xMt) _
        refine P0.go (k := 3) (s' := (xcmp .gt (0) (c) 14 5, [some (.int c), some (.int 0), some (.int 99)], [], 102, xshC, xMt)) rfl ?_
        refine P0.gt (fun h4 => ?_) (fun h4 => ?_)
        · refine P0.go (k := 1) (s' := (15, [some (.int c), some (.int 0), some (.int 99)], [.int 0], 102, xshC, xMt)) rfl ?_
          refine P0.ret (v := some (.int 0)) rfl ?_
          refine ⟨rfl, ?_⟩
          show P0 103 (32, [some (.ref 0), some (.int a), some (.int b), some (.int c), some (.int d)], [.int 0], 102, xshC, xMt) _
          refine P0.go (k := 2) (s' := (49, [some (.ref 0), some (.int a), some (.int b), some (.int c), some (.int d)], [.int (-2)], 102, xshC, xMt)) rfl ?_
          refine P0.ret (v := some (.int (-2))) rfl ?_
          exact congrArg (fun z => some (Value.int z)) (show (-2) = F_meeting a b c d from by unfold F_meeting; (repeat' split) <;> first | rfl | (exfalso; simp only [Int32.lt_iff_toInt_lt, Int32.le_iff_toInt_le, Int64.lt_iff_toInt_lt, Int64.le_iff_toInt_le, ← Int32.toInt_inj, Int32.toInt_toInt64, xl_0, xl_1, xl_2, xl_3, xl_4, xl_5, xl_6, xl_7, xl_8, xl_9, xl_10, xl_11, xl_12, xl_13, xl_20, xl_30, xl_59, xl_63, xl_64, xl_99, xl_100, xl_120, xl_999, xl_m1, xl_m2, xl_m3, xl_m4, xl_m5, xL_0, xL_1, xL_2, xL_3, xL_4, xL_5, xL_6, xL_7, xL_8, xL_20, xL_59, xL_63, xL_99, xL_999] at *; omega) | (exfalso; simp_all; done))
        · refine P0.go (k := 3) (s' := (xcmp .gt (c) (99) 14 10, [some (.int c), some (.int 0), some (.int 99)], [], 102, xshC, xMt)) rfl ?_
          refine P0.gt (fun h5 => ?_) (fun h5 => ?_)
          · refine P0.go (k := 1) (s' := (15, [some (.int c), some (.int 0), some (.int 99)], [.int 0], 102, xshC, xMt)) rfl ?_
            refine P0.ret (v := some (.int 0)) rfl ?_
            refine ⟨rfl, ?_⟩
            show P0 103 (32, [some (.ref 0), some (.int a), some (.int b), some (.int c), some (.int d)], [.int 0], 102, xshC, xMt) _
            refine P0.go (k := 2) (s' := (49, [some (.ref 0), some (.int a), some (.int b), some (.int c), some (.int d)], [.int (-2)], 102, xshC, xMt)) rfl ?_
            refine P0.ret (v := some (.int (-2))) rfl ?_
            exact congrArg (fun z => some (Value.int z)) (show (-2) = F_meeting a b c d from by unfold F_meeting; (repeat' split) <;> first | rfl | (exfalso; simp only [Int32.lt_iff_toInt_lt, Int32.le_iff_toInt_le, Int64.lt_iff_toInt_lt, Int64.le_iff_toInt_le, ← Int32.toInt_inj, Int32.toInt_toInt64, xl_0, xl_1, xl_2, xl_3, xl_4, xl_5, xl_6, xl_7, xl_8, xl_9, xl_10, xl_11, xl_12, xl_13, xl_20, xl_30, xl_59, xl_63, xl_64, xl_99, xl_100, xl_120, xl_999, xl_m1, xl_m2, xl_m3, xl_m4, xl_m5, xL_0, xL_1, xL_2, xL_3, xL_4, xL_5, xL_6, xL_7, xL_8, xL_20, xL_59, xL_63, xL_99, xL_999] at *; omega) | (exfalso; simp_all; done))
          · refine P0.go (k := 2) (s' := (15, [some (.int c), some (.int 0), some (.int 99)], [.int 1], 102, xshC, xMt)) rfl ?_
            refine P0.ret (v := some (.int 1)) rfl ?_
            refine ⟨rfl, ?_⟩
            show P0 103 (32, [some (.ref 0), some (.int a), some (.int b), some (.int c), some (.int d)], [.int 1], 102, xshC, xMt) _
            refine P0.go (k := 4) (s' := (41, [some (.ref 0), some (.int a), some (.int b), some (.int c), some (.int d)], [.int 999, .int 0, .int d], 102, xshC, xMt)) rfl ?_
            refine P0.call (z := 136) (as := [.int d, .int 0, .int 999]) (pc := 44) (pl := [some (.ref 0), some (.int a), some (.int b), some (.int c), some (.int d)]) (st := []) (nz := 102) (sh := xshC) (M := xMt) rfl (Nat.le_of_ble_eq_true rfl) ?_
            show P0 136 (0, [some (.int d), some (.int 0), some (.int 999)], [], 102, xshC, xMt) _
            refine P0.go (k := 3) (s' := (xcmp .gt (0) (d) 14 5, [some (.int d), some (.int 0), some (.int 999)], [], 102, xshC, xMt)) rfl ?_
            refine P0.gt (fun h6 => ?_) (fun h6 => ?_)
            · refine P0.go (k := 1) (s' := (15, [some (.int d), some (.int 0), some (.int 999)], [.int 0], 102, xshC, xMt)) rfl ?_
              refine P0.ret (v := some (.int 0)) rfl ?_
              refine ⟨rfl, ?_⟩
              show P0 103 (44, [some (.ref 0), some (.int a), some (.int b), some (.int c), some (.int d)], [.int 0], 102, xshC, xMt) _
              refine P0.go (k := 2) (s' := (49, [some (.ref 0), some (.int a), some (.int b), some (.int c), some (.int d)], [.int (-2)], 102, xshC, xMt)) rfl ?_
              refine P0.ret (v := some (.int (-2))) rfl ?_
              exact congrArg (fun z => some (Value.int z)) (show (-2) = F_meeting a b c d from by unfold F_meeting; (repeat' split) <;> first | rfl | (exfalso; simp only [Int32.lt_iff_toInt_lt, Int32.le_iff_toInt_le, Int64.lt_iff_toInt_lt, Int64.le_iff_toInt_le, ← Int32.toInt_inj, Int32.toInt_toInt64, xl_0, xl_1, xl_2, xl_3, xl_4, xl_5, xl_6, xl_7, xl_8, xl_9, xl_10, xl_11, xl_12, xl_13, xl_20, xl_30, xl_59, xl_63, xl_64, xl_99, xl_100, xl_120, xl_999, xl_m1, xl_m2, xl_m3, xl_m4, xl_m5, xL_0, xL_1, xL_2, xL_3, xL_4, xL_5, xL_6, xL_7, xL_8, xL_20, xL_59, xL_63, xL_99, xL_999] at *; omega) | (exfalso; simp_all; done))
            · refine P0.go (k := 3) (s' := (xcmp .gt (d) (999) 14 10, [some (.int d), some (.int 0), some (.int 999)], [], 102, xshC, xMt)) rfl ?_
              refine P0.gt (fun h7 => ?_) (fun h7 => ?_)
              · refine P0.go (k := 1) (s' := (15, [some (.int d), some (.int 0), some (.int 999)], [.int 0], 102, xshC, xMt)) rfl ?_
                refine P0.ret (v := some (.int 0)) rfl ?_
                refine ⟨rfl, ?_⟩
                show P0 103 (44, [some (.ref 0), some (.int a), some (.int b), some (.int c), some (.int d)], [.int 0], 102, xshC, xMt) _
                refine P0.go (k := 2) (s' := (49, [some (.ref 0), some (.int a), some (.int b), some (.int c), some (.int d)], [.int (-2)], 102, xshC, xMt)) rfl ?_
                refine P0.ret (v := some (.int (-2))) rfl ?_
                exact congrArg (fun z => some (Value.int z)) (show (-2) = F_meeting a b c d from by unfold F_meeting; (repeat' split) <;> first | rfl | (exfalso; simp only [Int32.lt_iff_toInt_lt, Int32.le_iff_toInt_le, Int64.lt_iff_toInt_lt, Int64.le_iff_toInt_le, ← Int32.toInt_inj, Int32.toInt_toInt64, xl_0, xl_1, xl_2, xl_3, xl_4, xl_5, xl_6, xl_7, xl_8, xl_9, xl_10, xl_11, xl_12, xl_13, xl_20, xl_30, xl_59, xl_63, xl_64, xl_99, xl_100, xl_120, xl_999, xl_m1, xl_m2, xl_m3, xl_m4, xl_m5, xL_0, xL_1, xL_2, xL_3, xL_4, xL_5, xL_6, xL_7, xL_8, xL_20, xL_59, xL_63, xL_99, xL_999] at *; omega) | (exfalso; simp_all; done))
              · refine P0.go (k := 2) (s' := (15, [some (.int d), some (.int 0), some (.int 999)], [.int 1], 102, xshC, xMt)) rfl ?_
                refine P0.ret (v := some (.int 1)) rfl ?_
                refine ⟨rfl, ?_⟩
                show P0 103 (44, [some (.ref 0), some (.int a), some (.int b), some (.int c), some (.int d)], [.int 1], 102, xshC, xMt) _
                refine P0.go (k := 3) (s' := (54, [some (.ref 0), some (.int a), some (.int b), some (.int c), some (.int d)], [.ref 1], 102, xshC, xMt)) rfl ?_
                refine P0.call (z := 18) (as := [.ref 1]) (pc := 57) (pl := [some (.ref 0), some (.int a), some (.int b), some (.int c), some (.int d)]) (st := []) (nz := 102) (sh := xshC) (M := xMt) rfl (Nat.le_of_ble_eq_true rfl) ?_
                show P0 18 (0, [some (.ref 1)], [], 102, xshC, xMt) _
                refine P0.go (k := 5) (s' := (14, [some (.ref 1)], [.int 0], 102, xshC, xMt)) rfl ?_
                refine P0.ret (v := some (.int 0)) rfl ?_
                refine ⟨rfl, ?_⟩
                show P0 103 (57, [some (.ref 0), some (.int a), some (.int b), some (.int c), some (.int d)], [.int 0], 102, xshC, xMt) _
                refine P0.go (k := 6) (s' := (73, [some (.ref 0), some (.int a), some (.int b), some (.int c), some (.int d)], [.int d, .int c, .int b, .ref 1], 102, xshC, xMt)) rfl ?_
                refine P0.call (z := 19) (as := [.ref 1, .int b, .int c, .int d]) (pc := 76) (pl := [some (.ref 0), some (.int a), some (.int b), some (.int c), some (.int d)]) (st := []) (nz := 102) (sh := xshC) (M := xMt) rfl (Nat.le_of_ble_eq_true rfl) ?_
                show P0 19 (0, [some (.ref 1), some (.int b), some (.int c), some (.int d)], [], 102, xshC, xMt) _
                refine P0.go (k := 25) (s' := (41, [some (.ref 1), some (.int b), some (.int c), some (.int d)], [.int 0], 102, xshC, (xup (xup (xup (xup xMt 2 0 (b)) 3 0 (c)) 4 0 (d)) 1 3 (1)))) rfl ?_
                refine P0.ret (v := some (.int 0)) rfl ?_
                refine ⟨rfl, ?_⟩
                show P0 103 (76, [some (.ref 0), some (.int a), some (.int b), some (.int c), some (.int d)], [.int 0], 102, xshC, (xup (xup (xup (xup xMt 2 0 (b)) 3 0 (c)) 4 0 (d)) 1 3 (1))) _
                refine P0.ret (v := some (.int 0)) rfl ?_
                exact congrArg (fun z => some (Value.int z)) (show 0 = F_meeting a b c d from by unfold F_meeting; (repeat' split) <;> first | rfl | (exfalso; simp only [Int32.lt_iff_toInt_lt, Int32.le_iff_toInt_le, Int64.lt_iff_toInt_lt, Int64.le_iff_toInt_le, ← Int32.toInt_inj, Int32.toInt_toInt64, xl_0, xl_1, xl_2, xl_3, xl_4, xl_5, xl_6, xl_7, xl_8, xl_9, xl_10, xl_11, xl_12, xl_13, xl_20, xl_30, xl_59, xl_63, xl_64, xl_99, xl_100, xl_120, xl_999, xl_m1, xl_m2, xl_m3, xl_m4, xl_m5, xL_0, xL_1, xL_2, xL_3, xL_4, xL_5, xL_6, xL_7, xL_8, xL_20, xL_59, xL_63, xL_99, xL_999] at *; omega) | (exfalso; simp_all; done))
      · refine P0.go (k := 3) (s' := (17, [some (.ref 0), some (.int a), some (.int b), some (.int c), some (.int d)], [.int b, .ref 1], 102, xshC, xMt)) rfl ?_
        refine P0.call (z := 17) (as := [.ref 1, .int b]) (pc := 20) (pl := [some (.ref 0), some (.int a), some (.int b), some (.int c), some (.int d)]) (st := []) (nz := 102) (sh := xshC) (M := xMt) rfl (Nat.le_of_ble_eq_true rfl) ?_
        show P0 17 (0, [some (.ref 1), some (.int b)], [], 102, xshC, xMt) _
        refine P0.go (k := 6) (s' := (8, [some (.ref 1), some (.int b)], [.int (((0) - (1) : Int32)), .int 0, .int b], 102, xshC, xMt)) rfl ?_
        refine P0.topi (x' := (-1)) (by decide) ?_
        refine P0.call (z := 136) (as := [.int b, .int 0, .int (-1)]) (pc := 11) (pl := [some (.ref 1), some (.int b)]) (st := []) (nz := 102) (sh := xshC) (M := xMt) rfl (Nat.le_of_ble_eq_true rfl) ?_
        show P0 136 (0, [some (.int b), some (.int 0), some (.int (-1))], [], 102, xshC, xMt) _
        refine P0.go (k := 3) (s' := (xcmp .gt (0) (b) 14 5, [some (.int b), some (.int 0), some (.int (-1))], [], 102, xshC, xMt)) rfl ?_
        refine P0.gt (fun h8 => ?_) (fun h8 => ?_)
        · refine P0.go (k := 1) (s' := (15, [some (.int b), some (.int 0), some (.int (-1))], [.int 0], 102, xshC, xMt)) rfl ?_
          refine P0.ret (v := some (.int 0)) rfl ?_
          refine ⟨rfl, ?_⟩
          show P0 17 (11, [some (.ref 1), some (.int b)], [.int 0], 102, xshC, xMt) _
          refine P0.ret (v := some (.int 0)) rfl ?_
          refine ⟨rfl, ?_⟩
          show P0 103 (20, [some (.ref 0), some (.int a), some (.int b), some (.int c), some (.int d)], [.int 0], 102, xshC, xMt) _
          refine P0.go (k := 2) (s' := (24, [some (.ref 0), some (.int a), some (.int b), some (.int c), some (.int d)], [.int (-1)], 102, xshC, xMt)) rfl ?_
          refine P0.ret (v := some (.int (-1))) rfl ?_
          exact congrArg (fun z => some (Value.int z)) (show (-1) = F_meeting a b c d from by unfold F_meeting; (repeat' split) <;> first | rfl | (exfalso; simp only [Int32.lt_iff_toInt_lt, Int32.le_iff_toInt_le, Int64.lt_iff_toInt_lt, Int64.le_iff_toInt_le, ← Int32.toInt_inj, Int32.toInt_toInt64, xl_0, xl_1, xl_2, xl_3, xl_4, xl_5, xl_6, xl_7, xl_8, xl_9, xl_10, xl_11, xl_12, xl_13, xl_20, xl_30, xl_59, xl_63, xl_64, xl_99, xl_100, xl_120, xl_999, xl_m1, xl_m2, xl_m3, xl_m4, xl_m5, xL_0, xL_1, xL_2, xL_3, xL_4, xL_5, xL_6, xL_7, xL_8, xL_20, xL_59, xL_63, xL_99, xL_999] at *; omega) | (exfalso; simp_all; done))
        · refine P0.go (k := 3) (s' := (xcmp .gt (b) ((-1)) 14 10, [some (.int b), some (.int 0), some (.int (-1))], [], 102, xshC, xMt)) rfl ?_
          refine P0.gt (fun h9 => ?_) (fun h9 => absurd True.intro (by exfalso; simp only [Int32.lt_iff_toInt_lt, Int32.le_iff_toInt_le, Int64.lt_iff_toInt_lt, Int64.le_iff_toInt_le, ← Int32.toInt_inj, Int32.toInt_toInt64, xl_0, xl_1, xl_2, xl_3, xl_4, xl_5, xl_6, xl_7, xl_8, xl_9, xl_10, xl_11, xl_12, xl_13, xl_20, xl_30, xl_59, xl_63, xl_64, xl_99, xl_100, xl_120, xl_999, xl_m1, xl_m2, xl_m3, xl_m4, xl_m5, xL_0, xL_1, xL_2, xL_3, xL_4, xL_5, xL_6, xL_7, xL_8, xL_20, xL_59, xL_63, xL_99, xL_999] at *; omega))
          refine P0.go (k := 1) (s' := (15, [some (.int b), some (.int 0), some (.int (-1))], [.int 0], 102, xshC, xMt)) rfl ?_
          refine P0.ret (v := some (.int 0)) rfl ?_
          refine ⟨rfl, ?_⟩
          show P0 17 (11, [some (.ref 1), some (.int b)], [.int 0], 102, xshC, xMt) _
          refine P0.ret (v := some (.int 0)) rfl ?_
          refine ⟨rfl, ?_⟩
          show P0 103 (20, [some (.ref 0), some (.int a), some (.int b), some (.int c), some (.int d)], [.int 0], 102, xshC, xMt) _
          refine P0.go (k := 2) (s' := (24, [some (.ref 0), some (.int a), some (.int b), some (.int c), some (.int d)], [.int (-1)], 102, xshC, xMt)) rfl ?_
          refine P0.ret (v := some (.int (-1))) rfl ?_
          exact congrArg (fun z => some (Value.int z)) (show (-1) = F_meeting a b c d from by unfold F_meeting; (repeat' split) <;> first | rfl | (exfalso; simp only [Int32.lt_iff_toInt_lt, Int32.le_iff_toInt_le, Int64.lt_iff_toInt_lt, Int64.le_iff_toInt_le, ← Int32.toInt_inj, Int32.toInt_toInt64, xl_0, xl_1, xl_2, xl_3, xl_4, xl_5, xl_6, xl_7, xl_8, xl_9, xl_10, xl_11, xl_12, xl_13, xl_20, xl_30, xl_59, xl_63, xl_64, xl_99, xl_100, xl_120, xl_999, xl_m1, xl_m2, xl_m3, xl_m4, xl_m5, xL_0, xL_1, xL_2, xL_3, xL_4, xL_5, xL_6, xL_7, xL_8, xL_20, xL_59, xL_63, xL_99, xL_999] at *; omega) | (exfalso; simp_all; done))
set_option maxRecDepth 100000 in
set_option maxHeartbeats 4000000 in
theorem wc_law (a b : Int32) : P0 104 (0, [some (.ref 0), some (.int a), some (.int b)], [], 102, xshC, xMt) (fun r => r.1 = some (.int (F_law a b))) := by
  refine P0.go (k := 3) (s' := (3, [some (.ref 0), some (.int a), some (.int b)], [.int 1, .int 0, .int a], 102, xshC, xMt)) rfl ?_
  refine P0.call (z := 136) (as := [.int a, .int 0, .int 1]) (pc := 6) (pl := [some (.ref 0), some (.int a), some (.int b)]) (st := []) (nz := 102) (sh := xshC) (M := xMt) rfl (Nat.le_of_ble_eq_true rfl) ?_
  show P0 136 (0, [some (.int a), some (.int 0), some (.int 1)], [], 102, xshC, xMt) _
  refine P0.go (k := 3) (s' := (xcmp .gt (0) (a) 14 5, [some (.int a), some (.int 0), some (.int 1)], [], 102, xshC, xMt)) rfl ?_
  refine P0.gt (fun h1 => ?_) (fun h1 => ?_)
  · refine P0.go (k := 1) (s' := (15, [some (.int a), some (.int 0), some (.int 1)], [.int 0], 102, xshC, xMt)) rfl ?_
    refine P0.ret (v := some (.int 0)) rfl ?_
    refine ⟨rfl, ?_⟩
    show P0 104 (6, [some (.ref 0), some (.int a), some (.int b)], [.int 0], 102, xshC, xMt) _
    refine P0.go (k := 2) (s' := (10, [some (.ref 0), some (.int a), some (.int b)], [.int (-1)], 102, xshC, xMt)) rfl ?_
    refine P0.ret (v := some (.int (-1))) rfl ?_
    exact congrArg (fun z => some (Value.int z)) (show (-1) = F_law a b from by unfold F_law; (repeat' split) <;> first | rfl | (exfalso; simp only [Int32.lt_iff_toInt_lt, Int32.le_iff_toInt_le, Int64.lt_iff_toInt_lt, Int64.le_iff_toInt_le, ← Int32.toInt_inj, Int32.toInt_toInt64, xl_0, xl_1, xl_2, xl_3, xl_4, xl_5, xl_6, xl_7, xl_8, xl_9, xl_10, xl_11, xl_12, xl_13, xl_20, xl_30, xl_59, xl_63, xl_64, xl_99, xl_100, xl_120, xl_999, xl_m1, xl_m2, xl_m3, xl_m4, xl_m5, xL_0, xL_1, xL_2, xL_3, xL_4, xL_5, xL_6, xL_7, xL_8, xL_20, xL_59, xL_63, xL_99, xL_999] at *; omega) | (exfalso; simp_all; done))
  · refine P0.go (k := 3) (s' := (xcmp .gt (a) (1) 14 10, [some (.int a), some (.int 0), some (.int 1)], [], 102, xshC, xMt)) rfl ?_
    refine P0.gt (fun h2 => ?_) (fun h2 => ?_)
    · refine P0.go (k := 1) (s' := (15, [some (.int a), some (.int 0), some (.int 1)], [.int 0], 102, xshC, xMt)) rfl ?_
      refine P0.ret (v := some (.int 0)) rfl ?_
      refine ⟨rfl, ?_⟩
      show P0 104 (6, [some (.ref 0), some (.int a), some (.int b)], [.int 0], 102, xshC, xMt) _
      refine P0.go (k := 2) (s' := (10, [some (.ref 0), some (.int a), some (.int b)], [.int (-1)], 102, xshC, xMt)) rfl ?_
      refine P0.ret (v := some (.int (-1))) rfl ?_
      exact congrArg (fun z => some (Value.int z)) (show (-1) = F_law a b from by unfold F_law; (repeat' split) <;> first | rfl | (exfalso; simp only [Int32.lt_iff_toInt_lt, Int32.le_iff_toInt_le, Int64.lt_iff_toInt_lt, Int64.le_iff_toInt_le, ← Int32.toInt_inj, Int32.toInt_toInt64, xl_0, xl_1, xl_2, xl_3, xl_4, xl_5, xl_6, xl_7, xl_8, xl_9, xl_10, xl_11, xl_12, xl_13, xl_20, xl_30, xl_59, xl_63, xl_64, xl_99, xl_100, xl_120, xl_999, xl_m1, xl_m2, xl_m3, xl_m4, xl_m5, xL_0, xL_1, xL_2, xL_3, xL_4, xL_5, xL_6, xL_7, xL_8, xL_20, xL_59, xL_63, xL_99, xL_999] at *; omega) | (exfalso; simp_all; done))
    · refine P0.go (k := 2) (s' := (15, [some (.int a), some (.int 0), some (.int 1)], [.int 1], 102, xshC, xMt)) rfl ?_
      refine P0.ret (v := some (.int 1)) rfl ?_
      refine ⟨rfl, ?_⟩
      show P0 104 (6, [some (.ref 0), some (.int a), some (.int b)], [.int 1], 102, xshC, xMt) _
      refine P0.go (k := 5) (s' := (xcmp .ne (a) (0) 22 17, [some (.ref 0), some (.int a), some (.int b)], [.int 0, .int b], 102, xshC, xMt)) rfl ?_
      refine P0.ne (fun h3 => ?_) (fun h3 => ?_)
      · refine P0.go (k := 1) (s' := (25, [some (.ref 0), some (.int a), some (.int b)], [.int 999, .int 0, .int b], 102, xshC, xMt)) rfl ?_
        refine P0.call (z := 136) (as := [.int b, .int 0, .int 999]) (pc := 28) (pl := [some (.ref 0), some (.int a), some (.int b)]) (st := []) (nz := 102) (sh := xshC) (M := xMt) rfl (Nat.le_of_ble_eq_true rfl) ?_
        show P0 136 (0, [some (.int b), some (.int 0), some (.int 999)], [], 102, xshC, xMt) _
        refine P0.go (k := 3) (s' := (xcmp .gt (0) (b) 14 5, [some (.int b), some (.int 0), some (.int 999)], [], 102, xshC, xMt)) rfl ?_
        refine P0.gt (fun h4 => ?_) (fun h4 => ?_)
        · refine P0.go (k := 1) (s' := (15, [some (.int b), some (.int 0), some (.int 999)], [.int 0], 102, xshC, xMt)) rfl ?_
          refine P0.ret (v := some (.int 0)) rfl ?_
          refine ⟨rfl, ?_⟩
          show P0 104 (28, [some (.ref 0), some (.int a), some (.int b)], [.int 0], 102, xshC, xMt) _
          refine P0.go (k := 2) (s' := (33, [some (.ref 0), some (.int a), some (.int b)], [.int (-2)], 102, xshC, xMt)) rfl ?_
          refine P0.ret (v := some (.int (-2))) rfl ?_
          exact congrArg (fun z => some (Value.int z)) (show (-2) = F_law a b from by unfold F_law; (repeat' split) <;> first | rfl | (exfalso; simp only [Int32.lt_iff_toInt_lt, Int32.le_iff_toInt_le, Int64.lt_iff_toInt_lt, Int64.le_iff_toInt_le, ← Int32.toInt_inj, Int32.toInt_toInt64, xl_0, xl_1, xl_2, xl_3, xl_4, xl_5, xl_6, xl_7, xl_8, xl_9, xl_10, xl_11, xl_12, xl_13, xl_20, xl_30, xl_59, xl_63, xl_64, xl_99, xl_100, xl_120, xl_999, xl_m1, xl_m2, xl_m3, xl_m4, xl_m5, xL_0, xL_1, xL_2, xL_3, xL_4, xL_5, xL_6, xL_7, xL_8, xL_20, xL_59, xL_63, xL_99, xL_999] at *; omega) | (exfalso; simp_all; done))
        · refine P0.go (k := 3) (s' := (xcmp .gt (b) (999) 14 10, [some (.int b), some (.int 0), some (.int 999)], [], 102, xshC, xMt)) rfl ?_
          refine P0.gt (fun h5 => ?_) (fun h5 => ?_)
          · refine P0.go (k := 1) (s' := (15, [some (.int b), some (.int 0), some (.int 999)], [.int 0], 102, xshC, xMt)) rfl ?_
            refine P0.ret (v := some (.int 0)) rfl ?_
            refine ⟨rfl, ?_⟩
            show P0 104 (28, [some (.ref 0), some (.int a), some (.int b)], [.int 0], 102, xshC, xMt) _
            refine P0.go (k := 2) (s' := (33, [some (.ref 0), some (.int a), some (.int b)], [.int (-2)], 102, xshC, xMt)) rfl ?_
            refine P0.ret (v := some (.int (-2))) rfl ?_
            exact congrArg (fun z => some (Value.int z)) (show (-2) = F_law a b from by unfold F_law; (repeat' split) <;> first | rfl | (exfalso; simp only [Int32.lt_iff_toInt_lt, Int32.le_iff_toInt_le, Int64.lt_iff_toInt_lt, Int64.le_iff_toInt_le, ← Int32.toInt_inj, Int32.toInt_toInt64, xl_0, xl_1, xl_2, xl_3, xl_4, xl_5, xl_6, xl_7, xl_8, xl_9, xl_10, xl_11, xl_12, xl_13, xl_20, xl_30, xl_59, xl_63, xl_64, xl_99, xl_100, xl_120, xl_999, xl_m1, xl_m2, xl_m3, xl_m4, xl_m5, xL_0, xL_1, xL_2, xL_3, xL_4, xL_5, xL_6, xL_7, xL_8, xL_20, xL_59, xL_63, xL_99, xL_999] at *; omega) | (exfalso; simp_all; done))
          · refine P0.go (k := 2) (s' := (15, [some (.int b), some (.int 0), some (.int 999)], [.int 1], 102, xshC, xMt)) rfl ?_
            refine P0.ret (v := some (.int 1)) rfl ?_
            refine ⟨rfl, ?_⟩
            show P0 104 (28, [some (.ref 0), some (.int a), some (.int b)], [.int 1], 102, xshC, xMt) _
            refine P0.go (k := 3) (s' := (xcmp .ne (a) (0) 49 38, [some (.ref 0), some (.int a), some (.int b)], [], 102, xshC, xMt)) rfl ?_
            refine P0.ne (fun h6 => ?_) (fun h6 => absurd True.intro (by exfalso; simp only [Int32.lt_iff_toInt_lt, Int32.le_iff_toInt_le, Int64.lt_iff_toInt_lt, Int64.le_iff_toInt_le, ← Int32.toInt_inj, Int32.toInt_toInt64, xl_0, xl_1, xl_2, xl_3, xl_4, xl_5, xl_6, xl_7, xl_8, xl_9, xl_10, xl_11, xl_12, xl_13, xl_20, xl_30, xl_59, xl_63, xl_64, xl_99, xl_100, xl_120, xl_999, xl_m1, xl_m2, xl_m3, xl_m4, xl_m5, xL_0, xL_1, xL_2, xL_3, xL_4, xL_5, xL_6, xL_7, xL_8, xL_20, xL_59, xL_63, xL_99, xL_999] at *; omega))
            refine P0.go (k := 3) (s' := (54, [some (.ref 0), some (.int a), some (.int b)], [.int b, .ref 1], 102, xshC, xMt)) rfl ?_
            refine P0.call (z := 21) (as := [.ref 1, .int b]) (pc := 57) (pl := [some (.ref 0), some (.int a), some (.int b)]) (st := []) (nz := 102) (sh := xshC) (M := xMt) rfl (Nat.le_of_ble_eq_true rfl) ?_
            show P0 21 (0, [some (.ref 1), some (.int b), none], [], 102, xshC, xMt) _
            refine P0.go (k := 7) (s' := (11, [some (.ref 1), some (.int b), some (.int 5)], [.int 5], 102, xshC, (xup xMt 1 5 (b)))) rfl ?_
            refine P0.ret (v := some (.int 5)) rfl ?_
            refine ⟨rfl, ?_⟩
            show P0 104 (57, [some (.ref 0), some (.int a), some (.int b)], [.int 5], 102, xshC, (xup xMt 1 5 (b))) _
            refine P0.ret (v := some (.int 5)) rfl ?_
            exact congrArg (fun z => some (Value.int z)) (show 5 = F_law a b from by unfold F_law; (repeat' split) <;> first | rfl | (exfalso; simp only [Int32.lt_iff_toInt_lt, Int32.le_iff_toInt_le, Int64.lt_iff_toInt_lt, Int64.le_iff_toInt_le, ← Int32.toInt_inj, Int32.toInt_toInt64, xl_0, xl_1, xl_2, xl_3, xl_4, xl_5, xl_6, xl_7, xl_8, xl_9, xl_10, xl_11, xl_12, xl_13, xl_20, xl_30, xl_59, xl_63, xl_64, xl_99, xl_100, xl_120, xl_999, xl_m1, xl_m2, xl_m3, xl_m4, xl_m5, xL_0, xL_1, xL_2, xL_3, xL_4, xL_5, xL_6, xL_7, xL_8, xL_20, xL_59, xL_63, xL_99, xL_999] at *; omega) | (exfalso; simp_all; done))
      · refine P0.go (k := 2) (s' := (25, [some (.ref 0), some (.int a), some (.int b)], [.int 99, .int 0, .int b], 102, xshC, xMt)) rfl ?_
        refine P0.call (z := 136) (as := [.int b, .int 0, .int 99]) (pc := 28) (pl := [some (.ref 0), some (.int a), some (.int b)]) (st := []) (nz := 102) (sh := xshC) (M := xMt) rfl (Nat.le_of_ble_eq_true rfl) ?_
        show P0 136 (0, [some (.int b), some (.int 0), some (.int 99)], [], 102, xshC, xMt) _
        refine P0.go (k := 3) (s' := (xcmp .gt (0) (b) 14 5, [some (.int b), some (.int 0), some (.int 99)], [], 102, xshC, xMt)) rfl ?_
        refine P0.gt (fun h7 => ?_) (fun h7 => ?_)
        · refine P0.go (k := 1) (s' := (15, [some (.int b), some (.int 0), some (.int 99)], [.int 0], 102, xshC, xMt)) rfl ?_
          refine P0.ret (v := some (.int 0)) rfl ?_
          refine ⟨rfl, ?_⟩
          show P0 104 (28, [some (.ref 0), some (.int a), some (.int b)], [.int 0], 102, xshC, xMt) _
          refine P0.go (k := 2) (s' := (33, [some (.ref 0), some (.int a), some (.int b)], [.int (-2)], 102, xshC, xMt)) rfl ?_
          refine P0.ret (v := some (.int (-2))) rfl ?_
          exact congrArg (fun z => some (Value.int z)) (show (-2) = F_law a b from by unfold F_law; (repeat' split) <;> first | rfl | (exfalso; simp only [Int32.lt_iff_toInt_lt, Int32.le_iff_toInt_le, Int64.lt_iff_toInt_lt, Int64.le_iff_toInt_le, ← Int32.toInt_inj, Int32.toInt_toInt64, xl_0, xl_1, xl_2, xl_3, xl_4, xl_5, xl_6, xl_7, xl_8, xl_9, xl_10, xl_11, xl_12, xl_13, xl_20, xl_30, xl_59, xl_63, xl_64, xl_99, xl_100, xl_120, xl_999, xl_m1, xl_m2, xl_m3, xl_m4, xl_m5, xL_0, xL_1, xL_2, xL_3, xL_4, xL_5, xL_6, xL_7, xL_8, xL_20, xL_59, xL_63, xL_99, xL_999] at *; omega) | (exfalso; simp_all; done))
        · refine P0.go (k := 3) (s' := (xcmp .gt (b) (99) 14 10, [some (.int b), some (.int 0), some (.int 99)], [], 102, xshC, xMt)) rfl ?_
          refine P0.gt (fun h8 => ?_) (fun h8 => ?_)
          · refine P0.go (k := 1) (s' := (15, [some (.int b), some (.int 0), some (.int 99)], [.int 0], 102, xshC, xMt)) rfl ?_
            refine P0.ret (v := some (.int 0)) rfl ?_
            refine ⟨rfl, ?_⟩
            show P0 104 (28, [some (.ref 0), some (.int a), some (.int b)], [.int 0], 102, xshC, xMt) _
            refine P0.go (k := 2) (s' := (33, [some (.ref 0), some (.int a), some (.int b)], [.int (-2)], 102, xshC, xMt)) rfl ?_
            refine P0.ret (v := some (.int (-2))) rfl ?_
            exact congrArg (fun z => some (Value.int z)) (show (-2) = F_law a b from by unfold F_law; (repeat' split) <;> first | rfl | (exfalso; simp only [Int32.lt_iff_toInt_lt, Int32.le_iff_toInt_le, Int64.lt_iff_toInt_lt, Int64.le_iff_toInt_le, ← Int32.toInt_inj, Int32.toInt_toInt64, xl_0, xl_1, xl_2, xl_3, xl_4, xl_5, xl_6, xl_7, xl_8, xl_9, xl_10, xl_11, xl_12, xl_13, xl_20, xl_30, xl_59, xl_63, xl_64, xl_99, xl_100, xl_120, xl_999, xl_m1, xl_m2, xl_m3, xl_m4, xl_m5, xL_0, xL_1, xL_2, xL_3, xL_4, xL_5, xL_6, xL_7, xL_8, xL_20, xL_59, xL_63, xL_99, xL_999] at *; omega) | (exfalso; simp_all; done))
          · refine P0.go (k := 2) (s' := (15, [some (.int b), some (.int 0), some (.int 99)], [.int 1], 102, xshC, xMt)) rfl ?_
            refine P0.ret (v := some (.int 1)) rfl ?_
            refine ⟨rfl, ?_⟩
            show P0 104 (28, [some (.ref 0), some (.int a), some (.int b)], [.int 1], 102, xshC, xMt) _
            refine P0.go (k := 3) (s' := (xcmp .ne (a) (0) 49 38, [some (.ref 0), some (.int a), some (.int b)], [], 102, xshC, xMt)) rfl ?_
            refine P0.ne (fun h9 => absurd True.intro (by exfalso; simp only [Int32.lt_iff_toInt_lt, Int32.le_iff_toInt_le, Int64.lt_iff_toInt_lt, Int64.le_iff_toInt_le, ← Int32.toInt_inj, Int32.toInt_toInt64, xl_0, xl_1, xl_2, xl_3, xl_4, xl_5, xl_6, xl_7, xl_8, xl_9, xl_10, xl_11, xl_12, xl_13, xl_20, xl_30, xl_59, xl_63, xl_64, xl_99, xl_100, xl_120, xl_999, xl_m1, xl_m2, xl_m3, xl_m4, xl_m5, xL_0, xL_1, xL_2, xL_3, xL_4, xL_5, xL_6, xL_7, xL_8, xL_20, xL_59, xL_63, xL_99, xL_999] at *; omega)) (fun h9 => ?_)
            refine P0.go (k := 3) (s' := (43, [some (.ref 0), some (.int a), some (.int b)], [.int b, .ref 1], 102, xshC, xMt)) rfl ?_
            refine P0.call (z := 20) (as := [.ref 1, .int b]) (pc := 46) (pl := [some (.ref 0), some (.int a), some (.int b)]) (st := []) (nz := 102) (sh := xshC) (M := xMt) rfl (Nat.le_of_ble_eq_true rfl) ?_
            show P0 20 (0, [some (.ref 1), some (.int b), none], [], 102, xshC, xMt) _
            refine P0.go (k := 7) (s' := (11, [some (.ref 1), some (.int b), some (.int 7)], [.int 7], 102, xshC, (xup xMt 1 4 (b)))) rfl ?_
            refine P0.ret (v := some (.int 7)) rfl ?_
            refine ⟨rfl, ?_⟩
            show P0 104 (46, [some (.ref 0), some (.int a), some (.int b)], [.int 7], 102, xshC, (xup xMt 1 4 (b))) _
            refine P0.go (k := 1) (s' := (57, [some (.ref 0), some (.int a), some (.int b)], [.int 7], 102, xshC, (xup xMt 1 4 (b)))) rfl ?_
            refine P0.ret (v := some (.int 7)) rfl ?_
            exact congrArg (fun z => some (Value.int z)) (show 7 = F_law a b from by unfold F_law; (repeat' split) <;> first | rfl | (exfalso; simp only [Int32.lt_iff_toInt_lt, Int32.le_iff_toInt_le, Int64.lt_iff_toInt_lt, Int64.le_iff_toInt_le, ← Int32.toInt_inj, Int32.toInt_toInt64, xl_0, xl_1, xl_2, xl_3, xl_4, xl_5, xl_6, xl_7, xl_8, xl_9, xl_10, xl_11, xl_12, xl_13, xl_20, xl_30, xl_59, xl_63, xl_64, xl_99, xl_100, xl_120, xl_999, xl_m1, xl_m2, xl_m3, xl_m4, xl_m5, xL_0, xL_1, xL_2, xL_3, xL_4, xL_5, xL_6, xL_7, xL_8, xL_20, xL_59, xL_63, xL_99, xL_999] at *; omega) | (exfalso; simp_all; done))
set_option maxRecDepth 100000 in
set_option maxHeartbeats 4000000 in
theorem wc_good (a : Int32) : P0 105 (0, [some (.ref 0), some (.int a)], [], 102, xshC, xMt) (fun r => r.1 = some (.int (F_good a))) := by
  refine P0.go (k := 3) (s' := (5, [some (.ref 0), some (.int a)], [.int a, .ref 1], 102, xshC, xMt)) rfl ?_
  refine P0.call (z := 17) (as := [.ref 1, .int a]) (pc := 8) (pl := [some (.ref 0), some (.int a)]) (st := []) (nz := 102) (sh := xshC) (M := xMt) rfl (Nat.le_of_ble_eq_true rfl) ?_
  show P0 17 (0, [some (.ref 1), some (.int a)], [], 102, xshC, xMt) _
  refine P0.go (k := 6) (s' := (8, [some (.ref 1), some (.int a)], [.int (((0) - (1) : Int32)), .int 0, .int a], 102, xshC, xMt)) rfl ?_
  refine P0.topi (x' := (-1)) (by decide) ?_
  refine P0.call (z := 136) (as := [.int a, .int 0, .int (-1)]) (pc := 11) (pl := [some (.ref 1), some (.int a)]) (st := []) (nz := 102) (sh := xshC) (M := xMt) rfl (Nat.le_of_ble_eq_true rfl) ?_
  show P0 136 (0, [some (.int a), some (.int 0), some (.int (-1))], [], 102, xshC, xMt) _
  refine P0.go (k := 3) (s' := (xcmp .gt (0) (a) 14 5, [some (.int a), some (.int 0), some (.int (-1))], [], 102, xshC, xMt)) rfl ?_
  refine P0.gt (fun h1 => ?_) (fun h1 => ?_)
  · refine P0.go (k := 1) (s' := (15, [some (.int a), some (.int 0), some (.int (-1))], [.int 0], 102, xshC, xMt)) rfl ?_
    refine P0.ret (v := some (.int 0)) rfl ?_
    refine ⟨rfl, ?_⟩
    show P0 17 (11, [some (.ref 1), some (.int a)], [.int 0], 102, xshC, xMt) _
    refine P0.ret (v := some (.int 0)) rfl ?_
    refine ⟨rfl, ?_⟩
    show P0 105 (8, [some (.ref 0), some (.int a)], [.int 0], 102, xshC, xMt) _
    refine P0.go (k := 2) (s' := (26, [some (.ref 0), some (.int a)], [.int (-1)], 102, xshC, xMt)) rfl ?_
    refine P0.ret (v := some (.int (-1))) rfl ?_
    exact congrArg (fun z => some (Value.int z)) (show (-1) = F_good a from by unfold F_good; (repeat' split) <;> first | rfl | (exfalso; simp only [Int32.lt_iff_toInt_lt, Int32.le_iff_toInt_le, Int64.lt_iff_toInt_lt, Int64.le_iff_toInt_le, ← Int32.toInt_inj, Int32.toInt_toInt64, xl_0, xl_1, xl_2, xl_3, xl_4, xl_5, xl_6, xl_7, xl_8, xl_9, xl_10, xl_11, xl_12, xl_13, xl_20, xl_30, xl_59, xl_63, xl_64, xl_99, xl_100, xl_120, xl_999, xl_m1, xl_m2, xl_m3, xl_m4, xl_m5, xL_0, xL_1, xL_2, xL_3, xL_4, xL_5, xL_6, xL_7, xL_8, xL_20, xL_59, xL_63, xL_99, xL_999] at *; omega) | (exfalso; simp_all; done))
  · refine P0.go (k := 3) (s' := (xcmp .gt (a) ((-1)) 14 10, [some (.int a), some (.int 0), some (.int (-1))], [], 102, xshC, xMt)) rfl ?_
    refine P0.gt (fun h2 => ?_) (fun h2 => absurd True.intro (by exfalso; simp only [Int32.lt_iff_toInt_lt, Int32.le_iff_toInt_le, Int64.lt_iff_toInt_lt, Int64.le_iff_toInt_le, ← Int32.toInt_inj, Int32.toInt_toInt64, xl_0, xl_1, xl_2, xl_3, xl_4, xl_5, xl_6, xl_7, xl_8, xl_9, xl_10, xl_11, xl_12, xl_13, xl_20, xl_30, xl_59, xl_63, xl_64, xl_99, xl_100, xl_120, xl_999, xl_m1, xl_m2, xl_m3, xl_m4, xl_m5, xL_0, xL_1, xL_2, xL_3, xL_4, xL_5, xL_6, xL_7, xL_8, xL_20, xL_59, xL_63, xL_99, xL_999] at *; omega))
    refine P0.go (k := 1) (s' := (15, [some (.int a), some (.int 0), some (.int (-1))], [.int 0], 102, xshC, xMt)) rfl ?_
    refine P0.ret (v := some (.int 0)) rfl ?_
    refine ⟨rfl, ?_⟩
    show P0 17 (11, [some (.ref 1), some (.int a)], [.int 0], 102, xshC, xMt) _
    refine P0.ret (v := some (.int 0)) rfl ?_
    refine ⟨rfl, ?_⟩
    show P0 105 (8, [some (.ref 0), some (.int a)], [.int 0], 102, xshC, xMt) _
    refine P0.go (k := 2) (s' := (26, [some (.ref 0), some (.int a)], [.int (-1)], 102, xshC, xMt)) rfl ?_
    refine P0.ret (v := some (.int (-1))) rfl ?_
    exact congrArg (fun z => some (Value.int z)) (show (-1) = F_good a from by unfold F_good; (repeat' split) <;> first | rfl | (exfalso; simp only [Int32.lt_iff_toInt_lt, Int32.le_iff_toInt_le, Int64.lt_iff_toInt_lt, Int64.le_iff_toInt_le, ← Int32.toInt_inj, Int32.toInt_toInt64, xl_0, xl_1, xl_2, xl_3, xl_4, xl_5, xl_6, xl_7, xl_8, xl_9, xl_10, xl_11, xl_12, xl_13, xl_20, xl_30, xl_59, xl_63, xl_64, xl_99, xl_100, xl_120, xl_999, xl_m1, xl_m2, xl_m3, xl_m4, xl_m5, xL_0, xL_1, xL_2, xL_3, xL_4, xL_5, xL_6, xL_7, xL_8, xL_20, xL_59, xL_63, xL_99, xL_999] at *; omega) | (exfalso; simp_all; done))
set_option maxRecDepth 100000 in
set_option maxHeartbeats 4000000 in
theorem wc_seat (a b c d : Int32) : P0 106 (0, [some (.ref 0), some (.int a), some (.int b), some (.int c), some (.int d)], [], 102, xshC, xMt) (fun r => r.1 = some (.int (F_seat a b c d))) := by
  refine P0.go (k := 1) (s' := (1, [some (.ref 0), some (.int a), some (.int b), some (.int c), some (.int d)], [.int b], 102, xshC, xMt)) rfl ?_
  refine P0.call (z := 137) (as := [.int b]) (pc := 4) (pl := [some (.ref 0), some (.int a), some (.int b), some (.int c), some (.int d)]) (st := []) (nz := 102) (sh := xshC) (M := xMt) rfl (Nat.le_of_ble_eq_true rfl) ?_
  show P0 137 (0, [some (.int b)], [], 102, xshC, xMt) _
  refine P0.go (k := 3) (s' := (4, [some (.int b)], [.int 7, .int 0, .int b], 102, xshC, xMt)) rfl ?_
  refine P0.call (z := 136) (as := [.int b, .int 0, .int 7]) (pc := 7) (pl := [some (.int b)]) (st := []) (nz := 102) (sh := xshC) (M := xMt) rfl (Nat.le_of_ble_eq_true rfl) ?_
  show P0 136 (0, [some (.int b), some (.int 0), some (.int 7)], [], 102, xshC, xMt) _
  refine P0.go (k := 3) (s' := (xcmp .gt (0) (b) 14 5, [some (.int b), some (.int 0), some (.int 7)], [], 102, xshC, xMt)) rfl ?_
  refine P0.gt (fun h1 => ?_) (fun h1 => ?_)
  · refine P0.go (k := 1) (s' := (15, [some (.int b), some (.int 0), some (.int 7)], [.int 0], 102, xshC, xMt)) rfl ?_
    refine P0.ret (v := some (.int 0)) rfl ?_
    refine ⟨rfl, ?_⟩
    show P0 137 (7, [some (.int b)], [.int 0], 102, xshC, xMt) _
    refine P0.ret (v := some (.int 0)) rfl ?_
    refine ⟨rfl, ?_⟩
    show P0 106 (4, [some (.ref 0), some (.int a), some (.int b), some (.int c), some (.int d)], [.int 0], 102, xshC, xMt) _
    refine P0.go (k := 2) (s' := (29, [some (.ref 0), some (.int a), some (.int b), some (.int c), some (.int d)], [.int (-1)], 102, xshC, xMt)) rfl ?_
    refine P0.ret (v := some (.int (-1))) rfl ?_
    exact congrArg (fun z => some (Value.int z)) (show (-1) = F_seat a b c d from by unfold F_seat; (repeat' split) <;> first | rfl | (exfalso; simp only [Int32.lt_iff_toInt_lt, Int32.le_iff_toInt_le, Int64.lt_iff_toInt_lt, Int64.le_iff_toInt_le, ← Int32.toInt_inj, Int32.toInt_toInt64, xl_0, xl_1, xl_2, xl_3, xl_4, xl_5, xl_6, xl_7, xl_8, xl_9, xl_10, xl_11, xl_12, xl_13, xl_20, xl_30, xl_59, xl_63, xl_64, xl_99, xl_100, xl_120, xl_999, xl_m1, xl_m2, xl_m3, xl_m4, xl_m5, xL_0, xL_1, xL_2, xL_3, xL_4, xL_5, xL_6, xL_7, xL_8, xL_20, xL_59, xL_63, xL_99, xL_999] at *; omega) | (exfalso; simp_all; done))
  · refine P0.go (k := 3) (s' := (xcmp .gt (b) (7) 14 10, [some (.int b), some (.int 0), some (.int 7)], [], 102, xshC, xMt)) rfl ?_
    refine P0.gt (fun h2 => ?_) (fun h2 => ?_)
    · refine P0.go (k := 1) (s' := (15, [some (.int b), some (.int 0), some (.int 7)], [.int 0], 102, xshC, xMt)) rfl ?_
      refine P0.ret (v := some (.int 0)) rfl ?_
      refine ⟨rfl, ?_⟩
      show P0 137 (7, [some (.int b)], [.int 0], 102, xshC, xMt) _
      refine P0.ret (v := some (.int 0)) rfl ?_
      refine ⟨rfl, ?_⟩
      show P0 106 (4, [some (.ref 0), some (.int a), some (.int b), some (.int c), some (.int d)], [.int 0], 102, xshC, xMt) _
      refine P0.go (k := 2) (s' := (29, [some (.ref 0), some (.int a), some (.int b), some (.int c), some (.int d)], [.int (-1)], 102, xshC, xMt)) rfl ?_
      refine P0.ret (v := some (.int (-1))) rfl ?_
      exact congrArg (fun z => some (Value.int z)) (show (-1) = F_seat a b c d from by unfold F_seat; (repeat' split) <;> first | rfl | (exfalso; simp only [Int32.lt_iff_toInt_lt, Int32.le_iff_toInt_le, Int64.lt_iff_toInt_lt, Int64.le_iff_toInt_le, ← Int32.toInt_inj, Int32.toInt_toInt64, xl_0, xl_1, xl_2, xl_3, xl_4, xl_5, xl_6, xl_7, xl_8, xl_9, xl_10, xl_11, xl_12, xl_13, xl_20, xl_30, xl_59, xl_63, xl_64, xl_99, xl_100, xl_120, xl_999, xl_m1, xl_m2, xl_m3, xl_m4, xl_m5, xL_0, xL_1, xL_2, xL_3, xL_4, xL_5, xL_6, xL_7, xL_8, xL_20, xL_59, xL_63, xL_99, xL_999] at *; omega) | (exfalso; simp_all; done))
    · refine P0.go (k := 2) (s' := (15, [some (.int b), some (.int 0), some (.int 7)], [.int 1], 102, xshC, xMt)) rfl ?_
      refine P0.ret (v := some (.int 1)) rfl ?_
      refine ⟨rfl, ?_⟩
      show P0 137 (7, [some (.int b)], [.int 1], 102, xshC, xMt) _
      refine P0.ret (v := some (.int 1)) rfl ?_
      refine ⟨rfl, ?_⟩
      show P0 106 (4, [some (.ref 0), some (.int a), some (.int b), some (.int c), some (.int d)], [.int 1], 102, xshC, xMt) _
      refine P0.go (k := 4) (s' := (12, [some (.ref 0), some (.int a), some (.int b), some (.int c), some (.int d)], [.int c, .ref 1], 102, xshC, xMt)) rfl ?_
      refine P0.call (z := 17) (as := [.ref 1, .int c]) (pc := 15) (pl := [some (.ref 0), some (.int a), some (.int b), some (.int c), some (.int d)]) (st := []) (nz := 102) (sh := xshC) (M := xMt) rfl (Nat.le_of_ble_eq_true rfl) ?_
      show P0 17 (0, [some (.ref 1), some (.int c)], [], 102, xshC, xMt) _
      refine P0.go (k := 6) (s' := (8, [some (.ref 1), some (.int c)], [.int (((0) - (1) : Int32)), .int 0, .int c], 102, xshC, xMt)) rfl ?_
      refine P0.topi (x' := (-1)) (by decide) ?_
      refine P0.call (z := 136) (as := [.int c, .int 0, .int (-1)]) (pc := 11) (pl := [some (.ref 1), some (.int c)]) (st := []) (nz := 102) (sh := xshC) (M := xMt) rfl (Nat.le_of_ble_eq_true rfl) ?_
      show P0 136 (0, [some (.int c), some (.int 0), some (.int (-1))], [], 102, xshC, xMt) _
      refine P0.go (k := 3) (s' := (xcmp .gt (0) (c) 14 5, [some (.int c), some (.int 0), some (.int (-1))], [], 102, xshC, xMt)) rfl ?_
      refine P0.gt (fun h3 => ?_) (fun h3 => ?_)
      · refine P0.go (k := 1) (s' := (15, [some (.int c), some (.int 0), some (.int (-1))], [.int 0], 102, xshC, xMt)) rfl ?_
        refine P0.ret (v := some (.int 0)) rfl ?_
        refine ⟨rfl, ?_⟩
        show P0 17 (11, [some (.ref 1), some (.int c)], [.int 0], 102, xshC, xMt) _
        refine P0.ret (v := some (.int 0)) rfl ?_
        refine ⟨rfl, ?_⟩
        show P0 106 (15, [some (.ref 0), some (.int a), some (.int b), some (.int c), some (.int d)], [.int 0], 102, xshC, xMt) _
        refine P0.go (k := 2) (s' := (29, [some (.ref 0), some (.int a), some (.int b), some (.int c), some (.int d)], [.int (-1)], 102, xshC, xMt)) rfl ?_
        refine P0.ret (v := some (.int (-1))) rfl ?_
        exact congrArg (fun z => some (Value.int z)) (show (-1) = F_seat a b c d from by unfold F_seat; (repeat' split) <;> first | rfl | (exfalso; simp only [Int32.lt_iff_toInt_lt, Int32.le_iff_toInt_le, Int64.lt_iff_toInt_lt, Int64.le_iff_toInt_le, ← Int32.toInt_inj, Int32.toInt_toInt64, xl_0, xl_1, xl_2, xl_3, xl_4, xl_5, xl_6, xl_7, xl_8, xl_9, xl_10, xl_11, xl_12, xl_13, xl_20, xl_30, xl_59, xl_63, xl_64, xl_99, xl_100, xl_120, xl_999, xl_m1, xl_m2, xl_m3, xl_m4, xl_m5, xL_0, xL_1, xL_2, xL_3, xL_4, xL_5, xL_6, xL_7, xL_8, xL_20, xL_59, xL_63, xL_99, xL_999] at *; omega) | (exfalso; simp_all; done))
      · refine P0.go (k := 3) (s' := (xcmp .gt (c) ((-1)) 14 10, [some (.int c), some (.int 0), some (.int (-1))], [], 102, xshC, xMt)) rfl ?_
        refine P0.gt (fun h4 => ?_) (fun h4 => absurd True.intro (by exfalso; simp only [Int32.lt_iff_toInt_lt, Int32.le_iff_toInt_le, Int64.lt_iff_toInt_lt, Int64.le_iff_toInt_le, ← Int32.toInt_inj, Int32.toInt_toInt64, xl_0, xl_1, xl_2, xl_3, xl_4, xl_5, xl_6, xl_7, xl_8, xl_9, xl_10, xl_11, xl_12, xl_13, xl_20, xl_30, xl_59, xl_63, xl_64, xl_99, xl_100, xl_120, xl_999, xl_m1, xl_m2, xl_m3, xl_m4, xl_m5, xL_0, xL_1, xL_2, xL_3, xL_4, xL_5, xL_6, xL_7, xL_8, xL_20, xL_59, xL_63, xL_99, xL_999] at *; omega))
        refine P0.go (k := 1) (s' := (15, [some (.int c), some (.int 0), some (.int (-1))], [.int 0], 102, xshC, xMt)) rfl ?_
        refine P0.ret (v := some (.int 0)) rfl ?_
        refine ⟨rfl, ?_⟩
        show P0 17 (11, [some (.ref 1), some (.int c)], [.int 0], 102, xshC, xMt) _
        refine P0.ret (v := some (.int 0)) rfl ?_
        refine ⟨rfl, ?_⟩
        show P0 106 (15, [some (.ref 0), some (.int a), some (.int b), some (.int c), some (.int d)], [.int 0], 102, xshC, xMt) _
        refine P0.go (k := 2) (s' := (29, [some (.ref 0), some (.int a), some (.int b), some (.int c), some (.int d)], [.int (-1)], 102, xshC, xMt)) rfl ?_
        refine P0.ret (v := some (.int (-1))) rfl ?_
        exact congrArg (fun z => some (Value.int z)) (show (-1) = F_seat a b c d from by unfold F_seat; (repeat' split) <;> first | rfl | (exfalso; simp only [Int32.lt_iff_toInt_lt, Int32.le_iff_toInt_le, Int64.lt_iff_toInt_lt, Int64.le_iff_toInt_le, ← Int32.toInt_inj, Int32.toInt_toInt64, xl_0, xl_1, xl_2, xl_3, xl_4, xl_5, xl_6, xl_7, xl_8, xl_9, xl_10, xl_11, xl_12, xl_13, xl_20, xl_30, xl_59, xl_63, xl_64, xl_99, xl_100, xl_120, xl_999, xl_m1, xl_m2, xl_m3, xl_m4, xl_m5, xL_0, xL_1, xL_2, xL_3, xL_4, xL_5, xL_6, xL_7, xL_8, xL_20, xL_59, xL_63, xL_99, xL_999] at *; omega) | (exfalso; simp_all; done))
set_option maxRecDepth 100000 in
set_option maxHeartbeats 4000000 in
theorem wc_out (a b : Int32) : P0 107 (0, [some (.ref 0), some (.int a), some (.int b)], [], 102, xshC, xMt) (fun r => r.1 = some (.int (F_out a b))) := by
  refine P0.go (k := 3) (s' := (5, [some (.ref 0), some (.int a), some (.int b)], [.int a, .ref 5], 102, xshC, xMt)) rfl ?_
  refine P0.call (z := 65) (as := [.ref 5, .int a]) (pc := 8) (pl := [some (.ref 0), some (.int a), some (.int b)]) (st := []) (nz := 102) (sh := xshC) (M := xMt) rfl (Nat.le_of_ble_eq_true rfl) ?_
  show P0 65 (0, [some (.ref 5), some (.int a)], [], 102, xshC, xMt) _
  refine P0.go (k := 6) (s' := (8, [some (.ref 5), some (.int a)], [.int (((0) - (1) : Int32)), .int 0, .int a], 102, xshC, xMt)) rfl ?_
  refine P0.topi (x' := (-1)) (by decide) ?_
  refine P0.call (z := 136) (as := [.int a, .int 0, .int (-1)]) (pc := 11) (pl := [some (.ref 5), some (.int a)]) (st := []) (nz := 102) (sh := xshC) (M := xMt) rfl (Nat.le_of_ble_eq_true rfl) ?_
  show P0 136 (0, [some (.int a), some (.int 0), some (.int (-1))], [], 102, xshC, xMt) _
  refine P0.go (k := 3) (s' := (xcmp .gt (0) (a) 14 5, [some (.int a), some (.int 0), some (.int (-1))], [], 102, xshC, xMt)) rfl ?_
  refine P0.gt (fun h1 => ?_) (fun h1 => ?_)
  · refine P0.go (k := 1) (s' := (15, [some (.int a), some (.int 0), some (.int (-1))], [.int 0], 102, xshC, xMt)) rfl ?_
    refine P0.ret (v := some (.int 0)) rfl ?_
    refine ⟨rfl, ?_⟩
    show P0 65 (11, [some (.ref 5), some (.int a)], [.int 0], 102, xshC, xMt) _
    refine P0.ret (v := some (.int 0)) rfl ?_
    refine ⟨rfl, ?_⟩
    show P0 107 (8, [some (.ref 0), some (.int a), some (.int b)], [.int 0], 102, xshC, xMt) _
    refine P0.go (k := 2) (s' := (12, [some (.ref 0), some (.int a), some (.int b)], [.int (-1)], 102, xshC, xMt)) rfl ?_
    refine P0.ret (v := some (.int (-1))) rfl ?_
    exact congrArg (fun z => some (Value.int z)) (show (-1) = F_out a b from by unfold F_out; (repeat' split) <;> first | rfl | (exfalso; simp only [Int32.lt_iff_toInt_lt, Int32.le_iff_toInt_le, Int64.lt_iff_toInt_lt, Int64.le_iff_toInt_le, ← Int32.toInt_inj, Int32.toInt_toInt64, xl_0, xl_1, xl_2, xl_3, xl_4, xl_5, xl_6, xl_7, xl_8, xl_9, xl_10, xl_11, xl_12, xl_13, xl_20, xl_30, xl_59, xl_63, xl_64, xl_99, xl_100, xl_120, xl_999, xl_m1, xl_m2, xl_m3, xl_m4, xl_m5, xL_0, xL_1, xL_2, xL_3, xL_4, xL_5, xL_6, xL_7, xL_8, xL_20, xL_59, xL_63, xL_99, xL_999] at *; omega) | (exfalso; simp_all; done))
  · refine P0.go (k := 3) (s' := (xcmp .gt (a) ((-1)) 14 10, [some (.int a), some (.int 0), some (.int (-1))], [], 102, xshC, xMt)) rfl ?_
    refine P0.gt (fun h2 => ?_) (fun h2 => absurd True.intro (by exfalso; simp only [Int32.lt_iff_toInt_lt, Int32.le_iff_toInt_le, Int64.lt_iff_toInt_lt, Int64.le_iff_toInt_le, ← Int32.toInt_inj, Int32.toInt_toInt64, xl_0, xl_1, xl_2, xl_3, xl_4, xl_5, xl_6, xl_7, xl_8, xl_9, xl_10, xl_11, xl_12, xl_13, xl_20, xl_30, xl_59, xl_63, xl_64, xl_99, xl_100, xl_120, xl_999, xl_m1, xl_m2, xl_m3, xl_m4, xl_m5, xL_0, xL_1, xL_2, xL_3, xL_4, xL_5, xL_6, xL_7, xL_8, xL_20, xL_59, xL_63, xL_99, xL_999] at *; omega))
    refine P0.go (k := 1) (s' := (15, [some (.int a), some (.int 0), some (.int (-1))], [.int 0], 102, xshC, xMt)) rfl ?_
    refine P0.ret (v := some (.int 0)) rfl ?_
    refine ⟨rfl, ?_⟩
    show P0 65 (11, [some (.ref 5), some (.int a)], [.int 0], 102, xshC, xMt) _
    refine P0.ret (v := some (.int 0)) rfl ?_
    refine ⟨rfl, ?_⟩
    show P0 107 (8, [some (.ref 0), some (.int a), some (.int b)], [.int 0], 102, xshC, xMt) _
    refine P0.go (k := 2) (s' := (12, [some (.ref 0), some (.int a), some (.int b)], [.int (-1)], 102, xshC, xMt)) rfl ?_
    refine P0.ret (v := some (.int (-1))) rfl ?_
    exact congrArg (fun z => some (Value.int z)) (show (-1) = F_out a b from by unfold F_out; (repeat' split) <;> first | rfl | (exfalso; simp only [Int32.lt_iff_toInt_lt, Int32.le_iff_toInt_le, Int64.lt_iff_toInt_lt, Int64.le_iff_toInt_le, ← Int32.toInt_inj, Int32.toInt_toInt64, xl_0, xl_1, xl_2, xl_3, xl_4, xl_5, xl_6, xl_7, xl_8, xl_9, xl_10, xl_11, xl_12, xl_13, xl_20, xl_30, xl_59, xl_63, xl_64, xl_99, xl_100, xl_120, xl_999, xl_m1, xl_m2, xl_m3, xl_m4, xl_m5, xL_0, xL_1, xL_2, xL_3, xL_4, xL_5, xL_6, xL_7, xL_8, xL_20, xL_59, xL_63, xL_99, xL_999] at *; omega) | (exfalso; simp_all; done))
set_option maxRecDepth 100000 in
set_option maxHeartbeats 4000000 in
theorem wc_like (a b : Int32) : P0 108 (0, [some (.ref 0), some (.int a), some (.int b)], [], 102, xshC, xMt) (fun r => r.1 = some (.int (F_like a b))) := by
  refine P0.go (k := 3) (s' := (5, [some (.ref 0), some (.int a), some (.int b)], [.int a, .ref 5], 102, xshC, xMt)) rfl ?_
  refine P0.call (z := 65) (as := [.ref 5, .int a]) (pc := 8) (pl := [some (.ref 0), some (.int a), some (.int b)]) (st := []) (nz := 102) (sh := xshC) (M := xMt) rfl (Nat.le_of_ble_eq_true rfl) ?_
  show P0 65 (0, [some (.ref 5), some (.int a)], [], 102, xshC, xMt) _
  refine P0.go (k := 6) (s' := (8, [some (.ref 5), some (.int a)], [.int (((0) - (1) : Int32)), .int 0, .int a], 102, xshC, xMt)) rfl ?_
  refine P0.topi (x' := (-1)) (by decide) ?_
  refine P0.call (z := 136) (as := [.int a, .int 0, .int (-1)]) (pc := 11) (pl := [some (.ref 5), some (.int a)]) (st := []) (nz := 102) (sh := xshC) (M := xMt) rfl (Nat.le_of_ble_eq_true rfl) ?_
  show P0 136 (0, [some (.int a), some (.int 0), some (.int (-1))], [], 102, xshC, xMt) _
  refine P0.go (k := 3) (s' := (xcmp .gt (0) (a) 14 5, [some (.int a), some (.int 0), some (.int (-1))], [], 102, xshC, xMt)) rfl ?_
  refine P0.gt (fun h1 => ?_) (fun h1 => ?_)
  · refine P0.go (k := 1) (s' := (15, [some (.int a), some (.int 0), some (.int (-1))], [.int 0], 102, xshC, xMt)) rfl ?_
    refine P0.ret (v := some (.int 0)) rfl ?_
    refine ⟨rfl, ?_⟩
    show P0 65 (11, [some (.ref 5), some (.int a)], [.int 0], 102, xshC, xMt) _
    refine P0.ret (v := some (.int 0)) rfl ?_
    refine ⟨rfl, ?_⟩
    show P0 108 (8, [some (.ref 0), some (.int a), some (.int b)], [.int 0], 102, xshC, xMt) _
    refine P0.go (k := 2) (s' := (19, [some (.ref 0), some (.int a), some (.int b)], [.int (-1)], 102, xshC, xMt)) rfl ?_
    refine P0.ret (v := some (.int (-1))) rfl ?_
    exact congrArg (fun z => some (Value.int z)) (show (-1) = F_like a b from by unfold F_like; (repeat' split) <;> first | rfl | (exfalso; simp only [Int32.lt_iff_toInt_lt, Int32.le_iff_toInt_le, Int64.lt_iff_toInt_lt, Int64.le_iff_toInt_le, ← Int32.toInt_inj, Int32.toInt_toInt64, xl_0, xl_1, xl_2, xl_3, xl_4, xl_5, xl_6, xl_7, xl_8, xl_9, xl_10, xl_11, xl_12, xl_13, xl_20, xl_30, xl_59, xl_63, xl_64, xl_99, xl_100, xl_120, xl_999, xl_m1, xl_m2, xl_m3, xl_m4, xl_m5, xL_0, xL_1, xL_2, xL_3, xL_4, xL_5, xL_6, xL_7, xL_8, xL_20, xL_59, xL_63, xL_99, xL_999] at *; omega) | (exfalso; simp_all; done))
  · refine P0.go (k := 3) (s' := (xcmp .gt (a) ((-1)) 14 10, [some (.int a), some (.int 0), some (.int (-1))], [], 102, xshC, xMt)) rfl ?_
    refine P0.gt (fun h2 => ?_) (fun h2 => absurd True.intro (by exfalso; simp only [Int32.lt_iff_toInt_lt, Int32.le_iff_toInt_le, Int64.lt_iff_toInt_lt, Int64.le_iff_toInt_le, ← Int32.toInt_inj, Int32.toInt_toInt64, xl_0, xl_1, xl_2, xl_3, xl_4, xl_5, xl_6, xl_7, xl_8, xl_9, xl_10, xl_11, xl_12, xl_13, xl_20, xl_30, xl_59, xl_63, xl_64, xl_99, xl_100, xl_120, xl_999, xl_m1, xl_m2, xl_m3, xl_m4, xl_m5, xL_0, xL_1, xL_2, xL_3, xL_4, xL_5, xL_6, xL_7, xL_8, xL_20, xL_59, xL_63, xL_99, xL_999] at *; omega))
    refine P0.go (k := 1) (s' := (15, [some (.int a), some (.int 0), some (.int (-1))], [.int 0], 102, xshC, xMt)) rfl ?_
    refine P0.ret (v := some (.int 0)) rfl ?_
    refine ⟨rfl, ?_⟩
    show P0 65 (11, [some (.ref 5), some (.int a)], [.int 0], 102, xshC, xMt) _
    refine P0.ret (v := some (.int 0)) rfl ?_
    refine ⟨rfl, ?_⟩
    show P0 108 (8, [some (.ref 0), some (.int a), some (.int b)], [.int 0], 102, xshC, xMt) _
    refine P0.go (k := 2) (s' := (19, [some (.ref 0), some (.int a), some (.int b)], [.int (-1)], 102, xshC, xMt)) rfl ?_
    refine P0.ret (v := some (.int (-1))) rfl ?_
    exact congrArg (fun z => some (Value.int z)) (show (-1) = F_like a b from by unfold F_like; (repeat' split) <;> first | rfl | (exfalso; simp only [Int32.lt_iff_toInt_lt, Int32.le_iff_toInt_le, Int64.lt_iff_toInt_lt, Int64.le_iff_toInt_le, ← Int32.toInt_inj, Int32.toInt_toInt64, xl_0, xl_1, xl_2, xl_3, xl_4, xl_5, xl_6, xl_7, xl_8, xl_9, xl_10, xl_11, xl_12, xl_13, xl_20, xl_30, xl_59, xl_63, xl_64, xl_99, xl_100, xl_120, xl_999, xl_m1, xl_m2, xl_m3, xl_m4, xl_m5, xL_0, xL_1, xL_2, xL_3, xL_4, xL_5, xL_6, xL_7, xL_8, xL_20, xL_59, xL_63, xL_99, xL_999] at *; omega) | (exfalso; simp_all; done))
set_option maxRecDepth 100000 in
set_option maxHeartbeats 4000000 in
theorem wc_unlike (a : Int32) : P0 109 (0, [some (.ref 0), some (.int a)], [], 102, xshC, xMt) (fun r => r.1 = some (.int (F_unlike a))) := by
  refine P0.go (k := 3) (s' := (5, [some (.ref 0), some (.int a)], [.int a, .ref 5], 102, xshC, xMt)) rfl ?_
  refine P0.call (z := 65) (as := [.ref 5, .int a]) (pc := 8) (pl := [some (.ref 0), some (.int a)]) (st := []) (nz := 102) (sh := xshC) (M := xMt) rfl (Nat.le_of_ble_eq_true rfl) ?_
  show P0 65 (0, [some (.ref 5), some (.int a)], [], 102, xshC, xMt) _
  refine P0.go (k := 6) (s' := (8, [some (.ref 5), some (.int a)], [.int (((0) - (1) : Int32)), .int 0, .int a], 102, xshC, xMt)) rfl ?_
  refine P0.topi (x' := (-1)) (by decide) ?_
  refine P0.call (z := 136) (as := [.int a, .int 0, .int (-1)]) (pc := 11) (pl := [some (.ref 5), some (.int a)]) (st := []) (nz := 102) (sh := xshC) (M := xMt) rfl (Nat.le_of_ble_eq_true rfl) ?_
  show P0 136 (0, [some (.int a), some (.int 0), some (.int (-1))], [], 102, xshC, xMt) _
  refine P0.go (k := 3) (s' := (xcmp .gt (0) (a) 14 5, [some (.int a), some (.int 0), some (.int (-1))], [], 102, xshC, xMt)) rfl ?_
  refine P0.gt (fun h1 => ?_) (fun h1 => ?_)
  · refine P0.go (k := 1) (s' := (15, [some (.int a), some (.int 0), some (.int (-1))], [.int 0], 102, xshC, xMt)) rfl ?_
    refine P0.ret (v := some (.int 0)) rfl ?_
    refine ⟨rfl, ?_⟩
    show P0 65 (11, [some (.ref 5), some (.int a)], [.int 0], 102, xshC, xMt) _
    refine P0.ret (v := some (.int 0)) rfl ?_
    refine ⟨rfl, ?_⟩
    show P0 109 (8, [some (.ref 0), some (.int a)], [.int 0], 102, xshC, xMt) _
    refine P0.go (k := 2) (s' := (27, [some (.ref 0), some (.int a)], [.int (-1)], 102, xshC, xMt)) rfl ?_
    refine P0.ret (v := some (.int (-1))) rfl ?_
    exact congrArg (fun z => some (Value.int z)) (show (-1) = F_unlike a from by unfold F_unlike; (repeat' split) <;> first | rfl | (exfalso; simp only [Int32.lt_iff_toInt_lt, Int32.le_iff_toInt_le, Int64.lt_iff_toInt_lt, Int64.le_iff_toInt_le, ← Int32.toInt_inj, Int32.toInt_toInt64, xl_0, xl_1, xl_2, xl_3, xl_4, xl_5, xl_6, xl_7, xl_8, xl_9, xl_10, xl_11, xl_12, xl_13, xl_20, xl_30, xl_59, xl_63, xl_64, xl_99, xl_100, xl_120, xl_999, xl_m1, xl_m2, xl_m3, xl_m4, xl_m5, xL_0, xL_1, xL_2, xL_3, xL_4, xL_5, xL_6, xL_7, xL_8, xL_20, xL_59, xL_63, xL_99, xL_999] at *; omega) | (exfalso; simp_all; done))
  · refine P0.go (k := 3) (s' := (xcmp .gt (a) ((-1)) 14 10, [some (.int a), some (.int 0), some (.int (-1))], [], 102, xshC, xMt)) rfl ?_
    refine P0.gt (fun h2 => ?_) (fun h2 => absurd True.intro (by exfalso; simp only [Int32.lt_iff_toInt_lt, Int32.le_iff_toInt_le, Int64.lt_iff_toInt_lt, Int64.le_iff_toInt_le, ← Int32.toInt_inj, Int32.toInt_toInt64, xl_0, xl_1, xl_2, xl_3, xl_4, xl_5, xl_6, xl_7, xl_8, xl_9, xl_10, xl_11, xl_12, xl_13, xl_20, xl_30, xl_59, xl_63, xl_64, xl_99, xl_100, xl_120, xl_999, xl_m1, xl_m2, xl_m3, xl_m4, xl_m5, xL_0, xL_1, xL_2, xL_3, xL_4, xL_5, xL_6, xL_7, xL_8, xL_20, xL_59, xL_63, xL_99, xL_999] at *; omega))
    refine P0.go (k := 1) (s' := (15, [some (.int a), some (.int 0), some (.int (-1))], [.int 0], 102, xshC, xMt)) rfl ?_
    refine P0.ret (v := some (.int 0)) rfl ?_
    refine ⟨rfl, ?_⟩
    show P0 65 (11, [some (.ref 5), some (.int a)], [.int 0], 102, xshC, xMt) _
    refine P0.ret (v := some (.int 0)) rfl ?_
    refine ⟨rfl, ?_⟩
    show P0 109 (8, [some (.ref 0), some (.int a)], [.int 0], 102, xshC, xMt) _
    refine P0.go (k := 2) (s' := (27, [some (.ref 0), some (.int a)], [.int (-1)], 102, xshC, xMt)) rfl ?_
    refine P0.ret (v := some (.int (-1))) rfl ?_
    exact congrArg (fun z => some (Value.int z)) (show (-1) = F_unlike a from by unfold F_unlike; (repeat' split) <;> first | rfl | (exfalso; simp only [Int32.lt_iff_toInt_lt, Int32.le_iff_toInt_le, Int64.lt_iff_toInt_lt, Int64.le_iff_toInt_le, ← Int32.toInt_inj, Int32.toInt_toInt64, xl_0, xl_1, xl_2, xl_3, xl_4, xl_5, xl_6, xl_7, xl_8, xl_9, xl_10, xl_11, xl_12, xl_13, xl_20, xl_30, xl_59, xl_63, xl_64, xl_99, xl_100, xl_120, xl_999, xl_m1, xl_m2, xl_m3, xl_m4, xl_m5, xL_0, xL_1, xL_2, xL_3, xL_4, xL_5, xL_6, xL_7, xL_8, xL_20, xL_59, xL_63, xL_99, xL_999] at *; omega) | (exfalso; simp_all; done))
set_option maxRecDepth 100000 in
set_option maxHeartbeats 4000000 in
theorem wc_credential (a : Int32) : P0 110 (0, [some (.ref 0), some (.int a)], [], 102, xshC, xMt) (fun r => r.1 = some (.int (F_credential a))) := by
  refine P0.go (k := 3) (s' := (5, [some (.ref 0), some (.int a)], [.int a, .ref 5], 102, xshC, xMt)) rfl ?_
  refine P0.call (z := 65) (as := [.ref 5, .int a]) (pc := 8) (pl := [some (.ref 0), some (.int a)]) (st := []) (nz := 102) (sh := xshC) (M := xMt) rfl (Nat.le_of_ble_eq_true rfl) ?_
  show P0 65 (0, [some (.ref 5), some (.int a)], [], 102, xshC, xMt) _
  refine P0.go (k := 6) (s' := (8, [some (.ref 5), some (.int a)], [.int (((0) - (1) : Int32)), .int 0, .int a], 102, xshC, xMt)) rfl ?_
  refine P0.topi (x' := (-1)) (by decide) ?_
  refine P0.call (z := 136) (as := [.int a, .int 0, .int (-1)]) (pc := 11) (pl := [some (.ref 5), some (.int a)]) (st := []) (nz := 102) (sh := xshC) (M := xMt) rfl (Nat.le_of_ble_eq_true rfl) ?_
  show P0 136 (0, [some (.int a), some (.int 0), some (.int (-1))], [], 102, xshC, xMt) _
  refine P0.go (k := 3) (s' := (xcmp .gt (0) (a) 14 5, [some (.int a), some (.int 0), some (.int (-1))], [], 102, xshC, xMt)) rfl ?_
  refine P0.gt (fun h1 => ?_) (fun h1 => ?_)
  · refine P0.go (k := 1) (s' := (15, [some (.int a), some (.int 0), some (.int (-1))], [.int 0], 102, xshC, xMt)) rfl ?_
    refine P0.ret (v := some (.int 0)) rfl ?_
    refine ⟨rfl, ?_⟩
    show P0 65 (11, [some (.ref 5), some (.int a)], [.int 0], 102, xshC, xMt) _
    refine P0.ret (v := some (.int 0)) rfl ?_
    refine ⟨rfl, ?_⟩
    show P0 110 (8, [some (.ref 0), some (.int a)], [.int 0], 102, xshC, xMt) _
    refine P0.go (k := 2) (s' := (12, [some (.ref 0), some (.int a)], [.int (-1)], 102, xshC, xMt)) rfl ?_
    refine P0.ret (v := some (.int (-1))) rfl ?_
    exact congrArg (fun z => some (Value.int z)) (show (-1) = F_credential a from by unfold F_credential; (repeat' split) <;> first | rfl | (exfalso; simp only [Int32.lt_iff_toInt_lt, Int32.le_iff_toInt_le, Int64.lt_iff_toInt_lt, Int64.le_iff_toInt_le, ← Int32.toInt_inj, Int32.toInt_toInt64, xl_0, xl_1, xl_2, xl_3, xl_4, xl_5, xl_6, xl_7, xl_8, xl_9, xl_10, xl_11, xl_12, xl_13, xl_20, xl_30, xl_59, xl_63, xl_64, xl_99, xl_100, xl_120, xl_999, xl_m1, xl_m2, xl_m3, xl_m4, xl_m5, xL_0, xL_1, xL_2, xL_3, xL_4, xL_5, xL_6, xL_7, xL_8, xL_20, xL_59, xL_63, xL_99, xL_999] at *; omega) | (exfalso; simp_all; done))
  · refine P0.go (k := 3) (s' := (xcmp .gt (a) ((-1)) 14 10, [some (.int a), some (.int 0), some (.int (-1))], [], 102, xshC, xMt)) rfl ?_
    refine P0.gt (fun h2 => ?_) (fun h2 => absurd True.intro (by exfalso; simp only [Int32.lt_iff_toInt_lt, Int32.le_iff_toInt_le, Int64.lt_iff_toInt_lt, Int64.le_iff_toInt_le, ← Int32.toInt_inj, Int32.toInt_toInt64, xl_0, xl_1, xl_2, xl_3, xl_4, xl_5, xl_6, xl_7, xl_8, xl_9, xl_10, xl_11, xl_12, xl_13, xl_20, xl_30, xl_59, xl_63, xl_64, xl_99, xl_100, xl_120, xl_999, xl_m1, xl_m2, xl_m3, xl_m4, xl_m5, xL_0, xL_1, xL_2, xL_3, xL_4, xL_5, xL_6, xL_7, xL_8, xL_20, xL_59, xL_63, xL_99, xL_999] at *; omega))
    refine P0.go (k := 1) (s' := (15, [some (.int a), some (.int 0), some (.int (-1))], [.int 0], 102, xshC, xMt)) rfl ?_
    refine P0.ret (v := some (.int 0)) rfl ?_
    refine ⟨rfl, ?_⟩
    show P0 65 (11, [some (.ref 5), some (.int a)], [.int 0], 102, xshC, xMt) _
    refine P0.ret (v := some (.int 0)) rfl ?_
    refine ⟨rfl, ?_⟩
    show P0 110 (8, [some (.ref 0), some (.int a)], [.int 0], 102, xshC, xMt) _
    refine P0.go (k := 2) (s' := (12, [some (.ref 0), some (.int a)], [.int (-1)], 102, xshC, xMt)) rfl ?_
    refine P0.ret (v := some (.int (-1))) rfl ?_
    exact congrArg (fun z => some (Value.int z)) (show (-1) = F_credential a from by unfold F_credential; (repeat' split) <;> first | rfl | (exfalso; simp only [Int32.lt_iff_toInt_lt, Int32.le_iff_toInt_le, Int64.lt_iff_toInt_lt, Int64.le_iff_toInt_le, ← Int32.toInt_inj, Int32.toInt_toInt64, xl_0, xl_1, xl_2, xl_3, xl_4, xl_5, xl_6, xl_7, xl_8, xl_9, xl_10, xl_11, xl_12, xl_13, xl_20, xl_30, xl_59, xl_63, xl_64, xl_99, xl_100, xl_120, xl_999, xl_m1, xl_m2, xl_m3, xl_m4, xl_m5, xL_0, xL_1, xL_2, xL_3, xL_4, xL_5, xL_6, xL_7, xL_8, xL_20, xL_59, xL_63, xL_99, xL_999] at *; omega) | (exfalso; simp_all; done))
set_option maxRecDepth 100000 in
set_option maxHeartbeats 4000000 in
theorem wc_about (a b : Int32) : P0 111 (0, [some (.ref 0), some (.int a), some (.int b)], [], 102, xshC, xMt) (fun r => r.1 = some (.int (F_about a b))) := by
  refine P0.go (k := 3) (s' := (5, [some (.ref 0), some (.int a), some (.int b)], [.int a, .ref 5], 102, xshC, xMt)) rfl ?_
  refine P0.call (z := 65) (as := [.ref 5, .int a]) (pc := 8) (pl := [some (.ref 0), some (.int a), some (.int b)]) (st := []) (nz := 102) (sh := xshC) (M := xMt) rfl (Nat.le_of_ble_eq_true rfl) ?_
  show P0 65 (0, [some (.ref 5), some (.int a)], [], 102, xshC, xMt) _
  refine P0.go (k := 6) (s' := (8, [some (.ref 5), some (.int a)], [.int (((0) - (1) : Int32)), .int 0, .int a], 102, xshC, xMt)) rfl ?_
  refine P0.topi (x' := (-1)) (by decide) ?_
  refine P0.call (z := 136) (as := [.int a, .int 0, .int (-1)]) (pc := 11) (pl := [some (.ref 5), some (.int a)]) (st := []) (nz := 102) (sh := xshC) (M := xMt) rfl (Nat.le_of_ble_eq_true rfl) ?_
  show P0 136 (0, [some (.int a), some (.int 0), some (.int (-1))], [], 102, xshC, xMt) _
  refine P0.go (k := 3) (s' := (xcmp .gt (0) (a) 14 5, [some (.int a), some (.int 0), some (.int (-1))], [], 102, xshC, xMt)) rfl ?_
  refine P0.gt (fun h1 => ?_) (fun h1 => ?_)
  · refine P0.go (k := 1) (s' := (15, [some (.int a), some (.int 0), some (.int (-1))], [.int 0], 102, xshC, xMt)) rfl ?_
    refine P0.ret (v := some (.int 0)) rfl ?_
    refine ⟨rfl, ?_⟩
    show P0 65 (11, [some (.ref 5), some (.int a)], [.int 0], 102, xshC, xMt) _
    refine P0.ret (v := some (.int 0)) rfl ?_
    refine ⟨rfl, ?_⟩
    show P0 111 (8, [some (.ref 0), some (.int a), some (.int b)], [.int 0], 102, xshC, xMt) _
    refine P0.go (k := 2) (s' := (12, [some (.ref 0), some (.int a), some (.int b)], [.int (-1)], 102, xshC, xMt)) rfl ?_
    refine P0.ret (v := some (.int (-1))) rfl ?_
    exact congrArg (fun z => some (Value.int z)) (show (-1) = F_about a b from by unfold F_about; (repeat' split) <;> first | rfl | (exfalso; simp only [Int32.lt_iff_toInt_lt, Int32.le_iff_toInt_le, Int64.lt_iff_toInt_lt, Int64.le_iff_toInt_le, ← Int32.toInt_inj, Int32.toInt_toInt64, xl_0, xl_1, xl_2, xl_3, xl_4, xl_5, xl_6, xl_7, xl_8, xl_9, xl_10, xl_11, xl_12, xl_13, xl_20, xl_30, xl_59, xl_63, xl_64, xl_99, xl_100, xl_120, xl_999, xl_m1, xl_m2, xl_m3, xl_m4, xl_m5, xL_0, xL_1, xL_2, xL_3, xL_4, xL_5, xL_6, xL_7, xL_8, xL_20, xL_59, xL_63, xL_99, xL_999] at *; omega) | (exfalso; simp_all; done))
  · refine P0.go (k := 3) (s' := (xcmp .gt (a) ((-1)) 14 10, [some (.int a), some (.int 0), some (.int (-1))], [], 102, xshC, xMt)) rfl ?_
    refine P0.gt (fun h2 => ?_) (fun h2 => absurd True.intro (by exfalso; simp only [Int32.lt_iff_toInt_lt, Int32.le_iff_toInt_le, Int64.lt_iff_toInt_lt, Int64.le_iff_toInt_le, ← Int32.toInt_inj, Int32.toInt_toInt64, xl_0, xl_1, xl_2, xl_3, xl_4, xl_5, xl_6, xl_7, xl_8, xl_9, xl_10, xl_11, xl_12, xl_13, xl_20, xl_30, xl_59, xl_63, xl_64, xl_99, xl_100, xl_120, xl_999, xl_m1, xl_m2, xl_m3, xl_m4, xl_m5, xL_0, xL_1, xL_2, xL_3, xL_4, xL_5, xL_6, xL_7, xL_8, xL_20, xL_59, xL_63, xL_99, xL_999] at *; omega))
    refine P0.go (k := 1) (s' := (15, [some (.int a), some (.int 0), some (.int (-1))], [.int 0], 102, xshC, xMt)) rfl ?_
    refine P0.ret (v := some (.int 0)) rfl ?_
    refine ⟨rfl, ?_⟩
    show P0 65 (11, [some (.ref 5), some (.int a)], [.int 0], 102, xshC, xMt) _
    refine P0.ret (v := some (.int 0)) rfl ?_
    refine ⟨rfl, ?_⟩
    show P0 111 (8, [some (.ref 0), some (.int a), some (.int b)], [.int 0], 102, xshC, xMt) _
    refine P0.go (k := 2) (s' := (12, [some (.ref 0), some (.int a), some (.int b)], [.int (-1)], 102, xshC, xMt)) rfl ?_
    refine P0.ret (v := some (.int (-1))) rfl ?_
    exact congrArg (fun z => some (Value.int z)) (show (-1) = F_about a b from by unfold F_about; (repeat' split) <;> first | rfl | (exfalso; simp only [Int32.lt_iff_toInt_lt, Int32.le_iff_toInt_le, Int64.lt_iff_toInt_lt, Int64.le_iff_toInt_le, ← Int32.toInt_inj, Int32.toInt_toInt64, xl_0, xl_1, xl_2, xl_3, xl_4, xl_5, xl_6, xl_7, xl_8, xl_9, xl_10, xl_11, xl_12, xl_13, xl_20, xl_30, xl_59, xl_63, xl_64, xl_99, xl_100, xl_120, xl_999, xl_m1, xl_m2, xl_m3, xl_m4, xl_m5, xL_0, xL_1, xL_2, xL_3, xL_4, xL_5, xL_6, xL_7, xL_8, xL_20, xL_59, xL_63, xL_99, xL_999] at *; omega) | (exfalso; simp_all; done))
set_option maxRecDepth 100000 in
set_option maxHeartbeats 4000000 in
theorem wc_force (a : Int32) : P0 114 (0, [some (.ref 0), some (.int a)], [], 102, xshC, xMt) (fun r => r.1 = some (.int (F_force a))) := by
  refine P0.go (k := 1) (s' := (1, [some (.ref 0), some (.int a)], [.int a], 102, xshC, xMt)) rfl ?_
  refine P0.call (z := 139) (as := [.int a]) (pc := 4) (pl := [some (.ref 0), some (.int a)]) (st := []) (nz := 102) (sh := xshC) (M := xMt) rfl (Nat.le_of_ble_eq_true rfl) ?_
  show P0 139 (0, [some (.int a)], [], 102, xshC, xMt) _
  refine P0.go (k := 3) (s' := (3, [some (.int a)], [.int 4, .int 0, .int a], 102, xshC, xMt)) rfl ?_
  refine P0.call (z := 136) (as := [.int a, .int 0, .int 4]) (pc := 6) (pl := [some (.int a)]) (st := []) (nz := 102) (sh := xshC) (M := xMt) rfl (Nat.le_of_ble_eq_true rfl) ?_
  show P0 136 (0, [some (.int a), some (.int 0), some (.int 4)], [], 102, xshC, xMt) _
  refine P0.go (k := 3) (s' := (xcmp .gt (0) (a) 14 5, [some (.int a), some (.int 0), some (.int 4)], [], 102, xshC, xMt)) rfl ?_
  refine P0.gt (fun h1 => ?_) (fun h1 => ?_)
  · refine P0.go (k := 1) (s' := (15, [some (.int a), some (.int 0), some (.int 4)], [.int 0], 102, xshC, xMt)) rfl ?_
    refine P0.ret (v := some (.int 0)) rfl ?_
    refine ⟨rfl, ?_⟩
    show P0 139 (6, [some (.int a)], [.int 0], 102, xshC, xMt) _
    refine P0.ret (v := some (.int 0)) rfl ?_
    refine ⟨rfl, ?_⟩
    show P0 114 (4, [some (.ref 0), some (.int a)], [.int 0], 102, xshC, xMt) _
    refine P0.go (k := 2) (s' := (8, [some (.ref 0), some (.int a)], [.int (-1)], 102, xshC, xMt)) rfl ?_
    refine P0.ret (v := some (.int (-1))) rfl ?_
    exact congrArg (fun z => some (Value.int z)) (show (-1) = F_force a from by unfold F_force; (repeat' split) <;> first | rfl | (exfalso; simp only [Int32.lt_iff_toInt_lt, Int32.le_iff_toInt_le, Int64.lt_iff_toInt_lt, Int64.le_iff_toInt_le, ← Int32.toInt_inj, Int32.toInt_toInt64, xl_0, xl_1, xl_2, xl_3, xl_4, xl_5, xl_6, xl_7, xl_8, xl_9, xl_10, xl_11, xl_12, xl_13, xl_20, xl_30, xl_59, xl_63, xl_64, xl_99, xl_100, xl_120, xl_999, xl_m1, xl_m2, xl_m3, xl_m4, xl_m5, xL_0, xL_1, xL_2, xL_3, xL_4, xL_5, xL_6, xL_7, xL_8, xL_20, xL_59, xL_63, xL_99, xL_999] at *; omega) | (exfalso; simp_all; done))
  · refine P0.go (k := 3) (s' := (xcmp .gt (a) (4) 14 10, [some (.int a), some (.int 0), some (.int 4)], [], 102, xshC, xMt)) rfl ?_
    refine P0.gt (fun h2 => ?_) (fun h2 => ?_)
    · refine P0.go (k := 1) (s' := (15, [some (.int a), some (.int 0), some (.int 4)], [.int 0], 102, xshC, xMt)) rfl ?_
      refine P0.ret (v := some (.int 0)) rfl ?_
      refine ⟨rfl, ?_⟩
      show P0 139 (6, [some (.int a)], [.int 0], 102, xshC, xMt) _
      refine P0.ret (v := some (.int 0)) rfl ?_
      refine ⟨rfl, ?_⟩
      show P0 114 (4, [some (.ref 0), some (.int a)], [.int 0], 102, xshC, xMt) _
      refine P0.go (k := 2) (s' := (8, [some (.ref 0), some (.int a)], [.int (-1)], 102, xshC, xMt)) rfl ?_
      refine P0.ret (v := some (.int (-1))) rfl ?_
      exact congrArg (fun z => some (Value.int z)) (show (-1) = F_force a from by unfold F_force; (repeat' split) <;> first | rfl | (exfalso; simp only [Int32.lt_iff_toInt_lt, Int32.le_iff_toInt_le, Int64.lt_iff_toInt_lt, Int64.le_iff_toInt_le, ← Int32.toInt_inj, Int32.toInt_toInt64, xl_0, xl_1, xl_2, xl_3, xl_4, xl_5, xl_6, xl_7, xl_8, xl_9, xl_10, xl_11, xl_12, xl_13, xl_20, xl_30, xl_59, xl_63, xl_64, xl_99, xl_100, xl_120, xl_999, xl_m1, xl_m2, xl_m3, xl_m4, xl_m5, xL_0, xL_1, xL_2, xL_3, xL_4, xL_5, xL_6, xL_7, xL_8, xL_20, xL_59, xL_63, xL_99, xL_999] at *; omega) | (exfalso; simp_all; done))
    · refine P0.go (k := 2) (s' := (15, [some (.int a), some (.int 0), some (.int 4)], [.int 1], 102, xshC, xMt)) rfl ?_
      refine P0.ret (v := some (.int 1)) rfl ?_
      refine ⟨rfl, ?_⟩
      show P0 139 (6, [some (.int a)], [.int 1], 102, xshC, xMt) _
      refine P0.ret (v := some (.int 1)) rfl ?_
      refine ⟨rfl, ?_⟩
      show P0 114 (4, [some (.ref 0), some (.int a)], [.int 1], 102, xshC, xMt) _
      refine P0.go (k := 2) (s' := (10, [some (.ref 0), some (.int a)], [.ref 0], 102, xshC, xMt)) rfl ?_
      refine P0.call (z := 147) (as := [.ref 0]) (pc := 13) (pl := [some (.ref 0), some (.int a)]) (st := []) (nz := 102) (sh := xshC) (M := xMt) rfl (Nat.le_of_ble_eq_true rfl) ?_
      show P0 147 (0, [some (.ref 0)], [], 102, xshC, xMt) _
      refine P0.go (k := 5) (s' := (11, [some (.ref 0)], [.ref 5, .ref 37], 102, xshC, xMt)) rfl ?_
      refine P0.call (z := 78) (as := [.ref 37, .ref 5]) (pc := 14) (pl := [some (.ref 0)]) (st := []) (nz := 102) (sh := xshC) (M := xMt) rfl (Nat.le_of_ble_eq_true rfl) ?_
      show P0 78 (0, [some (.ref 37), some (.ref 5), none], [], 102, xshC, xMt) _
      refine P0.go (k := 9) (s' := (15, [some (.ref 37), some (.ref 5), none], [.int 0, .ref 41], 102, xshC, (xup (xup xMt 37 5 (0)) 37 6 (0)))) rfl ?_
      refine P0.call (z := 229) (as := [.ref 41, .int 0]) (pc := 18) (pl := [some (.ref 37), some (.ref 5), none]) (st := []) (nz := 102) (sh := xshC) (M := (xup (xup xMt 37 5 (0)) 37 6 (0))) rfl (Nat.le_of_ble_eq_true rfl) ?_
      show P0 229 (0, [some (.ref 41), some (.int 0), none, none], [], 102, xshC, (xup (xup xMt 37 5 (0)) 37 6 (0))) _
      refine P0.go (k := 40) (s' := (17, [some (.ref 41), some (.int 0), some (.int 4), some (.int 8)], [], 102, xshC, (xup (xup (xup (xup (xup (xup xMt 37 5 (0)) 37 6 (0)) 41 0 (0)) 41 1 (0)) 41 2 (0)) 41 3 (0)))) rfl ?_
      refine P0.go (k := 40) (s' := (20, [some (.ref 41), some (.int 0), some (.int 8), some (.int 8)], [], 102, xshC, (xup (xup (xup (xup (xup (xup (xup (xup (xup (xup xMt 37 5 (0)) 37 6 (0)) 41 0 (0)) 41 1 (0)) 41 2 (0)) 41 3 (0)) 41 4 (0)) 41 5 (0)) 41 6 (0)) 41 7 (0)))) rfl ?_
      refine P0.ret (v := none) rfl ?_
      refine ⟨rfl, ?_⟩
      show P0 78 (18, [some (.ref 37), some (.ref 5), none], [], 102, xshC, (xup (xup (xup (xup (xup (xup (xup (xup (xup (xup xMt 37 5 (0)) 37 6 (0)) 41 0 (0)) 41 1 (0)) 41 2 (0)) 41 3 (0)) 41 4 (0)) 41 5 (0)) 41 6 (0)) 41 7 (0))) _
      refine P0.go (k := 6) (s' := (106, [some (.ref 37), some (.ref 5), some (.int 0)], [], 102, xshC, (xup (xup (xup (xup (xup (xup (xup (xup (xup (xup xMt 37 5 (0)) 37 6 (0)) 41 0 (0)) 41 1 (0)) 41 2 (0)) 41 3 (0)) 41 4 (0)) 41 5 (0)) 41 6 (0)) 41 7 (0)))) rfl ?_
      refine P0.ret (v := none) rfl ?_
      refine ⟨rfl, ?_⟩
      show P0 147 (14, [some (.ref 0)], [], 102, xshC, (xup (xup (xup (xup (xup (xup (xup (xup (xup (xup xMt 37 5 (0)) 37 6 (0)) 41 0 (0)) 41 1 (0)) 41 2 (0)) 41 3 (0)) 41 4 (0)) 41 5 (0)) 41 6 (0)) 41 7 (0))) _
      refine P0.go (k := 20) (s' := (52, [some (.ref 0)], [.ref 51, .int 2, .ref 55], 102, xshC, (xup (xup (xup (xup (xup (xup (xup (xup (xup (xup (xup (xup xMt 37 5 (0)) 37 6 (0)) 41 0 (0)) 41 1 (0)) 41 2 (0)) 41 3 (0)) 41 4 (0)) 41 5 (0)) 41 6 (0)) 41 7 (0)) 55 0 (0)) 55 1 (0)))) rfl ?_
      refine P0.call (z := 41) (as := [.ref 51]) (pc := 55) (pl := [some (.ref 0)]) (st := [.int 2, .ref 55]) (nz := 102) (sh := xshC) (M := (xup (xup (xup (xup (xup (xup (xup (xup (xup (xup (xup (xup xMt 37 5 (0)) 37 6 (0)) 41 0 (0)) 41 1 (0)) 41 2 (0)) 41 3 (0)) 41 4 (0)) 41 5 (0)) 41 6 (0)) 41 7 (0)) 55 0 (0)) 55 1 (0))) rfl (Nat.le_of_ble_eq_true rfl) ?_
      show P0 41 (0, [some (.ref 51), none, none], [], 102, xshC, (xup (xup (xup (xup (xup (xup (xup (xup (xup (xup (xup (xup xMt 37 5 (0)) 37 6 (0)) 41 0 (0)) 41 1 (0)) 41 2 (0)) 41 3 (0)) 41 4 (0)) 41 5 (0)) 41 6 (0)) 41 7 (0)) 55 0 (0)) 55 1 (0))) _
      refine P0.go (k := 9) (s' := (28, [some (.ref 51), some (.int 0), some (.int 0)], [.int 0], 102, xshC, (xup (xup (xup (xup (xup (xup (xup (xup (xup (xup (xup (xup xMt 37 5 (0)) 37 6 (0)) 41 0 (0)) 41 1 (0)) 41 2 (0)) 41 3 (0)) 41 4 (0)) 41 5 (0)) 41 6 (0)) 41 7 (0)) 55 0 (0)) 55 1 (0)))) rfl ?_
      refine P0.ret (v := some (.int 0)) rfl ?_
      refine ⟨rfl, ?_⟩
      show P0 147 (55, [some (.ref 0)], [.int 0, .int 2, .ref 55], 102, xshC, (xup (xup (xup (xup (xup (xup (xup (xup (xup (xup (xup (xup xMt 37 5 (0)) 37 6 (0)) 41 0 (0)) 41 1 (0)) 41 2 (0)) 41 3 (0)) 41 4 (0)) 41 5 (0)) 41 6 (0)) 41 7 (0)) 55 0 (0)) 55 1 (0))) _
      refine P0.go (k := 8) (s' := (69, [some (.ref 0)], [], 102, xshC, (xup (xup (xup (xup (xup (xup (xup (xup (xup (xup (xup (xup (xup (xup xMt 37 5 (0)) 37 6 (0)) 41 0 (0)) 41 1 (0)) 41 2 (0)) 41 3 (0)) 41 4 (0)) 41 5 (0)) 41 6 (0)) 41 7 (0)) 55 0 (0)) 55 1 (0)) 55 2 (0)) 55 3 (0)))) rfl ?_
      refine P0.ret (v := none) rfl ?_
      refine ⟨rfl, ?_⟩
      show P0 114 (13, [some (.ref 0), some (.int a)], [], 102, xshC, (xup (xup (xup (xup (xup (xup (xup (xup (xup (xup (xup (xup (xup (xup xMt 37 5 (0)) 37 6 (0)) 41 0 (0)) 41 1 (0)) 41 2 (0)) 41 3 (0)) 41 4 (0)) 41 5 (0)) 41 6 (0)) 41 7 (0)) 55 0 (0)) 55 1 (0)) 55 2 (0)) 55 3 (0))) _
      refine P0.go (k := 5) (s' := (22, [some (.ref 0), some (.int a)], [.ref 55, .int a, .ref 17], 102, xshC, (xup (xup (xup (xup (xup (xup (xup (xup (xup (xup (xup (xup (xup (xup xMt 37 5 (0)) 37 6 (0)) 41 0 (0)) 41 1 (0)) 41 2 (0)) 41 3 (0)) 41 4 (0)) 41 5 (0)) 41 6 (0)) 41 7 (0)) 55 0 (0)) 55 1 (0)) 55 2 (0)) 55 3 (0)))) rfl ?_
      refine P0.call (z := 49) (as := [.ref 17, .int a, .ref 55]) (pc := 25) (pl := [some (.ref 0), some (.int a)]) (st := []) (nz := 102) (sh := xshC) (M := (xup (xup (xup (xup (xup (xup (xup (xup (xup (xup (xup (xup (xup (xup xMt 37 5 (0)) 37 6 (0)) 41 0 (0)) 41 1 (0)) 41 2 (0)) 41 3 (0)) 41 4 (0)) 41 5 (0)) 41 6 (0)) 41 7 (0)) 55 0 (0)) 55 1 (0)) 55 2 (0)) 55 3 (0))) rfl (Nat.le_of_ble_eq_true rfl) ?_
      show P0 49 (0, [some (.ref 17), some (.int a), some (.ref 55), none], [], 102, xshC, (xup (xup (xup (xup (xup (xup (xup (xup (xup (xup (xup (xup (xup (xup xMt 37 5 (0)) 37 6 (0)) 41 0 (0)) 41 1 (0)) 41 2 (0)) 41 3 (0)) 41 4 (0)) 41 5 (0)) 41 6 (0)) 41 7 (0)) 55 0 (0)) 55 1 (0)) 55 2 (0)) 55 3 (0))) _
      refine P0.go (k := 4) (s' := (6, [some (.ref 17), some (.int a), some (.ref 55), none], [.int (((0) - (1) : Int32))], 102, xshC, (xup (xup (xup (xup (xup (xup (xup (xup (xup (xup (xup (xup (xup (xup xMt 37 5 (0)) 37 6 (0)) 41 0 (0)) 41 1 (0)) 41 2 (0)) 41 3 (0)) 41 4 (0)) 41 5 (0)) 41 6 (0)) 41 7 (0)) 55 0 (0)) 55 1 (0)) 55 2 (0)) 55 3 (0)))) rfl ?_
      refine P0.topi (x' := (-1)) (by decide) ?_
      refine P0.go (k := 4) (s' := (39, [some (.ref 17), some (.int a), some (.ref 55), some (.int (-1))], [.int (-1)], 102, xshC, (xup (xup (xup (xup (xup (xup (xup (xup (xup (xup (xup (xup (xup (xup xMt 37 5 (0)) 37 6 (0)) 41 0 (0)) 41 1 (0)) 41 2 (0)) 41 3 (0)) 41 4 (0)) 41 5 (0)) 41 6 (0)) 41 7 (0)) 55 0 (0)) 55 1 (0)) 55 2 (0)) 55 3 (0)))) rfl ?_
      refine P0.ret (v := some (.int (-1))) rfl ?_
      refine ⟨rfl, ?_⟩
      show P0 114 (25, [some (.ref 0), some (.int a)], [.int (-1)], 102, xshC, (xup (xup (xup (xup (xup (xup (xup (xup (xup (xup (xup (xup (xup (xup xMt 37 5 (0)) 37 6 (0)) 41 0 (0)) 41 1 (0)) 41 2 (0)) 41 3 (0)) 41 4 (0)) 41 5 (0)) 41 6 (0)) 41 7 (0)) 55 0 (0)) 55 1 (0)) 55 2 (0)) 55 3 (0))) _
      refine P0.ret (v := some (.int (-1))) rfl ?_
      exact congrArg (fun z => some (Value.int z)) (show (-1) = F_force a from by unfold F_force; (repeat' split) <;> first | rfl | (exfalso; simp only [Int32.lt_iff_toInt_lt, Int32.le_iff_toInt_le, Int64.lt_iff_toInt_lt, Int64.le_iff_toInt_le, ← Int32.toInt_inj, Int32.toInt_toInt64, xl_0, xl_1, xl_2, xl_3, xl_4, xl_5, xl_6, xl_7, xl_8, xl_9, xl_10, xl_11, xl_12, xl_13, xl_20, xl_30, xl_59, xl_63, xl_64, xl_99, xl_100, xl_120, xl_999, xl_m1, xl_m2, xl_m3, xl_m4, xl_m5, xL_0, xL_1, xL_2, xL_3, xL_4, xL_5, xL_6, xL_7, xL_8, xL_20, xL_59, xL_63, xL_99, xL_999] at *; omega) | (exfalso; simp_all; done))
set_option maxRecDepth 100000 in
set_option maxHeartbeats 4000000 in
theorem wc_move (a b : Int32) : P0 115 (0, [some (.ref 0), some (.int a), some (.int b), none], [], 102, xshC, xMt) (fun r => r.1 = some (.int (F_move a b))) := by
  refine P0.go (k := 1) (s' := (1, [some (.ref 0), some (.int a), some (.int b), none], [.int a], 102, xshC, xMt)) rfl ?_
  refine P0.call (z := 139) (as := [.int a]) (pc := 4) (pl := [some (.ref 0), some (.int a), some (.int b), none]) (st := []) (nz := 102) (sh := xshC) (M := xMt) rfl (Nat.le_of_ble_eq_true rfl) ?_
  show P0 139 (0, [some (.int a)], [], 102, xshC, xMt) _
  refine P0.go (k := 3) (s' := (3, [some (.int a)], [.int 4, .int 0, .int a], 102, xshC, xMt)) rfl ?_
  refine P0.call (z := 136) (as := [.int a, .int 0, .int 4]) (pc := 6) (pl := [some (.int a)]) (st := []) (nz := 102) (sh := xshC) (M := xMt) rfl (Nat.le_of_ble_eq_true rfl) ?_
  show P0 136 (0, [some (.int a), some (.int 0), some (.int 4)], [], 102, xshC, xMt) _
  refine P0.go (k := 3) (s' := (xcmp .gt (0) (a) 14 5, [some (.int a), some (.int 0), some (.int 4)], [], 102, xshC, xMt)) rfl ?_
  refine P0.gt (fun h1 => ?_) (fun h1 => ?_)
  · refine P0.go (k := 1) (s' := (15, [some (.int a), some (.int 0), some (.int 4)], [.int 0], 102, xshC, xMt)) rfl ?_
    refine P0.ret (v := some (.int 0)) rfl ?_
    refine ⟨rfl, ?_⟩
    show P0 139 (6, [some (.int a)], [.int 0], 102, xshC, xMt) _
    refine P0.ret (v := some (.int 0)) rfl ?_
    refine ⟨rfl, ?_⟩
    show P0 115 (4, [some (.ref 0), some (.int a), some (.int b), none], [.int 0], 102, xshC, xMt) _
    refine P0.go (k := 2) (s' := (17, [some (.ref 0), some (.int a), some (.int b), none], [.int (-1)], 102, xshC, xMt)) rfl ?_
    refine P0.ret (v := some (.int (-1))) rfl ?_
    exact congrArg (fun z => some (Value.int z)) (show (-1) = F_move a b from by unfold F_move; (repeat' split) <;> first | rfl | (exfalso; simp only [Int32.lt_iff_toInt_lt, Int32.le_iff_toInt_le, Int64.lt_iff_toInt_lt, Int64.le_iff_toInt_le, ← Int32.toInt_inj, Int32.toInt_toInt64, xl_0, xl_1, xl_2, xl_3, xl_4, xl_5, xl_6, xl_7, xl_8, xl_9, xl_10, xl_11, xl_12, xl_13, xl_20, xl_30, xl_59, xl_63, xl_64, xl_99, xl_100, xl_120, xl_999, xl_m1, xl_m2, xl_m3, xl_m4, xl_m5, xL_0, xL_1, xL_2, xL_3, xL_4, xL_5, xL_6, xL_7, xL_8, xL_20, xL_59, xL_63, xL_99, xL_999] at *; omega) | (exfalso; simp_all; done))
  · refine P0.go (k := 3) (s' := (xcmp .gt (a) (4) 14 10, [some (.int a), some (.int 0), some (.int 4)], [], 102, xshC, xMt)) rfl ?_
    refine P0.gt (fun h2 => ?_) (fun h2 => ?_)
    · refine P0.go (k := 1) (s' := (15, [some (.int a), some (.int 0), some (.int 4)], [.int 0], 102, xshC, xMt)) rfl ?_
      refine P0.ret (v := some (.int 0)) rfl ?_
      refine ⟨rfl, ?_⟩
      show P0 139 (6, [some (.int a)], [.int 0], 102, xshC, xMt) _
      refine P0.ret (v := some (.int 0)) rfl ?_
      refine ⟨rfl, ?_⟩
      show P0 115 (4, [some (.ref 0), some (.int a), some (.int b), none], [.int 0], 102, xshC, xMt) _
      refine P0.go (k := 2) (s' := (17, [some (.ref 0), some (.int a), some (.int b), none], [.int (-1)], 102, xshC, xMt)) rfl ?_
      refine P0.ret (v := some (.int (-1))) rfl ?_
      exact congrArg (fun z => some (Value.int z)) (show (-1) = F_move a b from by unfold F_move; (repeat' split) <;> first | rfl | (exfalso; simp only [Int32.lt_iff_toInt_lt, Int32.le_iff_toInt_le, Int64.lt_iff_toInt_lt, Int64.le_iff_toInt_le, ← Int32.toInt_inj, Int32.toInt_toInt64, xl_0, xl_1, xl_2, xl_3, xl_4, xl_5, xl_6, xl_7, xl_8, xl_9, xl_10, xl_11, xl_12, xl_13, xl_20, xl_30, xl_59, xl_63, xl_64, xl_99, xl_100, xl_120, xl_999, xl_m1, xl_m2, xl_m3, xl_m4, xl_m5, xL_0, xL_1, xL_2, xL_3, xL_4, xL_5, xL_6, xL_7, xL_8, xL_20, xL_59, xL_63, xL_99, xL_999] at *; omega) | (exfalso; simp_all; done))
    · refine P0.go (k := 2) (s' := (15, [some (.int a), some (.int 0), some (.int 4)], [.int 1], 102, xshC, xMt)) rfl ?_
      refine P0.ret (v := some (.int 1)) rfl ?_
      refine ⟨rfl, ?_⟩
      show P0 139 (6, [some (.int a)], [.int 1], 102, xshC, xMt) _
      refine P0.ret (v := some (.int 1)) rfl ?_
      refine ⟨rfl, ?_⟩
      show P0 115 (4, [some (.ref 0), some (.int a), some (.int b), none], [.int 1], 102, xshC, xMt) _
      refine P0.go (k := 4) (s' := (10, [some (.ref 0), some (.int a), some (.int b), none], [.int b, .int a, .ref 0], 102, xshC, xMt)) rfl ?_
      refine P0.call (z := 146) (as := [.ref 0, .int a, .int b]) (pc := 13) (pl := [some (.ref 0), some (.int a), some (.int b), none]) (st := []) (nz := 102) (sh := xshC) (M := xMt) rfl (Nat.le_of_ble_eq_true rfl) ?_
      show P0 146 (0, [some (.ref 0), some (.int a), some (.int b)], [], 102, xshC, xMt) _
      refine P0.go (k := 1) (s' := (1, [some (.ref 0), some (.int a), some (.int b)], [.int a], 102, xshC, xMt)) rfl ?_
      by_cases h3 : a = 0
      · subst h3
        refine P0.go (k := 4) (s' := (37, [some (.ref 0), some (.int 0), some (.int b)], [.int b, .ref 51], 102, xshC, xMt)) rfl ?_
        refine P0.call (z := 36) (as := [.ref 51, .int b]) (pc := 40) (pl := [some (.ref 0), some (.int 0), some (.int b)]) (st := []) (nz := 102) (sh := xshC) (M := xMt) rfl (Nat.le_of_ble_eq_true rfl) ?_
        show P0 36 (0, [some (.ref 51), some (.int b)], [], 102, xshC, xMt) _
        refine P0.go (k := 6) (s' := (8, [some (.ref 51), some (.int b)], [.int (((0) - (1) : Int32)), .int 0, .int b], 102, xshC, xMt)) rfl ?_
        refine P0.topi (x' := (-1)) (by decide) ?_
        refine P0.call (z := 136) (as := [.int b, .int 0, .int (-1)]) (pc := 11) (pl := [some (.ref 51), some (.int b)]) (st := []) (nz := 102) (sh := xshC) (M := xMt) rfl (Nat.le_of_ble_eq_true rfl) ?_
        show P0 136 (0, [some (.int b), some (.int 0), some (.int (-1))], [], 102, xshC, xMt) _
        refine P0.go (k := 3) (s' := (xcmp .gt (0) (b) 14 5, [some (.int b), some (.int 0), some (.int (-1))], [], 102, xshC, xMt)) rfl ?_
        refine P0.gt (fun h4 => ?_) (fun h4 => ?_)
        · refine P0.go (k := 1) (s' := (15, [some (.int b), some (.int 0), some (.int (-1))], [.int 0], 102, xshC, xMt)) rfl ?_
          refine P0.ret (v := some (.int 0)) rfl ?_
          refine ⟨rfl, ?_⟩
          show P0 36 (11, [some (.ref 51), some (.int b)], [.int 0], 102, xshC, xMt) _
          refine P0.ret (v := some (.int 0)) rfl ?_
          refine ⟨rfl, ?_⟩
          show P0 146 (40, [some (.ref 0), some (.int 0), some (.int b)], [.int 0], 102, xshC, xMt) _
          refine P0.ret (v := some (.int 0)) rfl ?_
          refine ⟨rfl, ?_⟩
          show P0 115 (13, [some (.ref 0), some (.int 0), some (.int b), none], [.int 0], 102, xshC, xMt) _
          refine P0.go (k := 2) (s' := (17, [some (.ref 0), some (.int 0), some (.int b), none], [.int (-1)], 102, xshC, xMt)) rfl ?_
          refine P0.ret (v := some (.int (-1))) rfl ?_
          exact congrArg (fun z => some (Value.int z)) (show (-1) = F_move 0 b from by unfold F_move; (repeat' split) <;> first | rfl | (exfalso; simp only [Int32.lt_iff_toInt_lt, Int32.le_iff_toInt_le, Int64.lt_iff_toInt_lt, Int64.le_iff_toInt_le, ← Int32.toInt_inj, Int32.toInt_toInt64, xl_0, xl_1, xl_2, xl_3, xl_4, xl_5, xl_6, xl_7, xl_8, xl_9, xl_10, xl_11, xl_12, xl_13, xl_20, xl_30, xl_59, xl_63, xl_64, xl_99, xl_100, xl_120, xl_999, xl_m1, xl_m2, xl_m3, xl_m4, xl_m5, xL_0, xL_1, xL_2, xL_3, xL_4, xL_5, xL_6, xL_7, xL_8, xL_20, xL_59, xL_63, xL_99, xL_999] at *; omega) | (exfalso; simp_all; done))
        · refine P0.go (k := 3) (s' := (xcmp .gt (b) ((-1)) 14 10, [some (.int b), some (.int 0), some (.int (-1))], [], 102, xshC, xMt)) rfl ?_
          refine P0.gt (fun h5 => ?_) (fun h5 => absurd True.intro (by exfalso; simp only [Int32.lt_iff_toInt_lt, Int32.le_iff_toInt_le, Int64.lt_iff_toInt_lt, Int64.le_iff_toInt_le, ← Int32.toInt_inj, Int32.toInt_toInt64, xl_0, xl_1, xl_2, xl_3, xl_4, xl_5, xl_6, xl_7, xl_8, xl_9, xl_10, xl_11, xl_12, xl_13, xl_20, xl_30, xl_59, xl_63, xl_64, xl_99, xl_100, xl_120, xl_999, xl_m1, xl_m2, xl_m3, xl_m4, xl_m5, xL_0, xL_1, xL_2, xL_3, xL_4, xL_5, xL_6, xL_7, xL_8, xL_20, xL_59, xL_63, xL_99, xL_999] at *; omega))
          refine P0.go (k := 1) (s' := (15, [some (.int b), some (.int 0), some (.int (-1))], [.int 0], 102, xshC, xMt)) rfl ?_
          refine P0.ret (v := some (.int 0)) rfl ?_
          refine ⟨rfl, ?_⟩
          show P0 36 (11, [some (.ref 51), some (.int b)], [.int 0], 102, xshC, xMt) _
          refine P0.ret (v := some (.int 0)) rfl ?_
          refine ⟨rfl, ?_⟩
          show P0 146 (40, [some (.ref 0), some (.int 0), some (.int b)], [.int 0], 102, xshC, xMt) _
          refine P0.ret (v := some (.int 0)) rfl ?_
          refine ⟨rfl, ?_⟩
          show P0 115 (13, [some (.ref 0), some (.int 0), some (.int b), none], [.int 0], 102, xshC, xMt) _
          refine P0.go (k := 2) (s' := (17, [some (.ref 0), some (.int 0), some (.int b), none], [.int (-1)], 102, xshC, xMt)) rfl ?_
          refine P0.ret (v := some (.int (-1))) rfl ?_
          exact congrArg (fun z => some (Value.int z)) (show (-1) = F_move 0 b from by unfold F_move; (repeat' split) <;> first | rfl | (exfalso; simp only [Int32.lt_iff_toInt_lt, Int32.le_iff_toInt_le, Int64.lt_iff_toInt_lt, Int64.le_iff_toInt_le, ← Int32.toInt_inj, Int32.toInt_toInt64, xl_0, xl_1, xl_2, xl_3, xl_4, xl_5, xl_6, xl_7, xl_8, xl_9, xl_10, xl_11, xl_12, xl_13, xl_20, xl_30, xl_59, xl_63, xl_64, xl_99, xl_100, xl_120, xl_999, xl_m1, xl_m2, xl_m3, xl_m4, xl_m5, xL_0, xL_1, xL_2, xL_3, xL_4, xL_5, xL_6, xL_7, xL_8, xL_20, xL_59, xL_63, xL_99, xL_999] at *; omega) | (exfalso; simp_all; done))
      by_cases h6 : a = 1
      · subst h6
        refine P0.go (k := 3) (s' := (xcmp .lt (b) (0) 63 45, [some (.ref 0), some (.int 1), some (.int b)], [], 102, xshC, xMt)) rfl ?_
        refine P0.lt (fun h7 => ?_) (fun h7 => ?_)
        · refine P0.go (k := 1) (s' := (64, [some (.ref 0), some (.int 1), some (.int b)], [.int 0], 102, xshC, xMt)) rfl ?_
          refine P0.ret (v := some (.int 0)) rfl ?_
          refine ⟨rfl, ?_⟩
          show P0 115 (13, [some (.ref 0), some (.int 1), some (.int b), none], [.int 0], 102, xshC, xMt) _
          refine P0.go (k := 2) (s' := (17, [some (.ref 0), some (.int 1), some (.int b), none], [.int (-1)], 102, xshC, xMt)) rfl ?_
          refine P0.ret (v := some (.int (-1))) rfl ?_
          exact congrArg (fun z => some (Value.int z)) (show (-1) = F_move 1 b from by unfold F_move; (repeat' split) <;> first | rfl | (exfalso; simp only [Int32.lt_iff_toInt_lt, Int32.le_iff_toInt_le, Int64.lt_iff_toInt_lt, Int64.le_iff_toInt_le, ← Int32.toInt_inj, Int32.toInt_toInt64, xl_0, xl_1, xl_2, xl_3, xl_4, xl_5, xl_6, xl_7, xl_8, xl_9, xl_10, xl_11, xl_12, xl_13, xl_20, xl_30, xl_59, xl_63, xl_64, xl_99, xl_100, xl_120, xl_999, xl_m1, xl_m2, xl_m3, xl_m4, xl_m5, xL_0, xL_1, xL_2, xL_3, xL_4, xL_5, xL_6, xL_7, xL_8, xL_20, xL_59, xL_63, xL_99, xL_999] at *; omega) | (exfalso; simp_all; done))
        · refine P0.go (k := 5) (s' := (53, [some (.ref 0), some (.int 1), some (.int b)], [.int (b - b / 30 * 30), .ref 5], 102, xshC, xMt)) rfl ?_
          refine P0.call (z := 67) (as := [.ref 5, .int (b - b / 30 * 30)]) (pc := 56) (pl := [some (.ref 0), some (.int 1), some (.int b)]) (st := []) (nz := 102) (sh := xshC) (M := xMt) rfl (Nat.le_of_ble_eq_true rfl) ?_
          show P0 67 (0, [some (.ref 5), some (.int (b - b / 30 * 30))], [], 102, xshC, xMt) _
          refine P0.go (k := 2) (s' := (2, [some (.ref 5), some (.int (b - b / 30 * 30))], [.int (b - b / 30 * 30), .ref 5], 102, xshC, xMt)) rfl ?_
          refine P0.call (z := 65) (as := [.ref 5, .int (b - b / 30 * 30)]) (pc := 5) (pl := [some (.ref 5), some (.int (b - b / 30 * 30))]) (st := []) (nz := 102) (sh := xshC) (M := xMt) rfl (Nat.le_of_ble_eq_true rfl) ?_
          show P0 65 (0, [some (.ref 5), some (.int (b - b / 30 * 30))], [], 102, xshC, xMt) _
          refine P0.go (k := 6) (s' := (8, [some (.ref 5), some (.int (b - b / 30 * 30))], [.int (((0) - (1) : Int32)), .int 0, .int (b - b / 30 * 30)], 102, xshC, xMt)) rfl ?_
          refine P0.topi (x' := (-1)) (by decide) ?_
          refine P0.call (z := 136) (as := [.int (b - b / 30 * 30), .int 0, .int (-1)]) (pc := 11) (pl := [some (.ref 5), some (.int (b - b / 30 * 30))]) (st := []) (nz := 102) (sh := xshC) (M := xMt) rfl (Nat.le_of_ble_eq_true rfl) ?_
          show P0 136 (0, [some (.int (b - b / 30 * 30)), some (.int 0), some (.int (-1))], [], 102, xshC, xMt) _
          refine P0.go (k := 3) (s' := (xcmp .gt (0) (b - b / 30 * 30) 14 5, [some (.int (b - b / 30 * 30)), some (.int 0), some (.int (-1))], [], 102, xshC, xMt)) rfl ?_
          refine P0.gt (fun h8 => ?_) (fun h8 => ?_)
          · refine P0.go (k := 1) (s' := (15, [some (.int (b - b / 30 * 30)), some (.int 0), some (.int (-1))], [.int 0], 102, xshC, xMt)) rfl ?_
            refine P0.ret (v := some (.int 0)) rfl ?_
            refine ⟨rfl, ?_⟩
            show P0 65 (11, [some (.ref 5), some (.int (b - b / 30 * 30))], [.int 0], 102, xshC, xMt) _
            refine P0.ret (v := some (.int 0)) rfl ?_
            refine ⟨rfl, ?_⟩
            show P0 67 (5, [some (.ref 5), some (.int (b - b / 30 * 30))], [.int 0], 102, xshC, xMt) _
            refine P0.go (k := 2) (s' := (23, [some (.ref 5), some (.int (b - b / 30 * 30))], [.int 0], 102, xshC, xMt)) rfl ?_
            refine P0.ret (v := some (.int 0)) rfl ?_
            refine ⟨rfl, ?_⟩
            show P0 146 (56, [some (.ref 0), some (.int 1), some (.int b)], [.int 0], 102, xshC, xMt) _
            refine P0.go (k := 2) (s' := (64, [some (.ref 0), some (.int 1), some (.int b)], [.int 0], 102, xshC, xMt)) rfl ?_
            refine P0.ret (v := some (.int 0)) rfl ?_
            refine ⟨rfl, ?_⟩
            show P0 115 (13, [some (.ref 0), some (.int 1), some (.int b), none], [.int 0], 102, xshC, xMt) _
            refine P0.go (k := 2) (s' := (17, [some (.ref 0), some (.int 1), some (.int b), none], [.int (-1)], 102, xshC, xMt)) rfl ?_
            refine P0.ret (v := some (.int (-1))) rfl ?_
            exact congrArg (fun z => some (Value.int z)) (show (-1) = F_move 1 b from by unfold F_move; (repeat' split) <;> first | rfl | (exfalso; simp only [Int32.lt_iff_toInt_lt, Int32.le_iff_toInt_le, Int64.lt_iff_toInt_lt, Int64.le_iff_toInt_le, ← Int32.toInt_inj, Int32.toInt_toInt64, xl_0, xl_1, xl_2, xl_3, xl_4, xl_5, xl_6, xl_7, xl_8, xl_9, xl_10, xl_11, xl_12, xl_13, xl_20, xl_30, xl_59, xl_63, xl_64, xl_99, xl_100, xl_120, xl_999, xl_m1, xl_m2, xl_m3, xl_m4, xl_m5, xL_0, xL_1, xL_2, xL_3, xL_4, xL_5, xL_6, xL_7, xL_8, xL_20, xL_59, xL_63, xL_99, xL_999] at *; omega) | (exfalso; simp_all; done))
          · refine P0.go (k := 3) (s' := (xcmp .gt (b - b / 30 * 30) ((-1)) 14 10, [some (.int (b - b / 30 * 30)), some (.int 0), some (.int (-1))], [], 102, xshC, xMt)) rfl ?_
            refine P0.gt (fun h9 => ?_) (fun h9 => absurd True.intro (by exfalso; simp only [Int32.lt_iff_toInt_lt, Int32.le_iff_toInt_le, Int64.lt_iff_toInt_lt, Int64.le_iff_toInt_le, ← Int32.toInt_inj, Int32.toInt_toInt64, xl_0, xl_1, xl_2, xl_3, xl_4, xl_5, xl_6, xl_7, xl_8, xl_9, xl_10, xl_11, xl_12, xl_13, xl_20, xl_30, xl_59, xl_63, xl_64, xl_99, xl_100, xl_120, xl_999, xl_m1, xl_m2, xl_m3, xl_m4, xl_m5, xL_0, xL_1, xL_2, xL_3, xL_4, xL_5, xL_6, xL_7, xL_8, xL_20, xL_59, xL_63, xL_99, xL_999] at *; omega))
            refine P0.go (k := 1) (s' := (15, [some (.int (b - b / 30 * 30)), some (.int 0), some (.int (-1))], [.int 0], 102, xshC, xMt)) rfl ?_
            refine P0.ret (v := some (.int 0)) rfl ?_
            refine ⟨rfl, ?_⟩
            show P0 65 (11, [some (.ref 5), some (.int (b - b / 30 * 30))], [.int 0], 102, xshC, xMt) _
            refine P0.ret (v := some (.int 0)) rfl ?_
            refine ⟨rfl, ?_⟩
            show P0 67 (5, [some (.ref 5), some (.int (b - b / 30 * 30))], [.int 0], 102, xshC, xMt) _
            refine P0.go (k := 2) (s' := (23, [some (.ref 5), some (.int (b - b / 30 * 30))], [.int 0], 102, xshC, xMt)) rfl ?_
            refine P0.ret (v := some (.int 0)) rfl ?_
            refine ⟨rfl, ?_⟩
            show P0 146 (56, [some (.ref 0), some (.int 1), some (.int b)], [.int 0], 102, xshC, xMt) _
            refine P0.go (k := 2) (s' := (64, [some (.ref 0), some (.int 1), some (.int b)], [.int 0], 102, xshC, xMt)) rfl ?_
            refine P0.ret (v := some (.int 0)) rfl ?_
            refine ⟨rfl, ?_⟩
            show P0 115 (13, [some (.ref 0), some (.int 1), some (.int b), none], [.int 0], 102, xshC, xMt) _
            refine P0.go (k := 2) (s' := (17, [some (.ref 0), some (.int 1), some (.int b), none], [.int (-1)], 102, xshC, xMt)) rfl ?_
            refine P0.ret (v := some (.int (-1))) rfl ?_
            exact congrArg (fun z => some (Value.int z)) (show (-1) = F_move 1 b from by unfold F_move; (repeat' split) <;> first | rfl | (exfalso; simp only [Int32.lt_iff_toInt_lt, Int32.le_iff_toInt_le, Int64.lt_iff_toInt_lt, Int64.le_iff_toInt_le, ← Int32.toInt_inj, Int32.toInt_toInt64, xl_0, xl_1, xl_2, xl_3, xl_4, xl_5, xl_6, xl_7, xl_8, xl_9, xl_10, xl_11, xl_12, xl_13, xl_20, xl_30, xl_59, xl_63, xl_64, xl_99, xl_100, xl_120, xl_999, xl_m1, xl_m2, xl_m3, xl_m4, xl_m5, xL_0, xL_1, xL_2, xL_3, xL_4, xL_5, xL_6, xL_7, xL_8, xL_20, xL_59, xL_63, xL_99, xL_999] at *; omega) | (exfalso; simp_all; done))
      by_cases h10 : a = 2
      · subst h10
        refine P0.go (k := 3) (s' := (xcmp .ne (b) (0) 78 74, [some (.ref 0), some (.int 2), some (.int b)], [], 102, xshC, xMt)) rfl ?_
        refine P0.ne (fun h11 => ?_) (fun h11 => ?_)
        · refine P0.go (k := 1) (s' := (79, [some (.ref 0), some (.int 2), some (.int b)], [.int 0], 102, xshC, xMt)) rfl ?_
          refine P0.ret (v := some (.int 0)) rfl ?_
          refine ⟨rfl, ?_⟩
          show P0 115 (13, [some (.ref 0), some (.int 2), some (.int b), none], [.int 0], 102, xshC, xMt) _
          refine P0.go (k := 2) (s' := (17, [some (.ref 0), some (.int 2), some (.int b), none], [.int (-1)], 102, xshC, xMt)) rfl ?_
          refine P0.ret (v := some (.int (-1))) rfl ?_
          exact congrArg (fun z => some (Value.int z)) (show (-1) = F_move 2 b from by unfold F_move; (repeat' split) <;> first | rfl | (exfalso; simp only [Int32.lt_iff_toInt_lt, Int32.le_iff_toInt_le, Int64.lt_iff_toInt_lt, Int64.le_iff_toInt_le, ← Int32.toInt_inj, Int32.toInt_toInt64, xl_0, xl_1, xl_2, xl_3, xl_4, xl_5, xl_6, xl_7, xl_8, xl_9, xl_10, xl_11, xl_12, xl_13, xl_20, xl_30, xl_59, xl_63, xl_64, xl_99, xl_100, xl_120, xl_999, xl_m1, xl_m2, xl_m3, xl_m4, xl_m5, xL_0, xL_1, xL_2, xL_3, xL_4, xL_5, xL_6, xL_7, xL_8, xL_20, xL_59, xL_63, xL_99, xL_999] at *; omega) | (exfalso; simp_all; done))
        · refine P0.go (k := 2) (s' := (79, [some (.ref 0), some (.int 2), some (.int b)], [.int 1], 102, xshC, xMt)) rfl ?_
          refine P0.ret (v := some (.int 1)) rfl ?_
          refine ⟨rfl, ?_⟩
          show P0 115 (13, [some (.ref 0), some (.int 2), some (.int b), none], [.int 1], 102, xshC, xMt) _
          refine P0.go (k := 2) (s' := (19, [some (.ref 0), some (.int 2), some (.int b), none], [.ref 0], 102, xshC, xMt)) rfl ?_
          refine P0.call (z := 147) (as := [.ref 0]) (pc := 22) (pl := [some (.ref 0), some (.int 2), some (.int b), none]) (st := []) (nz := 102) (sh := xshC) (M := xMt) rfl (Nat.le_of_ble_eq_true rfl) ?_
          show P0 147 (0, [some (.ref 0)], [], 102, xshC, xMt) _
          refine P0.go (k := 5) (s' := (11, [some (.ref 0)], [.ref 5, .ref 37], 102, xshC, xMt)) rfl ?_
          refine P0.call (z := 78) (as := [.ref 37, .ref 5]) (pc := 14) (pl := [some (.ref 0)]) (st := []) (nz := 102) (sh := xshC) (M := xMt) rfl (Nat.le_of_ble_eq_true rfl) ?_
          show P0 78 (0, [some (.ref 37), some (.ref 5), none], [], 102, xshC, xMt) _
          refine P0.go (k := 9) (s' := (15, [some (.ref 37), some (.ref 5), none], [.int 0, .ref 41], 102, xshC, (xup (xup xMt 37 5 (0)) 37 6 (0)))) rfl ?_
          refine P0.call (z := 229) (as := [.ref 41, .int 0]) (pc := 18) (pl := [some (.ref 37), some (.ref 5), none]) (st := []) (nz := 102) (sh := xshC) (M := (xup (xup xMt 37 5 (0)) 37 6 (0))) rfl (Nat.le_of_ble_eq_true rfl) ?_
          show P0 229 (0, [some (.ref 41), some (.int 0), none, none], [], 102, xshC, (xup (xup xMt 37 5 (0)) 37 6 (0))) _
          refine P0.go (k := 40) (s' := (17, [some (.ref 41), some (.int 0), some (.int 4), some (.int 8)], [], 102, xshC, (xup (xup (xup (xup (xup (xup xMt 37 5 (0)) 37 6 (0)) 41 0 (0)) 41 1 (0)) 41 2 (0)) 41 3 (0)))) rfl ?_
          refine P0.go (k := 40) (s' := (20, [some (.ref 41), some (.int 0), some (.int 8), some (.int 8)], [], 102, xshC, (xup (xup (xup (xup (xup (xup (xup (xup (xup (xup xMt 37 5 (0)) 37 6 (0)) 41 0 (0)) 41 1 (0)) 41 2 (0)) 41 3 (0)) 41 4 (0)) 41 5 (0)) 41 6 (0)) 41 7 (0)))) rfl ?_
          refine P0.ret (v := none) rfl ?_
          refine ⟨rfl, ?_⟩
          show P0 78 (18, [some (.ref 37), some (.ref 5), none], [], 102, xshC, (xup (xup (xup (xup (xup (xup (xup (xup (xup (xup xMt 37 5 (0)) 37 6 (0)) 41 0 (0)) 41 1 (0)) 41 2 (0)) 41 3 (0)) 41 4 (0)) 41 5 (0)) 41 6 (0)) 41 7 (0))) _
          refine P0.go (k := 6) (s' := (106, [some (.ref 37), some (.ref 5), some (.int 0)], [], 102, xshC, (xup (xup (xup (xup (xup (xup (xup (xup (xup (xup xMt 37 5 (0)) 37 6 (0)) 41 0 (0)) 41 1 (0)) 41 2 (0)) 41 3 (0)) 41 4 (0)) 41 5 (0)) 41 6 (0)) 41 7 (0)))) rfl ?_
          refine P0.ret (v := none) rfl ?_
          refine ⟨rfl, ?_⟩
          show P0 147 (14, [some (.ref 0)], [], 102, xshC, (xup (xup (xup (xup (xup (xup (xup (xup (xup (xup xMt 37 5 (0)) 37 6 (0)) 41 0 (0)) 41 1 (0)) 41 2 (0)) 41 3 (0)) 41 4 (0)) 41 5 (0)) 41 6 (0)) 41 7 (0))) _
          refine P0.go (k := 20) (s' := (52, [some (.ref 0)], [.ref 51, .int 2, .ref 55], 102, xshC, (xup (xup (xup (xup (xup (xup (xup (xup (xup (xup (xup (xup xMt 37 5 (0)) 37 6 (0)) 41 0 (0)) 41 1 (0)) 41 2 (0)) 41 3 (0)) 41 4 (0)) 41 5 (0)) 41 6 (0)) 41 7 (0)) 55 0 (0)) 55 1 (0)))) rfl ?_
          refine P0.call (z := 41) (as := [.ref 51]) (pc := 55) (pl := [some (.ref 0)]) (st := [.int 2, .ref 55]) (nz := 102) (sh := xshC) (M := (xup (xup (xup (xup (xup (xup (xup (xup (xup (xup (xup (xup xMt 37 5 (0)) 37 6 (0)) 41 0 (0)) 41 1 (0)) 41 2 (0)) 41 3 (0)) 41 4 (0)) 41 5 (0)) 41 6 (0)) 41 7 (0)) 55 0 (0)) 55 1 (0))) rfl (Nat.le_of_ble_eq_true rfl) ?_
          show P0 41 (0, [some (.ref 51), none, none], [], 102, xshC, (xup (xup (xup (xup (xup (xup (xup (xup (xup (xup (xup (xup xMt 37 5 (0)) 37 6 (0)) 41 0 (0)) 41 1 (0)) 41 2 (0)) 41 3 (0)) 41 4 (0)) 41 5 (0)) 41 6 (0)) 41 7 (0)) 55 0 (0)) 55 1 (0))) _
          refine P0.go (k := 9) (s' := (28, [some (.ref 51), some (.int 0), some (.int 0)], [.int 0], 102, xshC, (xup (xup (xup (xup (xup (xup (xup (xup (xup (xup (xup (xup xMt 37 5 (0)) 37 6 (0)) 41 0 (0)) 41 1 (0)) 41 2 (0)) 41 3 (0)) 41 4 (0)) 41 5 (0)) 41 6 (0)) 41 7 (0)) 55 0 (0)) 55 1 (0)))) rfl ?_
          refine P0.ret (v := some (.int 0)) rfl ?_
          refine ⟨rfl, ?_⟩
          show P0 147 (55, [some (.ref 0)], [.int 0, .int 2, .ref 55], 102, xshC, (xup (xup (xup (xup (xup (xup (xup (xup (xup (xup (xup (xup xMt 37 5 (0)) 37 6 (0)) 41 0 (0)) 41 1 (0)) 41 2 (0)) 41 3 (0)) 41 4 (0)) 41 5 (0)) 41 6 (0)) 41 7 (0)) 55 0 (0)) 55 1 (0))) _
          refine P0.go (k := 8) (s' := (69, [some (.ref 0)], [], 102, xshC, (xup (xup (xup (xup (xup (xup (xup (xup (xup (xup (xup (xup (xup (xup xMt 37 5 (0)) 37 6 (0)) 41 0 (0)) 41 1 (0)) 41 2 (0)) 41 3 (0)) 41 4 (0)) 41 5 (0)) 41 6 (0)) 41 7 (0)) 55 0 (0)) 55 1 (0)) 55 2 (0)) 55 3 (0)))) rfl ?_
          refine P0.ret (v := none) rfl ?_
          refine ⟨rfl, ?_⟩
          show P0 115 (22, [some (.ref 0), some (.int 2), some (.int b), none], [], 102, xshC, (xup (xup (xup (xup (xup (xup (xup (xup (xup (xup (xup (xup (xup (xup xMt 37 5 (0)) 37 6 (0)) 41 0 (0)) 41 1 (0)) 41 2 (0)) 41 3 (0)) 41 4 (0)) 41 5 (0)) 41 6 (0)) 41 7 (0)) 55 0 (0)) 55 1 (0)) 55 2 (0)) 55 3 (0))) _
          refine P0.go (k := 5) (s' := (31, [some (.ref 0), some (.int 2), some (.int b), none], [.ref 55, .int 2, .ref 17], 102, xshC, (xup (xup (xup (xup (xup (xup (xup (xup (xup (xup (xup (xup (xup (xup xMt 37 5 (0)) 37 6 (0)) 41 0 (0)) 41 1 (0)) 41 2 (0)) 41 3 (0)) 41 4 (0)) 41 5 (0)) 41 6 (0)) 41 7 (0)) 55 0 (0)) 55 1 (0)) 55 2 (0)) 55 3 (0)))) rfl ?_
          refine P0.call (z := 49) (as := [.ref 17, .int 2, .ref 55]) (pc := 34) (pl := [some (.ref 0), some (.int 2), some (.int b), none]) (st := []) (nz := 102) (sh := xshC) (M := (xup (xup (xup (xup (xup (xup (xup (xup (xup (xup (xup (xup (xup (xup xMt 37 5 (0)) 37 6 (0)) 41 0 (0)) 41 1 (0)) 41 2 (0)) 41 3 (0)) 41 4 (0)) 41 5 (0)) 41 6 (0)) 41 7 (0)) 55 0 (0)) 55 1 (0)) 55 2 (0)) 55 3 (0))) rfl (Nat.le_of_ble_eq_true rfl) ?_
          show P0 49 (0, [some (.ref 17), some (.int 2), some (.ref 55), none], [], 102, xshC, (xup (xup (xup (xup (xup (xup (xup (xup (xup (xup (xup (xup (xup (xup xMt 37 5 (0)) 37 6 (0)) 41 0 (0)) 41 1 (0)) 41 2 (0)) 41 3 (0)) 41 4 (0)) 41 5 (0)) 41 6 (0)) 41 7 (0)) 55 0 (0)) 55 1 (0)) 55 2 (0)) 55 3 (0))) _
          refine P0.go (k := 4) (s' := (6, [some (.ref 17), some (.int 2), some (.ref 55), none], [.int (((0) - (1) : Int32))], 102, xshC, (xup (xup (xup (xup (xup (xup (xup (xup (xup (xup (xup (xup (xup (xup xMt 37 5 (0)) 37 6 (0)) 41 0 (0)) 41 1 (0)) 41 2 (0)) 41 3 (0)) 41 4 (0)) 41 5 (0)) 41 6 (0)) 41 7 (0)) 55 0 (0)) 55 1 (0)) 55 2 (0)) 55 3 (0)))) rfl ?_
          refine P0.topi (x' := (-1)) (by decide) ?_
          refine P0.go (k := 4) (s' := (39, [some (.ref 17), some (.int 2), some (.ref 55), some (.int (-1))], [.int (-1)], 102, xshC, (xup (xup (xup (xup (xup (xup (xup (xup (xup (xup (xup (xup (xup (xup xMt 37 5 (0)) 37 6 (0)) 41 0 (0)) 41 1 (0)) 41 2 (0)) 41 3 (0)) 41 4 (0)) 41 5 (0)) 41 6 (0)) 41 7 (0)) 55 0 (0)) 55 1 (0)) 55 2 (0)) 55 3 (0)))) rfl ?_
          refine P0.ret (v := some (.int (-1))) rfl ?_
          refine ⟨rfl, ?_⟩
          show P0 115 (34, [some (.ref 0), some (.int 2), some (.int b), none], [.int (-1)], 102, xshC, (xup (xup (xup (xup (xup (xup (xup (xup (xup (xup (xup (xup (xup (xup xMt 37 5 (0)) 37 6 (0)) 41 0 (0)) 41 1 (0)) 41 2 (0)) 41 3 (0)) 41 4 (0)) 41 5 (0)) 41 6 (0)) 41 7 (0)) 55 0 (0)) 55 1 (0)) 55 2 (0)) 55 3 (0))) _
          refine P0.go (k := 9) (s' := (51, [some (.ref 0), some (.int 2), some (.int b), some (.int (-1))], [.int (-1), .ref 17, .ref 26], 102, xshC, (xup (xup (xup (xup (xup (xup (xup (xup (xup (xup (xup (xup (xup (xup xMt 37 5 (0)) 37 6 (0)) 41 0 (0)) 41 1 (0)) 41 2 (0)) 41 3 (0)) 41 4 (0)) 41 5 (0)) 41 6 (0)) 41 7 (0)) 55 0 (0)) 55 1 (0)) 55 2 (0)) 55 3 (0)))) rfl ?_
          refine P0.call (z := 52) (as := [.ref 17, .int (-1)]) (pc := 54) (pl := [some (.ref 0), some (.int 2), some (.int b), some (.int (-1))]) (st := [.ref 26]) (nz := 102) (sh := xshC) (M := (xup (xup (xup (xup (xup (xup (xup (xup (xup (xup (xup (xup (xup (xup xMt 37 5 (0)) 37 6 (0)) 41 0 (0)) 41 1 (0)) 41 2 (0)) 41 3 (0)) 41 4 (0)) 41 5 (0)) 41 6 (0)) 41 7 (0)) 55 0 (0)) 55 1 (0)) 55 2 (0)) 55 3 (0))) rfl (Nat.le_of_ble_eq_true rfl) ?_
          show P0 52 (0, [some (.ref 17), some (.int (-1))], [], 102, xshC, (xup (xup (xup (xup (xup (xup (xup (xup (xup (xup (xup (xup (xup (xup xMt 37 5 (0)) 37 6 (0)) 41 0 (0)) 41 1 (0)) 41 2 (0)) 41 3 (0)) 41 4 (0)) 41 5 (0)) 41 6 (0)) 41 7 (0)) 55 0 (0)) 55 1 (0)) 55 2 (0)) 55 3 (0))) _
          refine P0.go (k := 5) (s' := (15, [some (.ref 17), some (.int (-1))], [.int 0], 102, xshC, (xup (xup (xup (xup (xup (xup (xup (xup (xup (xup (xup (xup (xup (xup xMt 37 5 (0)) 37 6 (0)) 41 0 (0)) 41 1 (0)) 41 2 (0)) 41 3 (0)) 41 4 (0)) 41 5 (0)) 41 6 (0)) 41 7 (0)) 55 0 (0)) 55 1 (0)) 55 2 (0)) 55 3 (0)))) rfl ?_
          refine P0.ret (v := some (.int 0)) rfl ?_
          refine ⟨rfl, ?_⟩
          show P0 115 (54, [some (.ref 0), some (.int 2), some (.int b), some (.int (-1))], [.int 0, .ref 26], 102, xshC, (xup (xup (xup (xup (xup (xup (xup (xup (xup (xup (xup (xup (xup (xup xMt 37 5 (0)) 37 6 (0)) 41 0 (0)) 41 1 (0)) 41 2 (0)) 41 3 (0)) 41 4 (0)) 41 5 (0)) 41 6 (0)) 41 7 (0)) 55 0 (0)) 55 1 (0)) 55 2 (0)) 55 3 (0))) _
          refine P0.call (z := 27) (as := [.ref 26, .int 0]) (pc := 57) (pl := [some (.ref 0), some (.int 2), some (.int b), some (.int (-1))]) (st := []) (nz := 102) (sh := xshC) (M := (xup (xup (xup (xup (xup (xup (xup (xup (xup (xup (xup (xup (xup (xup xMt 37 5 (0)) 37 6 (0)) 41 0 (0)) 41 1 (0)) 41 2 (0)) 41 3 (0)) 41 4 (0)) 41 5 (0)) 41 6 (0)) 41 7 (0)) 55 0 (0)) 55 1 (0)) 55 2 (0)) 55 3 (0))) rfl (Nat.le_of_ble_eq_true rfl) ?_
          show P0 27 (0, [some (.ref 26), some (.int 0)], [], 102, xshC, (xup (xup (xup (xup (xup (xup (xup (xup (xup (xup (xup (xup (xup (xup xMt 37 5 (0)) 37 6 (0)) 41 0 (0)) 41 1 (0)) 41 2 (0)) 41 3 (0)) 41 4 (0)) 41 5 (0)) 41 6 (0)) 41 7 (0)) 55 0 (0)) 55 1 (0)) 55 2 (0)) 55 3 (0))) _
          refine P0.go (k := 5) (s' := (27, [some (.ref 26), some (.int 0)], [.int 1], 102, xshC, (xup (xup (xup (xup (xup (xup (xup (xup (xup (xup (xup (xup (xup (xup xMt 37 5 (0)) 37 6 (0)) 41 0 (0)) 41 1 (0)) 41 2 (0)) 41 3 (0)) 41 4 (0)) 41 5 (0)) 41 6 (0)) 41 7 (0)) 55 0 (0)) 55 1 (0)) 55 2 (0)) 55 3 (0)))) rfl ?_
          refine P0.ret (v := some (.int 1)) rfl ?_
          refine ⟨rfl, ?_⟩
          show P0 115 (57, [some (.ref 0), some (.int 2), some (.int b), some (.int (-1))], [.int 1], 102, xshC, (xup (xup (xup (xup (xup (xup (xup (xup (xup (xup (xup (xup (xup (xup xMt 37 5 (0)) 37 6 (0)) 41 0 (0)) 41 1 (0)) 41 2 (0)) 41 3 (0)) 41 4 (0)) 41 5 (0)) 41 6 (0)) 41 7 (0)) 55 0 (0)) 55 1 (0)) 55 2 (0)) 55 3 (0))) _
          refine P0.go (k := 3) (s' := (67, [some (.ref 0), some (.int 2), some (.int b), some (.int (-1))], [.ref 26], 102, xshC, (xup (xup (xup (xup (xup (xup (xup (xup (xup (xup (xup (xup (xup (xup xMt 37 5 (0)) 37 6 (0)) 41 0 (0)) 41 1 (0)) 41 2 (0)) 41 3 (0)) 41 4 (0)) 41 5 (0)) 41 6 (0)) 41 7 (0)) 55 0 (0)) 55 1 (0)) 55 2 (0)) 55 3 (0)))) rfl ?_
          refine P0.call (z := 26) (as := [.ref 26]) (pc := 70) (pl := [some (.ref 0), some (.int 2), some (.int b), some (.int (-1))]) (st := []) (nz := 102) (sh := xshC) (M := (xup (xup (xup (xup (xup (xup (xup (xup (xup (xup (xup (xup (xup (xup xMt 37 5 (0)) 37 6 (0)) 41 0 (0)) 41 1 (0)) 41 2 (0)) 41 3 (0)) 41 4 (0)) 41 5 (0)) 41 6 (0)) 41 7 (0)) 55 0 (0)) 55 1 (0)) 55 2 (0)) 55 3 (0))) rfl (Nat.le_of_ble_eq_true rfl) ?_
          show P0 26 (0, [some (.ref 26)], [], 102, xshC, (xup (xup (xup (xup (xup (xup (xup (xup (xup (xup (xup (xup (xup (xup xMt 37 5 (0)) 37 6 (0)) 41 0 (0)) 41 1 (0)) 41 2 (0)) 41 3 (0)) 41 4 (0)) 41 5 (0)) 41 6 (0)) 41 7 (0)) 55 0 (0)) 55 1 (0)) 55 2 (0)) 55 3 (0))) _
          refine P0.go (k := 5) (s' := (14, [some (.ref 26)], [.int 0], 102, xshC, (xup (xup (xup (xup (xup (xup (xup (xup (xup (xup (xup (xup (xup (xup xMt 37 5 (0)) 37 6 (0)) 41 0 (0)) 41 1 (0)) 41 2 (0)) 41 3 (0)) 41 4 (0)) 41 5 (0)) 41 6 (0)) 41 7 (0)) 55 0 (0)) 55 1 (0)) 55 2 (0)) 55 3 (0)))) rfl ?_
          refine P0.ret (v := some (.int 0)) rfl ?_
          refine ⟨rfl, ?_⟩
          show P0 115 (70, [some (.ref 0), some (.int 2), some (.int b), some (.int (-1))], [.int 0], 102, xshC, (xup (xup (xup (xup (xup (xup (xup (xup (xup (xup (xup (xup (xup (xup xMt 37 5 (0)) 37 6 (0)) 41 0 (0)) 41 1 (0)) 41 2 (0)) 41 3 (0)) 41 4 (0)) 41 5 (0)) 41 6 (0)) 41 7 (0)) 55 0 (0)) 55 1 (0)) 55 2 (0)) 55 3 (0))) _
          refine P0.go (k := 8) (s' := (87, [some (.ref 0), some (.int 2), some (.int b), some (.int (-1))], [.int (-1), .ref 17, .int b, .int 2, .ref 26], 102, xshC, (xup (xup (xup (xup (xup (xup (xup (xup (xup (xup (xup (xup (xup (xup xMt 37 5 (0)) 37 6 (0)) 41 0 (0)) 41 1 (0)) 41 2 (0)) 41 3 (0)) 41 4 (0)) 41 5 (0)) 41 6 (0)) 41 7 (0)) 55 0 (0)) 55 1 (0)) 55 2 (0)) 55 3 (0)))) rfl ?_
          refine P0.call (z := 52) (as := [.ref 17, .int (-1)]) (pc := 90) (pl := [some (.ref 0), some (.int 2), some (.int b), some (.int (-1))]) (st := [.int b, .int 2, .ref 26]) (nz := 102) (sh := xshC) (M := (xup (xup (xup (xup (xup (xup (xup (xup (xup (xup (xup (xup (xup (xup xMt 37 5 (0)) 37 6 (0)) 41 0 (0)) 41 1 (0)) 41 2 (0)) 41 3 (0)) 41 4 (0)) 41 5 (0)) 41 6 (0)) 41 7 (0)) 55 0 (0)) 55 1 (0)) 55 2 (0)) 55 3 (0))) rfl (Nat.le_of_ble_eq_true rfl) ?_
          show P0 52 (0, [some (.ref 17), some (.int (-1))], [], 102, xshC, (xup (xup (xup (xup (xup (xup (xup (xup (xup (xup (xup (xup (xup (xup xMt 37 5 (0)) 37 6 (0)) 41 0 (0)) 41 1 (0)) 41 2 (0)) 41 3 (0)) 41 4 (0)) 41 5 (0)) 41 6 (0)) 41 7 (0)) 55 0 (0)) 55 1 (0)) 55 2 (0)) 55 3 (0))) _
          refine P0.go (k := 5) (s' := (15, [some (.ref 17), some (.int (-1))], [.int 0], 102, xshC, (xup (xup (xup (xup (xup (xup (xup (xup (xup (xup (xup (xup (xup (xup xMt 37 5 (0)) 37 6 (0)) 41 0 (0)) 41 1 (0)) 41 2 (0)) 41 3 (0)) 41 4 (0)) 41 5 (0)) 41 6 (0)) 41 7 (0)) 55 0 (0)) 55 1 (0)) 55 2 (0)) 55 3 (0)))) rfl ?_
          refine P0.ret (v := some (.int 0)) rfl ?_
          refine ⟨rfl, ?_⟩
          show P0 115 (90, [some (.ref 0), some (.int 2), some (.int b), some (.int (-1))], [.int 0, .int b, .int 2, .ref 26], 102, xshC, (xup (xup (xup (xup (xup (xup (xup (xup (xup (xup (xup (xup (xup (xup xMt 37 5 (0)) 37 6 (0)) 41 0 (0)) 41 1 (0)) 41 2 (0)) 41 3 (0)) 41 4 (0)) 41 5 (0)) 41 6 (0)) 41 7 (0)) 55 0 (0)) 55 1 (0)) 55 2 (0)) 55 3 (0))) _
          refine P0.go (k := 3) (s' := (95, [some (.ref 0), some (.int 2), some (.int b), some (.int (-1))], [.int (-1), .ref 17, .int 0, .int b, .int 2, .ref 26], 102, xshC, (xup (xup (xup (xup (xup (xup (xup (xup (xup (xup (xup (xup (xup (xup xMt 37 5 (0)) 37 6 (0)) 41 0 (0)) 41 1 (0)) 41 2 (0)) 41 3 (0)) 41 4 (0)) 41 5 (0)) 41 6 (0)) 41 7 (0)) 55 0 (0)) 55 1 (0)) 55 2 (0)) 55 3 (0)))) rfl ?_
          refine P0.call (z := 53) (as := [.ref 17, .int (-1)]) (pc := 98) (pl := [some (.ref 0), some (.int 2), some (.int b), some (.int (-1))]) (st := [.int 0, .int b, .int 2, .ref 26]) (nz := 102) (sh := xshC) (M := (xup (xup (xup (xup (xup (xup (xup (xup (xup (xup (xup (xup (xup (xup xMt 37 5 (0)) 37 6 (0)) 41 0 (0)) 41 1 (0)) 41 2 (0)) 41 3 (0)) 41 4 (0)) 41 5 (0)) 41 6 (0)) 41 7 (0)) 55 0 (0)) 55 1 (0)) 55 2 (0)) 55 3 (0))) rfl (Nat.le_of_ble_eq_true rfl) ?_
          show P0 53 (0, [some (.ref 17), some (.int (-1))], [], 102, xshC, (xup (xup (xup (xup (xup (xup (xup (xup (xup (xup (xup (xup (xup (xup xMt 37 5 (0)) 37 6 (0)) 41 0 (0)) 41 1 (0)) 41 2 (0)) 41 3 (0)) 41 4 (0)) 41 5 (0)) 41 6 (0)) 41 7 (0)) 55 0 (0)) 55 1 (0)) 55 2 (0)) 55 3 (0))) _
          refine P0.go (k := 5) (s' := (15, [some (.ref 17), some (.int (-1))], [.int 1], 102, xshC, (xup (xup (xup (xup (xup (xup (xup (xup (xup (xup (xup (xup (xup (xup xMt 37 5 (0)) 37 6 (0)) 41 0 (0)) 41 1 (0)) 41 2 (0)) 41 3 (0)) 41 4 (0)) 41 5 (0)) 41 6 (0)) 41 7 (0)) 55 0 (0)) 55 1 (0)) 55 2 (0)) 55 3 (0)))) rfl ?_
          refine P0.ret (v := some (.int 1)) rfl ?_
          refine ⟨rfl, ?_⟩
          show P0 115 (98, [some (.ref 0), some (.int 2), some (.int b), some (.int (-1))], [.int 1, .int 0, .int b, .int 2, .ref 26], 102, xshC, (xup (xup (xup (xup (xup (xup (xup (xup (xup (xup (xup (xup (xup (xup xMt 37 5 (0)) 37 6 (0)) 41 0 (0)) 41 1 (0)) 41 2 (0)) 41 3 (0)) 41 4 (0)) 41 5 (0)) 41 6 (0)) 41 7 (0)) 55 0 (0)) 55 1 (0)) 55 2 (0)) 55 3 (0))) _
          refine P0.go (k := 3) (s' := (103, [some (.ref 0), some (.int 2), some (.int b), some (.int (-1))], [.int (-1), .ref 17, .int 1, .int 0, .int b, .int 2, .ref 26], 102, xshC, (xup (xup (xup (xup (xup (xup (xup (xup (xup (xup (xup (xup (xup (xup xMt 37 5 (0)) 37 6 (0)) 41 0 (0)) 41 1 (0)) 41 2 (0)) 41 3 (0)) 41 4 (0)) 41 5 (0)) 41 6 (0)) 41 7 (0)) 55 0 (0)) 55 1 (0)) 55 2 (0)) 55 3 (0)))) rfl ?_
          refine P0.call (z := 54) (as := [.ref 17, .int (-1)]) (pc := 106) (pl := [some (.ref 0), some (.int 2), some (.int b), some (.int (-1))]) (st := [.int 1, .int 0, .int b, .int 2, .ref 26]) (nz := 102) (sh := xshC) (M := (xup (xup (xup (xup (xup (xup (xup (xup (xup (xup (xup (xup (xup (xup xMt 37 5 (0)) 37 6 (0)) 41 0 (0)) 41 1 (0)) 41 2 (0)) 41 3 (0)) 41 4 (0)) 41 5 (0)) 41 6 (0)) 41 7 (0)) 55 0 (0)) 55 1 (0)) 55 2 (0)) 55 3 (0))) rfl (Nat.le_of_ble_eq_true rfl) ?_
          show P0 54 (0, [some (.ref 17), some (.int (-1))], [], 102, xshC, (xup (xup (xup (xup (xup (xup (xup (xup (xup (xup (xup (xup (xup (xup xMt 37 5 (0)) 37 6 (0)) 41 0 (0)) 41 1 (0)) 41 2 (0)) 41 3 (0)) 41 4 (0)) 41 5 (0)) 41 6 (0)) 41 7 (0)) 55 0 (0)) 55 1 (0)) 55 2 (0)) 55 3 (0))) _
          refine P0.go (k := 5) (s' := (15, [some (.ref 17), some (.int (-1))], [.int 2], 102, xshC, (xup (xup (xup (xup (xup (xup (xup (xup (xup (xup (xup (xup (xup (xup xMt 37 5 (0)) 37 6 (0)) 41 0 (0)) 41 1 (0)) 41 2 (0)) 41 3 (0)) 41 4 (0)) 41 5 (0)) 41 6 (0)) 41 7 (0)) 55 0 (0)) 55 1 (0)) 55 2 (0)) 55 3 (0)))) rfl ?_
          refine P0.ret (v := some (.int 2)) rfl ?_
          refine ⟨rfl, ?_⟩
          show P0 115 (106, [some (.ref 0), some (.int 2), some (.int b), some (.int (-1))], [.int 2, .int 1, .int 0, .int b, .int 2, .ref 26], 102, xshC, (xup (xup (xup (xup (xup (xup (xup (xup (xup (xup (xup (xup (xup (xup xMt 37 5 (0)) 37 6 (0)) 41 0 (0)) 41 1 (0)) 41 2 (0)) 41 3 (0)) 41 4 (0)) 41 5 (0)) 41 6 (0)) 41 7 (0)) 55 0 (0)) 55 1 (0)) 55 2 (0)) 55 3 (0))) _
          refine P0.call (z := 28) (as := [.ref 26, .int 2, .int b, .int 0, .int 1, .int 2]) (pc := 109) (pl := [some (.ref 0), some (.int 2), some (.int b), some (.int (-1))]) (st := []) (nz := 102) (sh := xshC) (M := (xup (xup (xup (xup (xup (xup (xup (xup (xup (xup (xup (xup (xup (xup xMt 37 5 (0)) 37 6 (0)) 41 0 (0)) 41 1 (0)) 41 2 (0)) 41 3 (0)) 41 4 (0)) 41 5 (0)) 41 6 (0)) 41 7 (0)) 55 0 (0)) 55 1 (0)) 55 2 (0)) 55 3 (0))) rfl (Nat.le_of_ble_eq_true rfl) ?_
          show P0 28 (0, [some (.ref 26), some (.int 2), some (.int b), some (.int 0), some (.int 1), some (.int 2)], [], 102, xshC, (xup (xup (xup (xup (xup (xup (xup (xup (xup (xup (xup (xup (xup (xup xMt 37 5 (0)) 37 6 (0)) 41 0 (0)) 41 1 (0)) 41 2 (0)) 41 3 (0)) 41 4 (0)) 41 5 (0)) 41 6 (0)) 41 7 (0)) 55 0 (0)) 55 1 (0)) 55 2 (0)) 55 3 (0))) _
          refine P0.go (k := 37) (s' := (63, [some (.ref 26), some (.int 2), some (.int b), some (.int 0), some (.int 1), some (.int 2)], [.int 1], 102, xshC, (xup (xup (xup (xup (xup (xup (xup (xup (xup (xup (xup (xup (xup (xup (xup (xup (xup (xup (xup (xup xMt 37 5 (0)) 37 6 (0)) 41 0 (0)) 41 1 (0)) 41 2 (0)) 41 3 (0)) 41 4 (0)) 41 5 (0)) 41 6 (0)) 41 7 (0)) 55 0 (0)) 55 1 (0)) 55 2 (0)) 55 3 (0)) 27 0 (2)) 28 0 (b)) 29 0 (0)) 30 0 (1)) 31 0 (2)) 26 5 (1)))) rfl ?_
          refine P0.ret (v := some (.int 1)) rfl ?_
          refine ⟨rfl, ?_⟩
          show P0 115 (109, [some (.ref 0), some (.int 2), some (.int b), some (.int (-1))], [.int 1], 102, xshC, (xup (xup (xup (xup (xup (xup (xup (xup (xup (xup (xup (xup (xup (xup (xup (xup (xup (xup (xup (xup xMt 37 5 (0)) 37 6 (0)) 41 0 (0)) 41 1 (0)) 41 2 (0)) 41 3 (0)) 41 4 (0)) 41 5 (0)) 41 6 (0)) 41 7 (0)) 55 0 (0)) 55 1 (0)) 55 2 (0)) 55 3 (0)) 27 0 (2)) 28 0 (b)) 29 0 (0)) 30 0 (1)) 31 0 (2)) 26 5 (1))) _
          refine P0.ret (v := some (.int 1)) rfl ?_
          exact congrArg (fun z => some (Value.int z)) (show 1 = F_move 2 b from by unfold F_move; (repeat' split) <;> first | rfl | (exfalso; simp only [Int32.lt_iff_toInt_lt, Int32.le_iff_toInt_le, Int64.lt_iff_toInt_lt, Int64.le_iff_toInt_le, ← Int32.toInt_inj, Int32.toInt_toInt64, xl_0, xl_1, xl_2, xl_3, xl_4, xl_5, xl_6, xl_7, xl_8, xl_9, xl_10, xl_11, xl_12, xl_13, xl_20, xl_30, xl_59, xl_63, xl_64, xl_99, xl_100, xl_120, xl_999, xl_m1, xl_m2, xl_m3, xl_m4, xl_m5, xL_0, xL_1, xL_2, xL_3, xL_4, xL_5, xL_6, xL_7, xL_8, xL_20, xL_59, xL_63, xL_99, xL_999] at *; omega) | (exfalso; simp_all; done))
      by_cases h12 : a = 3
      · subst h12
        refine P0.go (k := 2) (s' := (66, [some (.ref 0), some (.int 3), some (.int b)], [.int b], 102, xshC, xMt)) rfl ?_
        refine P0.call (z := 138) (as := [.int b]) (pc := 69) (pl := [some (.ref 0), some (.int 3), some (.int b)]) (st := []) (nz := 102) (sh := xshC) (M := xMt) rfl (Nat.le_of_ble_eq_true rfl) ?_
        show P0 138 (0, [some (.int b)], [], 102, xshC, xMt) _
        refine P0.go (k := 3) (s' := (4, [some (.int b)], [.int 7, .int 0, .int b], 102, xshC, xMt)) rfl ?_
        refine P0.call (z := 136) (as := [.int b, .int 0, .int 7]) (pc := 7) (pl := [some (.int b)]) (st := []) (nz := 102) (sh := xshC) (M := xMt) rfl (Nat.le_of_ble_eq_true rfl) ?_
        show P0 136 (0, [some (.int b), some (.int 0), some (.int 7)], [], 102, xshC, xMt) _
        refine P0.go (k := 3) (s' := (xcmp .gt (0) (b) 14 5, [some (.int b), some (.int 0), some (.int 7)], [], 102, xshC, xMt)) rfl ?_
        refine P0.gt (fun h13 => ?_) (fun h13 => ?_)
        · refine P0.go (k := 1) (s' := (15, [some (.int b), some (.int 0), some (.int 7)], [.int 0], 102, xshC, xMt)) rfl ?_
          refine P0.ret (v := some (.int 0)) rfl ?_
          refine ⟨rfl, ?_⟩
          show P0 138 (7, [some (.int b)], [.int 0], 102, xshC, xMt) _
          refine P0.ret (v := some (.int 0)) rfl ?_
          refine ⟨rfl, ?_⟩
          show P0 146 (69, [some (.ref 0), some (.int 3), some (.int b)], [.int 0], 102, xshC, xMt) _
          refine P0.ret (v := some (.int 0)) rfl ?_
          refine ⟨rfl, ?_⟩
          show P0 115 (13, [some (.ref 0), some (.int 3), some (.int b), none], [.int 0], 102, xshC, xMt) _
          refine P0.go (k := 2) (s' := (17, [some (.ref 0), some (.int 3), some (.int b), none], [.int (-1)], 102, xshC, xMt)) rfl ?_
          refine P0.ret (v := some (.int (-1))) rfl ?_
          exact congrArg (fun z => some (Value.int z)) (show (-1) = F_move 3 b from by unfold F_move; (repeat' split) <;> first | rfl | (exfalso; simp only [Int32.lt_iff_toInt_lt, Int32.le_iff_toInt_le, Int64.lt_iff_toInt_lt, Int64.le_iff_toInt_le, ← Int32.toInt_inj, Int32.toInt_toInt64, xl_0, xl_1, xl_2, xl_3, xl_4, xl_5, xl_6, xl_7, xl_8, xl_9, xl_10, xl_11, xl_12, xl_13, xl_20, xl_30, xl_59, xl_63, xl_64, xl_99, xl_100, xl_120, xl_999, xl_m1, xl_m2, xl_m3, xl_m4, xl_m5, xL_0, xL_1, xL_2, xL_3, xL_4, xL_5, xL_6, xL_7, xL_8, xL_20, xL_59, xL_63, xL_99, xL_999] at *; omega) | (exfalso; simp_all; done))
        · refine P0.go (k := 3) (s' := (xcmp .gt (b) (7) 14 10, [some (.int b), some (.int 0), some (.int 7)], [], 102, xshC, xMt)) rfl ?_
          refine P0.gt (fun h14 => ?_) (fun h14 => ?_)
          · refine P0.go (k := 1) (s' := (15, [some (.int b), some (.int 0), some (.int 7)], [.int 0], 102, xshC, xMt)) rfl ?_
            refine P0.ret (v := some (.int 0)) rfl ?_
            refine ⟨rfl, ?_⟩
            show P0 138 (7, [some (.int b)], [.int 0], 102, xshC, xMt) _
            refine P0.ret (v := some (.int 0)) rfl ?_
            refine ⟨rfl, ?_⟩
            show P0 146 (69, [some (.ref 0), some (.int 3), some (.int b)], [.int 0], 102, xshC, xMt) _
            refine P0.ret (v := some (.int 0)) rfl ?_
            refine ⟨rfl, ?_⟩
            show P0 115 (13, [some (.ref 0), some (.int 3), some (.int b), none], [.int 0], 102, xshC, xMt) _
            refine P0.go (k := 2) (s' := (17, [some (.ref 0), some (.int 3), some (.int b), none], [.int (-1)], 102, xshC, xMt)) rfl ?_
            refine P0.ret (v := some (.int (-1))) rfl ?_
            exact congrArg (fun z => some (Value.int z)) (show (-1) = F_move 3 b from by unfold F_move; (repeat' split) <;> first | rfl | (exfalso; simp only [Int32.lt_iff_toInt_lt, Int32.le_iff_toInt_le, Int64.lt_iff_toInt_lt, Int64.le_iff_toInt_le, ← Int32.toInt_inj, Int32.toInt_toInt64, xl_0, xl_1, xl_2, xl_3, xl_4, xl_5, xl_6, xl_7, xl_8, xl_9, xl_10, xl_11, xl_12, xl_13, xl_20, xl_30, xl_59, xl_63, xl_64, xl_99, xl_100, xl_120, xl_999, xl_m1, xl_m2, xl_m3, xl_m4, xl_m5, xL_0, xL_1, xL_2, xL_3, xL_4, xL_5, xL_6, xL_7, xL_8, xL_20, xL_59, xL_63, xL_99, xL_999] at *; omega) | (exfalso; simp_all; done))
          · refine P0.go (k := 2) (s' := (15, [some (.int b), some (.int 0), some (.int 7)], [.int 1], 102, xshC, xMt)) rfl ?_
            refine P0.ret (v := some (.int 1)) rfl ?_
            refine ⟨rfl, ?_⟩
            show P0 138 (7, [some (.int b)], [.int 1], 102, xshC, xMt) _
            refine P0.ret (v := some (.int 1)) rfl ?_
            refine ⟨rfl, ?_⟩
            show P0 146 (69, [some (.ref 0), some (.int 3), some (.int b)], [.int 1], 102, xshC, xMt) _
            refine P0.ret (v := some (.int 1)) rfl ?_
            refine ⟨rfl, ?_⟩
            show P0 115 (13, [some (.ref 0), some (.int 3), some (.int b), none], [.int 1], 102, xshC, xMt) _
            refine P0.go (k := 2) (s' := (19, [some (.ref 0), some (.int 3), some (.int b), none], [.ref 0], 102, xshC, xMt)) rfl ?_
            refine P0.call (z := 147) (as := [.ref 0]) (pc := 22) (pl := [some (.ref 0), some (.int 3), some (.int b), none]) (st := []) (nz := 102) (sh := xshC) (M := xMt) rfl (Nat.le_of_ble_eq_true rfl) ?_
            show P0 147 (0, [some (.ref 0)], [], 102, xshC, xMt) _
            refine P0.go (k := 5) (s' := (11, [some (.ref 0)], [.ref 5, .ref 37], 102, xshC, xMt)) rfl ?_
            refine P0.call (z := 78) (as := [.ref 37, .ref 5]) (pc := 14) (pl := [some (.ref 0)]) (st := []) (nz := 102) (sh := xshC) (M := xMt) rfl (Nat.le_of_ble_eq_true rfl) ?_
            show P0 78 (0, [some (.ref 37), some (.ref 5), none], [], 102, xshC, xMt) _
            refine P0.go (k := 9) (s' := (15, [some (.ref 37), some (.ref 5), none], [.int 0, .ref 41], 102, xshC, (xup (xup xMt 37 5 (0)) 37 6 (0)))) rfl ?_
            refine P0.call (z := 229) (as := [.ref 41, .int 0]) (pc := 18) (pl := [some (.ref 37), some (.ref 5), none]) (st := []) (nz := 102) (sh := xshC) (M := (xup (xup xMt 37 5 (0)) 37 6 (0))) rfl (Nat.le_of_ble_eq_true rfl) ?_
            show P0 229 (0, [some (.ref 41), some (.int 0), none, none], [], 102, xshC, (xup (xup xMt 37 5 (0)) 37 6 (0))) _
            refine P0.go (k := 40) (s' := (17, [some (.ref 41), some (.int 0), some (.int 4), some (.int 8)], [], 102, xshC, (xup (xup (xup (xup (xup (xup xMt 37 5 (0)) 37 6 (0)) 41 0 (0)) 41 1 (0)) 41 2 (0)) 41 3 (0)))) rfl ?_
            refine P0.go (k := 40) (s' := (20, [some (.ref 41), some (.int 0), some (.int 8), some (.int 8)], [], 102, xshC, (xup (xup (xup (xup (xup (xup (xup (xup (xup (xup xMt 37 5 (0)) 37 6 (0)) 41 0 (0)) 41 1 (0)) 41 2 (0)) 41 3 (0)) 41 4 (0)) 41 5 (0)) 41 6 (0)) 41 7 (0)))) rfl ?_
            refine P0.ret (v := none) rfl ?_
            refine ⟨rfl, ?_⟩
            show P0 78 (18, [some (.ref 37), some (.ref 5), none], [], 102, xshC, (xup (xup (xup (xup (xup (xup (xup (xup (xup (xup xMt 37 5 (0)) 37 6 (0)) 41 0 (0)) 41 1 (0)) 41 2 (0)) 41 3 (0)) 41 4 (0)) 41 5 (0)) 41 6 (0)) 41 7 (0))) _
            refine P0.go (k := 6) (s' := (106, [some (.ref 37), some (.ref 5), some (.int 0)], [], 102, xshC, (xup (xup (xup (xup (xup (xup (xup (xup (xup (xup xMt 37 5 (0)) 37 6 (0)) 41 0 (0)) 41 1 (0)) 41 2 (0)) 41 3 (0)) 41 4 (0)) 41 5 (0)) 41 6 (0)) 41 7 (0)))) rfl ?_
            refine P0.ret (v := none) rfl ?_
            refine ⟨rfl, ?_⟩
            show P0 147 (14, [some (.ref 0)], [], 102, xshC, (xup (xup (xup (xup (xup (xup (xup (xup (xup (xup xMt 37 5 (0)) 37 6 (0)) 41 0 (0)) 41 1 (0)) 41 2 (0)) 41 3 (0)) 41 4 (0)) 41 5 (0)) 41 6 (0)) 41 7 (0))) _
            refine P0.go (k := 20) (s' := (52, [some (.ref 0)], [.ref 51, .int 2, .ref 55], 102, xshC, (xup (xup (xup (xup (xup (xup (xup (xup (xup (xup (xup (xup xMt 37 5 (0)) 37 6 (0)) 41 0 (0)) 41 1 (0)) 41 2 (0)) 41 3 (0)) 41 4 (0)) 41 5 (0)) 41 6 (0)) 41 7 (0)) 55 0 (0)) 55 1 (0)))) rfl ?_
            refine P0.call (z := 41) (as := [.ref 51]) (pc := 55) (pl := [some (.ref 0)]) (st := [.int 2, .ref 55]) (nz := 102) (sh := xshC) (M := (xup (xup (xup (xup (xup (xup (xup (xup (xup (xup (xup (xup xMt 37 5 (0)) 37 6 (0)) 41 0 (0)) 41 1 (0)) 41 2 (0)) 41 3 (0)) 41 4 (0)) 41 5 (0)) 41 6 (0)) 41 7 (0)) 55 0 (0)) 55 1 (0))) rfl (Nat.le_of_ble_eq_true rfl) ?_
            show P0 41 (0, [some (.ref 51), none, none], [], 102, xshC, (xup (xup (xup (xup (xup (xup (xup (xup (xup (xup (xup (xup xMt 37 5 (0)) 37 6 (0)) 41 0 (0)) 41 1 (0)) 41 2 (0)) 41 3 (0)) 41 4 (0)) 41 5 (0)) 41 6 (0)) 41 7 (0)) 55 0 (0)) 55 1 (0))) _
            refine P0.go (k := 9) (s' := (28, [some (.ref 51), some (.int 0), some (.int 0)], [.int 0], 102, xshC, (xup (xup (xup (xup (xup (xup (xup (xup (xup (xup (xup (xup xMt 37 5 (0)) 37 6 (0)) 41 0 (0)) 41 1 (0)) 41 2 (0)) 41 3 (0)) 41 4 (0)) 41 5 (0)) 41 6 (0)) 41 7 (0)) 55 0 (0)) 55 1 (0)))) rfl ?_
            refine P0.ret (v := some (.int 0)) rfl ?_
            refine ⟨rfl, ?_⟩
            show P0 147 (55, [some (.ref 0)], [.int 0, .int 2, .ref 55], 102, xshC, (xup (xup (xup (xup (xup (xup (xup (xup (xup (xup (xup (xup xMt 37 5 (0)) 37 6 (0)) 41 0 (0)) 41 1 (0)) 41 2 (0)) 41 3 (0)) 41 4 (0)) 41 5 (0)) 41 6 (0)) 41 7 (0)) 55 0 (0)) 55 1 (0))) _
            refine P0.go (k := 8) (s' := (69, [some (.ref 0)], [], 102, xshC, (xup (xup (xup (xup (xup (xup (xup (xup (xup (xup (xup (xup (xup (xup xMt 37 5 (0)) 37 6 (0)) 41 0 (0)) 41 1 (0)) 41 2 (0)) 41 3 (0)) 41 4 (0)) 41 5 (0)) 41 6 (0)) 41 7 (0)) 55 0 (0)) 55 1 (0)) 55 2 (0)) 55 3 (0)))) rfl ?_
            refine P0.ret (v := none) rfl ?_
            refine ⟨rfl, ?_⟩
            show P0 115 (22, [some (.ref 0), some (.int 3), some (.int b), none], [], 102, xshC, (xup (xup (xup (xup (xup (xup (xup (xup (xup (xup (xup (xup (xup (xup xMt 37 5 (0)) 37 6 (0)) 41 0 (0)) 41 1 (0)) 41 2 (0)) 41 3 (0)) 41 4 (0)) 41 5 (0)) 41 6 (0)) 41 7 (0)) 55 0 (0)) 55 1 (0)) 55 2 (0)) 55 3 (0))) _
            refine P0.go (k := 5) (s' := (31, [some (.ref 0), some (.int 3), some (.int b), none], [.ref 55, .int 3, .ref 17], 102, xshC, (xup (xup (xup (xup (xup (xup (xup (xup (xup (xup (xup (xup (xup (xup xMt 37 5 (0)) 37 6 (0)) 41 0 (0)) 41 1 (0)) 41 2 (0)) 41 3 (0)) 41 4 (0)) 41 5 (0)) 41 6 (0)) 41 7 (0)) 55 0 (0)) 55 1 (0)) 55 2 (0)) 55 3 (0)))) rfl ?_
            refine P0.call (z := 49) (as := [.ref 17, .int 3, .ref 55]) (pc := 34) (pl := [some (.ref 0), some (.int 3), some (.int b), none]) (st := []) (nz := 102) (sh := xshC) (M := (xup (xup (xup (xup (xup (xup (xup (xup (xup (xup (xup (xup (xup (xup xMt 37 5 (0)) 37 6 (0)) 41 0 (0)) 41 1 (0)) 41 2 (0)) 41 3 (0)) 41 4 (0)) 41 5 (0)) 41 6 (0)) 41 7 (0)) 55 0 (0)) 55 1 (0)) 55 2 (0)) 55 3 (0))) rfl (Nat.le_of_ble_eq_true rfl) ?_
            show P0 49 (0, [some (.ref 17), some (.int 3), some (.ref 55), none], [], 102, xshC, (xup (xup (xup (xup (xup (xup (xup (xup (xup (xup (xup (xup (xup (xup xMt 37 5 (0)) 37 6 (0)) 41 0 (0)) 41 1 (0)) 41 2 (0)) 41 3 (0)) 41 4 (0)) 41 5 (0)) 41 6 (0)) 41 7 (0)) 55 0 (0)) 55 1 (0)) 55 2 (0)) 55 3 (0))) _
            refine P0.go (k := 4) (s' := (6, [some (.ref 17), some (.int 3), some (.ref 55), none], [.int (((0) - (1) : Int32))], 102, xshC, (xup (xup (xup (xup (xup (xup (xup (xup (xup (xup (xup (xup (xup (xup xMt 37 5 (0)) 37 6 (0)) 41 0 (0)) 41 1 (0)) 41 2 (0)) 41 3 (0)) 41 4 (0)) 41 5 (0)) 41 6 (0)) 41 7 (0)) 55 0 (0)) 55 1 (0)) 55 2 (0)) 55 3 (0)))) rfl ?_
            refine P0.topi (x' := (-1)) (by decide) ?_
            refine P0.go (k := 4) (s' := (39, [some (.ref 17), some (.int 3), some (.ref 55), some (.int (-1))], [.int (-1)], 102, xshC, (xup (xup (xup (xup (xup (xup (xup (xup (xup (xup (xup (xup (xup (xup xMt 37 5 (0)) 37 6 (0)) 41 0 (0)) 41 1 (0)) 41 2 (0)) 41 3 (0)) 41 4 (0)) 41 5 (0)) 41 6 (0)) 41 7 (0)) 55 0 (0)) 55 1 (0)) 55 2 (0)) 55 3 (0)))) rfl ?_
            refine P0.ret (v := some (.int (-1))) rfl ?_
            refine ⟨rfl, ?_⟩
            show P0 115 (34, [some (.ref 0), some (.int 3), some (.int b), none], [.int (-1)], 102, xshC, (xup (xup (xup (xup (xup (xup (xup (xup (xup (xup (xup (xup (xup (xup xMt 37 5 (0)) 37 6 (0)) 41 0 (0)) 41 1 (0)) 41 2 (0)) 41 3 (0)) 41 4 (0)) 41 5 (0)) 41 6 (0)) 41 7 (0)) 55 0 (0)) 55 1 (0)) 55 2 (0)) 55 3 (0))) _
            refine P0.go (k := 9) (s' := (51, [some (.ref 0), some (.int 3), some (.int b), some (.int (-1))], [.int (-1), .ref 17, .ref 26], 102, xshC, (xup (xup (xup (xup (xup (xup (xup (xup (xup (xup (xup (xup (xup (xup xMt 37 5 (0)) 37 6 (0)) 41 0 (0)) 41 1 (0)) 41 2 (0)) 41 3 (0)) 41 4 (0)) 41 5 (0)) 41 6 (0)) 41 7 (0)) 55 0 (0)) 55 1 (0)) 55 2 (0)) 55 3 (0)))) rfl ?_
            refine P0.call (z := 52) (as := [.ref 17, .int (-1)]) (pc := 54) (pl := [some (.ref 0), some (.int 3), some (.int b), some (.int (-1))]) (st := [.ref 26]) (nz := 102) (sh := xshC) (M := (xup (xup (xup (xup (xup (xup (xup (xup (xup (xup (xup (xup (xup (xup xMt 37 5 (0)) 37 6 (0)) 41 0 (0)) 41 1 (0)) 41 2 (0)) 41 3 (0)) 41 4 (0)) 41 5 (0)) 41 6 (0)) 41 7 (0)) 55 0 (0)) 55 1 (0)) 55 2 (0)) 55 3 (0))) rfl (Nat.le_of_ble_eq_true rfl) ?_
            show P0 52 (0, [some (.ref 17), some (.int (-1))], [], 102, xshC, (xup (xup (xup (xup (xup (xup (xup (xup (xup (xup (xup (xup (xup (xup xMt 37 5 (0)) 37 6 (0)) 41 0 (0)) 41 1 (0)) 41 2 (0)) 41 3 (0)) 41 4 (0)) 41 5 (0)) 41 6 (0)) 41 7 (0)) 55 0 (0)) 55 1 (0)) 55 2 (0)) 55 3 (0))) _
            refine P0.go (k := 5) (s' := (15, [some (.ref 17), some (.int (-1))], [.int 0], 102, xshC, (xup (xup (xup (xup (xup (xup (xup (xup (xup (xup (xup (xup (xup (xup xMt 37 5 (0)) 37 6 (0)) 41 0 (0)) 41 1 (0)) 41 2 (0)) 41 3 (0)) 41 4 (0)) 41 5 (0)) 41 6 (0)) 41 7 (0)) 55 0 (0)) 55 1 (0)) 55 2 (0)) 55 3 (0)))) rfl ?_
            refine P0.ret (v := some (.int 0)) rfl ?_
            refine ⟨rfl, ?_⟩
            show P0 115 (54, [some (.ref 0), some (.int 3), some (.int b), some (.int (-1))], [.int 0, .ref 26], 102, xshC, (xup (xup (xup (xup (xup (xup (xup (xup (xup (xup (xup (xup (xup (xup xMt 37 5 (0)) 37 6 (0)) 41 0 (0)) 41 1 (0)) 41 2 (0)) 41 3 (0)) 41 4 (0)) 41 5 (0)) 41 6 (0)) 41 7 (0)) 55 0 (0)) 55 1 (0)) 55 2 (0)) 55 3 (0))) _
            refine P0.call (z := 27) (as := [.ref 26, .int 0]) (pc := 57) (pl := [some (.ref 0), some (.int 3), some (.int b), some (.int (-1))]) (st := []) (nz := 102) (sh := xshC) (M := (xup (xup (xup (xup (xup (xup (xup (xup (xup (xup (xup (xup (xup (xup xMt 37 5 (0)) 37 6 (0)) 41 0 (0)) 41 1 (0)) 41 2 (0)) 41 3 (0)) 41 4 (0)) 41 5 (0)) 41 6 (0)) 41 7 (0)) 55 0 (0)) 55 1 (0)) 55 2 (0)) 55 3 (0))) rfl (Nat.le_of_ble_eq_true rfl) ?_
            show P0 27 (0, [some (.ref 26), some (.int 0)], [], 102, xshC, (xup (xup (xup (xup (xup (xup (xup (xup (xup (xup (xup (xup (xup (xup xMt 37 5 (0)) 37 6 (0)) 41 0 (0)) 41 1 (0)) 41 2 (0)) 41 3 (0)) 41 4 (0)) 41 5 (0)) 41 6 (0)) 41 7 (0)) 55 0 (0)) 55 1 (0)) 55 2 (0)) 55 3 (0))) _
            refine P0.go (k := 5) (s' := (27, [some (.ref 26), some (.int 0)], [.int 1], 102, xshC, (xup (xup (xup (xup (xup (xup (xup (xup (xup (xup (xup (xup (xup (xup xMt 37 5 (0)) 37 6 (0)) 41 0 (0)) 41 1 (0)) 41 2 (0)) 41 3 (0)) 41 4 (0)) 41 5 (0)) 41 6 (0)) 41 7 (0)) 55 0 (0)) 55 1 (0)) 55 2 (0)) 55 3 (0)))) rfl ?_
            refine P0.ret (v := some (.int 1)) rfl ?_
            refine ⟨rfl, ?_⟩
            show P0 115 (57, [some (.ref 0), some (.int 3), some (.int b), some (.int (-1))], [.int 1], 102, xshC, (xup (xup (xup (xup (xup (xup (xup (xup (xup (xup (xup (xup (xup (xup xMt 37 5 (0)) 37 6 (0)) 41 0 (0)) 41 1 (0)) 41 2 (0)) 41 3 (0)) 41 4 (0)) 41 5 (0)) 41 6 (0)) 41 7 (0)) 55 0 (0)) 55 1 (0)) 55 2 (0)) 55 3 (0))) _
            refine P0.go (k := 3) (s' := (67, [some (.ref 0), some (.int 3), some (.int b), some (.int (-1))], [.ref 26], 102, xshC, (xup (xup (xup (xup (xup (xup (xup (xup (xup (xup (xup (xup (xup (xup xMt 37 5 (0)) 37 6 (0)) 41 0 (0)) 41 1 (0)) 41 2 (0)) 41 3 (0)) 41 4 (0)) 41 5 (0)) 41 6 (0)) 41 7 (0)) 55 0 (0)) 55 1 (0)) 55 2 (0)) 55 3 (0)))) rfl ?_
            refine P0.call (z := 26) (as := [.ref 26]) (pc := 70) (pl := [some (.ref 0), some (.int 3), some (.int b), some (.int (-1))]) (st := []) (nz := 102) (sh := xshC) (M := (xup (xup (xup (xup (xup (xup (xup (xup (xup (xup (xup (xup (xup (xup xMt 37 5 (0)) 37 6 (0)) 41 0 (0)) 41 1 (0)) 41 2 (0)) 41 3 (0)) 41 4 (0)) 41 5 (0)) 41 6 (0)) 41 7 (0)) 55 0 (0)) 55 1 (0)) 55 2 (0)) 55 3 (0))) rfl (Nat.le_of_ble_eq_true rfl) ?_
            show P0 26 (0, [some (.ref 26)], [], 102, xshC, (xup (xup (xup (xup (xup (xup (xup (xup (xup (xup (xup (xup (xup (xup xMt 37 5 (0)) 37 6 (0)) 41 0 (0)) 41 1 (0)) 41 2 (0)) 41 3 (0)) 41 4 (0)) 41 5 (0)) 41 6 (0)) 41 7 (0)) 55 0 (0)) 55 1 (0)) 55 2 (0)) 55 3 (0))) _
            refine P0.go (k := 5) (s' := (14, [some (.ref 26)], [.int 0], 102, xshC, (xup (xup (xup (xup (xup (xup (xup (xup (xup (xup (xup (xup (xup (xup xMt 37 5 (0)) 37 6 (0)) 41 0 (0)) 41 1 (0)) 41 2 (0)) 41 3 (0)) 41 4 (0)) 41 5 (0)) 41 6 (0)) 41 7 (0)) 55 0 (0)) 55 1 (0)) 55 2 (0)) 55 3 (0)))) rfl ?_
            refine P0.ret (v := some (.int 0)) rfl ?_
            refine ⟨rfl, ?_⟩
            show P0 115 (70, [some (.ref 0), some (.int 3), some (.int b), some (.int (-1))], [.int 0], 102, xshC, (xup (xup (xup (xup (xup (xup (xup (xup (xup (xup (xup (xup (xup (xup xMt 37 5 (0)) 37 6 (0)) 41 0 (0)) 41 1 (0)) 41 2 (0)) 41 3 (0)) 41 4 (0)) 41 5 (0)) 41 6 (0)) 41 7 (0)) 55 0 (0)) 55 1 (0)) 55 2 (0)) 55 3 (0))) _
            refine P0.go (k := 8) (s' := (87, [some (.ref 0), some (.int 3), some (.int b), some (.int (-1))], [.int (-1), .ref 17, .int b, .int 3, .ref 26], 102, xshC, (xup (xup (xup (xup (xup (xup (xup (xup (xup (xup (xup (xup (xup (xup xMt 37 5 (0)) 37 6 (0)) 41 0 (0)) 41 1 (0)) 41 2 (0)) 41 3 (0)) 41 4 (0)) 41 5 (0)) 41 6 (0)) 41 7 (0)) 55 0 (0)) 55 1 (0)) 55 2 (0)) 55 3 (0)))) rfl ?_
            refine P0.call (z := 52) (as := [.ref 17, .int (-1)]) (pc := 90) (pl := [some (.ref 0), some (.int 3), some (.int b), some (.int (-1))]) (st := [.int b, .int 3, .ref 26]) (nz := 102) (sh := xshC) (M := (xup (xup (xup (xup (xup (xup (xup (xup (xup (xup (xup (xup (xup (xup xMt 37 5 (0)) 37 6 (0)) 41 0 (0)) 41 1 (0)) 41 2 (0)) 41 3 (0)) 41 4 (0)) 41 5 (0)) 41 6 (0)) 41 7 (0)) 55 0 (0)) 55 1 (0)) 55 2 (0)) 55 3 (0))) rfl (Nat.le_of_ble_eq_true rfl) ?_
            show P0 52 (0, [some (.ref 17), some (.int (-1))], [], 102, xshC, (xup (xup (xup (xup (xup (xup (xup (xup (xup (xup (xup (xup (xup (xup xMt 37 5 (0)) 37 6 (0)) 41 0 (0)) 41 1 (0)) 41 2 (0)) 41 3 (0)) 41 4 (0)) 41 5 (0)) 41 6 (0)) 41 7 (0)) 55 0 (0)) 55 1 (0)) 55 2 (0)) 55 3 (0))) _
            refine P0.go (k := 5) (s' := (15, [some (.ref 17), some (.int (-1))], [.int 0], 102, xshC, (xup (xup (xup (xup (xup (xup (xup (xup (xup (xup (xup (xup (xup (xup xMt 37 5 (0)) 37 6 (0)) 41 0 (0)) 41 1 (0)) 41 2 (0)) 41 3 (0)) 41 4 (0)) 41 5 (0)) 41 6 (0)) 41 7 (0)) 55 0 (0)) 55 1 (0)) 55 2 (0)) 55 3 (0)))) rfl ?_
            refine P0.ret (v := some (.int 0)) rfl ?_
            refine ⟨rfl, ?_⟩
            show P0 115 (90, [some (.ref 0), some (.int 3), some (.int b), some (.int (-1))], [.int 0, .int b, .int 3, .ref 26], 102, xshC, (xup (xup (xup (xup (xup (xup (xup (xup (xup (xup (xup (xup (xup (xup xMt 37 5 (0)) 37 6 (0)) 41 0 (0)) 41 1 (0)) 41 2 (0)) 41 3 (0)) 41 4 (0)) 41 5 (0)) 41 6 (0)) 41 7 (0)) 55 0 (0)) 55 1 (0)) 55 2 (0)) 55 3 (0))) _
            refine P0.go (k := 3) (s' := (95, [some (.ref 0), some (.int 3), some (.int b), some (.int (-1))], [.int (-1), .ref 17, .int 0, .int b, .int 3, .ref 26], 102, xshC, (xup (xup (xup (xup (xup (xup (xup (xup (xup (xup (xup (xup (xup (xup xMt 37 5 (0)) 37 6 (0)) 41 0 (0)) 41 1 (0)) 41 2 (0)) 41 3 (0)) 41 4 (0)) 41 5 (0)) 41 6 (0)) 41 7 (0)) 55 0 (0)) 55 1 (0)) 55 2 (0)) 55 3 (0)))) rfl ?_
            refine P0.call (z := 53) (as := [.ref 17, .int (-1)]) (pc := 98) (pl := [some (.ref 0), some (.int 3), some (.int b), some (.int (-1))]) (st := [.int 0, .int b, .int 3, .ref 26]) (nz := 102) (sh := xshC) (M := (xup (xup (xup (xup (xup (xup (xup (xup (xup (xup (xup (xup (xup (xup xMt 37 5 (0)) 37 6 (0)) 41 0 (0)) 41 1 (0)) 41 2 (0)) 41 3 (0)) 41 4 (0)) 41 5 (0)) 41 6 (0)) 41 7 (0)) 55 0 (0)) 55 1 (0)) 55 2 (0)) 55 3 (0))) rfl (Nat.le_of_ble_eq_true rfl) ?_
            show P0 53 (0, [some (.ref 17), some (.int (-1))], [], 102, xshC, (xup (xup (xup (xup (xup (xup (xup (xup (xup (xup (xup (xup (xup (xup xMt 37 5 (0)) 37 6 (0)) 41 0 (0)) 41 1 (0)) 41 2 (0)) 41 3 (0)) 41 4 (0)) 41 5 (0)) 41 6 (0)) 41 7 (0)) 55 0 (0)) 55 1 (0)) 55 2 (0)) 55 3 (0))) _
            refine P0.go (k := 5) (s' := (15, [some (.ref 17), some (.int (-1))], [.int 1], 102, xshC, (xup (xup (xup (xup (xup (xup (xup (xup (xup (xup (xup (xup (xup (xup xMt 37 5 (0)) 37 6 (0)) 41 0 (0)) 41 1 (0)) 41 2 (0)) 41 3 (0)) 41 4 (0)) 41 5 (0)) 41 6 (0)) 41 7 (0)) 55 0 (0)) 55 1 (0)) 55 2 (0)) 55 3 (0)))) rfl ?_
            refine P0.ret (v := some (.int 1)) rfl ?_
            refine ⟨rfl, ?_⟩
            show P0 115 (98, [some (.ref 0), some (.int 3), some (.int b), some (.int (-1))], [.int 1, .int 0, .int b, .int 3, .ref 26], 102, xshC, (xup (xup (xup (xup (xup (xup (xup (xup (xup (xup (xup (xup (xup (xup xMt 37 5 (0)) 37 6 (0)) 41 0 (0)) 41 1 (0)) 41 2 (0)) 41 3 (0)) 41 4 (0)) 41 5 (0)) 41 6 (0)) 41 7 (0)) 55 0 (0)) 55 1 (0)) 55 2 (0)) 55 3 (0))) _
            refine P0.go (k := 3) (s' := (103, [some (.ref 0), some (.int 3), some (.int b), some (.int (-1))], [.int (-1), .ref 17, .int 1, .int 0, .int b, .int 3, .ref 26], 102, xshC, (xup (xup (xup (xup (xup (xup (xup (xup (xup (xup (xup (xup (xup (xup xMt 37 5 (0)) 37 6 (0)) 41 0 (0)) 41 1 (0)) 41 2 (0)) 41 3 (0)) 41 4 (0)) 41 5 (0)) 41 6 (0)) 41 7 (0)) 55 0 (0)) 55 1 (0)) 55 2 (0)) 55 3 (0)))) rfl ?_
            refine P0.call (z := 54) (as := [.ref 17, .int (-1)]) (pc := 106) (pl := [some (.ref 0), some (.int 3), some (.int b), some (.int (-1))]) (st := [.int 1, .int 0, .int b, .int 3, .ref 26]) (nz := 102) (sh := xshC) (M := (xup (xup (xup (xup (xup (xup (xup (xup (xup (xup (xup (xup (xup (xup xMt 37 5 (0)) 37 6 (0)) 41 0 (0)) 41 1 (0)) 41 2 (0)) 41 3 (0)) 41 4 (0)) 41 5 (0)) 41 6 (0)) 41 7 (0)) 55 0 (0)) 55 1 (0)) 55 2 (0)) 55 3 (0))) rfl (Nat.le_of_ble_eq_true rfl) ?_
            show P0 54 (0, [some (.ref 17), some (.int (-1))], [], 102, xshC, (xup (xup (xup (xup (xup (xup (xup (xup (xup (xup (xup (xup (xup (xup xMt 37 5 (0)) 37 6 (0)) 41 0 (0)) 41 1 (0)) 41 2 (0)) 41 3 (0)) 41 4 (0)) 41 5 (0)) 41 6 (0)) 41 7 (0)) 55 0 (0)) 55 1 (0)) 55 2 (0)) 55 3 (0))) _
            refine P0.go (k := 5) (s' := (15, [some (.ref 17), some (.int (-1))], [.int 2], 102, xshC, (xup (xup (xup (xup (xup (xup (xup (xup (xup (xup (xup (xup (xup (xup xMt 37 5 (0)) 37 6 (0)) 41 0 (0)) 41 1 (0)) 41 2 (0)) 41 3 (0)) 41 4 (0)) 41 5 (0)) 41 6 (0)) 41 7 (0)) 55 0 (0)) 55 1 (0)) 55 2 (0)) 55 3 (0)))) rfl ?_
            refine P0.ret (v := some (.int 2)) rfl ?_
            refine ⟨rfl, ?_⟩
            show P0 115 (106, [some (.ref 0), some (.int 3), some (.int b), some (.int (-1))], [.int 2, .int 1, .int 0, .int b, .int 3, .ref 26], 102, xshC, (xup (xup (xup (xup (xup (xup (xup (xup (xup (xup (xup (xup (xup (xup xMt 37 5 (0)) 37 6 (0)) 41 0 (0)) 41 1 (0)) 41 2 (0)) 41 3 (0)) 41 4 (0)) 41 5 (0)) 41 6 (0)) 41 7 (0)) 55 0 (0)) 55 1 (0)) 55 2 (0)) 55 3 (0))) _
            refine P0.call (z := 28) (as := [.ref 26, .int 3, .int b, .int 0, .int 1, .int 2]) (pc := 109) (pl := [some (.ref 0), some (.int 3), some (.int b), some (.int (-1))]) (st := []) (nz := 102) (sh := xshC) (M := (xup (xup (xup (xup (xup (xup (xup (xup (xup (xup (xup (xup (xup (xup xMt 37 5 (0)) 37 6 (0)) 41 0 (0)) 41 1 (0)) 41 2 (0)) 41 3 (0)) 41 4 (0)) 41 5 (0)) 41 6 (0)) 41 7 (0)) 55 0 (0)) 55 1 (0)) 55 2 (0)) 55 3 (0))) rfl (Nat.le_of_ble_eq_true rfl) ?_
            show P0 28 (0, [some (.ref 26), some (.int 3), some (.int b), some (.int 0), some (.int 1), some (.int 2)], [], 102, xshC, (xup (xup (xup (xup (xup (xup (xup (xup (xup (xup (xup (xup (xup (xup xMt 37 5 (0)) 37 6 (0)) 41 0 (0)) 41 1 (0)) 41 2 (0)) 41 3 (0)) 41 4 (0)) 41 5 (0)) 41 6 (0)) 41 7 (0)) 55 0 (0)) 55 1 (0)) 55 2 (0)) 55 3 (0))) _
            refine P0.go (k := 37) (s' := (63, [some (.ref 26), some (.int 3), some (.int b), some (.int 0), some (.int 1), some (.int 2)], [.int 1], 102, xshC, (xup (xup (xup (xup (xup (xup (xup (xup (xup (xup (xup (xup (xup (xup (xup (xup (xup (xup (xup (xup xMt 37 5 (0)) 37 6 (0)) 41 0 (0)) 41 1 (0)) 41 2 (0)) 41 3 (0)) 41 4 (0)) 41 5 (0)) 41 6 (0)) 41 7 (0)) 55 0 (0)) 55 1 (0)) 55 2 (0)) 55 3 (0)) 27 0 (3)) 28 0 (b)) 29 0 (0)) 30 0 (1)) 31 0 (2)) 26 5 (1)))) rfl ?_
            refine P0.ret (v := some (.int 1)) rfl ?_
            refine ⟨rfl, ?_⟩
            show P0 115 (109, [some (.ref 0), some (.int 3), some (.int b), some (.int (-1))], [.int 1], 102, xshC, (xup (xup (xup (xup (xup (xup (xup (xup (xup (xup (xup (xup (xup (xup (xup (xup (xup (xup (xup (xup xMt 37 5 (0)) 37 6 (0)) 41 0 (0)) 41 1 (0)) 41 2 (0)) 41 3 (0)) 41 4 (0)) 41 5 (0)) 41 6 (0)) 41 7 (0)) 55 0 (0)) 55 1 (0)) 55 2 (0)) 55 3 (0)) 27 0 (3)) 28 0 (b)) 29 0 (0)) 30 0 (1)) 31 0 (2)) 26 5 (1))) _
            refine P0.ret (v := some (.int 1)) rfl ?_
            exact congrArg (fun z => some (Value.int z)) (show 1 = F_move 3 b from by unfold F_move; (repeat' split) <;> first | rfl | (exfalso; simp only [Int32.lt_iff_toInt_lt, Int32.le_iff_toInt_le, Int64.lt_iff_toInt_lt, Int64.le_iff_toInt_le, ← Int32.toInt_inj, Int32.toInt_toInt64, xl_0, xl_1, xl_2, xl_3, xl_4, xl_5, xl_6, xl_7, xl_8, xl_9, xl_10, xl_11, xl_12, xl_13, xl_20, xl_30, xl_59, xl_63, xl_64, xl_99, xl_100, xl_120, xl_999, xl_m1, xl_m2, xl_m3, xl_m4, xl_m5, xL_0, xL_1, xL_2, xL_3, xL_4, xL_5, xL_6, xL_7, xL_8, xL_20, xL_59, xL_63, xL_99, xL_999] at *; omega) | (exfalso; simp_all; done))
      by_cases h15 : a = 4
      · subst h15
        refine P0.go (k := 3) (s' := (xcmp .ne (b) (0) 78 74, [some (.ref 0), some (.int 4), some (.int b)], [], 102, xshC, xMt)) rfl ?_
        refine P0.ne (fun h16 => ?_) (fun h16 => ?_)
        · refine P0.go (k := 1) (s' := (79, [some (.ref 0), some (.int 4), some (.int b)], [.int 0], 102, xshC, xMt)) rfl ?_
          refine P0.ret (v := some (.int 0)) rfl ?_
          refine ⟨rfl, ?_⟩
          show P0 115 (13, [some (.ref 0), some (.int 4), some (.int b), none], [.int 0], 102, xshC, xMt) _
          refine P0.go (k := 2) (s' := (17, [some (.ref 0), some (.int 4), some (.int b), none], [.int (-1)], 102, xshC, xMt)) rfl ?_
          refine P0.ret (v := some (.int (-1))) rfl ?_
          exact congrArg (fun z => some (Value.int z)) (show (-1) = F_move 4 b from by unfold F_move; (repeat' split) <;> first | rfl | (exfalso; simp only [Int32.lt_iff_toInt_lt, Int32.le_iff_toInt_le, Int64.lt_iff_toInt_lt, Int64.le_iff_toInt_le, ← Int32.toInt_inj, Int32.toInt_toInt64, xl_0, xl_1, xl_2, xl_3, xl_4, xl_5, xl_6, xl_7, xl_8, xl_9, xl_10, xl_11, xl_12, xl_13, xl_20, xl_30, xl_59, xl_63, xl_64, xl_99, xl_100, xl_120, xl_999, xl_m1, xl_m2, xl_m3, xl_m4, xl_m5, xL_0, xL_1, xL_2, xL_3, xL_4, xL_5, xL_6, xL_7, xL_8, xL_20, xL_59, xL_63, xL_99, xL_999] at *; omega) | (exfalso; simp_all; done))
        · refine P0.go (k := 2) (s' := (79, [some (.ref 0), some (.int 4), some (.int b)], [.int 1], 102, xshC, xMt)) rfl ?_
          refine P0.ret (v := some (.int 1)) rfl ?_
          refine ⟨rfl, ?_⟩
          show P0 115 (13, [some (.ref 0), some (.int 4), some (.int b), none], [.int 1], 102, xshC, xMt) _
          refine P0.go (k := 2) (s' := (19, [some (.ref 0), some (.int 4), some (.int b), none], [.ref 0], 102, xshC, xMt)) rfl ?_
          refine P0.call (z := 147) (as := [.ref 0]) (pc := 22) (pl := [some (.ref 0), some (.int 4), some (.int b), none]) (st := []) (nz := 102) (sh := xshC) (M := xMt) rfl (Nat.le_of_ble_eq_true rfl) ?_
          show P0 147 (0, [some (.ref 0)], [], 102, xshC, xMt) _
          refine P0.go (k := 5) (s' := (11, [some (.ref 0)], [.ref 5, .ref 37], 102, xshC, xMt)) rfl ?_
          refine P0.call (z := 78) (as := [.ref 37, .ref 5]) (pc := 14) (pl := [some (.ref 0)]) (st := []) (nz := 102) (sh := xshC) (M := xMt) rfl (Nat.le_of_ble_eq_true rfl) ?_
          show P0 78 (0, [some (.ref 37), some (.ref 5), none], [], 102, xshC, xMt) _
          refine P0.go (k := 9) (s' := (15, [some (.ref 37), some (.ref 5), none], [.int 0, .ref 41], 102, xshC, (xup (xup xMt 37 5 (0)) 37 6 (0)))) rfl ?_
          refine P0.call (z := 229) (as := [.ref 41, .int 0]) (pc := 18) (pl := [some (.ref 37), some (.ref 5), none]) (st := []) (nz := 102) (sh := xshC) (M := (xup (xup xMt 37 5 (0)) 37 6 (0))) rfl (Nat.le_of_ble_eq_true rfl) ?_
          show P0 229 (0, [some (.ref 41), some (.int 0), none, none], [], 102, xshC, (xup (xup xMt 37 5 (0)) 37 6 (0))) _
          refine P0.go (k := 40) (s' := (17, [some (.ref 41), some (.int 0), some (.int 4), some (.int 8)], [], 102, xshC, (xup (xup (xup (xup (xup (xup xMt 37 5 (0)) 37 6 (0)) 41 0 (0)) 41 1 (0)) 41 2 (0)) 41 3 (0)))) rfl ?_
          refine P0.go (k := 40) (s' := (20, [some (.ref 41), some (.int 0), some (.int 8), some (.int 8)], [], 102, xshC, (xup (xup (xup (xup (xup (xup (xup (xup (xup (xup xMt 37 5 (0)) 37 6 (0)) 41 0 (0)) 41 1 (0)) 41 2 (0)) 41 3 (0)) 41 4 (0)) 41 5 (0)) 41 6 (0)) 41 7 (0)))) rfl ?_
          refine P0.ret (v := none) rfl ?_
          refine ⟨rfl, ?_⟩
          show P0 78 (18, [some (.ref 37), some (.ref 5), none], [], 102, xshC, (xup (xup (xup (xup (xup (xup (xup (xup (xup (xup xMt 37 5 (0)) 37 6 (0)) 41 0 (0)) 41 1 (0)) 41 2 (0)) 41 3 (0)) 41 4 (0)) 41 5 (0)) 41 6 (0)) 41 7 (0))) _
          refine P0.go (k := 6) (s' := (106, [some (.ref 37), some (.ref 5), some (.int 0)], [], 102, xshC, (xup (xup (xup (xup (xup (xup (xup (xup (xup (xup xMt 37 5 (0)) 37 6 (0)) 41 0 (0)) 41 1 (0)) 41 2 (0)) 41 3 (0)) 41 4 (0)) 41 5 (0)) 41 6 (0)) 41 7 (0)))) rfl ?_
          refine P0.ret (v := none) rfl ?_
          refine ⟨rfl, ?_⟩
          show P0 147 (14, [some (.ref 0)], [], 102, xshC, (xup (xup (xup (xup (xup (xup (xup (xup (xup (xup xMt 37 5 (0)) 37 6 (0)) 41 0 (0)) 41 1 (0)) 41 2 (0)) 41 3 (0)) 41 4 (0)) 41 5 (0)) 41 6 (0)) 41 7 (0))) _
          refine P0.go (k := 20) (s' := (52, [some (.ref 0)], [.ref 51, .int 2, .ref 55], 102, xshC, (xup (xup (xup (xup (xup (xup (xup (xup (xup (xup (xup (xup xMt 37 5 (0)) 37 6 (0)) 41 0 (0)) 41 1 (0)) 41 2 (0)) 41 3 (0)) 41 4 (0)) 41 5 (0)) 41 6 (0)) 41 7 (0)) 55 0 (0)) 55 1 (0)))) rfl ?_
          refine P0.call (z := 41) (as := [.ref 51]) (pc := 55) (pl := [some (.ref 0)]) (st := [.int 2, .ref 55]) (nz := 102) (sh := xshC) (M := (xup (xup (xup (xup (xup (xup (xup (xup (xup (xup (xup (xup xMt 37 5 (0)) 37 6 (0)) 41 0 (0)) 41 1 (0)) 41 2 (0)) 41 3 (0)) 41 4 (0)) 41 5 (0)) 41 6 (0)) 41 7 (0)) 55 0 (0)) 55 1 (0))) rfl (Nat.le_of_ble_eq_true rfl) ?_
          show P0 41 (0, [some (.ref 51), none, none], [], 102, xshC, (xup (xup (xup (xup (xup (xup (xup (xup (xup (xup (xup (xup xMt 37 5 (0)) 37 6 (0)) 41 0 (0)) 41 1 (0)) 41 2 (0)) 41 3 (0)) 41 4 (0)) 41 5 (0)) 41 6 (0)) 41 7 (0)) 55 0 (0)) 55 1 (0))) _
          refine P0.go (k := 9) (s' := (28, [some (.ref 51), some (.int 0), some (.int 0)], [.int 0], 102, xshC, (xup (xup (xup (xup (xup (xup (xup (xup (xup (xup (xup (xup xMt 37 5 (0)) 37 6 (0)) 41 0 (0)) 41 1 (0)) 41 2 (0)) 41 3 (0)) 41 4 (0)) 41 5 (0)) 41 6 (0)) 41 7 (0)) 55 0 (0)) 55 1 (0)))) rfl ?_
          refine P0.ret (v := some (.int 0)) rfl ?_
          refine ⟨rfl, ?_⟩
          show P0 147 (55, [some (.ref 0)], [.int 0, .int 2, .ref 55], 102, xshC, (xup (xup (xup (xup (xup (xup (xup (xup (xup (xup (xup (xup xMt 37 5 (0)) 37 6 (0)) 41 0 (0)) 41 1 (0)) 41 2 (0)) 41 3 (0)) 41 4 (0)) 41 5 (0)) 41 6 (0)) 41 7 (0)) 55 0 (0)) 55 1 (0))) _
          refine P0.go (k := 8) (s' := (69, [some (.ref 0)], [], 102, xshC, (xup (xup (xup (xup (xup (xup (xup (xup (xup (xup (xup (xup (xup (xup xMt 37 5 (0)) 37 6 (0)) 41 0 (0)) 41 1 (0)) 41 2 (0)) 41 3 (0)) 41 4 (0)) 41 5 (0)) 41 6 (0)) 41 7 (0)) 55 0 (0)) 55 1 (0)) 55 2 (0)) 55 3 (0)))) rfl ?_
          refine P0.ret (v := none) rfl ?_
          refine ⟨rfl, ?_⟩
          show P0 115 (22, [some (.ref 0), some (.int 4), some (.int b), none], [], 102, xshC, (xup (xup (xup (xup (xup (xup (xup (xup (xup (xup (xup (xup (xup (xup xMt 37 5 (0)) 37 6 (0)) 41 0 (0)) 41 1 (0)) 41 2 (0)) 41 3 (0)) 41 4 (0)) 41 5 (0)) 41 6 (0)) 41 7 (0)) 55 0 (0)) 55 1 (0)) 55 2 (0)) 55 3 (0))) _
          refine P0.go (k := 5) (s' := (31, [some (.ref 0), some (.int 4), some (.int b), none], [.ref 55, .int 4, .ref 17], 102, xshC, (xup (xup (xup (xup (xup (xup (xup (xup (xup (xup (xup (xup (xup (xup xMt 37 5 (0)) 37 6 (0)) 41 0 (0)) 41 1 (0)) 41 2 (0)) 41 3 (0)) 41 4 (0)) 41 5 (0)) 41 6 (0)) 41 7 (0)) 55 0 (0)) 55 1 (0)) 55 2 (0)) 55 3 (0)))) rfl ?_
          refine P0.call (z := 49) (as := [.ref 17, .int 4, .ref 55]) (pc := 34) (pl := [some (.ref 0), some (.int 4), some (.int b), none]) (st := []) (nz := 102) (sh := xshC) (M := (xup (xup (xup (xup (xup (xup (xup (xup (xup (xup (xup (xup (xup (xup xMt 37 5 (0)) 37 6 (0)) 41 0 (0)) 41 1 (0)) 41 2 (0)) 41 3 (0)) 41 4 (0)) 41 5 (0)) 41 6 (0)) 41 7 (0)) 55 0 (0)) 55 1 (0)) 55 2 (0)) 55 3 (0))) rfl (Nat.le_of_ble_eq_true rfl) ?_
          show P0 49 (0, [some (.ref 17), some (.int 4), some (.ref 55), none], [], 102, xshC, (xup (xup (xup (xup (xup (xup (xup (xup (xup (xup (xup (xup (xup (xup xMt 37 5 (0)) 37 6 (0)) 41 0 (0)) 41 1 (0)) 41 2 (0)) 41 3 (0)) 41 4 (0)) 41 5 (0)) 41 6 (0)) 41 7 (0)) 55 0 (0)) 55 1 (0)) 55 2 (0)) 55 3 (0))) _
          refine P0.go (k := 4) (s' := (6, [some (.ref 17), some (.int 4), some (.ref 55), none], [.int (((0) - (1) : Int32))], 102, xshC, (xup (xup (xup (xup (xup (xup (xup (xup (xup (xup (xup (xup (xup (xup xMt 37 5 (0)) 37 6 (0)) 41 0 (0)) 41 1 (0)) 41 2 (0)) 41 3 (0)) 41 4 (0)) 41 5 (0)) 41 6 (0)) 41 7 (0)) 55 0 (0)) 55 1 (0)) 55 2 (0)) 55 3 (0)))) rfl ?_
          refine P0.topi (x' := (-1)) (by decide) ?_
          refine P0.go (k := 4) (s' := (39, [some (.ref 17), some (.int 4), some (.ref 55), some (.int (-1))], [.int (-1)], 102, xshC, (xup (xup (xup (xup (xup (xup (xup (xup (xup (xup (xup (xup (xup (xup xMt 37 5 (0)) 37 6 (0)) 41 0 (0)) 41 1 (0)) 41 2 (0)) 41 3 (0)) 41 4 (0)) 41 5 (0)) 41 6 (0)) 41 7 (0)) 55 0 (0)) 55 1 (0)) 55 2 (0)) 55 3 (0)))) rfl ?_
          refine P0.ret (v := some (.int (-1))) rfl ?_
          refine ⟨rfl, ?_⟩
          show P0 115 (34, [some (.ref 0), some (.int 4), some (.int b), none], [.int (-1)], 102, xshC, (xup (xup (xup (xup (xup (xup (xup (xup (xup (xup (xup (xup (xup (xup xMt 37 5 (0)) 37 6 (0)) 41 0 (0)) 41 1 (0)) 41 2 (0)) 41 3 (0)) 41 4 (0)) 41 5 (0)) 41 6 (0)) 41 7 (0)) 55 0 (0)) 55 1 (0)) 55 2 (0)) 55 3 (0))) _
          refine P0.go (k := 9) (s' := (51, [some (.ref 0), some (.int 4), some (.int b), some (.int (-1))], [.int (-1), .ref 17, .ref 26], 102, xshC, (xup (xup (xup (xup (xup (xup (xup (xup (xup (xup (xup (xup (xup (xup xMt 37 5 (0)) 37 6 (0)) 41 0 (0)) 41 1 (0)) 41 2 (0)) 41 3 (0)) 41 4 (0)) 41 5 (0)) 41 6 (0)) 41 7 (0)) 55 0 (0)) 55 1 (0)) 55 2 (0)) 55 3 (0)))) rfl ?_
          refine P0.call (z := 52) (as := [.ref 17, .int (-1)]) (pc := 54) (pl := [some (.ref 0), some (.int 4), some (.int b), some (.int (-1))]) (st := [.ref 26]) (nz := 102) (sh := xshC) (M := (xup (xup (xup (xup (xup (xup (xup (xup (xup (xup (xup (xup (xup (xup xMt 37 5 (0)) 37 6 (0)) 41 0 (0)) 41 1 (0)) 41 2 (0)) 41 3 (0)) 41 4 (0)) 41 5 (0)) 41 6 (0)) 41 7 (0)) 55 0 (0)) 55 1 (0)) 55 2 (0)) 55 3 (0))) rfl (Nat.le_of_ble_eq_true rfl) ?_
          show P0 52 (0, [some (.ref 17), some (.int (-1))], [], 102, xshC, (xup (xup (xup (xup (xup (xup (xup (xup (xup (xup (xup (xup (xup (xup xMt 37 5 (0)) 37 6 (0)) 41 0 (0)) 41 1 (0)) 41 2 (0)) 41 3 (0)) 41 4 (0)) 41 5 (0)) 41 6 (0)) 41 7 (0)) 55 0 (0)) 55 1 (0)) 55 2 (0)) 55 3 (0))) _
          refine P0.go (k := 5) (s' := (15, [some (.ref 17), some (.int (-1))], [.int 0], 102, xshC, (xup (xup (xup (xup (xup (xup (xup (xup (xup (xup (xup (xup (xup (xup xMt 37 5 (0)) 37 6 (0)) 41 0 (0)) 41 1 (0)) 41 2 (0)) 41 3 (0)) 41 4 (0)) 41 5 (0)) 41 6 (0)) 41 7 (0)) 55 0 (0)) 55 1 (0)) 55 2 (0)) 55 3 (0)))) rfl ?_
          refine P0.ret (v := some (.int 0)) rfl ?_
          refine ⟨rfl, ?_⟩
          show P0 115 (54, [some (.ref 0), some (.int 4), some (.int b), some (.int (-1))], [.int 0, .ref 26], 102, xshC, (xup (xup (xup (xup (xup (xup (xup (xup (xup (xup (xup (xup (xup (xup xMt 37 5 (0)) 37 6 (0)) 41 0 (0)) 41 1 (0)) 41 2 (0)) 41 3 (0)) 41 4 (0)) 41 5 (0)) 41 6 (0)) 41 7 (0)) 55 0 (0)) 55 1 (0)) 55 2 (0)) 55 3 (0))) _
          refine P0.call (z := 27) (as := [.ref 26, .int 0]) (pc := 57) (pl := [some (.ref 0), some (.int 4), some (.int b), some (.int (-1))]) (st := []) (nz := 102) (sh := xshC) (M := (xup (xup (xup (xup (xup (xup (xup (xup (xup (xup (xup (xup (xup (xup xMt 37 5 (0)) 37 6 (0)) 41 0 (0)) 41 1 (0)) 41 2 (0)) 41 3 (0)) 41 4 (0)) 41 5 (0)) 41 6 (0)) 41 7 (0)) 55 0 (0)) 55 1 (0)) 55 2 (0)) 55 3 (0))) rfl (Nat.le_of_ble_eq_true rfl) ?_
          show P0 27 (0, [some (.ref 26), some (.int 0)], [], 102, xshC, (xup (xup (xup (xup (xup (xup (xup (xup (xup (xup (xup (xup (xup (xup xMt 37 5 (0)) 37 6 (0)) 41 0 (0)) 41 1 (0)) 41 2 (0)) 41 3 (0)) 41 4 (0)) 41 5 (0)) 41 6 (0)) 41 7 (0)) 55 0 (0)) 55 1 (0)) 55 2 (0)) 55 3 (0))) _
          refine P0.go (k := 5) (s' := (27, [some (.ref 26), some (.int 0)], [.int 1], 102, xshC, (xup (xup (xup (xup (xup (xup (xup (xup (xup (xup (xup (xup (xup (xup xMt 37 5 (0)) 37 6 (0)) 41 0 (0)) 41 1 (0)) 41 2 (0)) 41 3 (0)) 41 4 (0)) 41 5 (0)) 41 6 (0)) 41 7 (0)) 55 0 (0)) 55 1 (0)) 55 2 (0)) 55 3 (0)))) rfl ?_
          refine P0.ret (v := some (.int 1)) rfl ?_
          refine ⟨rfl, ?_⟩
          show P0 115 (57, [some (.ref 0), some (.int 4), some (.int b), some (.int (-1))], [.int 1], 102, xshC, (xup (xup (xup (xup (xup (xup (xup (xup (xup (xup (xup (xup (xup (xup xMt 37 5 (0)) 37 6 (0)) 41 0 (0)) 41 1 (0)) 41 2 (0)) 41 3 (0)) 41 4 (0)) 41 5 (0)) 41 6 (0)) 41 7 (0)) 55 0 (0)) 55 1 (0)) 55 2 (0)) 55 3 (0))) _
          refine P0.go (k := 3) (s' := (67, [some (.ref 0), some (.int 4), some (.int b), some (.int (-1))], [.ref 26], 102, xshC, (xup (xup (xup (xup (xup (xup (xup (xup (xup (xup (xup (xup (xup (xup xMt 37 5 (0)) 37 6 (0)) 41 0 (0)) 41 1 (0)) 41 2 (0)) 41 3 (0)) 41 4 (0)) 41 5 (0)) 41 6 (0)) 41 7 (0)) 55 0 (0)) 55 1 (0)) 55 2 (0)) 55 3 (0)))) rfl ?_
          refine P0.call (z := 26) (as := [.ref 26]) (pc := 70) (pl := [some (.ref 0), some (.int 4), some (.int b), some (.int (-1))]) (st := []) (nz := 102) (sh := xshC) (M := (xup (xup (xup (xup (xup (xup (xup (xup (xup (xup (xup (xup (xup (xup xMt 37 5 (0)) 37 6 (0)) 41 0 (0)) 41 1 (0)) 41 2 (0)) 41 3 (0)) 41 4 (0)) 41 5 (0)) 41 6 (0)) 41 7 (0)) 55 0 (0)) 55 1 (0)) 55 2 (0)) 55 3 (0))) rfl (Nat.le_of_ble_eq_true rfl) ?_
          show P0 26 (0, [some (.ref 26)], [], 102, xshC, (xup (xup (xup (xup (xup (xup (xup (xup (xup (xup (xup (xup (xup (xup xMt 37 5 (0)) 37 6 (0)) 41 0 (0)) 41 1 (0)) 41 2 (0)) 41 3 (0)) 41 4 (0)) 41 5 (0)) 41 6 (0)) 41 7 (0)) 55 0 (0)) 55 1 (0)) 55 2 (0)) 55 3 (0))) _
          refine P0.go (k := 5) (s' := (14, [some (.ref 26)], [.int 0], 102, xshC, (xup (xup (xup (xup (xup (xup (xup (xup (xup (xup (xup (xup (xup (xup xMt 37 5 (0)) 37 6 (0)) 41 0 (0)) 41 1 (0)) 41 2 (0)) 41 3 (0)) 41 4 (0)) 41 5 (0)) 41 6 (0)) 41 7 (0)) 55 0 (0)) 55 1 (0)) 55 2 (0)) 55 3 (0)))) rfl ?_
          refine P0.ret (v := some (.int 0)) rfl ?_
          refine ⟨rfl, ?_⟩
          show P0 115 (70, [some (.ref 0), some (.int 4), some (.int b), some (.int (-1))], [.int 0], 102, xshC, (xup (xup (xup (xup (xup (xup (xup (xup (xup (xup (xup (xup (xup (xup xMt 37 5 (0)) 37 6 (0)) 41 0 (0)) 41 1 (0)) 41 2 (0)) 41 3 (0)) 41 4 (0)) 41 5 (0)) 41 6 (0)) 41 7 (0)) 55 0 (0)) 55 1 (0)) 55 2 (0)) 55 3 (0))) _
          refine P0.go (k := 8) (s' := (87, [some (.ref 0), some (.int 4), some (.int b), some (.int (-1))], [.int (-1), .ref 17, .int b, .int 4, .ref 26], 102, xshC, (xup (xup (xup (xup (xup (xup (xup (xup (xup (xup (xup (xup (xup (xup xMt 37 5 (0)) 37 6 (0)) 41 0 (0)) 41 1 (0)) 41 2 (0)) 41 3 (0)) 41 4 (0)) 41 5 (0)) 41 6 (0)) 41 7 (0)) 55 0 (0)) 55 1 (0)) 55 2 (0)) 55 3 (0)))) rfl ?_
          refine P0.call (z := 52) (as := [.ref 17, .int (-1)]) (pc := 90) (pl := [some (.ref 0), some (.int 4), some (.int b), some (.int (-1))]) (st := [.int b, .int 4, .ref 26]) (nz := 102) (sh := xshC) (M := (xup (xup (xup (xup (xup (xup (xup (xup (xup (xup (xup (xup (xup (xup xMt 37 5 (0)) 37 6 (0)) 41 0 (0)) 41 1 (0)) 41 2 (0)) 41 3 (0)) 41 4 (0)) 41 5 (0)) 41 6 (0)) 41 7 (0)) 55 0 (0)) 55 1 (0)) 55 2 (0)) 55 3 (0))) rfl (Nat.le_of_ble_eq_true rfl) ?_
          show P0 52 (0, [some (.ref 17), some (.int (-1))], [], 102, xshC, (xup (xup (xup (xup (xup (xup (xup (xup (xup (xup (xup (xup (xup (xup xMt 37 5 (0)) 37 6 (0)) 41 0 (0)) 41 1 (0)) 41 2 (0)) 41 3 (0)) 41 4 (0)) 41 5 (0)) 41 6 (0)) 41 7 (0)) 55 0 (0)) 55 1 (0)) 55 2 (0)) 55 3 (0))) _
          refine P0.go (k := 5) (s' := (15, [some (.ref 17), some (.int (-1))], [.int 0], 102, xshC, (xup (xup (xup (xup (xup (xup (xup (xup (xup (xup (xup (xup (xup (xup xMt 37 5 (0)) 37 6 (0)) 41 0 (0)) 41 1 (0)) 41 2 (0)) 41 3 (0)) 41 4 (0)) 41 5 (0)) 41 6 (0)) 41 7 (0)) 55 0 (0)) 55 1 (0)) 55 2 (0)) 55 3 (0)))) rfl ?_
          refine P0.ret (v := some (.int 0)) rfl ?_
          refine ⟨rfl, ?_⟩
          show P0 115 (90, [some (.ref 0), some (.int 4), some (.int b), some (.int (-1))], [.int 0, .int b, .int 4, .ref 26], 102, xshC, (xup (xup (xup (xup (xup (xup (xup (xup (xup (xup (xup (xup (xup (xup xMt 37 5 (0)) 37 6 (0)) 41 0 (0)) 41 1 (0)) 41 2 (0)) 41 3 (0)) 41 4 (0)) 41 5 (0)) 41 6 (0)) 41 7 (0)) 55 0 (0)) 55 1 (0)) 55 2 (0)) 55 3 (0))) _
          refine P0.go (k := 3) (s' := (95, [some (.ref 0), some (.int 4), some (.int b), some (.int (-1))], [.int (-1), .ref 17, .int 0, .int b, .int 4, .ref 26], 102, xshC, (xup (xup (xup (xup (xup (xup (xup (xup (xup (xup (xup (xup (xup (xup xMt 37 5 (0)) 37 6 (0)) 41 0 (0)) 41 1 (0)) 41 2 (0)) 41 3 (0)) 41 4 (0)) 41 5 (0)) 41 6 (0)) 41 7 (0)) 55 0 (0)) 55 1 (0)) 55 2 (0)) 55 3 (0)))) rfl ?_
          refine P0.call (z := 53) (as := [.ref 17, .int (-1)]) (pc := 98) (pl := [some (.ref 0), some (.int 4), some (.int b), some (.int (-1))]) (st := [.int 0, .int b, .int 4, .ref 26]) (nz := 102) (sh := xshC) (M := (xup (xup (xup (xup (xup (xup (xup (xup (xup (xup (xup (xup (xup (xup xMt 37 5 (0)) 37 6 (0)) 41 0 (0)) 41 1 (0)) 41 2 (0)) 41 3 (0)) 41 4 (0)) 41 5 (0)) 41 6 (0)) 41 7 (0)) 55 0 (0)) 55 1 (0)) 55 2 (0)) 55 3 (0))) rfl (Nat.le_of_ble_eq_true rfl) ?_
          show P0 53 (0, [some (.ref 17), some (.int (-1))], [], 102, xshC, (xup (xup (xup (xup (xup (xup (xup (xup (xup (xup (xup (xup (xup (xup xMt 37 5 (0)) 37 6 (0)) 41 0 (0)) 41 1 (0)) 41 2 (0)) 41 3 (0)) 41 4 (0)) 41 5 (0)) 41 6 (0)) 41 7 (0)) 55 0 (0)) 55 1 (0)) 55 2 (0)) 55 3 (0))) _
          refine P0.go (k := 5) (s' := (15, [some (.ref 17), some (.int (-1))], [.int 1], 102, xshC, (xup (xup (xup (xup (xup (xup (xup (xup (xup (xup (xup (xup (xup (xup xMt 37 5 (0)) 37 6 (0)) 41 0 (0)) 41 1 (0)) 41 2 (0)) 41 3 (0)) 41 4 (0)) 41 5 (0)) 41 6 (0)) 41 7 (0)) 55 0 (0)) 55 1 (0)) 55 2 (0)) 55 3 (0)))) rfl ?_
          refine P0.ret (v := some (.int 1)) rfl ?_
          refine ⟨rfl, ?_⟩
          show P0 115 (98, [some (.ref 0), some (.int 4), some (.int b), some (.int (-1))], [.int 1, .int 0, .int b, .int 4, .ref 26], 102, xshC, (xup (xup (xup (xup (xup (xup (xup (xup (xup (xup (xup (xup (xup (xup xMt 37 5 (0)) 37 6 (0)) 41 0 (0)) 41 1 (0)) 41 2 (0)) 41 3 (0)) 41 4 (0)) 41 5 (0)) 41 6 (0)) 41 7 (0)) 55 0 (0)) 55 1 (0)) 55 2 (0)) 55 3 (0))) _
          refine P0.go (k := 3) (s' := (103, [some (.ref 0), some (.int 4), some (.int b), some (.int (-1))], [.int (-1), .ref 17, .int 1, .int 0, .int b, .int 4, .ref 26], 102, xshC, (xup (xup (xup (xup (xup (xup (xup (xup (xup (xup (xup (xup (xup (xup xMt 37 5 (0)) 37 6 (0)) 41 0 (0)) 41 1 (0)) 41 2 (0)) 41 3 (0)) 41 4 (0)) 41 5 (0)) 41 6 (0)) 41 7 (0)) 55 0 (0)) 55 1 (0)) 55 2 (0)) 55 3 (0)))) rfl ?_
          refine P0.call (z := 54) (as := [.ref 17, .int (-1)]) (pc := 106) (pl := [some (.ref 0), some (.int 4), some (.int b), some (.int (-1))]) (st := [.int 1, .int 0, .int b, .int 4, .ref 26]) (nz := 102) (sh := xshC) (M := (xup (xup (xup (xup (xup (xup (xup (xup (xup (xup (xup (xup (xup (xup xMt 37 5 (0)) 37 6 (0)) 41 0 (0)) 41 1 (0)) 41 2 (0)) 41 3 (0)) 41 4 (0)) 41 5 (0)) 41 6 (0)) 41 7 (0)) 55 0 (0)) 55 1 (0)) 55 2 (0)) 55 3 (0))) rfl (Nat.le_of_ble_eq_true rfl) ?_
          show P0 54 (0, [some (.ref 17), some (.int (-1))], [], 102, xshC, (xup (xup (xup (xup (xup (xup (xup (xup (xup (xup (xup (xup (xup (xup xMt 37 5 (0)) 37 6 (0)) 41 0 (0)) 41 1 (0)) 41 2 (0)) 41 3 (0)) 41 4 (0)) 41 5 (0)) 41 6 (0)) 41 7 (0)) 55 0 (0)) 55 1 (0)) 55 2 (0)) 55 3 (0))) _
          refine P0.go (k := 5) (s' := (15, [some (.ref 17), some (.int (-1))], [.int 2], 102, xshC, (xup (xup (xup (xup (xup (xup (xup (xup (xup (xup (xup (xup (xup (xup xMt 37 5 (0)) 37 6 (0)) 41 0 (0)) 41 1 (0)) 41 2 (0)) 41 3 (0)) 41 4 (0)) 41 5 (0)) 41 6 (0)) 41 7 (0)) 55 0 (0)) 55 1 (0)) 55 2 (0)) 55 3 (0)))) rfl ?_
          refine P0.ret (v := some (.int 2)) rfl ?_
          refine ⟨rfl, ?_⟩
          show P0 115 (106, [some (.ref 0), some (.int 4), some (.int b), some (.int (-1))], [.int 2, .int 1, .int 0, .int b, .int 4, .ref 26], 102, xshC, (xup (xup (xup (xup (xup (xup (xup (xup (xup (xup (xup (xup (xup (xup xMt 37 5 (0)) 37 6 (0)) 41 0 (0)) 41 1 (0)) 41 2 (0)) 41 3 (0)) 41 4 (0)) 41 5 (0)) 41 6 (0)) 41 7 (0)) 55 0 (0)) 55 1 (0)) 55 2 (0)) 55 3 (0))) _
          refine P0.call (z := 28) (as := [.ref 26, .int 4, .int b, .int 0, .int 1, .int 2]) (pc := 109) (pl := [some (.ref 0), some (.int 4), some (.int b), some (.int (-1))]) (st := []) (nz := 102) (sh := xshC) (M := (xup (xup (xup (xup (xup (xup (xup (xup (xup (xup (xup (xup (xup (xup xMt 37 5 (0)) 37 6 (0)) 41 0 (0)) 41 1 (0)) 41 2 (0)) 41 3 (0)) 41 4 (0)) 41 5 (0)) 41 6 (0)) 41 7 (0)) 55 0 (0)) 55 1 (0)) 55 2 (0)) 55 3 (0))) rfl (Nat.le_of_ble_eq_true rfl) ?_
          show P0 28 (0, [some (.ref 26), some (.int 4), some (.int b), some (.int 0), some (.int 1), some (.int 2)], [], 102, xshC, (xup (xup (xup (xup (xup (xup (xup (xup (xup (xup (xup (xup (xup (xup xMt 37 5 (0)) 37 6 (0)) 41 0 (0)) 41 1 (0)) 41 2 (0)) 41 3 (0)) 41 4 (0)) 41 5 (0)) 41 6 (0)) 41 7 (0)) 55 0 (0)) 55 1 (0)) 55 2 (0)) 55 3 (0))) _
          refine P0.go (k := 37) (s' := (63, [some (.ref 26), some (.int 4), some (.int b), some (.int 0), some (.int 1), some (.int 2)], [.int 1], 102, xshC, (xup (xup (xup (xup (xup (xup (xup (xup (xup (xup (xup (xup (xup (xup (xup (xup (xup (xup (xup (xup xMt 37 5 (0)) 37 6 (0)) 41 0 (0)) 41 1 (0)) 41 2 (0)) 41 3 (0)) 41 4 (0)) 41 5 (0)) 41 6 (0)) 41 7 (0)) 55 0 (0)) 55 1 (0)) 55 2 (0)) 55 3 (0)) 27 0 (4)) 28 0 (b)) 29 0 (0)) 30 0 (1)) 31 0 (2)) 26 5 (1)))) rfl ?_
          refine P0.ret (v := some (.int 1)) rfl ?_
          refine ⟨rfl, ?_⟩
          show P0 115 (109, [some (.ref 0), some (.int 4), some (.int b), some (.int (-1))], [.int 1], 102, xshC, (xup (xup (xup (xup (xup (xup (xup (xup (xup (xup (xup (xup (xup (xup (xup (xup (xup (xup (xup (xup xMt 37 5 (0)) 37 6 (0)) 41 0 (0)) 41 1 (0)) 41 2 (0)) 41 3 (0)) 41 4 (0)) 41 5 (0)) 41 6 (0)) 41 7 (0)) 55 0 (0)) 55 1 (0)) 55 2 (0)) 55 3 (0)) 27 0 (4)) 28 0 (b)) 29 0 (0)) 30 0 (1)) 31 0 (2)) 26 5 (1))) _
          refine P0.ret (v := some (.int 1)) rfl ?_
          exact congrArg (fun z => some (Value.int z)) (show 1 = F_move 4 b from by unfold F_move; (repeat' split) <;> first | rfl | (exfalso; simp only [Int32.lt_iff_toInt_lt, Int32.le_iff_toInt_le, Int64.lt_iff_toInt_lt, Int64.le_iff_toInt_le, ← Int32.toInt_inj, Int32.toInt_toInt64, xl_0, xl_1, xl_2, xl_3, xl_4, xl_5, xl_6, xl_7, xl_8, xl_9, xl_10, xl_11, xl_12, xl_13, xl_20, xl_30, xl_59, xl_63, xl_64, xl_99, xl_100, xl_120, xl_999, xl_m1, xl_m2, xl_m3, xl_m4, xl_m5, xL_0, xL_1, xL_2, xL_3, xL_4, xL_5, xL_6, xL_7, xL_8, xL_20, xL_59, xL_63, xL_99, xL_999] at *; omega) | (exfalso; simp_all; done))
      exact absurd True.intro (by exfalso; simp only [Int32.lt_iff_toInt_lt, Int32.le_iff_toInt_le, Int64.lt_iff_toInt_lt, Int64.le_iff_toInt_le, ← Int32.toInt_inj, Int32.toInt_toInt64, xl_0, xl_1, xl_2, xl_3, xl_4, xl_5, xl_6, xl_7, xl_8, xl_9, xl_10, xl_11, xl_12, xl_13, xl_20, xl_30, xl_59, xl_63, xl_64, xl_99, xl_100, xl_120, xl_999, xl_m1, xl_m2, xl_m3, xl_m4, xl_m5, xL_0, xL_1, xL_2, xL_3, xL_4, xL_5, xL_6, xL_7, xL_8, xL_20, xL_59, xL_63, xL_99, xL_999] at *; omega)
set_option maxRecDepth 100000 in
set_option maxHeartbeats 4000000 in
theorem wc_vote (a : Int32) : P0 116 (0, [some (.ref 0), some (.int a), none], [], 102, xshC, xMt) (fun r => r.1 = some (.int (F_vote a))) := by
  refine P0.go (k := 3) (s' := (5, [some (.ref 0), some (.int a), none], [.int a, .ref 5], 102, xshC, xMt)) rfl ?_
  refine P0.call (z := 75) (as := [.ref 5, .int a]) (pc := 8) (pl := [some (.ref 0), some (.int a), none]) (st := []) (nz := 102) (sh := xshC) (M := xMt) rfl (Nat.le_of_ble_eq_true rfl) ?_
  show P0 75 (0, [some (.ref 5), some (.int a)], [], 102, xshC, xMt) _
  refine P0.go (k := 4) (s' := (6, [some (.ref 5), some (.int a)], [.int ((a.toUInt32 >>> ((0 : Int32).toUInt32 &&& Int32.toUInt32 31)).toInt32)], 102, xshC, xMt)) rfl ?_
  rw [xushr0]
  refine P0.go (k := 1) (s' := (xcmp .eq (a) (0) 13 9, [some (.ref 5), some (.int a)], [], 102, xshC, xMt)) rfl ?_
  refine P0.eq (fun h1 => ?_) (fun h1 => ?_)
  · refine P0.go (k := 1) (s' := (14, [some (.ref 5), some (.int a)], [.int 0], 102, xshC, xMt)) rfl ?_
    refine P0.ret (v := some (.int 0)) rfl ?_
    refine ⟨rfl, ?_⟩
    show P0 116 (8, [some (.ref 0), some (.int a), none], [.int 0], 102, xshC, xMt) _
    refine P0.go (k := 3) (s' := (18, [some (.ref 0), some (.int a), none], [.ref 26], 102, xshC, xMt)) rfl ?_
    refine P0.call (z := 25) (as := [.ref 26]) (pc := 21) (pl := [some (.ref 0), some (.int a), none]) (st := []) (nz := 102) (sh := xshC) (M := xMt) rfl (Nat.le_of_ble_eq_true rfl) ?_
    show P0 25 (0, [some (.ref 26)], [], 102, xshC, xMt) _
    refine P0.go (k := 5) (s' := (12, [some (.ref 26)], [.int 1], 102, xshC, xMt)) rfl ?_
    refine P0.ret (v := some (.int 1)) rfl ?_
    refine ⟨rfl, ?_⟩
    show P0 116 (21, [some (.ref 0), some (.int a), none], [.int 1], 102, xshC, xMt) _
    refine P0.go (k := 2) (s' := (26, [some (.ref 0), some (.int a), none], [.int (-3)], 102, xshC, xMt)) rfl ?_
    refine P0.ret (v := some (.int (-3))) rfl ?_
    exact congrArg (fun z => some (Value.int z)) (show (-3) = F_vote a from by unfold F_vote; (repeat' split) <;> first | rfl | (exfalso; simp only [Int32.lt_iff_toInt_lt, Int32.le_iff_toInt_le, Int64.lt_iff_toInt_lt, Int64.le_iff_toInt_le, ← Int32.toInt_inj, Int32.toInt_toInt64, xl_0, xl_1, xl_2, xl_3, xl_4, xl_5, xl_6, xl_7, xl_8, xl_9, xl_10, xl_11, xl_12, xl_13, xl_20, xl_30, xl_59, xl_63, xl_64, xl_99, xl_100, xl_120, xl_999, xl_m1, xl_m2, xl_m3, xl_m4, xl_m5, xL_0, xL_1, xL_2, xL_3, xL_4, xL_5, xL_6, xL_7, xL_8, xL_20, xL_59, xL_63, xL_99, xL_999] at *; omega) | (exfalso; simp_all; done))
  · refine P0.go (k := 2) (s' := (14, [some (.ref 5), some (.int a)], [.int 1], 102, xshC, xMt)) rfl ?_
    refine P0.ret (v := some (.int 1)) rfl ?_
    refine ⟨rfl, ?_⟩
    show P0 116 (8, [some (.ref 0), some (.int a), none], [.int 1], 102, xshC, xMt) _
    refine P0.go (k := 2) (s' := (13, [some (.ref 0), some (.int a), none], [.int (-2)], 102, xshC, xMt)) rfl ?_
    refine P0.ret (v := some (.int (-2))) rfl ?_
    exact congrArg (fun z => some (Value.int z)) (show (-2) = F_vote a from by unfold F_vote; (repeat' split) <;> first | rfl | (exfalso; simp only [Int32.lt_iff_toInt_lt, Int32.le_iff_toInt_le, Int64.lt_iff_toInt_lt, Int64.le_iff_toInt_le, ← Int32.toInt_inj, Int32.toInt_toInt64, xl_0, xl_1, xl_2, xl_3, xl_4, xl_5, xl_6, xl_7, xl_8, xl_9, xl_10, xl_11, xl_12, xl_13, xl_20, xl_30, xl_59, xl_63, xl_64, xl_99, xl_100, xl_120, xl_999, xl_m1, xl_m2, xl_m3, xl_m4, xl_m5, xL_0, xL_1, xL_2, xL_3, xL_4, xL_5, xL_6, xL_7, xL_8, xL_20, xL_59, xL_63, xL_99, xL_999] at *; omega) | (exfalso; simp_all; done))
set_option maxRecDepth 100000 in
set_option maxHeartbeats 4000000 in
theorem wc_motion (a b : Int32) : P0 117 (0, [some (.ref 0), some (.int a), some (.int b)], [], 102, xshC, xMt) (fun r => r.1 = some (.int (F_motion a b))) := by
  refine P0.go (k := 3) (s' := (5, [some (.ref 0), some (.int a), some (.int b)], [.int a, .ref 26], 102, xshC, xMt)) rfl ?_
  refine P0.call (z := 24) (as := [.ref 26, .int a]) (pc := 8) (pl := [some (.ref 0), some (.int a), some (.int b)]) (st := []) (nz := 102) (sh := xshC) (M := xMt) rfl (Nat.le_of_ble_eq_true rfl) ?_
  show P0 24 (0, [some (.ref 26), some (.int a)], [], 102, xshC, xMt) _
  refine P0.go (k := 6) (s' := (8, [some (.ref 26), some (.int a)], [.int (((0) - (1) : Int32)), .int 0, .int a], 102, xshC, xMt)) rfl ?_
  refine P0.topi (x' := (-1)) (by decide) ?_
  refine P0.call (z := 136) (as := [.int a, .int 0, .int (-1)]) (pc := 11) (pl := [some (.ref 26), some (.int a)]) (st := []) (nz := 102) (sh := xshC) (M := xMt) rfl (Nat.le_of_ble_eq_true rfl) ?_
  show P0 136 (0, [some (.int a), some (.int 0), some (.int (-1))], [], 102, xshC, xMt) _
  refine P0.go (k := 3) (s' := (xcmp .gt (0) (a) 14 5, [some (.int a), some (.int 0), some (.int (-1))], [], 102, xshC, xMt)) rfl ?_
  refine P0.gt (fun h1 => ?_) (fun h1 => ?_)
  · refine P0.go (k := 1) (s' := (15, [some (.int a), some (.int 0), some (.int (-1))], [.int 0], 102, xshC, xMt)) rfl ?_
    refine P0.ret (v := some (.int 0)) rfl ?_
    refine ⟨rfl, ?_⟩
    show P0 24 (11, [some (.ref 26), some (.int a)], [.int 0], 102, xshC, xMt) _
    refine P0.ret (v := some (.int 0)) rfl ?_
    refine ⟨rfl, ?_⟩
    show P0 117 (8, [some (.ref 0), some (.int a), some (.int b)], [.int 0], 102, xshC, xMt) _
    refine P0.go (k := 2) (s' := (12, [some (.ref 0), some (.int a), some (.int b)], [.int (-1)], 102, xshC, xMt)) rfl ?_
    refine P0.ret (v := some (.int (-1))) rfl ?_
    exact congrArg (fun z => some (Value.int z)) (show (-1) = F_motion a b from by unfold F_motion; (repeat' split) <;> first | rfl | (exfalso; simp only [Int32.lt_iff_toInt_lt, Int32.le_iff_toInt_le, Int64.lt_iff_toInt_lt, Int64.le_iff_toInt_le, ← Int32.toInt_inj, Int32.toInt_toInt64, xl_0, xl_1, xl_2, xl_3, xl_4, xl_5, xl_6, xl_7, xl_8, xl_9, xl_10, xl_11, xl_12, xl_13, xl_20, xl_30, xl_59, xl_63, xl_64, xl_99, xl_100, xl_120, xl_999, xl_m1, xl_m2, xl_m3, xl_m4, xl_m5, xL_0, xL_1, xL_2, xL_3, xL_4, xL_5, xL_6, xL_7, xL_8, xL_20, xL_59, xL_63, xL_99, xL_999] at *; omega) | (exfalso; simp_all; done))
  · refine P0.go (k := 3) (s' := (xcmp .gt (a) ((-1)) 14 10, [some (.int a), some (.int 0), some (.int (-1))], [], 102, xshC, xMt)) rfl ?_
    refine P0.gt (fun h2 => ?_) (fun h2 => absurd True.intro (by exfalso; simp only [Int32.lt_iff_toInt_lt, Int32.le_iff_toInt_le, Int64.lt_iff_toInt_lt, Int64.le_iff_toInt_le, ← Int32.toInt_inj, Int32.toInt_toInt64, xl_0, xl_1, xl_2, xl_3, xl_4, xl_5, xl_6, xl_7, xl_8, xl_9, xl_10, xl_11, xl_12, xl_13, xl_20, xl_30, xl_59, xl_63, xl_64, xl_99, xl_100, xl_120, xl_999, xl_m1, xl_m2, xl_m3, xl_m4, xl_m5, xL_0, xL_1, xL_2, xL_3, xL_4, xL_5, xL_6, xL_7, xL_8, xL_20, xL_59, xL_63, xL_99, xL_999] at *; omega))
    refine P0.go (k := 1) (s' := (15, [some (.int a), some (.int 0), some (.int (-1))], [.int 0], 102, xshC, xMt)) rfl ?_
    refine P0.ret (v := some (.int 0)) rfl ?_
    refine ⟨rfl, ?_⟩
    show P0 24 (11, [some (.ref 26), some (.int a)], [.int 0], 102, xshC, xMt) _
    refine P0.ret (v := some (.int 0)) rfl ?_
    refine ⟨rfl, ?_⟩
    show P0 117 (8, [some (.ref 0), some (.int a), some (.int b)], [.int 0], 102, xshC, xMt) _
    refine P0.go (k := 2) (s' := (12, [some (.ref 0), some (.int a), some (.int b)], [.int (-1)], 102, xshC, xMt)) rfl ?_
    refine P0.ret (v := some (.int (-1))) rfl ?_
    exact congrArg (fun z => some (Value.int z)) (show (-1) = F_motion a b from by unfold F_motion; (repeat' split) <;> first | rfl | (exfalso; simp only [Int32.lt_iff_toInt_lt, Int32.le_iff_toInt_le, Int64.lt_iff_toInt_lt, Int64.le_iff_toInt_le, ← Int32.toInt_inj, Int32.toInt_toInt64, xl_0, xl_1, xl_2, xl_3, xl_4, xl_5, xl_6, xl_7, xl_8, xl_9, xl_10, xl_11, xl_12, xl_13, xl_20, xl_30, xl_59, xl_63, xl_64, xl_99, xl_100, xl_120, xl_999, xl_m1, xl_m2, xl_m3, xl_m4, xl_m5, xL_0, xL_1, xL_2, xL_3, xL_4, xL_5, xL_6, xL_7, xL_8, xL_20, xL_59, xL_63, xL_99, xL_999] at *; omega) | (exfalso; simp_all; done))
set_option maxRecDepth 100000 in
set_option maxHeartbeats 4000000 in
theorem wc_bind (a b : Int32) : P0 118 (0, [some (.ref 0), some (.int a), some (.int b)], [], 102, xshC, xMt) (fun r => r.1 = some (.int (F_bind a b))) := by
  refine P0.go (k := 1) (s' := (1, [some (.ref 0), some (.int a), some (.int b)], [.int a], 102, xshC, xMt)) rfl ?_
  refine P0.call (z := 137) (as := [.int a]) (pc := 4) (pl := [some (.ref 0), some (.int a), some (.int b)]) (st := []) (nz := 102) (sh := xshC) (M := xMt) rfl (Nat.le_of_ble_eq_true rfl) ?_
  show P0 137 (0, [some (.int a)], [], 102, xshC, xMt) _
  refine P0.go (k := 3) (s' := (4, [some (.int a)], [.int 7, .int 0, .int a], 102, xshC, xMt)) rfl ?_
  refine P0.call (z := 136) (as := [.int a, .int 0, .int 7]) (pc := 7) (pl := [some (.int a)]) (st := []) (nz := 102) (sh := xshC) (M := xMt) rfl (Nat.le_of_ble_eq_true rfl) ?_
  show P0 136 (0, [some (.int a), some (.int 0), some (.int 7)], [], 102, xshC, xMt) _
  refine P0.go (k := 3) (s' := (xcmp .gt (0) (a) 14 5, [some (.int a), some (.int 0), some (.int 7)], [], 102, xshC, xMt)) rfl ?_
  refine P0.gt (fun h1 => ?_) (fun h1 => ?_)
  · refine P0.go (k := 1) (s' := (15, [some (.int a), some (.int 0), some (.int 7)], [.int 0], 102, xshC, xMt)) rfl ?_
    refine P0.ret (v := some (.int 0)) rfl ?_
    refine ⟨rfl, ?_⟩
    show P0 137 (7, [some (.int a)], [.int 0], 102, xshC, xMt) _
    refine P0.ret (v := some (.int 0)) rfl ?_
    refine ⟨rfl, ?_⟩
    show P0 118 (4, [some (.ref 0), some (.int a), some (.int b)], [.int 0], 102, xshC, xMt) _
    refine P0.go (k := 2) (s' := (21, [some (.ref 0), some (.int a), some (.int b)], [.int (-5)], 102, xshC, xMt)) rfl ?_
    refine P0.ret (v := some (.int (-5))) rfl ?_
    exact congrArg (fun z => some (Value.int z)) (show (-5) = F_bind a b from by unfold F_bind; (repeat' split) <;> first | rfl | (exfalso; simp only [Int32.lt_iff_toInt_lt, Int32.le_iff_toInt_le, Int64.lt_iff_toInt_lt, Int64.le_iff_toInt_le, ← Int32.toInt_inj, Int32.toInt_toInt64, xl_0, xl_1, xl_2, xl_3, xl_4, xl_5, xl_6, xl_7, xl_8, xl_9, xl_10, xl_11, xl_12, xl_13, xl_20, xl_30, xl_59, xl_63, xl_64, xl_99, xl_100, xl_120, xl_999, xl_m1, xl_m2, xl_m3, xl_m4, xl_m5, xL_0, xL_1, xL_2, xL_3, xL_4, xL_5, xL_6, xL_7, xL_8, xL_20, xL_59, xL_63, xL_99, xL_999] at *; omega) | (exfalso; simp_all; done))
  · refine P0.go (k := 3) (s' := (xcmp .gt (a) (7) 14 10, [some (.int a), some (.int 0), some (.int 7)], [], 102, xshC, xMt)) rfl ?_
    refine P0.gt (fun h2 => ?_) (fun h2 => ?_)
    · refine P0.go (k := 1) (s' := (15, [some (.int a), some (.int 0), some (.int 7)], [.int 0], 102, xshC, xMt)) rfl ?_
      refine P0.ret (v := some (.int 0)) rfl ?_
      refine ⟨rfl, ?_⟩
      show P0 137 (7, [some (.int a)], [.int 0], 102, xshC, xMt) _
      refine P0.ret (v := some (.int 0)) rfl ?_
      refine ⟨rfl, ?_⟩
      show P0 118 (4, [some (.ref 0), some (.int a), some (.int b)], [.int 0], 102, xshC, xMt) _
      refine P0.go (k := 2) (s' := (21, [some (.ref 0), some (.int a), some (.int b)], [.int (-5)], 102, xshC, xMt)) rfl ?_
      refine P0.ret (v := some (.int (-5))) rfl ?_
      exact congrArg (fun z => some (Value.int z)) (show (-5) = F_bind a b from by unfold F_bind; (repeat' split) <;> first | rfl | (exfalso; simp only [Int32.lt_iff_toInt_lt, Int32.le_iff_toInt_le, Int64.lt_iff_toInt_lt, Int64.le_iff_toInt_le, ← Int32.toInt_inj, Int32.toInt_toInt64, xl_0, xl_1, xl_2, xl_3, xl_4, xl_5, xl_6, xl_7, xl_8, xl_9, xl_10, xl_11, xl_12, xl_13, xl_20, xl_30, xl_59, xl_63, xl_64, xl_99, xl_100, xl_120, xl_999, xl_m1, xl_m2, xl_m3, xl_m4, xl_m5, xL_0, xL_1, xL_2, xL_3, xL_4, xL_5, xL_6, xL_7, xL_8, xL_20, xL_59, xL_63, xL_99, xL_999] at *; omega) | (exfalso; simp_all; done))
    · refine P0.go (k := 2) (s' := (15, [some (.int a), some (.int 0), some (.int 7)], [.int 1], 102, xshC, xMt)) rfl ?_
      refine P0.ret (v := some (.int 1)) rfl ?_
      refine ⟨rfl, ?_⟩
      show P0 137 (7, [some (.int a)], [.int 1], 102, xshC, xMt) _
      refine P0.ret (v := some (.int 1)) rfl ?_
      refine ⟨rfl, ?_⟩
      show P0 118 (4, [some (.ref 0), some (.int a), some (.int b)], [.int 1], 102, xshC, xMt) _
      refine P0.go (k := 4) (s' := (xcmp .eq (b) ((-1)) 22 12, [some (.ref 0), some (.int a), some (.int b)], [], 102, xshC, xMt)) rfl ?_
      refine P0.eq (fun h3 => ?_) (fun h3 => ?_)
      · refine P0.go (k := 5) (s' := (31, [some (.ref 0), some (.int a), some (.int b)], [.int b, .int a, .ref 43], 102, xshC, xMt)) rfl ?_
        refine P0.call (z := 142) (as := [.ref 43, .int a, .int b]) (pc := 34) (pl := [some (.ref 0), some (.int a), some (.int b)]) (st := []) (nz := 102) (sh := xshC) (M := xMt) rfl (Nat.le_of_ble_eq_true rfl) ?_
        show P0 142 (0, [some (.ref 43), some (.int a), some (.int b), none], [], 102, xshC, xMt) _
        refine P0.go (k := 2) (s' := (2, [some (.ref 43), some (.int a), some (.int b), none], [.int a, .ref 43], 102, xshC, xMt)) rfl ?_
        by_cases h4 : a = 0
        · subst h4
          refine P0.go (k := 7) (s' := (9, [some (.ref 43), some (.int 0), some (.int b), some (.int (-1))], [.int (-1)], 102, xshC, (xup xMt 43 0 (b)))) rfl ?_
          refine P0.ret (v := some (.int (-1))) rfl ?_
          refine ⟨rfl, ?_⟩
          show P0 118 (34, [some (.ref 0), some (.int 0), some (.int b)], [.int (-1)], 102, xshC, (xup xMt 43 0 (b))) _
          refine P0.ret (v := some (.int (-1))) rfl ?_
          exact congrArg (fun z => some (Value.int z)) (show (-1) = F_bind 0 b from by unfold F_bind; (repeat' split) <;> first | rfl | (exfalso; simp only [Int32.lt_iff_toInt_lt, Int32.le_iff_toInt_le, Int64.lt_iff_toInt_lt, Int64.le_iff_toInt_le, ← Int32.toInt_inj, Int32.toInt_toInt64, xl_0, xl_1, xl_2, xl_3, xl_4, xl_5, xl_6, xl_7, xl_8, xl_9, xl_10, xl_11, xl_12, xl_13, xl_20, xl_30, xl_59, xl_63, xl_64, xl_99, xl_100, xl_120, xl_999, xl_m1, xl_m2, xl_m3, xl_m4, xl_m5, xL_0, xL_1, xL_2, xL_3, xL_4, xL_5, xL_6, xL_7, xL_8, xL_20, xL_59, xL_63, xL_99, xL_999] at *; omega) | (exfalso; simp_all; done))
        by_cases h5 : a = 1
        · subst h5
          refine P0.go (k := 7) (s' := (9, [some (.ref 43), some (.int 1), some (.int b), some (.int (-1))], [.int (-1)], 102, xshC, (xup xMt 43 1 (b)))) rfl ?_
          refine P0.ret (v := some (.int (-1))) rfl ?_
          refine ⟨rfl, ?_⟩
          show P0 118 (34, [some (.ref 0), some (.int 1), some (.int b)], [.int (-1)], 102, xshC, (xup xMt 43 1 (b))) _
          refine P0.ret (v := some (.int (-1))) rfl ?_
          exact congrArg (fun z => some (Value.int z)) (show (-1) = F_bind 1 b from by unfold F_bind; (repeat' split) <;> first | rfl | (exfalso; simp only [Int32.lt_iff_toInt_lt, Int32.le_iff_toInt_le, Int64.lt_iff_toInt_lt, Int64.le_iff_toInt_le, ← Int32.toInt_inj, Int32.toInt_toInt64, xl_0, xl_1, xl_2, xl_3, xl_4, xl_5, xl_6, xl_7, xl_8, xl_9, xl_10, xl_11, xl_12, xl_13, xl_20, xl_30, xl_59, xl_63, xl_64, xl_99, xl_100, xl_120, xl_999, xl_m1, xl_m2, xl_m3, xl_m4, xl_m5, xL_0, xL_1, xL_2, xL_3, xL_4, xL_5, xL_6, xL_7, xL_8, xL_20, xL_59, xL_63, xL_99, xL_999] at *; omega) | (exfalso; simp_all; done))
        by_cases h6 : a = 2
        · subst h6
          refine P0.go (k := 7) (s' := (9, [some (.ref 43), some (.int 2), some (.int b), some (.int (-1))], [.int (-1)], 102, xshC, (xup xMt 43 2 (b)))) rfl ?_
          refine P0.ret (v := some (.int (-1))) rfl ?_
          refine ⟨rfl, ?_⟩
          show P0 118 (34, [some (.ref 0), some (.int 2), some (.int b)], [.int (-1)], 102, xshC, (xup xMt 43 2 (b))) _
          refine P0.ret (v := some (.int (-1))) rfl ?_
          exact congrArg (fun z => some (Value.int z)) (show (-1) = F_bind 2 b from by unfold F_bind; (repeat' split) <;> first | rfl | (exfalso; simp only [Int32.lt_iff_toInt_lt, Int32.le_iff_toInt_le, Int64.lt_iff_toInt_lt, Int64.le_iff_toInt_le, ← Int32.toInt_inj, Int32.toInt_toInt64, xl_0, xl_1, xl_2, xl_3, xl_4, xl_5, xl_6, xl_7, xl_8, xl_9, xl_10, xl_11, xl_12, xl_13, xl_20, xl_30, xl_59, xl_63, xl_64, xl_99, xl_100, xl_120, xl_999, xl_m1, xl_m2, xl_m3, xl_m4, xl_m5, xL_0, xL_1, xL_2, xL_3, xL_4, xL_5, xL_6, xL_7, xL_8, xL_20, xL_59, xL_63, xL_99, xL_999] at *; omega) | (exfalso; simp_all; done))
        by_cases h7 : a = 3
        · subst h7
          refine P0.go (k := 7) (s' := (9, [some (.ref 43), some (.int 3), some (.int b), some (.int (-1))], [.int (-1)], 102, xshC, (xup xMt 43 3 (b)))) rfl ?_
          refine P0.ret (v := some (.int (-1))) rfl ?_
          refine ⟨rfl, ?_⟩
          show P0 118 (34, [some (.ref 0), some (.int 3), some (.int b)], [.int (-1)], 102, xshC, (xup xMt 43 3 (b))) _
          refine P0.ret (v := some (.int (-1))) rfl ?_
          exact congrArg (fun z => some (Value.int z)) (show (-1) = F_bind 3 b from by unfold F_bind; (repeat' split) <;> first | rfl | (exfalso; simp only [Int32.lt_iff_toInt_lt, Int32.le_iff_toInt_le, Int64.lt_iff_toInt_lt, Int64.le_iff_toInt_le, ← Int32.toInt_inj, Int32.toInt_toInt64, xl_0, xl_1, xl_2, xl_3, xl_4, xl_5, xl_6, xl_7, xl_8, xl_9, xl_10, xl_11, xl_12, xl_13, xl_20, xl_30, xl_59, xl_63, xl_64, xl_99, xl_100, xl_120, xl_999, xl_m1, xl_m2, xl_m3, xl_m4, xl_m5, xL_0, xL_1, xL_2, xL_3, xL_4, xL_5, xL_6, xL_7, xL_8, xL_20, xL_59, xL_63, xL_99, xL_999] at *; omega) | (exfalso; simp_all; done))
        by_cases h8 : a = 4
        · subst h8
          refine P0.go (k := 7) (s' := (9, [some (.ref 43), some (.int 4), some (.int b), some (.int (-1))], [.int (-1)], 102, xshC, (xup xMt 43 4 (b)))) rfl ?_
          refine P0.ret (v := some (.int (-1))) rfl ?_
          refine ⟨rfl, ?_⟩
          show P0 118 (34, [some (.ref 0), some (.int 4), some (.int b)], [.int (-1)], 102, xshC, (xup xMt 43 4 (b))) _
          refine P0.ret (v := some (.int (-1))) rfl ?_
          exact congrArg (fun z => some (Value.int z)) (show (-1) = F_bind 4 b from by unfold F_bind; (repeat' split) <;> first | rfl | (exfalso; simp only [Int32.lt_iff_toInt_lt, Int32.le_iff_toInt_le, Int64.lt_iff_toInt_lt, Int64.le_iff_toInt_le, ← Int32.toInt_inj, Int32.toInt_toInt64, xl_0, xl_1, xl_2, xl_3, xl_4, xl_5, xl_6, xl_7, xl_8, xl_9, xl_10, xl_11, xl_12, xl_13, xl_20, xl_30, xl_59, xl_63, xl_64, xl_99, xl_100, xl_120, xl_999, xl_m1, xl_m2, xl_m3, xl_m4, xl_m5, xL_0, xL_1, xL_2, xL_3, xL_4, xL_5, xL_6, xL_7, xL_8, xL_20, xL_59, xL_63, xL_99, xL_999] at *; omega) | (exfalso; simp_all; done))
        by_cases h9 : a = 5
        · subst h9
          refine P0.go (k := 7) (s' := (9, [some (.ref 43), some (.int 5), some (.int b), some (.int (-1))], [.int (-1)], 102, xshC, (xup xMt 43 5 (b)))) rfl ?_
          refine P0.ret (v := some (.int (-1))) rfl ?_
          refine ⟨rfl, ?_⟩
          show P0 118 (34, [some (.ref 0), some (.int 5), some (.int b)], [.int (-1)], 102, xshC, (xup xMt 43 5 (b))) _
          refine P0.ret (v := some (.int (-1))) rfl ?_
          exact congrArg (fun z => some (Value.int z)) (show (-1) = F_bind 5 b from by unfold F_bind; (repeat' split) <;> first | rfl | (exfalso; simp only [Int32.lt_iff_toInt_lt, Int32.le_iff_toInt_le, Int64.lt_iff_toInt_lt, Int64.le_iff_toInt_le, ← Int32.toInt_inj, Int32.toInt_toInt64, xl_0, xl_1, xl_2, xl_3, xl_4, xl_5, xl_6, xl_7, xl_8, xl_9, xl_10, xl_11, xl_12, xl_13, xl_20, xl_30, xl_59, xl_63, xl_64, xl_99, xl_100, xl_120, xl_999, xl_m1, xl_m2, xl_m3, xl_m4, xl_m5, xL_0, xL_1, xL_2, xL_3, xL_4, xL_5, xL_6, xL_7, xL_8, xL_20, xL_59, xL_63, xL_99, xL_999] at *; omega) | (exfalso; simp_all; done))
        by_cases h10 : a = 6
        · subst h10
          refine P0.go (k := 7) (s' := (9, [some (.ref 43), some (.int 6), some (.int b), some (.int (-1))], [.int (-1)], 102, xshC, (xup xMt 43 6 (b)))) rfl ?_
          refine P0.ret (v := some (.int (-1))) rfl ?_
          refine ⟨rfl, ?_⟩
          show P0 118 (34, [some (.ref 0), some (.int 6), some (.int b)], [.int (-1)], 102, xshC, (xup xMt 43 6 (b))) _
          refine P0.ret (v := some (.int (-1))) rfl ?_
          exact congrArg (fun z => some (Value.int z)) (show (-1) = F_bind 6 b from by unfold F_bind; (repeat' split) <;> first | rfl | (exfalso; simp only [Int32.lt_iff_toInt_lt, Int32.le_iff_toInt_le, Int64.lt_iff_toInt_lt, Int64.le_iff_toInt_le, ← Int32.toInt_inj, Int32.toInt_toInt64, xl_0, xl_1, xl_2, xl_3, xl_4, xl_5, xl_6, xl_7, xl_8, xl_9, xl_10, xl_11, xl_12, xl_13, xl_20, xl_30, xl_59, xl_63, xl_64, xl_99, xl_100, xl_120, xl_999, xl_m1, xl_m2, xl_m3, xl_m4, xl_m5, xL_0, xL_1, xL_2, xL_3, xL_4, xL_5, xL_6, xL_7, xL_8, xL_20, xL_59, xL_63, xL_99, xL_999] at *; omega) | (exfalso; simp_all; done))
        by_cases h11 : a = 7
        · subst h11
          refine P0.go (k := 7) (s' := (9, [some (.ref 43), some (.int 7), some (.int b), some (.int (-1))], [.int (-1)], 102, xshC, (xup xMt 43 7 (b)))) rfl ?_
          refine P0.ret (v := some (.int (-1))) rfl ?_
          refine ⟨rfl, ?_⟩
          show P0 118 (34, [some (.ref 0), some (.int 7), some (.int b)], [.int (-1)], 102, xshC, (xup xMt 43 7 (b))) _
          refine P0.ret (v := some (.int (-1))) rfl ?_
          exact congrArg (fun z => some (Value.int z)) (show (-1) = F_bind 7 b from by unfold F_bind; (repeat' split) <;> first | rfl | (exfalso; simp only [Int32.lt_iff_toInt_lt, Int32.le_iff_toInt_le, Int64.lt_iff_toInt_lt, Int64.le_iff_toInt_le, ← Int32.toInt_inj, Int32.toInt_toInt64, xl_0, xl_1, xl_2, xl_3, xl_4, xl_5, xl_6, xl_7, xl_8, xl_9, xl_10, xl_11, xl_12, xl_13, xl_20, xl_30, xl_59, xl_63, xl_64, xl_99, xl_100, xl_120, xl_999, xl_m1, xl_m2, xl_m3, xl_m4, xl_m5, xL_0, xL_1, xL_2, xL_3, xL_4, xL_5, xL_6, xL_7, xL_8, xL_20, xL_59, xL_63, xL_99, xL_999] at *; omega) | (exfalso; simp_all; done))
        exact absurd True.intro (by exfalso; simp only [Int32.lt_iff_toInt_lt, Int32.le_iff_toInt_le, Int64.lt_iff_toInt_lt, Int64.le_iff_toInt_le, ← Int32.toInt_inj, Int32.toInt_toInt64, xl_0, xl_1, xl_2, xl_3, xl_4, xl_5, xl_6, xl_7, xl_8, xl_9, xl_10, xl_11, xl_12, xl_13, xl_20, xl_30, xl_59, xl_63, xl_64, xl_99, xl_100, xl_120, xl_999, xl_m1, xl_m2, xl_m3, xl_m4, xl_m5, xL_0, xL_1, xL_2, xL_3, xL_4, xL_5, xL_6, xL_7, xL_8, xL_20, xL_59, xL_63, xL_99, xL_999] at *; omega)
      · refine P0.go (k := 1) (s' := (13, [some (.ref 0), some (.int a), some (.int b)], [.int b], 102, xshC, xMt)) rfl ?_
        refine P0.call (z := 138) (as := [.int b]) (pc := 16) (pl := [some (.ref 0), some (.int a), some (.int b)]) (st := []) (nz := 102) (sh := xshC) (M := xMt) rfl (Nat.le_of_ble_eq_true rfl) ?_
        show P0 138 (0, [some (.int b)], [], 102, xshC, xMt) _
        refine P0.go (k := 3) (s' := (4, [some (.int b)], [.int 7, .int 0, .int b], 102, xshC, xMt)) rfl ?_
        refine P0.call (z := 136) (as := [.int b, .int 0, .int 7]) (pc := 7) (pl := [some (.int b)]) (st := []) (nz := 102) (sh := xshC) (M := xMt) rfl (Nat.le_of_ble_eq_true rfl) ?_
        show P0 136 (0, [some (.int b), some (.int 0), some (.int 7)], [], 102, xshC, xMt) _
        refine P0.go (k := 3) (s' := (xcmp .gt (0) (b) 14 5, [some (.int b), some (.int 0), some (.int 7)], [], 102, xshC, xMt)) rfl ?_
        refine P0.gt (fun h12 => ?_) (fun h12 => ?_)
        · refine P0.go (k := 1) (s' := (15, [some (.int b), some (.int 0), some (.int 7)], [.int 0], 102, xshC, xMt)) rfl ?_
          refine P0.ret (v := some (.int 0)) rfl ?_
          refine ⟨rfl, ?_⟩
          show P0 138 (7, [some (.int b)], [.int 0], 102, xshC, xMt) _
          refine P0.ret (v := some (.int 0)) rfl ?_
          refine ⟨rfl, ?_⟩
          show P0 118 (16, [some (.ref 0), some (.int a), some (.int b)], [.int 0], 102, xshC, xMt) _
          refine P0.go (k := 2) (s' := (21, [some (.ref 0), some (.int a), some (.int b)], [.int (-5)], 102, xshC, xMt)) rfl ?_
          refine P0.ret (v := some (.int (-5))) rfl ?_
          exact congrArg (fun z => some (Value.int z)) (show (-5) = F_bind a b from by unfold F_bind; (repeat' split) <;> first | rfl | (exfalso; simp only [Int32.lt_iff_toInt_lt, Int32.le_iff_toInt_le, Int64.lt_iff_toInt_lt, Int64.le_iff_toInt_le, ← Int32.toInt_inj, Int32.toInt_toInt64, xl_0, xl_1, xl_2, xl_3, xl_4, xl_5, xl_6, xl_7, xl_8, xl_9, xl_10, xl_11, xl_12, xl_13, xl_20, xl_30, xl_59, xl_63, xl_64, xl_99, xl_100, xl_120, xl_999, xl_m1, xl_m2, xl_m3, xl_m4, xl_m5, xL_0, xL_1, xL_2, xL_3, xL_4, xL_5, xL_6, xL_7, xL_8, xL_20, xL_59, xL_63, xL_99, xL_999] at *; omega) | (exfalso; simp_all; done))
        · refine P0.go (k := 3) (s' := (xcmp .gt (b) (7) 14 10, [some (.int b), some (.int 0), some (.int 7)], [], 102, xshC, xMt)) rfl ?_
          refine P0.gt (fun h13 => ?_) (fun h13 => ?_)
          · refine P0.go (k := 1) (s' := (15, [some (.int b), some (.int 0), some (.int 7)], [.int 0], 102, xshC, xMt)) rfl ?_
            refine P0.ret (v := some (.int 0)) rfl ?_
            refine ⟨rfl, ?_⟩
            show P0 138 (7, [some (.int b)], [.int 0], 102, xshC, xMt) _
            refine P0.ret (v := some (.int 0)) rfl ?_
            refine ⟨rfl, ?_⟩
            show P0 118 (16, [some (.ref 0), some (.int a), some (.int b)], [.int 0], 102, xshC, xMt) _
            refine P0.go (k := 2) (s' := (21, [some (.ref 0), some (.int a), some (.int b)], [.int (-5)], 102, xshC, xMt)) rfl ?_
            refine P0.ret (v := some (.int (-5))) rfl ?_
            exact congrArg (fun z => some (Value.int z)) (show (-5) = F_bind a b from by unfold F_bind; (repeat' split) <;> first | rfl | (exfalso; simp only [Int32.lt_iff_toInt_lt, Int32.le_iff_toInt_le, Int64.lt_iff_toInt_lt, Int64.le_iff_toInt_le, ← Int32.toInt_inj, Int32.toInt_toInt64, xl_0, xl_1, xl_2, xl_3, xl_4, xl_5, xl_6, xl_7, xl_8, xl_9, xl_10, xl_11, xl_12, xl_13, xl_20, xl_30, xl_59, xl_63, xl_64, xl_99, xl_100, xl_120, xl_999, xl_m1, xl_m2, xl_m3, xl_m4, xl_m5, xL_0, xL_1, xL_2, xL_3, xL_4, xL_5, xL_6, xL_7, xL_8, xL_20, xL_59, xL_63, xL_99, xL_999] at *; omega) | (exfalso; simp_all; done))
          · refine P0.go (k := 2) (s' := (15, [some (.int b), some (.int 0), some (.int 7)], [.int 1], 102, xshC, xMt)) rfl ?_
            refine P0.ret (v := some (.int 1)) rfl ?_
            refine ⟨rfl, ?_⟩
            show P0 138 (7, [some (.int b)], [.int 1], 102, xshC, xMt) _
            refine P0.ret (v := some (.int 1)) rfl ?_
            refine ⟨rfl, ?_⟩
            show P0 118 (16, [some (.ref 0), some (.int a), some (.int b)], [.int 1], 102, xshC, xMt) _
            refine P0.go (k := 6) (s' := (31, [some (.ref 0), some (.int a), some (.int b)], [.int b, .int a, .ref 43], 102, xshC, xMt)) rfl ?_
            refine P0.call (z := 142) (as := [.ref 43, .int a, .int b]) (pc := 34) (pl := [some (.ref 0), some (.int a), some (.int b)]) (st := []) (nz := 102) (sh := xshC) (M := xMt) rfl (Nat.le_of_ble_eq_true rfl) ?_
            show P0 142 (0, [some (.ref 43), some (.int a), some (.int b), none], [], 102, xshC, xMt) _
            refine P0.go (k := 2) (s' := (2, [some (.ref 43), some (.int a), some (.int b), none], [.int a, .ref 43], 102, xshC, xMt)) rfl ?_
            by_cases h14 : a = 0
            · subst h14
              refine P0.go (k := 7) (s' := (9, [some (.ref 43), some (.int 0), some (.int b), some (.int (-1))], [.int (-1)], 102, xshC, (xup xMt 43 0 (b)))) rfl ?_
              refine P0.ret (v := some (.int (-1))) rfl ?_
              refine ⟨rfl, ?_⟩
              show P0 118 (34, [some (.ref 0), some (.int 0), some (.int b)], [.int (-1)], 102, xshC, (xup xMt 43 0 (b))) _
              refine P0.ret (v := some (.int (-1))) rfl ?_
              exact congrArg (fun z => some (Value.int z)) (show (-1) = F_bind 0 b from by unfold F_bind; (repeat' split) <;> first | rfl | (exfalso; simp only [Int32.lt_iff_toInt_lt, Int32.le_iff_toInt_le, Int64.lt_iff_toInt_lt, Int64.le_iff_toInt_le, ← Int32.toInt_inj, Int32.toInt_toInt64, xl_0, xl_1, xl_2, xl_3, xl_4, xl_5, xl_6, xl_7, xl_8, xl_9, xl_10, xl_11, xl_12, xl_13, xl_20, xl_30, xl_59, xl_63, xl_64, xl_99, xl_100, xl_120, xl_999, xl_m1, xl_m2, xl_m3, xl_m4, xl_m5, xL_0, xL_1, xL_2, xL_3, xL_4, xL_5, xL_6, xL_7, xL_8, xL_20, xL_59, xL_63, xL_99, xL_999] at *; omega) | (exfalso; simp_all; done))
            by_cases h15 : a = 1
            · subst h15
              refine P0.go (k := 7) (s' := (9, [some (.ref 43), some (.int 1), some (.int b), some (.int (-1))], [.int (-1)], 102, xshC, (xup xMt 43 1 (b)))) rfl ?_
              refine P0.ret (v := some (.int (-1))) rfl ?_
              refine ⟨rfl, ?_⟩
              show P0 118 (34, [some (.ref 0), some (.int 1), some (.int b)], [.int (-1)], 102, xshC, (xup xMt 43 1 (b))) _
              refine P0.ret (v := some (.int (-1))) rfl ?_
              exact congrArg (fun z => some (Value.int z)) (show (-1) = F_bind 1 b from by unfold F_bind; (repeat' split) <;> first | rfl | (exfalso; simp only [Int32.lt_iff_toInt_lt, Int32.le_iff_toInt_le, Int64.lt_iff_toInt_lt, Int64.le_iff_toInt_le, ← Int32.toInt_inj, Int32.toInt_toInt64, xl_0, xl_1, xl_2, xl_3, xl_4, xl_5, xl_6, xl_7, xl_8, xl_9, xl_10, xl_11, xl_12, xl_13, xl_20, xl_30, xl_59, xl_63, xl_64, xl_99, xl_100, xl_120, xl_999, xl_m1, xl_m2, xl_m3, xl_m4, xl_m5, xL_0, xL_1, xL_2, xL_3, xL_4, xL_5, xL_6, xL_7, xL_8, xL_20, xL_59, xL_63, xL_99, xL_999] at *; omega) | (exfalso; simp_all; done))
            by_cases h16 : a = 2
            · subst h16
              refine P0.go (k := 7) (s' := (9, [some (.ref 43), some (.int 2), some (.int b), some (.int (-1))], [.int (-1)], 102, xshC, (xup xMt 43 2 (b)))) rfl ?_
              refine P0.ret (v := some (.int (-1))) rfl ?_
              refine ⟨rfl, ?_⟩
              show P0 118 (34, [some (.ref 0), some (.int 2), some (.int b)], [.int (-1)], 102, xshC, (xup xMt 43 2 (b))) _
              refine P0.ret (v := some (.int (-1))) rfl ?_
              exact congrArg (fun z => some (Value.int z)) (show (-1) = F_bind 2 b from by unfold F_bind; (repeat' split) <;> first | rfl | (exfalso; simp only [Int32.lt_iff_toInt_lt, Int32.le_iff_toInt_le, Int64.lt_iff_toInt_lt, Int64.le_iff_toInt_le, ← Int32.toInt_inj, Int32.toInt_toInt64, xl_0, xl_1, xl_2, xl_3, xl_4, xl_5, xl_6, xl_7, xl_8, xl_9, xl_10, xl_11, xl_12, xl_13, xl_20, xl_30, xl_59, xl_63, xl_64, xl_99, xl_100, xl_120, xl_999, xl_m1, xl_m2, xl_m3, xl_m4, xl_m5, xL_0, xL_1, xL_2, xL_3, xL_4, xL_5, xL_6, xL_7, xL_8, xL_20, xL_59, xL_63, xL_99, xL_999] at *; omega) | (exfalso; simp_all; done))
            by_cases h17 : a = 3
            · subst h17
              refine P0.go (k := 7) (s' := (9, [some (.ref 43), some (.int 3), some (.int b), some (.int (-1))], [.int (-1)], 102, xshC, (xup xMt 43 3 (b)))) rfl ?_
              refine P0.ret (v := some (.int (-1))) rfl ?_
              refine ⟨rfl, ?_⟩
              show P0 118 (34, [some (.ref 0), some (.int 3), some (.int b)], [.int (-1)], 102, xshC, (xup xMt 43 3 (b))) _
              refine P0.ret (v := some (.int (-1))) rfl ?_
              exact congrArg (fun z => some (Value.int z)) (show (-1) = F_bind 3 b from by unfold F_bind; (repeat' split) <;> first | rfl | (exfalso; simp only [Int32.lt_iff_toInt_lt, Int32.le_iff_toInt_le, Int64.lt_iff_toInt_lt, Int64.le_iff_toInt_le, ← Int32.toInt_inj, Int32.toInt_toInt64, xl_0, xl_1, xl_2, xl_3, xl_4, xl_5, xl_6, xl_7, xl_8, xl_9, xl_10, xl_11, xl_12, xl_13, xl_20, xl_30, xl_59, xl_63, xl_64, xl_99, xl_100, xl_120, xl_999, xl_m1, xl_m2, xl_m3, xl_m4, xl_m5, xL_0, xL_1, xL_2, xL_3, xL_4, xL_5, xL_6, xL_7, xL_8, xL_20, xL_59, xL_63, xL_99, xL_999] at *; omega) | (exfalso; simp_all; done))
            by_cases h18 : a = 4
            · subst h18
              refine P0.go (k := 7) (s' := (9, [some (.ref 43), some (.int 4), some (.int b), some (.int (-1))], [.int (-1)], 102, xshC, (xup xMt 43 4 (b)))) rfl ?_
              refine P0.ret (v := some (.int (-1))) rfl ?_
              refine ⟨rfl, ?_⟩
              show P0 118 (34, [some (.ref 0), some (.int 4), some (.int b)], [.int (-1)], 102, xshC, (xup xMt 43 4 (b))) _
              refine P0.ret (v := some (.int (-1))) rfl ?_
              exact congrArg (fun z => some (Value.int z)) (show (-1) = F_bind 4 b from by unfold F_bind; (repeat' split) <;> first | rfl | (exfalso; simp only [Int32.lt_iff_toInt_lt, Int32.le_iff_toInt_le, Int64.lt_iff_toInt_lt, Int64.le_iff_toInt_le, ← Int32.toInt_inj, Int32.toInt_toInt64, xl_0, xl_1, xl_2, xl_3, xl_4, xl_5, xl_6, xl_7, xl_8, xl_9, xl_10, xl_11, xl_12, xl_13, xl_20, xl_30, xl_59, xl_63, xl_64, xl_99, xl_100, xl_120, xl_999, xl_m1, xl_m2, xl_m3, xl_m4, xl_m5, xL_0, xL_1, xL_2, xL_3, xL_4, xL_5, xL_6, xL_7, xL_8, xL_20, xL_59, xL_63, xL_99, xL_999] at *; omega) | (exfalso; simp_all; done))
            by_cases h19 : a = 5
            · subst h19
              refine P0.go (k := 7) (s' := (9, [some (.ref 43), some (.int 5), some (.int b), some (.int (-1))], [.int (-1)], 102, xshC, (xup xMt 43 5 (b)))) rfl ?_
              refine P0.ret (v := some (.int (-1))) rfl ?_
              refine ⟨rfl, ?_⟩
              show P0 118 (34, [some (.ref 0), some (.int 5), some (.int b)], [.int (-1)], 102, xshC, (xup xMt 43 5 (b))) _
              refine P0.ret (v := some (.int (-1))) rfl ?_
              exact congrArg (fun z => some (Value.int z)) (show (-1) = F_bind 5 b from by unfold F_bind; (repeat' split) <;> first | rfl | (exfalso; simp only [Int32.lt_iff_toInt_lt, Int32.le_iff_toInt_le, Int64.lt_iff_toInt_lt, Int64.le_iff_toInt_le, ← Int32.toInt_inj, Int32.toInt_toInt64, xl_0, xl_1, xl_2, xl_3, xl_4, xl_5, xl_6, xl_7, xl_8, xl_9, xl_10, xl_11, xl_12, xl_13, xl_20, xl_30, xl_59, xl_63, xl_64, xl_99, xl_100, xl_120, xl_999, xl_m1, xl_m2, xl_m3, xl_m4, xl_m5, xL_0, xL_1, xL_2, xL_3, xL_4, xL_5, xL_6, xL_7, xL_8, xL_20, xL_59, xL_63, xL_99, xL_999] at *; omega) | (exfalso; simp_all; done))
            by_cases h20 : a = 6
            · subst h20
              refine P0.go (k := 7) (s' := (9, [some (.ref 43), some (.int 6), some (.int b), some (.int (-1))], [.int (-1)], 102, xshC, (xup xMt 43 6 (b)))) rfl ?_
              refine P0.ret (v := some (.int (-1))) rfl ?_
              refine ⟨rfl, ?_⟩
              show P0 118 (34, [some (.ref 0), some (.int 6), some (.int b)], [.int (-1)], 102, xshC, (xup xMt 43 6 (b))) _
              refine P0.ret (v := some (.int (-1))) rfl ?_
              exact congrArg (fun z => some (Value.int z)) (show (-1) = F_bind 6 b from by unfold F_bind; (repeat' split) <;> first | rfl | (exfalso; simp only [Int32.lt_iff_toInt_lt, Int32.le_iff_toInt_le, Int64.lt_iff_toInt_lt, Int64.le_iff_toInt_le, ← Int32.toInt_inj, Int32.toInt_toInt64, xl_0, xl_1, xl_2, xl_3, xl_4, xl_5, xl_6, xl_7, xl_8, xl_9, xl_10, xl_11, xl_12, xl_13, xl_20, xl_30, xl_59, xl_63, xl_64, xl_99, xl_100, xl_120, xl_999, xl_m1, xl_m2, xl_m3, xl_m4, xl_m5, xL_0, xL_1, xL_2, xL_3, xL_4, xL_5, xL_6, xL_7, xL_8, xL_20, xL_59, xL_63, xL_99, xL_999] at *; omega) | (exfalso; simp_all; done))
            by_cases h21 : a = 7
            · subst h21
              refine P0.go (k := 7) (s' := (9, [some (.ref 43), some (.int 7), some (.int b), some (.int (-1))], [.int (-1)], 102, xshC, (xup xMt 43 7 (b)))) rfl ?_
              refine P0.ret (v := some (.int (-1))) rfl ?_
              refine ⟨rfl, ?_⟩
              show P0 118 (34, [some (.ref 0), some (.int 7), some (.int b)], [.int (-1)], 102, xshC, (xup xMt 43 7 (b))) _
              refine P0.ret (v := some (.int (-1))) rfl ?_
              exact congrArg (fun z => some (Value.int z)) (show (-1) = F_bind 7 b from by unfold F_bind; (repeat' split) <;> first | rfl | (exfalso; simp only [Int32.lt_iff_toInt_lt, Int32.le_iff_toInt_le, Int64.lt_iff_toInt_lt, Int64.le_iff_toInt_le, ← Int32.toInt_inj, Int32.toInt_toInt64, xl_0, xl_1, xl_2, xl_3, xl_4, xl_5, xl_6, xl_7, xl_8, xl_9, xl_10, xl_11, xl_12, xl_13, xl_20, xl_30, xl_59, xl_63, xl_64, xl_99, xl_100, xl_120, xl_999, xl_m1, xl_m2, xl_m3, xl_m4, xl_m5, xL_0, xL_1, xL_2, xL_3, xL_4, xL_5, xL_6, xL_7, xL_8, xL_20, xL_59, xL_63, xL_99, xL_999] at *; omega) | (exfalso; simp_all; done))
            exact absurd True.intro (by exfalso; simp only [Int32.lt_iff_toInt_lt, Int32.le_iff_toInt_le, Int64.lt_iff_toInt_lt, Int64.le_iff_toInt_le, ← Int32.toInt_inj, Int32.toInt_toInt64, xl_0, xl_1, xl_2, xl_3, xl_4, xl_5, xl_6, xl_7, xl_8, xl_9, xl_10, xl_11, xl_12, xl_13, xl_20, xl_30, xl_59, xl_63, xl_64, xl_99, xl_100, xl_120, xl_999, xl_m1, xl_m2, xl_m3, xl_m4, xl_m5, xL_0, xL_1, xL_2, xL_3, xL_4, xL_5, xL_6, xL_7, xL_8, xL_20, xL_59, xL_63, xL_99, xL_999] at *; omega)
set_option maxRecDepth 100000 in
set_option maxHeartbeats 4000000 in
theorem wc_release (a b : Int32) : P0 119 (0, [some (.ref 0), some (.int a), some (.int b)], [], 102, xshC, xMt) (fun r => r.1 = some (.int (F_release a b))) := by
  refine P0.go (k := 1) (s' := (1, [some (.ref 0), some (.int a), some (.int b)], [.int a], 102, xshC, xMt)) rfl ?_
  refine P0.call (z := 138) (as := [.int a]) (pc := 4) (pl := [some (.ref 0), some (.int a), some (.int b)]) (st := []) (nz := 102) (sh := xshC) (M := xMt) rfl (Nat.le_of_ble_eq_true rfl) ?_
  show P0 138 (0, [some (.int a)], [], 102, xshC, xMt) _
  refine P0.go (k := 3) (s' := (4, [some (.int a)], [.int 7, .int 0, .int a], 102, xshC, xMt)) rfl ?_
  refine P0.call (z := 136) (as := [.int a, .int 0, .int 7]) (pc := 7) (pl := [some (.int a)]) (st := []) (nz := 102) (sh := xshC) (M := xMt) rfl (Nat.le_of_ble_eq_true rfl) ?_
  show P0 136 (0, [some (.int a), some (.int 0), some (.int 7)], [], 102, xshC, xMt) _
  refine P0.go (k := 3) (s' := (xcmp .gt (0) (a) 14 5, [some (.int a), some (.int 0), some (.int 7)], [], 102, xshC, xMt)) rfl ?_
  refine P0.gt (fun h1 => ?_) (fun h1 => ?_)
  · refine P0.go (k := 1) (s' := (15, [some (.int a), some (.int 0), some (.int 7)], [.int 0], 102, xshC, xMt)) rfl ?_
    refine P0.ret (v := some (.int 0)) rfl ?_
    refine ⟨rfl, ?_⟩
    show P0 138 (7, [some (.int a)], [.int 0], 102, xshC, xMt) _
    refine P0.ret (v := some (.int 0)) rfl ?_
    refine ⟨rfl, ?_⟩
    show P0 119 (4, [some (.ref 0), some (.int a), some (.int b)], [.int 0], 102, xshC, xMt) _
    refine P0.go (k := 2) (s' := (8, [some (.ref 0), some (.int a), some (.int b)], [.int (-1)], 102, xshC, xMt)) rfl ?_
    refine P0.ret (v := some (.int (-1))) rfl ?_
    exact congrArg (fun z => some (Value.int z)) (show (-1) = F_release a b from by unfold F_release; (repeat' split) <;> first | rfl | (exfalso; simp only [Int32.lt_iff_toInt_lt, Int32.le_iff_toInt_le, Int64.lt_iff_toInt_lt, Int64.le_iff_toInt_le, ← Int32.toInt_inj, Int32.toInt_toInt64, xl_0, xl_1, xl_2, xl_3, xl_4, xl_5, xl_6, xl_7, xl_8, xl_9, xl_10, xl_11, xl_12, xl_13, xl_20, xl_30, xl_59, xl_63, xl_64, xl_99, xl_100, xl_120, xl_999, xl_m1, xl_m2, xl_m3, xl_m4, xl_m5, xL_0, xL_1, xL_2, xL_3, xL_4, xL_5, xL_6, xL_7, xL_8, xL_20, xL_59, xL_63, xL_99, xL_999] at *; omega) | (exfalso; simp_all; done))
  · refine P0.go (k := 3) (s' := (xcmp .gt (a) (7) 14 10, [some (.int a), some (.int 0), some (.int 7)], [], 102, xshC, xMt)) rfl ?_
    refine P0.gt (fun h2 => ?_) (fun h2 => ?_)
    · refine P0.go (k := 1) (s' := (15, [some (.int a), some (.int 0), some (.int 7)], [.int 0], 102, xshC, xMt)) rfl ?_
      refine P0.ret (v := some (.int 0)) rfl ?_
      refine ⟨rfl, ?_⟩
      show P0 138 (7, [some (.int a)], [.int 0], 102, xshC, xMt) _
      refine P0.ret (v := some (.int 0)) rfl ?_
      refine ⟨rfl, ?_⟩
      show P0 119 (4, [some (.ref 0), some (.int a), some (.int b)], [.int 0], 102, xshC, xMt) _
      refine P0.go (k := 2) (s' := (8, [some (.ref 0), some (.int a), some (.int b)], [.int (-1)], 102, xshC, xMt)) rfl ?_
      refine P0.ret (v := some (.int (-1))) rfl ?_
      exact congrArg (fun z => some (Value.int z)) (show (-1) = F_release a b from by unfold F_release; (repeat' split) <;> first | rfl | (exfalso; simp only [Int32.lt_iff_toInt_lt, Int32.le_iff_toInt_le, Int64.lt_iff_toInt_lt, Int64.le_iff_toInt_le, ← Int32.toInt_inj, Int32.toInt_toInt64, xl_0, xl_1, xl_2, xl_3, xl_4, xl_5, xl_6, xl_7, xl_8, xl_9, xl_10, xl_11, xl_12, xl_13, xl_20, xl_30, xl_59, xl_63, xl_64, xl_99, xl_100, xl_120, xl_999, xl_m1, xl_m2, xl_m3, xl_m4, xl_m5, xL_0, xL_1, xL_2, xL_3, xL_4, xL_5, xL_6, xL_7, xL_8, xL_20, xL_59, xL_63, xL_99, xL_999] at *; omega) | (exfalso; simp_all; done))
    · refine P0.go (k := 2) (s' := (15, [some (.int a), some (.int 0), some (.int 7)], [.int 1], 102, xshC, xMt)) rfl ?_
      refine P0.ret (v := some (.int 1)) rfl ?_
      refine ⟨rfl, ?_⟩
      show P0 138 (7, [some (.int a)], [.int 1], 102, xshC, xMt) _
      refine P0.ret (v := some (.int 1)) rfl ?_
      refine ⟨rfl, ?_⟩
      show P0 119 (4, [some (.ref 0), some (.int a), some (.int b)], [.int 1], 102, xshC, xMt) _
      refine P0.go (k := 4) (s' := (12, [some (.ref 0), some (.int a), some (.int b)], [.int 1, .int 0, .int b], 102, xshC, xMt)) rfl ?_
      refine P0.call (z := 136) (as := [.int b, .int 0, .int 1]) (pc := 15) (pl := [some (.ref 0), some (.int a), some (.int b)]) (st := []) (nz := 102) (sh := xshC) (M := xMt) rfl (Nat.le_of_ble_eq_true rfl) ?_
      show P0 136 (0, [some (.int b), some (.int 0), some (.int 1)], [], 102, xshC, xMt) _
      refine P0.go (k := 3) (s' := (xcmp .gt (0) (b) 14 5, [some (.int b), some (.int 0), some (.int 1)], [], 102, xshC, xMt)) rfl ?_
      refine P0.gt (fun h3 => ?_) (fun h3 => ?_)
      · refine P0.go (k := 1) (s' := (15, [some (.int b), some (.int 0), some (.int 1)], [.int 0], 102, xshC, xMt)) rfl ?_
        refine P0.ret (v := some (.int 0)) rfl ?_
        refine ⟨rfl, ?_⟩
        show P0 119 (15, [some (.ref 0), some (.int a), some (.int b)], [.int 0], 102, xshC, xMt) _
        refine P0.go (k := 2) (s' := (35, [some (.ref 0), some (.int a), some (.int b)], [.int (-2)], 102, xshC, xMt)) rfl ?_
        refine P0.ret (v := some (.int (-2))) rfl ?_
        exact congrArg (fun z => some (Value.int z)) (show (-2) = F_release a b from by unfold F_release; (repeat' split) <;> first | rfl | (exfalso; simp only [Int32.lt_iff_toInt_lt, Int32.le_iff_toInt_le, Int64.lt_iff_toInt_lt, Int64.le_iff_toInt_le, ← Int32.toInt_inj, Int32.toInt_toInt64, xl_0, xl_1, xl_2, xl_3, xl_4, xl_5, xl_6, xl_7, xl_8, xl_9, xl_10, xl_11, xl_12, xl_13, xl_20, xl_30, xl_59, xl_63, xl_64, xl_99, xl_100, xl_120, xl_999, xl_m1, xl_m2, xl_m3, xl_m4, xl_m5, xL_0, xL_1, xL_2, xL_3, xL_4, xL_5, xL_6, xL_7, xL_8, xL_20, xL_59, xL_63, xL_99, xL_999] at *; omega) | (exfalso; simp_all; done))
      · refine P0.go (k := 3) (s' := (xcmp .gt (b) (1) 14 10, [some (.int b), some (.int 0), some (.int 1)], [], 102, xshC, xMt)) rfl ?_
        refine P0.gt (fun h4 => ?_) (fun h4 => ?_)
        · refine P0.go (k := 1) (s' := (15, [some (.int b), some (.int 0), some (.int 1)], [.int 0], 102, xshC, xMt)) rfl ?_
          refine P0.ret (v := some (.int 0)) rfl ?_
          refine ⟨rfl, ?_⟩
          show P0 119 (15, [some (.ref 0), some (.int a), some (.int b)], [.int 0], 102, xshC, xMt) _
          refine P0.go (k := 2) (s' := (35, [some (.ref 0), some (.int a), some (.int b)], [.int (-2)], 102, xshC, xMt)) rfl ?_
          refine P0.ret (v := some (.int (-2))) rfl ?_
          exact congrArg (fun z => some (Value.int z)) (show (-2) = F_release a b from by unfold F_release; (repeat' split) <;> first | rfl | (exfalso; simp only [Int32.lt_iff_toInt_lt, Int32.le_iff_toInt_le, Int64.lt_iff_toInt_lt, Int64.le_iff_toInt_le, ← Int32.toInt_inj, Int32.toInt_toInt64, xl_0, xl_1, xl_2, xl_3, xl_4, xl_5, xl_6, xl_7, xl_8, xl_9, xl_10, xl_11, xl_12, xl_13, xl_20, xl_30, xl_59, xl_63, xl_64, xl_99, xl_100, xl_120, xl_999, xl_m1, xl_m2, xl_m3, xl_m4, xl_m5, xL_0, xL_1, xL_2, xL_3, xL_4, xL_5, xL_6, xL_7, xL_8, xL_20, xL_59, xL_63, xL_99, xL_999] at *; omega) | (exfalso; simp_all; done))
        · refine P0.go (k := 2) (s' := (15, [some (.int b), some (.int 0), some (.int 1)], [.int 1], 102, xshC, xMt)) rfl ?_
          refine P0.ret (v := some (.int 1)) rfl ?_
          refine ⟨rfl, ?_⟩
          show P0 119 (15, [some (.ref 0), some (.int a), some (.int b)], [.int 1], 102, xshC, xMt) _
          refine P0.go (k := 6) (s' := (27, [some (.ref 0), some (.int a), some (.int b)], [.int b, .int a, .ref 44], 102, xshC, xMt)) rfl ?_
          refine P0.call (z := 142) (as := [.ref 44, .int a, .int b]) (pc := 30) (pl := [some (.ref 0), some (.int a), some (.int b)]) (st := []) (nz := 102) (sh := xshC) (M := xMt) rfl (Nat.le_of_ble_eq_true rfl) ?_
          show P0 142 (0, [some (.ref 44), some (.int a), some (.int b), none], [], 102, xshC, xMt) _
          refine P0.go (k := 2) (s' := (2, [some (.ref 44), some (.int a), some (.int b), none], [.int a, .ref 44], 102, xshC, xMt)) rfl ?_
          by_cases h5 : a = 0
          · subst h5
            refine P0.go (k := 7) (s' := (9, [some (.ref 44), some (.int 0), some (.int b), some (.int 0)], [.int 0], 102, xshC, (xup xMt 44 0 (b)))) rfl ?_
            refine P0.ret (v := some (.int 0)) rfl ?_
            refine ⟨rfl, ?_⟩
            show P0 119 (30, [some (.ref 0), some (.int 0), some (.int b)], [.int 0], 102, xshC, (xup xMt 44 0 (b))) _
            refine P0.go (k := 1) (s' := (35, [some (.ref 0), some (.int 0), some (.int b)], [.int 0], 102, xshC, (xup xMt 44 0 (b)))) rfl ?_
            refine P0.ret (v := some (.int 0)) rfl ?_
            exact congrArg (fun z => some (Value.int z)) (show 0 = F_release 0 b from by unfold F_release; (repeat' split) <;> first | rfl | (exfalso; simp only [Int32.lt_iff_toInt_lt, Int32.le_iff_toInt_le, Int64.lt_iff_toInt_lt, Int64.le_iff_toInt_le, ← Int32.toInt_inj, Int32.toInt_toInt64, xl_0, xl_1, xl_2, xl_3, xl_4, xl_5, xl_6, xl_7, xl_8, xl_9, xl_10, xl_11, xl_12, xl_13, xl_20, xl_30, xl_59, xl_63, xl_64, xl_99, xl_100, xl_120, xl_999, xl_m1, xl_m2, xl_m3, xl_m4, xl_m5, xL_0, xL_1, xL_2, xL_3, xL_4, xL_5, xL_6, xL_7, xL_8, xL_20, xL_59, xL_63, xL_99, xL_999] at *; omega) | (exfalso; simp_all; done))
          by_cases h6 : a = 1
          · subst h6
            refine P0.go (k := 7) (s' := (9, [some (.ref 44), some (.int 1), some (.int b), some (.int 0)], [.int 0], 102, xshC, (xup xMt 44 1 (b)))) rfl ?_
            refine P0.ret (v := some (.int 0)) rfl ?_
            refine ⟨rfl, ?_⟩
            show P0 119 (30, [some (.ref 0), some (.int 1), some (.int b)], [.int 0], 102, xshC, (xup xMt 44 1 (b))) _
            refine P0.go (k := 1) (s' := (35, [some (.ref 0), some (.int 1), some (.int b)], [.int 0], 102, xshC, (xup xMt 44 1 (b)))) rfl ?_
            refine P0.ret (v := some (.int 0)) rfl ?_
            exact congrArg (fun z => some (Value.int z)) (show 0 = F_release 1 b from by unfold F_release; (repeat' split) <;> first | rfl | (exfalso; simp only [Int32.lt_iff_toInt_lt, Int32.le_iff_toInt_le, Int64.lt_iff_toInt_lt, Int64.le_iff_toInt_le, ← Int32.toInt_inj, Int32.toInt_toInt64, xl_0, xl_1, xl_2, xl_3, xl_4, xl_5, xl_6, xl_7, xl_8, xl_9, xl_10, xl_11, xl_12, xl_13, xl_20, xl_30, xl_59, xl_63, xl_64, xl_99, xl_100, xl_120, xl_999, xl_m1, xl_m2, xl_m3, xl_m4, xl_m5, xL_0, xL_1, xL_2, xL_3, xL_4, xL_5, xL_6, xL_7, xL_8, xL_20, xL_59, xL_63, xL_99, xL_999] at *; omega) | (exfalso; simp_all; done))
          by_cases h7 : a = 2
          · subst h7
            refine P0.go (k := 7) (s' := (9, [some (.ref 44), some (.int 2), some (.int b), some (.int 0)], [.int 0], 102, xshC, (xup xMt 44 2 (b)))) rfl ?_
            refine P0.ret (v := some (.int 0)) rfl ?_
            refine ⟨rfl, ?_⟩
            show P0 119 (30, [some (.ref 0), some (.int 2), some (.int b)], [.int 0], 102, xshC, (xup xMt 44 2 (b))) _
            refine P0.go (k := 1) (s' := (35, [some (.ref 0), some (.int 2), some (.int b)], [.int 0], 102, xshC, (xup xMt 44 2 (b)))) rfl ?_
            refine P0.ret (v := some (.int 0)) rfl ?_
            exact congrArg (fun z => some (Value.int z)) (show 0 = F_release 2 b from by unfold F_release; (repeat' split) <;> first | rfl | (exfalso; simp only [Int32.lt_iff_toInt_lt, Int32.le_iff_toInt_le, Int64.lt_iff_toInt_lt, Int64.le_iff_toInt_le, ← Int32.toInt_inj, Int32.toInt_toInt64, xl_0, xl_1, xl_2, xl_3, xl_4, xl_5, xl_6, xl_7, xl_8, xl_9, xl_10, xl_11, xl_12, xl_13, xl_20, xl_30, xl_59, xl_63, xl_64, xl_99, xl_100, xl_120, xl_999, xl_m1, xl_m2, xl_m3, xl_m4, xl_m5, xL_0, xL_1, xL_2, xL_3, xL_4, xL_5, xL_6, xL_7, xL_8, xL_20, xL_59, xL_63, xL_99, xL_999] at *; omega) | (exfalso; simp_all; done))
          by_cases h8 : a = 3
          · subst h8
            refine P0.go (k := 7) (s' := (9, [some (.ref 44), some (.int 3), some (.int b), some (.int 0)], [.int 0], 102, xshC, (xup xMt 44 3 (b)))) rfl ?_
            refine P0.ret (v := some (.int 0)) rfl ?_
            refine ⟨rfl, ?_⟩
            show P0 119 (30, [some (.ref 0), some (.int 3), some (.int b)], [.int 0], 102, xshC, (xup xMt 44 3 (b))) _
            refine P0.go (k := 1) (s' := (35, [some (.ref 0), some (.int 3), some (.int b)], [.int 0], 102, xshC, (xup xMt 44 3 (b)))) rfl ?_
            refine P0.ret (v := some (.int 0)) rfl ?_
            exact congrArg (fun z => some (Value.int z)) (show 0 = F_release 3 b from by unfold F_release; (repeat' split) <;> first | rfl | (exfalso; simp only [Int32.lt_iff_toInt_lt, Int32.le_iff_toInt_le, Int64.lt_iff_toInt_lt, Int64.le_iff_toInt_le, ← Int32.toInt_inj, Int32.toInt_toInt64, xl_0, xl_1, xl_2, xl_3, xl_4, xl_5, xl_6, xl_7, xl_8, xl_9, xl_10, xl_11, xl_12, xl_13, xl_20, xl_30, xl_59, xl_63, xl_64, xl_99, xl_100, xl_120, xl_999, xl_m1, xl_m2, xl_m3, xl_m4, xl_m5, xL_0, xL_1, xL_2, xL_3, xL_4, xL_5, xL_6, xL_7, xL_8, xL_20, xL_59, xL_63, xL_99, xL_999] at *; omega) | (exfalso; simp_all; done))
          by_cases h9 : a = 4
          · subst h9
            refine P0.go (k := 7) (s' := (9, [some (.ref 44), some (.int 4), some (.int b), some (.int 0)], [.int 0], 102, xshC, (xup xMt 44 4 (b)))) rfl ?_
            refine P0.ret (v := some (.int 0)) rfl ?_
            refine ⟨rfl, ?_⟩
            show P0 119 (30, [some (.ref 0), some (.int 4), some (.int b)], [.int 0], 102, xshC, (xup xMt 44 4 (b))) _
            refine P0.go (k := 1) (s' := (35, [some (.ref 0), some (.int 4), some (.int b)], [.int 0], 102, xshC, (xup xMt 44 4 (b)))) rfl ?_
            refine P0.ret (v := some (.int 0)) rfl ?_
            exact congrArg (fun z => some (Value.int z)) (show 0 = F_release 4 b from by unfold F_release; (repeat' split) <;> first | rfl | (exfalso; simp only [Int32.lt_iff_toInt_lt, Int32.le_iff_toInt_le, Int64.lt_iff_toInt_lt, Int64.le_iff_toInt_le, ← Int32.toInt_inj, Int32.toInt_toInt64, xl_0, xl_1, xl_2, xl_3, xl_4, xl_5, xl_6, xl_7, xl_8, xl_9, xl_10, xl_11, xl_12, xl_13, xl_20, xl_30, xl_59, xl_63, xl_64, xl_99, xl_100, xl_120, xl_999, xl_m1, xl_m2, xl_m3, xl_m4, xl_m5, xL_0, xL_1, xL_2, xL_3, xL_4, xL_5, xL_6, xL_7, xL_8, xL_20, xL_59, xL_63, xL_99, xL_999] at *; omega) | (exfalso; simp_all; done))
          by_cases h10 : a = 5
          · subst h10
            refine P0.go (k := 7) (s' := (9, [some (.ref 44), some (.int 5), some (.int b), some (.int 0)], [.int 0], 102, xshC, (xup xMt 44 5 (b)))) rfl ?_
            refine P0.ret (v := some (.int 0)) rfl ?_
            refine ⟨rfl, ?_⟩
            show P0 119 (30, [some (.ref 0), some (.int 5), some (.int b)], [.int 0], 102, xshC, (xup xMt 44 5 (b))) _
            refine P0.go (k := 1) (s' := (35, [some (.ref 0), some (.int 5), some (.int b)], [.int 0], 102, xshC, (xup xMt 44 5 (b)))) rfl ?_
            refine P0.ret (v := some (.int 0)) rfl ?_
            exact congrArg (fun z => some (Value.int z)) (show 0 = F_release 5 b from by unfold F_release; (repeat' split) <;> first | rfl | (exfalso; simp only [Int32.lt_iff_toInt_lt, Int32.le_iff_toInt_le, Int64.lt_iff_toInt_lt, Int64.le_iff_toInt_le, ← Int32.toInt_inj, Int32.toInt_toInt64, xl_0, xl_1, xl_2, xl_3, xl_4, xl_5, xl_6, xl_7, xl_8, xl_9, xl_10, xl_11, xl_12, xl_13, xl_20, xl_30, xl_59, xl_63, xl_64, xl_99, xl_100, xl_120, xl_999, xl_m1, xl_m2, xl_m3, xl_m4, xl_m5, xL_0, xL_1, xL_2, xL_3, xL_4, xL_5, xL_6, xL_7, xL_8, xL_20, xL_59, xL_63, xL_99, xL_999] at *; omega) | (exfalso; simp_all; done))
          by_cases h11 : a = 6
          · subst h11
            refine P0.go (k := 7) (s' := (9, [some (.ref 44), some (.int 6), some (.int b), some (.int 0)], [.int 0], 102, xshC, (xup xMt 44 6 (b)))) rfl ?_
            refine P0.ret (v := some (.int 0)) rfl ?_
            refine ⟨rfl, ?_⟩
            show P0 119 (30, [some (.ref 0), some (.int 6), some (.int b)], [.int 0], 102, xshC, (xup xMt 44 6 (b))) _
            refine P0.go (k := 1) (s' := (35, [some (.ref 0), some (.int 6), some (.int b)], [.int 0], 102, xshC, (xup xMt 44 6 (b)))) rfl ?_
            refine P0.ret (v := some (.int 0)) rfl ?_
            exact congrArg (fun z => some (Value.int z)) (show 0 = F_release 6 b from by unfold F_release; (repeat' split) <;> first | rfl | (exfalso; simp only [Int32.lt_iff_toInt_lt, Int32.le_iff_toInt_le, Int64.lt_iff_toInt_lt, Int64.le_iff_toInt_le, ← Int32.toInt_inj, Int32.toInt_toInt64, xl_0, xl_1, xl_2, xl_3, xl_4, xl_5, xl_6, xl_7, xl_8, xl_9, xl_10, xl_11, xl_12, xl_13, xl_20, xl_30, xl_59, xl_63, xl_64, xl_99, xl_100, xl_120, xl_999, xl_m1, xl_m2, xl_m3, xl_m4, xl_m5, xL_0, xL_1, xL_2, xL_3, xL_4, xL_5, xL_6, xL_7, xL_8, xL_20, xL_59, xL_63, xL_99, xL_999] at *; omega) | (exfalso; simp_all; done))
          by_cases h12 : a = 7
          · subst h12
            refine P0.go (k := 7) (s' := (9, [some (.ref 44), some (.int 7), some (.int b), some (.int 0)], [.int 0], 102, xshC, (xup xMt 44 7 (b)))) rfl ?_
            refine P0.ret (v := some (.int 0)) rfl ?_
            refine ⟨rfl, ?_⟩
            show P0 119 (30, [some (.ref 0), some (.int 7), some (.int b)], [.int 0], 102, xshC, (xup xMt 44 7 (b))) _
            refine P0.go (k := 1) (s' := (35, [some (.ref 0), some (.int 7), some (.int b)], [.int 0], 102, xshC, (xup xMt 44 7 (b)))) rfl ?_
            refine P0.ret (v := some (.int 0)) rfl ?_
            exact congrArg (fun z => some (Value.int z)) (show 0 = F_release 7 b from by unfold F_release; (repeat' split) <;> first | rfl | (exfalso; simp only [Int32.lt_iff_toInt_lt, Int32.le_iff_toInt_le, Int64.lt_iff_toInt_lt, Int64.le_iff_toInt_le, ← Int32.toInt_inj, Int32.toInt_toInt64, xl_0, xl_1, xl_2, xl_3, xl_4, xl_5, xl_6, xl_7, xl_8, xl_9, xl_10, xl_11, xl_12, xl_13, xl_20, xl_30, xl_59, xl_63, xl_64, xl_99, xl_100, xl_120, xl_999, xl_m1, xl_m2, xl_m3, xl_m4, xl_m5, xL_0, xL_1, xL_2, xL_3, xL_4, xL_5, xL_6, xL_7, xL_8, xL_20, xL_59, xL_63, xL_99, xL_999] at *; omega) | (exfalso; simp_all; done))
          exact absurd True.intro (by exfalso; simp only [Int32.lt_iff_toInt_lt, Int32.le_iff_toInt_le, Int64.lt_iff_toInt_lt, Int64.le_iff_toInt_le, ← Int32.toInt_inj, Int32.toInt_toInt64, xl_0, xl_1, xl_2, xl_3, xl_4, xl_5, xl_6, xl_7, xl_8, xl_9, xl_10, xl_11, xl_12, xl_13, xl_20, xl_30, xl_59, xl_63, xl_64, xl_99, xl_100, xl_120, xl_999, xl_m1, xl_m2, xl_m3, xl_m4, xl_m5, xL_0, xL_1, xL_2, xL_3, xL_4, xL_5, xL_6, xL_7, xL_8, xL_20, xL_59, xL_63, xL_99, xL_999] at *; omega)
set_option maxRecDepth 100000 in
set_option maxHeartbeats 4000000 in
theorem wc_had (a : Int32) : P0 121 (0, [some (.ref 0), some (.int a)], [], 102, xshC, xMt) (fun r => r.1 = some (.int (F_had a))) := by
  refine P0.go (k := 1) (s' := (1, [some (.ref 0), some (.int a)], [.int a], 102, xshC, xMt)) rfl ?_
  refine P0.call (z := 138) (as := [.int a]) (pc := 4) (pl := [some (.ref 0), some (.int a)]) (st := []) (nz := 102) (sh := xshC) (M := xMt) rfl (Nat.le_of_ble_eq_true rfl) ?_
  show P0 138 (0, [some (.int a)], [], 102, xshC, xMt) _
  refine P0.go (k := 3) (s' := (4, [some (.int a)], [.int 7, .int 0, .int a], 102, xshC, xMt)) rfl ?_
  refine P0.call (z := 136) (as := [.int a, .int 0, .int 7]) (pc := 7) (pl := [some (.int a)]) (st := []) (nz := 102) (sh := xshC) (M := xMt) rfl (Nat.le_of_ble_eq_true rfl) ?_
  show P0 136 (0, [some (.int a), some (.int 0), some (.int 7)], [], 102, xshC, xMt) _
  refine P0.go (k := 3) (s' := (xcmp .gt (0) (a) 14 5, [some (.int a), some (.int 0), some (.int 7)], [], 102, xshC, xMt)) rfl ?_
  refine P0.gt (fun h1 => ?_) (fun h1 => ?_)
  · refine P0.go (k := 1) (s' := (15, [some (.int a), some (.int 0), some (.int 7)], [.int 0], 102, xshC, xMt)) rfl ?_
    refine P0.ret (v := some (.int 0)) rfl ?_
    refine ⟨rfl, ?_⟩
    show P0 138 (7, [some (.int a)], [.int 0], 102, xshC, xMt) _
    refine P0.ret (v := some (.int 0)) rfl ?_
    refine ⟨rfl, ?_⟩
    show P0 121 (4, [some (.ref 0), some (.int a)], [.int 0], 102, xshC, xMt) _
    refine P0.go (k := 2) (s' := (20, [some (.ref 0), some (.int a)], [.int (-1)], 102, xshC, xMt)) rfl ?_
    refine P0.ret (v := some (.int (-1))) rfl ?_
    exact congrArg (fun z => some (Value.int z)) (show (-1) = F_had a from by unfold F_had; (repeat' split) <;> first | rfl | (exfalso; simp only [Int32.lt_iff_toInt_lt, Int32.le_iff_toInt_le, Int64.lt_iff_toInt_lt, Int64.le_iff_toInt_le, ← Int32.toInt_inj, Int32.toInt_toInt64, xl_0, xl_1, xl_2, xl_3, xl_4, xl_5, xl_6, xl_7, xl_8, xl_9, xl_10, xl_11, xl_12, xl_13, xl_20, xl_30, xl_59, xl_63, xl_64, xl_99, xl_100, xl_120, xl_999, xl_m1, xl_m2, xl_m3, xl_m4, xl_m5, xL_0, xL_1, xL_2, xL_3, xL_4, xL_5, xL_6, xL_7, xL_8, xL_20, xL_59, xL_63, xL_99, xL_999] at *; omega) | (exfalso; simp_all; done))
  · refine P0.go (k := 3) (s' := (xcmp .gt (a) (7) 14 10, [some (.int a), some (.int 0), some (.int 7)], [], 102, xshC, xMt)) rfl ?_
    refine P0.gt (fun h2 => ?_) (fun h2 => ?_)
    · refine P0.go (k := 1) (s' := (15, [some (.int a), some (.int 0), some (.int 7)], [.int 0], 102, xshC, xMt)) rfl ?_
      refine P0.ret (v := some (.int 0)) rfl ?_
      refine ⟨rfl, ?_⟩
      show P0 138 (7, [some (.int a)], [.int 0], 102, xshC, xMt) _
      refine P0.ret (v := some (.int 0)) rfl ?_
      refine ⟨rfl, ?_⟩
      show P0 121 (4, [some (.ref 0), some (.int a)], [.int 0], 102, xshC, xMt) _
      refine P0.go (k := 2) (s' := (20, [some (.ref 0), some (.int a)], [.int (-1)], 102, xshC, xMt)) rfl ?_
      refine P0.ret (v := some (.int (-1))) rfl ?_
      exact congrArg (fun z => some (Value.int z)) (show (-1) = F_had a from by unfold F_had; (repeat' split) <;> first | rfl | (exfalso; simp only [Int32.lt_iff_toInt_lt, Int32.le_iff_toInt_le, Int64.lt_iff_toInt_lt, Int64.le_iff_toInt_le, ← Int32.toInt_inj, Int32.toInt_toInt64, xl_0, xl_1, xl_2, xl_3, xl_4, xl_5, xl_6, xl_7, xl_8, xl_9, xl_10, xl_11, xl_12, xl_13, xl_20, xl_30, xl_59, xl_63, xl_64, xl_99, xl_100, xl_120, xl_999, xl_m1, xl_m2, xl_m3, xl_m4, xl_m5, xL_0, xL_1, xL_2, xL_3, xL_4, xL_5, xL_6, xL_7, xL_8, xL_20, xL_59, xL_63, xL_99, xL_999] at *; omega) | (exfalso; simp_all; done))
    · refine P0.go (k := 2) (s' := (15, [some (.int a), some (.int 0), some (.int 7)], [.int 1], 102, xshC, xMt)) rfl ?_
      refine P0.ret (v := some (.int 1)) rfl ?_
      refine ⟨rfl, ?_⟩
      show P0 138 (7, [some (.int a)], [.int 1], 102, xshC, xMt) _
      refine P0.ret (v := some (.int 1)) rfl ?_
      refine ⟨rfl, ?_⟩
      show P0 121 (4, [some (.ref 0), some (.int a)], [.int 1], 102, xshC, xMt) _
      refine P0.go (k := 5) (s' := (15, [some (.ref 0), some (.int a)], [.int a, .ref 45], 102, xshC, xMt)) rfl ?_
      by_cases h3 : a = 0
      · subst h3
        refine P0.go (k := 2) (s' := (20, [some (.ref 0), some (.int 0)], [.int 0], 102, xshC, xMt)) rfl ?_
        refine P0.ret (v := some (.int 0)) rfl ?_
        exact congrArg (fun z => some (Value.int z)) (show 0 = F_had 0 from by unfold F_had; (repeat' split) <;> first | rfl | (exfalso; simp only [Int32.lt_iff_toInt_lt, Int32.le_iff_toInt_le, Int64.lt_iff_toInt_lt, Int64.le_iff_toInt_le, ← Int32.toInt_inj, Int32.toInt_toInt64, xl_0, xl_1, xl_2, xl_3, xl_4, xl_5, xl_6, xl_7, xl_8, xl_9, xl_10, xl_11, xl_12, xl_13, xl_20, xl_30, xl_59, xl_63, xl_64, xl_99, xl_100, xl_120, xl_999, xl_m1, xl_m2, xl_m3, xl_m4, xl_m5, xL_0, xL_1, xL_2, xL_3, xL_4, xL_5, xL_6, xL_7, xL_8, xL_20, xL_59, xL_63, xL_99, xL_999] at *; omega) | (exfalso; simp_all; done))
      by_cases h4 : a = 1
      · subst h4
        refine P0.go (k := 2) (s' := (20, [some (.ref 0), some (.int 1)], [.int 0], 102, xshC, xMt)) rfl ?_
        refine P0.ret (v := some (.int 0)) rfl ?_
        exact congrArg (fun z => some (Value.int z)) (show 0 = F_had 1 from by unfold F_had; (repeat' split) <;> first | rfl | (exfalso; simp only [Int32.lt_iff_toInt_lt, Int32.le_iff_toInt_le, Int64.lt_iff_toInt_lt, Int64.le_iff_toInt_le, ← Int32.toInt_inj, Int32.toInt_toInt64, xl_0, xl_1, xl_2, xl_3, xl_4, xl_5, xl_6, xl_7, xl_8, xl_9, xl_10, xl_11, xl_12, xl_13, xl_20, xl_30, xl_59, xl_63, xl_64, xl_99, xl_100, xl_120, xl_999, xl_m1, xl_m2, xl_m3, xl_m4, xl_m5, xL_0, xL_1, xL_2, xL_3, xL_4, xL_5, xL_6, xL_7, xL_8, xL_20, xL_59, xL_63, xL_99, xL_999] at *; omega) | (exfalso; simp_all; done))
      by_cases h5 : a = 2
      · subst h5
        refine P0.go (k := 2) (s' := (20, [some (.ref 0), some (.int 2)], [.int 0], 102, xshC, xMt)) rfl ?_
        refine P0.ret (v := some (.int 0)) rfl ?_
        exact congrArg (fun z => some (Value.int z)) (show 0 = F_had 2 from by unfold F_had; (repeat' split) <;> first | rfl | (exfalso; simp only [Int32.lt_iff_toInt_lt, Int32.le_iff_toInt_le, Int64.lt_iff_toInt_lt, Int64.le_iff_toInt_le, ← Int32.toInt_inj, Int32.toInt_toInt64, xl_0, xl_1, xl_2, xl_3, xl_4, xl_5, xl_6, xl_7, xl_8, xl_9, xl_10, xl_11, xl_12, xl_13, xl_20, xl_30, xl_59, xl_63, xl_64, xl_99, xl_100, xl_120, xl_999, xl_m1, xl_m2, xl_m3, xl_m4, xl_m5, xL_0, xL_1, xL_2, xL_3, xL_4, xL_5, xL_6, xL_7, xL_8, xL_20, xL_59, xL_63, xL_99, xL_999] at *; omega) | (exfalso; simp_all; done))
      by_cases h6 : a = 3
      · subst h6
        refine P0.go (k := 2) (s' := (20, [some (.ref 0), some (.int 3)], [.int 0], 102, xshC, xMt)) rfl ?_
        refine P0.ret (v := some (.int 0)) rfl ?_
        exact congrArg (fun z => some (Value.int z)) (show 0 = F_had 3 from by unfold F_had; (repeat' split) <;> first | rfl | (exfalso; simp only [Int32.lt_iff_toInt_lt, Int32.le_iff_toInt_le, Int64.lt_iff_toInt_lt, Int64.le_iff_toInt_le, ← Int32.toInt_inj, Int32.toInt_toInt64, xl_0, xl_1, xl_2, xl_3, xl_4, xl_5, xl_6, xl_7, xl_8, xl_9, xl_10, xl_11, xl_12, xl_13, xl_20, xl_30, xl_59, xl_63, xl_64, xl_99, xl_100, xl_120, xl_999, xl_m1, xl_m2, xl_m3, xl_m4, xl_m5, xL_0, xL_1, xL_2, xL_3, xL_4, xL_5, xL_6, xL_7, xL_8, xL_20, xL_59, xL_63, xL_99, xL_999] at *; omega) | (exfalso; simp_all; done))
      by_cases h7 : a = 4
      · subst h7
        refine P0.go (k := 2) (s' := (20, [some (.ref 0), some (.int 4)], [.int 0], 102, xshC, xMt)) rfl ?_
        refine P0.ret (v := some (.int 0)) rfl ?_
        exact congrArg (fun z => some (Value.int z)) (show 0 = F_had 4 from by unfold F_had; (repeat' split) <;> first | rfl | (exfalso; simp only [Int32.lt_iff_toInt_lt, Int32.le_iff_toInt_le, Int64.lt_iff_toInt_lt, Int64.le_iff_toInt_le, ← Int32.toInt_inj, Int32.toInt_toInt64, xl_0, xl_1, xl_2, xl_3, xl_4, xl_5, xl_6, xl_7, xl_8, xl_9, xl_10, xl_11, xl_12, xl_13, xl_20, xl_30, xl_59, xl_63, xl_64, xl_99, xl_100, xl_120, xl_999, xl_m1, xl_m2, xl_m3, xl_m4, xl_m5, xL_0, xL_1, xL_2, xL_3, xL_4, xL_5, xL_6, xL_7, xL_8, xL_20, xL_59, xL_63, xL_99, xL_999] at *; omega) | (exfalso; simp_all; done))
      by_cases h8 : a = 5
      · subst h8
        refine P0.go (k := 2) (s' := (20, [some (.ref 0), some (.int 5)], [.int 0], 102, xshC, xMt)) rfl ?_
        refine P0.ret (v := some (.int 0)) rfl ?_
        exact congrArg (fun z => some (Value.int z)) (show 0 = F_had 5 from by unfold F_had; (repeat' split) <;> first | rfl | (exfalso; simp only [Int32.lt_iff_toInt_lt, Int32.le_iff_toInt_le, Int64.lt_iff_toInt_lt, Int64.le_iff_toInt_le, ← Int32.toInt_inj, Int32.toInt_toInt64, xl_0, xl_1, xl_2, xl_3, xl_4, xl_5, xl_6, xl_7, xl_8, xl_9, xl_10, xl_11, xl_12, xl_13, xl_20, xl_30, xl_59, xl_63, xl_64, xl_99, xl_100, xl_120, xl_999, xl_m1, xl_m2, xl_m3, xl_m4, xl_m5, xL_0, xL_1, xL_2, xL_3, xL_4, xL_5, xL_6, xL_7, xL_8, xL_20, xL_59, xL_63, xL_99, xL_999] at *; omega) | (exfalso; simp_all; done))
      by_cases h9 : a = 6
      · subst h9
        refine P0.go (k := 2) (s' := (20, [some (.ref 0), some (.int 6)], [.int 0], 102, xshC, xMt)) rfl ?_
        refine P0.ret (v := some (.int 0)) rfl ?_
        exact congrArg (fun z => some (Value.int z)) (show 0 = F_had 6 from by unfold F_had; (repeat' split) <;> first | rfl | (exfalso; simp only [Int32.lt_iff_toInt_lt, Int32.le_iff_toInt_le, Int64.lt_iff_toInt_lt, Int64.le_iff_toInt_le, ← Int32.toInt_inj, Int32.toInt_toInt64, xl_0, xl_1, xl_2, xl_3, xl_4, xl_5, xl_6, xl_7, xl_8, xl_9, xl_10, xl_11, xl_12, xl_13, xl_20, xl_30, xl_59, xl_63, xl_64, xl_99, xl_100, xl_120, xl_999, xl_m1, xl_m2, xl_m3, xl_m4, xl_m5, xL_0, xL_1, xL_2, xL_3, xL_4, xL_5, xL_6, xL_7, xL_8, xL_20, xL_59, xL_63, xL_99, xL_999] at *; omega) | (exfalso; simp_all; done))
      by_cases h10 : a = 7
      · subst h10
        refine P0.go (k := 2) (s' := (20, [some (.ref 0), some (.int 7)], [.int 0], 102, xshC, xMt)) rfl ?_
        refine P0.ret (v := some (.int 0)) rfl ?_
        exact congrArg (fun z => some (Value.int z)) (show 0 = F_had 7 from by unfold F_had; (repeat' split) <;> first | rfl | (exfalso; simp only [Int32.lt_iff_toInt_lt, Int32.le_iff_toInt_le, Int64.lt_iff_toInt_lt, Int64.le_iff_toInt_le, ← Int32.toInt_inj, Int32.toInt_toInt64, xl_0, xl_1, xl_2, xl_3, xl_4, xl_5, xl_6, xl_7, xl_8, xl_9, xl_10, xl_11, xl_12, xl_13, xl_20, xl_30, xl_59, xl_63, xl_64, xl_99, xl_100, xl_120, xl_999, xl_m1, xl_m2, xl_m3, xl_m4, xl_m5, xL_0, xL_1, xL_2, xL_3, xL_4, xL_5, xL_6, xL_7, xL_8, xL_20, xL_59, xL_63, xL_99, xL_999] at *; omega) | (exfalso; simp_all; done))
      exact absurd True.intro (by exfalso; simp only [Int32.lt_iff_toInt_lt, Int32.le_iff_toInt_le, Int64.lt_iff_toInt_lt, Int64.le_iff_toInt_le, ← Int32.toInt_inj, Int32.toInt_toInt64, xl_0, xl_1, xl_2, xl_3, xl_4, xl_5, xl_6, xl_7, xl_8, xl_9, xl_10, xl_11, xl_12, xl_13, xl_20, xl_30, xl_59, xl_63, xl_64, xl_99, xl_100, xl_120, xl_999, xl_m1, xl_m2, xl_m3, xl_m4, xl_m5, xL_0, xL_1, xL_2, xL_3, xL_4, xL_5, xL_6, xL_7, xL_8, xL_20, xL_59, xL_63, xL_99, xL_999] at *; omega)
set_option maxRecDepth 100000 in
set_option maxHeartbeats 4000000 in
theorem wc_group (a b : Int32) : P0 125 (0, [some (.ref 0), some (.int a), some (.int b)], [], 102, xshC, xMt) (fun r => r.1 = some (.int (F_group a b))) := by
  refine P0.go (k := 1) (s' := (1, [some (.ref 0), some (.int a), some (.int b)], [.int a], 102, xshC, xMt)) rfl ?_
  refine P0.call (z := 140) (as := [.int a]) (pc := 4) (pl := [some (.ref 0), some (.int a), some (.int b)]) (st := []) (nz := 102) (sh := xshC) (M := xMt) rfl (Nat.le_of_ble_eq_true rfl) ?_
  show P0 140 (0, [some (.int a)], [], 102, xshC, xMt) _
  refine P0.go (k := 3) (s' := (3, [some (.int a)], [.int 5, .int 0, .int a], 102, xshC, xMt)) rfl ?_
  refine P0.call (z := 136) (as := [.int a, .int 0, .int 5]) (pc := 6) (pl := [some (.int a)]) (st := []) (nz := 102) (sh := xshC) (M := xMt) rfl (Nat.le_of_ble_eq_true rfl) ?_
  show P0 136 (0, [some (.int a), some (.int 0), some (.int 5)], [], 102, xshC, xMt) _
  refine P0.go (k := 3) (s' := (xcmp .gt (0) (a) 14 5, [some (.int a), some (.int 0), some (.int 5)], [], 102, xshC, xMt)) rfl ?_
  refine P0.gt (fun h1 => ?_) (fun h1 => ?_)
  · refine P0.go (k := 1) (s' := (15, [some (.int a), some (.int 0), some (.int 5)], [.int 0], 102, xshC, xMt)) rfl ?_
    refine P0.ret (v := some (.int 0)) rfl ?_
    refine ⟨rfl, ?_⟩
    show P0 140 (6, [some (.int a)], [.int 0], 102, xshC, xMt) _
    refine P0.ret (v := some (.int 0)) rfl ?_
    refine ⟨rfl, ?_⟩
    show P0 125 (4, [some (.ref 0), some (.int a), some (.int b)], [.int 0], 102, xshC, xMt) _
    refine P0.go (k := 2) (s' := (8, [some (.ref 0), some (.int a), some (.int b)], [.int (-1)], 102, xshC, xMt)) rfl ?_
    refine P0.ret (v := some (.int (-1))) rfl ?_
    exact congrArg (fun z => some (Value.int z)) (show (-1) = F_group a b from by unfold F_group; (repeat' split) <;> first | rfl | (exfalso; simp only [Int32.lt_iff_toInt_lt, Int32.le_iff_toInt_le, Int64.lt_iff_toInt_lt, Int64.le_iff_toInt_le, ← Int32.toInt_inj, Int32.toInt_toInt64, xl_0, xl_1, xl_2, xl_3, xl_4, xl_5, xl_6, xl_7, xl_8, xl_9, xl_10, xl_11, xl_12, xl_13, xl_20, xl_30, xl_59, xl_63, xl_64, xl_99, xl_100, xl_120, xl_999, xl_m1, xl_m2, xl_m3, xl_m4, xl_m5, xL_0, xL_1, xL_2, xL_3, xL_4, xL_5, xL_6, xL_7, xL_8, xL_20, xL_59, xL_63, xL_99, xL_999] at *; omega) | (exfalso; simp_all; done))
  · refine P0.go (k := 3) (s' := (xcmp .gt (a) (5) 14 10, [some (.int a), some (.int 0), some (.int 5)], [], 102, xshC, xMt)) rfl ?_
    refine P0.gt (fun h2 => ?_) (fun h2 => ?_)
    · refine P0.go (k := 1) (s' := (15, [some (.int a), some (.int 0), some (.int 5)], [.int 0], 102, xshC, xMt)) rfl ?_
      refine P0.ret (v := some (.int 0)) rfl ?_
      refine ⟨rfl, ?_⟩
      show P0 140 (6, [some (.int a)], [.int 0], 102, xshC, xMt) _
      refine P0.ret (v := some (.int 0)) rfl ?_
      refine ⟨rfl, ?_⟩
      show P0 125 (4, [some (.ref 0), some (.int a), some (.int b)], [.int 0], 102, xshC, xMt) _
      refine P0.go (k := 2) (s' := (8, [some (.ref 0), some (.int a), some (.int b)], [.int (-1)], 102, xshC, xMt)) rfl ?_
      refine P0.ret (v := some (.int (-1))) rfl ?_
      exact congrArg (fun z => some (Value.int z)) (show (-1) = F_group a b from by unfold F_group; (repeat' split) <;> first | rfl | (exfalso; simp only [Int32.lt_iff_toInt_lt, Int32.le_iff_toInt_le, Int64.lt_iff_toInt_lt, Int64.le_iff_toInt_le, ← Int32.toInt_inj, Int32.toInt_toInt64, xl_0, xl_1, xl_2, xl_3, xl_4, xl_5, xl_6, xl_7, xl_8, xl_9, xl_10, xl_11, xl_12, xl_13, xl_20, xl_30, xl_59, xl_63, xl_64, xl_99, xl_100, xl_120, xl_999, xl_m1, xl_m2, xl_m3, xl_m4, xl_m5, xL_0, xL_1, xL_2, xL_3, xL_4, xL_5, xL_6, xL_7, xL_8, xL_20, xL_59, xL_63, xL_99, xL_999] at *; omega) | (exfalso; simp_all; done))
    · refine P0.go (k := 2) (s' := (15, [some (.int a), some (.int 0), some (.int 5)], [.int 1], 102, xshC, xMt)) rfl ?_
      refine P0.ret (v := some (.int 1)) rfl ?_
      refine ⟨rfl, ?_⟩
      show P0 140 (6, [some (.int a)], [.int 1], 102, xshC, xMt) _
      refine P0.ret (v := some (.int 1)) rfl ?_
      refine ⟨rfl, ?_⟩
      show P0 125 (4, [some (.ref 0), some (.int a), some (.int b)], [.int 1], 102, xshC, xMt) _
      refine P0.go (k := 4) (s' := (13, [some (.ref 0), some (.int a), some (.int b)], [.int 99, .int 0, .int b], 102, xshC, xMt)) rfl ?_
      refine P0.call (z := 136) (as := [.int b, .int 0, .int 99]) (pc := 16) (pl := [some (.ref 0), some (.int a), some (.int b)]) (st := []) (nz := 102) (sh := xshC) (M := xMt) rfl (Nat.le_of_ble_eq_true rfl) ?_
      show P0 136 (0, [some (.int b), some (.int 0), some (.int 99)], [], 102, xshC, xMt) _
      refine P0.go (k := 3) (s' := (xcmp .gt (0) (b) 14 5, [some (.int b), some (.int 0), some (.int 99)], [], 102, xshC, xMt)) rfl ?_
      refine P0.gt (fun h3 => ?_) (fun h3 => ?_)
      · refine P0.go (k := 1) (s' := (15, [some (.int b), some (.int 0), some (.int 99)], [.int 0], 102, xshC, xMt)) rfl ?_
        refine P0.ret (v := some (.int 0)) rfl ?_
        refine ⟨rfl, ?_⟩
        show P0 125 (16, [some (.ref 0), some (.int a), some (.int b)], [.int 0], 102, xshC, xMt) _
        refine P0.go (k := 2) (s' := (36, [some (.ref 0), some (.int a), some (.int b)], [.int (-2)], 102, xshC, xMt)) rfl ?_
        refine P0.ret (v := some (.int (-2))) rfl ?_
        exact congrArg (fun z => some (Value.int z)) (show (-2) = F_group a b from by unfold F_group; (repeat' split) <;> first | rfl | (exfalso; simp only [Int32.lt_iff_toInt_lt, Int32.le_iff_toInt_le, Int64.lt_iff_toInt_lt, Int64.le_iff_toInt_le, ← Int32.toInt_inj, Int32.toInt_toInt64, xl_0, xl_1, xl_2, xl_3, xl_4, xl_5, xl_6, xl_7, xl_8, xl_9, xl_10, xl_11, xl_12, xl_13, xl_20, xl_30, xl_59, xl_63, xl_64, xl_99, xl_100, xl_120, xl_999, xl_m1, xl_m2, xl_m3, xl_m4, xl_m5, xL_0, xL_1, xL_2, xL_3, xL_4, xL_5, xL_6, xL_7, xL_8, xL_20, xL_59, xL_63, xL_99, xL_999] at *; omega) | (exfalso; simp_all; done))
      · refine P0.go (k := 3) (s' := (xcmp .gt (b) (99) 14 10, [some (.int b), some (.int 0), some (.int 99)], [], 102, xshC, xMt)) rfl ?_
        refine P0.gt (fun h4 => ?_) (fun h4 => ?_)
        · refine P0.go (k := 1) (s' := (15, [some (.int b), some (.int 0), some (.int 99)], [.int 0], 102, xshC, xMt)) rfl ?_
          refine P0.ret (v := some (.int 0)) rfl ?_
          refine ⟨rfl, ?_⟩
          show P0 125 (16, [some (.ref 0), some (.int a), some (.int b)], [.int 0], 102, xshC, xMt) _
          refine P0.go (k := 2) (s' := (36, [some (.ref 0), some (.int a), some (.int b)], [.int (-2)], 102, xshC, xMt)) rfl ?_
          refine P0.ret (v := some (.int (-2))) rfl ?_
          exact congrArg (fun z => some (Value.int z)) (show (-2) = F_group a b from by unfold F_group; (repeat' split) <;> first | rfl | (exfalso; simp only [Int32.lt_iff_toInt_lt, Int32.le_iff_toInt_le, Int64.lt_iff_toInt_lt, Int64.le_iff_toInt_le, ← Int32.toInt_inj, Int32.toInt_toInt64, xl_0, xl_1, xl_2, xl_3, xl_4, xl_5, xl_6, xl_7, xl_8, xl_9, xl_10, xl_11, xl_12, xl_13, xl_20, xl_30, xl_59, xl_63, xl_64, xl_99, xl_100, xl_120, xl_999, xl_m1, xl_m2, xl_m3, xl_m4, xl_m5, xL_0, xL_1, xL_2, xL_3, xL_4, xL_5, xL_6, xL_7, xL_8, xL_20, xL_59, xL_63, xL_99, xL_999] at *; omega) | (exfalso; simp_all; done))
        · refine P0.go (k := 2) (s' := (15, [some (.int b), some (.int 0), some (.int 99)], [.int 1], 102, xshC, xMt)) rfl ?_
          refine P0.ret (v := some (.int 1)) rfl ?_
          refine ⟨rfl, ?_⟩
          show P0 125 (16, [some (.ref 0), some (.int a), some (.int b)], [.int 1], 102, xshC, xMt) _
          refine P0.go (k := 6) (s' := (28, [some (.ref 0), some (.int a), some (.int b)], [.int b, .int a, .ref 48], 102, xshC, xMt)) rfl ?_
          refine P0.call (z := 142) (as := [.ref 48, .int a, .int b]) (pc := 31) (pl := [some (.ref 0), some (.int a), some (.int b)]) (st := []) (nz := 102) (sh := xshC) (M := xMt) rfl (Nat.le_of_ble_eq_true rfl) ?_
          show P0 142 (0, [some (.ref 48), some (.int a), some (.int b), none], [], 102, xshC, xMt) _
          refine P0.go (k := 2) (s' := (2, [some (.ref 48), some (.int a), some (.int b), none], [.int a, .ref 48], 102, xshC, xMt)) rfl ?_
          by_cases h5 : a = 0
          · subst h5
            refine P0.go (k := 7) (s' := (9, [some (.ref 48), some (.int 0), some (.int b), some (.int 0)], [.int 0], 102, xshC, (xup xMt 48 0 (b)))) rfl ?_
            refine P0.ret (v := some (.int 0)) rfl ?_
            refine ⟨rfl, ?_⟩
            show P0 125 (31, [some (.ref 0), some (.int 0), some (.int b)], [.int 0], 102, xshC, (xup xMt 48 0 (b))) _
            refine P0.go (k := 1) (s' := (36, [some (.ref 0), some (.int 0), some (.int b)], [.int 0], 102, xshC, (xup xMt 48 0 (b)))) rfl ?_
            refine P0.ret (v := some (.int 0)) rfl ?_
            exact congrArg (fun z => some (Value.int z)) (show 0 = F_group 0 b from by unfold F_group; (repeat' split) <;> first | rfl | (exfalso; simp only [Int32.lt_iff_toInt_lt, Int32.le_iff_toInt_le, Int64.lt_iff_toInt_lt, Int64.le_iff_toInt_le, ← Int32.toInt_inj, Int32.toInt_toInt64, xl_0, xl_1, xl_2, xl_3, xl_4, xl_5, xl_6, xl_7, xl_8, xl_9, xl_10, xl_11, xl_12, xl_13, xl_20, xl_30, xl_59, xl_63, xl_64, xl_99, xl_100, xl_120, xl_999, xl_m1, xl_m2, xl_m3, xl_m4, xl_m5, xL_0, xL_1, xL_2, xL_3, xL_4, xL_5, xL_6, xL_7, xL_8, xL_20, xL_59, xL_63, xL_99, xL_999] at *; omega) | (exfalso; simp_all; done))
          by_cases h6 : a = 1
          · subst h6
            refine P0.go (k := 7) (s' := (9, [some (.ref 48), some (.int 1), some (.int b), some (.int 0)], [.int 0], 102, xshC, (xup xMt 48 1 (b)))) rfl ?_
            refine P0.ret (v := some (.int 0)) rfl ?_
            refine ⟨rfl, ?_⟩
            show P0 125 (31, [some (.ref 0), some (.int 1), some (.int b)], [.int 0], 102, xshC, (xup xMt 48 1 (b))) _
            refine P0.go (k := 1) (s' := (36, [some (.ref 0), some (.int 1), some (.int b)], [.int 0], 102, xshC, (xup xMt 48 1 (b)))) rfl ?_
            refine P0.ret (v := some (.int 0)) rfl ?_
            exact congrArg (fun z => some (Value.int z)) (show 0 = F_group 1 b from by unfold F_group; (repeat' split) <;> first | rfl | (exfalso; simp only [Int32.lt_iff_toInt_lt, Int32.le_iff_toInt_le, Int64.lt_iff_toInt_lt, Int64.le_iff_toInt_le, ← Int32.toInt_inj, Int32.toInt_toInt64, xl_0, xl_1, xl_2, xl_3, xl_4, xl_5, xl_6, xl_7, xl_8, xl_9, xl_10, xl_11, xl_12, xl_13, xl_20, xl_30, xl_59, xl_63, xl_64, xl_99, xl_100, xl_120, xl_999, xl_m1, xl_m2, xl_m3, xl_m4, xl_m5, xL_0, xL_1, xL_2, xL_3, xL_4, xL_5, xL_6, xL_7, xL_8, xL_20, xL_59, xL_63, xL_99, xL_999] at *; omega) | (exfalso; simp_all; done))
          by_cases h7 : a = 2
          · subst h7
            refine P0.go (k := 7) (s' := (9, [some (.ref 48), some (.int 2), some (.int b), some (.int 0)], [.int 0], 102, xshC, (xup xMt 48 2 (b)))) rfl ?_
            refine P0.ret (v := some (.int 0)) rfl ?_
            refine ⟨rfl, ?_⟩
            show P0 125 (31, [some (.ref 0), some (.int 2), some (.int b)], [.int 0], 102, xshC, (xup xMt 48 2 (b))) _
            refine P0.go (k := 1) (s' := (36, [some (.ref 0), some (.int 2), some (.int b)], [.int 0], 102, xshC, (xup xMt 48 2 (b)))) rfl ?_
            refine P0.ret (v := some (.int 0)) rfl ?_
            exact congrArg (fun z => some (Value.int z)) (show 0 = F_group 2 b from by unfold F_group; (repeat' split) <;> first | rfl | (exfalso; simp only [Int32.lt_iff_toInt_lt, Int32.le_iff_toInt_le, Int64.lt_iff_toInt_lt, Int64.le_iff_toInt_le, ← Int32.toInt_inj, Int32.toInt_toInt64, xl_0, xl_1, xl_2, xl_3, xl_4, xl_5, xl_6, xl_7, xl_8, xl_9, xl_10, xl_11, xl_12, xl_13, xl_20, xl_30, xl_59, xl_63, xl_64, xl_99, xl_100, xl_120, xl_999, xl_m1, xl_m2, xl_m3, xl_m4, xl_m5, xL_0, xL_1, xL_2, xL_3, xL_4, xL_5, xL_6, xL_7, xL_8, xL_20, xL_59, xL_63, xL_99, xL_999] at *; omega) | (exfalso; simp_all; done))
          by_cases h8 : a = 3
          · subst h8
            refine P0.go (k := 7) (s' := (9, [some (.ref 48), some (.int 3), some (.int b), some (.int 0)], [.int 0], 102, xshC, (xup xMt 48 3 (b)))) rfl ?_
            refine P0.ret (v := some (.int 0)) rfl ?_
            refine ⟨rfl, ?_⟩
            show P0 125 (31, [some (.ref 0), some (.int 3), some (.int b)], [.int 0], 102, xshC, (xup xMt 48 3 (b))) _
            refine P0.go (k := 1) (s' := (36, [some (.ref 0), some (.int 3), some (.int b)], [.int 0], 102, xshC, (xup xMt 48 3 (b)))) rfl ?_
            refine P0.ret (v := some (.int 0)) rfl ?_
            exact congrArg (fun z => some (Value.int z)) (show 0 = F_group 3 b from by unfold F_group; (repeat' split) <;> first | rfl | (exfalso; simp only [Int32.lt_iff_toInt_lt, Int32.le_iff_toInt_le, Int64.lt_iff_toInt_lt, Int64.le_iff_toInt_le, ← Int32.toInt_inj, Int32.toInt_toInt64, xl_0, xl_1, xl_2, xl_3, xl_4, xl_5, xl_6, xl_7, xl_8, xl_9, xl_10, xl_11, xl_12, xl_13, xl_20, xl_30, xl_59, xl_63, xl_64, xl_99, xl_100, xl_120, xl_999, xl_m1, xl_m2, xl_m3, xl_m4, xl_m5, xL_0, xL_1, xL_2, xL_3, xL_4, xL_5, xL_6, xL_7, xL_8, xL_20, xL_59, xL_63, xL_99, xL_999] at *; omega) | (exfalso; simp_all; done))
          by_cases h9 : a = 4
          · subst h9
            refine P0.go (k := 7) (s' := (9, [some (.ref 48), some (.int 4), some (.int b), some (.int 0)], [.int 0], 102, xshC, (xup xMt 48 4 (b)))) rfl ?_
            refine P0.ret (v := some (.int 0)) rfl ?_
            refine ⟨rfl, ?_⟩
            show P0 125 (31, [some (.ref 0), some (.int 4), some (.int b)], [.int 0], 102, xshC, (xup xMt 48 4 (b))) _
            refine P0.go (k := 1) (s' := (36, [some (.ref 0), some (.int 4), some (.int b)], [.int 0], 102, xshC, (xup xMt 48 4 (b)))) rfl ?_
            refine P0.ret (v := some (.int 0)) rfl ?_
            exact congrArg (fun z => some (Value.int z)) (show 0 = F_group 4 b from by unfold F_group; (repeat' split) <;> first | rfl | (exfalso; simp only [Int32.lt_iff_toInt_lt, Int32.le_iff_toInt_le, Int64.lt_iff_toInt_lt, Int64.le_iff_toInt_le, ← Int32.toInt_inj, Int32.toInt_toInt64, xl_0, xl_1, xl_2, xl_3, xl_4, xl_5, xl_6, xl_7, xl_8, xl_9, xl_10, xl_11, xl_12, xl_13, xl_20, xl_30, xl_59, xl_63, xl_64, xl_99, xl_100, xl_120, xl_999, xl_m1, xl_m2, xl_m3, xl_m4, xl_m5, xL_0, xL_1, xL_2, xL_3, xL_4, xL_5, xL_6, xL_7, xL_8, xL_20, xL_59, xL_63, xL_99, xL_999] at *; omega) | (exfalso; simp_all; done))
          by_cases h10 : a = 5
          · subst h10
            refine P0.go (k := 7) (s' := (9, [some (.ref 48), some (.int 5), some (.int b), some (.int 0)], [.int 0], 102, xshC, (xup xMt 48 5 (b)))) rfl ?_
            refine P0.ret (v := some (.int 0)) rfl ?_
            refine ⟨rfl, ?_⟩
            show P0 125 (31, [some (.ref 0), some (.int 5), some (.int b)], [.int 0], 102, xshC, (xup xMt 48 5 (b))) _
            refine P0.go (k := 1) (s' := (36, [some (.ref 0), some (.int 5), some (.int b)], [.int 0], 102, xshC, (xup xMt 48 5 (b)))) rfl ?_
            refine P0.ret (v := some (.int 0)) rfl ?_
            exact congrArg (fun z => some (Value.int z)) (show 0 = F_group 5 b from by unfold F_group; (repeat' split) <;> first | rfl | (exfalso; simp only [Int32.lt_iff_toInt_lt, Int32.le_iff_toInt_le, Int64.lt_iff_toInt_lt, Int64.le_iff_toInt_le, ← Int32.toInt_inj, Int32.toInt_toInt64, xl_0, xl_1, xl_2, xl_3, xl_4, xl_5, xl_6, xl_7, xl_8, xl_9, xl_10, xl_11, xl_12, xl_13, xl_20, xl_30, xl_59, xl_63, xl_64, xl_99, xl_100, xl_120, xl_999, xl_m1, xl_m2, xl_m3, xl_m4, xl_m5, xL_0, xL_1, xL_2, xL_3, xL_4, xL_5, xL_6, xL_7, xL_8, xL_20, xL_59, xL_63, xL_99, xL_999] at *; omega) | (exfalso; simp_all; done))
          exact absurd True.intro (by exfalso; simp only [Int32.lt_iff_toInt_lt, Int32.le_iff_toInt_le, Int64.lt_iff_toInt_lt, Int64.le_iff_toInt_le, ← Int32.toInt_inj, Int32.toInt_toInt64, xl_0, xl_1, xl_2, xl_3, xl_4, xl_5, xl_6, xl_7, xl_8, xl_9, xl_10, xl_11, xl_12, xl_13, xl_20, xl_30, xl_59, xl_63, xl_64, xl_99, xl_100, xl_120, xl_999, xl_m1, xl_m2, xl_m3, xl_m4, xl_m5, xL_0, xL_1, xL_2, xL_3, xL_4, xL_5, xL_6, xL_7, xL_8, xL_20, xL_59, xL_63, xL_99, xL_999] at *; omega)
set_option maxRecDepth 100000 in
set_option maxHeartbeats 4000000 in
theorem wc_offer (a : Int32) : P0 126 (0, [some (.ref 0), some (.int a)], [], 102, xshC, xMt) (fun r => r.1 = some (.int (F_offer a))) := by
  refine P0.go (k := 3) (s' := (4, [some (.ref 0), some (.int a)], [.int 63, .int 1, .int a], 102, xshC, xMt)) rfl ?_
  refine P0.call (z := 136) (as := [.int a, .int 1, .int 63]) (pc := 7) (pl := [some (.ref 0), some (.int a)]) (st := []) (nz := 102) (sh := xshC) (M := xMt) rfl (Nat.le_of_ble_eq_true rfl) ?_
  show P0 136 (0, [some (.int a), some (.int 1), some (.int 63)], [], 102, xshC, xMt) _
  refine P0.go (k := 3) (s' := (xcmp .gt (1) (a) 14 5, [some (.int a), some (.int 1), some (.int 63)], [], 102, xshC, xMt)) rfl ?_
  refine P0.gt (fun h1 => ?_) (fun h1 => ?_)
  · refine P0.go (k := 1) (s' := (15, [some (.int a), some (.int 1), some (.int 63)], [.int 0], 102, xshC, xMt)) rfl ?_
    refine P0.ret (v := some (.int 0)) rfl ?_
    refine ⟨rfl, ?_⟩
    show P0 126 (7, [some (.ref 0), some (.int a)], [.int 0], 102, xshC, xMt) _
    refine P0.go (k := 2) (s' := (12, [some (.ref 0), some (.int a)], [.int (-2)], 102, xshC, xMt)) rfl ?_
    refine P0.ret (v := some (.int (-2))) rfl ?_
    exact congrArg (fun z => some (Value.int z)) (show (-2) = F_offer a from by unfold F_offer; (repeat' split) <;> first | rfl | (exfalso; simp only [Int32.lt_iff_toInt_lt, Int32.le_iff_toInt_le, Int64.lt_iff_toInt_lt, Int64.le_iff_toInt_le, ← Int32.toInt_inj, Int32.toInt_toInt64, xl_0, xl_1, xl_2, xl_3, xl_4, xl_5, xl_6, xl_7, xl_8, xl_9, xl_10, xl_11, xl_12, xl_13, xl_20, xl_30, xl_59, xl_63, xl_64, xl_99, xl_100, xl_120, xl_999, xl_m1, xl_m2, xl_m3, xl_m4, xl_m5, xL_0, xL_1, xL_2, xL_3, xL_4, xL_5, xL_6, xL_7, xL_8, xL_20, xL_59, xL_63, xL_99, xL_999] at *; omega) | (exfalso; simp_all; done))
  · refine P0.go (k := 3) (s' := (xcmp .gt (a) (63) 14 10, [some (.int a), some (.int 1), some (.int 63)], [], 102, xshC, xMt)) rfl ?_
    refine P0.gt (fun h2 => ?_) (fun h2 => ?_)
    · refine P0.go (k := 1) (s' := (15, [some (.int a), some (.int 1), some (.int 63)], [.int 0], 102, xshC, xMt)) rfl ?_
      refine P0.ret (v := some (.int 0)) rfl ?_
      refine ⟨rfl, ?_⟩
      show P0 126 (7, [some (.ref 0), some (.int a)], [.int 0], 102, xshC, xMt) _
      refine P0.go (k := 2) (s' := (12, [some (.ref 0), some (.int a)], [.int (-2)], 102, xshC, xMt)) rfl ?_
      refine P0.ret (v := some (.int (-2))) rfl ?_
      exact congrArg (fun z => some (Value.int z)) (show (-2) = F_offer a from by unfold F_offer; (repeat' split) <;> first | rfl | (exfalso; simp only [Int32.lt_iff_toInt_lt, Int32.le_iff_toInt_le, Int64.lt_iff_toInt_lt, Int64.le_iff_toInt_le, ← Int32.toInt_inj, Int32.toInt_toInt64, xl_0, xl_1, xl_2, xl_3, xl_4, xl_5, xl_6, xl_7, xl_8, xl_9, xl_10, xl_11, xl_12, xl_13, xl_20, xl_30, xl_59, xl_63, xl_64, xl_99, xl_100, xl_120, xl_999, xl_m1, xl_m2, xl_m3, xl_m4, xl_m5, xL_0, xL_1, xL_2, xL_3, xL_4, xL_5, xL_6, xL_7, xL_8, xL_20, xL_59, xL_63, xL_99, xL_999] at *; omega) | (exfalso; simp_all; done))
    · refine P0.go (k := 2) (s' := (15, [some (.int a), some (.int 1), some (.int 63)], [.int 1], 102, xshC, xMt)) rfl ?_
      refine P0.ret (v := some (.int 1)) rfl ?_
      refine ⟨rfl, ?_⟩
      show P0 126 (7, [some (.ref 0), some (.int a)], [.int 1], 102, xshC, xMt) _
      refine P0.go (k := 3) (s' := (17, [some (.ref 0), some (.int a)], [.ref 47], 102, xshC, xMt)) rfl ?_
      refine P0.call (z := 9) (as := [.ref 47]) (pc := 20) (pl := [some (.ref 0), some (.int a)]) (st := []) (nz := 102) (sh := xshC) (M := xMt) rfl (Nat.le_of_ble_eq_true rfl) ?_
      show P0 9 (0, [some (.ref 47)], [], 102, xshC, xMt) _
      refine P0.go (k := 5) (s' := (14, [some (.ref 47)], [.int 0], 102, xshC, xMt)) rfl ?_
      refine P0.ret (v := some (.int 0)) rfl ?_
      refine ⟨rfl, ?_⟩
      show P0 126 (20, [some (.ref 0), some (.int a)], [.int 0], 102, xshC, xMt) _
      refine P0.go (k := 4) (s' := (33, [some (.ref 0), some (.int a)], [.int a, .ref 47], 102, xshC, xMt)) rfl ?_
      refine P0.call (z := 10) (as := [.ref 47, .int a]) (pc := 36) (pl := [some (.ref 0), some (.int a)]) (st := []) (nz := 102) (sh := xshC) (M := xMt) rfl (Nat.le_of_ble_eq_true rfl) ?_
      show P0 10 (0, [some (.ref 47), some (.int a)], [], 102, xshC, xMt) _
      refine P0.go (k := 13) (s' := (21, [some (.ref 47), some (.int a)], [.int 0], 102, xshC, (xup (xup xMt 49 0 (a)) 47 3 (1)))) rfl ?_
      refine P0.ret (v := some (.int 0)) rfl ?_
      refine ⟨rfl, ?_⟩
      show P0 126 (36, [some (.ref 0), some (.int a)], [.int 0], 102, xshC, (xup (xup xMt 49 0 (a)) 47 3 (1))) _
      refine P0.ret (v := some (.int 0)) rfl ?_
      exact congrArg (fun z => some (Value.int z)) (show 0 = F_offer a from by unfold F_offer; (repeat' split) <;> first | rfl | (exfalso; simp only [Int32.lt_iff_toInt_lt, Int32.le_iff_toInt_le, Int64.lt_iff_toInt_lt, Int64.le_iff_toInt_le, ← Int32.toInt_inj, Int32.toInt_toInt64, xl_0, xl_1, xl_2, xl_3, xl_4, xl_5, xl_6, xl_7, xl_8, xl_9, xl_10, xl_11, xl_12, xl_13, xl_20, xl_30, xl_59, xl_63, xl_64, xl_99, xl_100, xl_120, xl_999, xl_m1, xl_m2, xl_m3, xl_m4, xl_m5, xL_0, xL_1, xL_2, xL_3, xL_4, xL_5, xL_6, xL_7, xL_8, xL_20, xL_59, xL_63, xL_99, xL_999] at *; omega) | (exfalso; simp_all; done))
set_option maxRecDepth 100000 in
set_option maxHeartbeats 4000000 in
theorem wc_gets (a b c : Int32) : P0 127 (0, [some (.ref 0), some (.int a), some (.int b), some (.int c)], [], 102, xshC, xMt) (fun r => r.1 = some (.int (F_gets a b c))) := by
  refine P0.go (k := 3) (s' := (5, [some (.ref 0), some (.int a), some (.int b), some (.int c)], [.int a, .ref 47], 102, xshC, xMt)) rfl ?_
  refine P0.call (z := 8) (as := [.ref 47, .int a]) (pc := 8) (pl := [some (.ref 0), some (.int a), some (.int b), some (.int c)]) (st := []) (nz := 102) (sh := xshC) (M := xMt) rfl (Nat.le_of_ble_eq_true rfl) ?_
  show P0 8 (0, [some (.ref 47), some (.int a)], [], 102, xshC, xMt) _
  refine P0.go (k := 6) (s' := (8, [some (.ref 47), some (.int a)], [.int (((0) - (1) : Int32)), .int 0, .int a], 102, xshC, xMt)) rfl ?_
  refine P0.topi (x' := (-1)) (by decide) ?_
  refine P0.call (z := 136) (as := [.int a, .int 0, .int (-1)]) (pc := 11) (pl := [some (.ref 47), some (.int a)]) (st := []) (nz := 102) (sh := xshC) (M := xMt) rfl (Nat.le_of_ble_eq_true rfl) ?_
  show P0 136 (0, [some (.int a), some (.int 0), some (.int (-1))], [], 102, xshC, xMt) _
  refine P0.go (k := 3) (s' := (xcmp .gt (0) (a) 14 5, [some (.int a), some (.int 0), some (.int (-1))], [], 102, xshC, xMt)) rfl ?_
  refine P0.gt (fun h1 => ?_) (fun h1 => ?_)
  · refine P0.go (k := 1) (s' := (15, [some (.int a), some (.int 0), some (.int (-1))], [.int 0], 102, xshC, xMt)) rfl ?_
    refine P0.ret (v := some (.int 0)) rfl ?_
    refine ⟨rfl, ?_⟩
    show P0 8 (11, [some (.ref 47), some (.int a)], [.int 0], 102, xshC, xMt) _
    refine P0.ret (v := some (.int 0)) rfl ?_
    refine ⟨rfl, ?_⟩
    show P0 127 (8, [some (.ref 0), some (.int a), some (.int b), some (.int c)], [.int 0], 102, xshC, xMt) _
    refine P0.go (k := 2) (s' := (31, [some (.ref 0), some (.int a), some (.int b), some (.int c)], [.int (-1)], 102, xshC, xMt)) rfl ?_
    refine P0.ret (v := some (.int (-1))) rfl ?_
    exact congrArg (fun z => some (Value.int z)) (show (-1) = F_gets a b c from by unfold F_gets; (repeat' split) <;> first | rfl | (exfalso; simp only [Int32.lt_iff_toInt_lt, Int32.le_iff_toInt_le, Int64.lt_iff_toInt_lt, Int64.le_iff_toInt_le, ← Int32.toInt_inj, Int32.toInt_toInt64, xl_0, xl_1, xl_2, xl_3, xl_4, xl_5, xl_6, xl_7, xl_8, xl_9, xl_10, xl_11, xl_12, xl_13, xl_20, xl_30, xl_59, xl_63, xl_64, xl_99, xl_100, xl_120, xl_999, xl_m1, xl_m2, xl_m3, xl_m4, xl_m5, xL_0, xL_1, xL_2, xL_3, xL_4, xL_5, xL_6, xL_7, xL_8, xL_20, xL_59, xL_63, xL_99, xL_999] at *; omega) | (exfalso; simp_all; done))
  · refine P0.go (k := 3) (s' := (xcmp .gt (a) ((-1)) 14 10, [some (.int a), some (.int 0), some (.int (-1))], [], 102, xshC, xMt)) rfl ?_
    refine P0.gt (fun h2 => ?_) (fun h2 => absurd True.intro (by exfalso; simp only [Int32.lt_iff_toInt_lt, Int32.le_iff_toInt_le, Int64.lt_iff_toInt_lt, Int64.le_iff_toInt_le, ← Int32.toInt_inj, Int32.toInt_toInt64, xl_0, xl_1, xl_2, xl_3, xl_4, xl_5, xl_6, xl_7, xl_8, xl_9, xl_10, xl_11, xl_12, xl_13, xl_20, xl_30, xl_59, xl_63, xl_64, xl_99, xl_100, xl_120, xl_999, xl_m1, xl_m2, xl_m3, xl_m4, xl_m5, xL_0, xL_1, xL_2, xL_3, xL_4, xL_5, xL_6, xL_7, xL_8, xL_20, xL_59, xL_63, xL_99, xL_999] at *; omega))
    refine P0.go (k := 1) (s' := (15, [some (.int a), some (.int 0), some (.int (-1))], [.int 0], 102, xshC, xMt)) rfl ?_
    refine P0.ret (v := some (.int 0)) rfl ?_
    refine ⟨rfl, ?_⟩
    show P0 8 (11, [some (.ref 47), some (.int a)], [.int 0], 102, xshC, xMt) _
    refine P0.ret (v := some (.int 0)) rfl ?_
    refine ⟨rfl, ?_⟩
    show P0 127 (8, [some (.ref 0), some (.int a), some (.int b), some (.int c)], [.int 0], 102, xshC, xMt) _
    refine P0.go (k := 2) (s' := (31, [some (.ref 0), some (.int a), some (.int b), some (.int c)], [.int (-1)], 102, xshC, xMt)) rfl ?_
    refine P0.ret (v := some (.int (-1))) rfl ?_
    exact congrArg (fun z => some (Value.int z)) (show (-1) = F_gets a b c from by unfold F_gets; (repeat' split) <;> first | rfl | (exfalso; simp only [Int32.lt_iff_toInt_lt, Int32.le_iff_toInt_le, Int64.lt_iff_toInt_lt, Int64.le_iff_toInt_le, ← Int32.toInt_inj, Int32.toInt_toInt64, xl_0, xl_1, xl_2, xl_3, xl_4, xl_5, xl_6, xl_7, xl_8, xl_9, xl_10, xl_11, xl_12, xl_13, xl_20, xl_30, xl_59, xl_63, xl_64, xl_99, xl_100, xl_120, xl_999, xl_m1, xl_m2, xl_m3, xl_m4, xl_m5, xL_0, xL_1, xL_2, xL_3, xL_4, xL_5, xL_6, xL_7, xL_8, xL_20, xL_59, xL_63, xL_99, xL_999] at *; omega) | (exfalso; simp_all; done))
set_option maxRecDepth 100000 in
set_option maxHeartbeats 4000000 in
theorem wc_bargain (a b : Int32) : P0 128 (0, [some (.ref 0), some (.int a), some (.int b), none], [], 102, xshC, xMt) (fun r => r.1 = some (.int (F_bargain a b))) := by
  refine P0.go (k := 3) (s' := (5, [some (.ref 0), some (.int a), some (.int b), none], [.int a, .ref 47], 102, xshC, xMt)) rfl ?_
  refine P0.call (z := 8) (as := [.ref 47, .int a]) (pc := 8) (pl := [some (.ref 0), some (.int a), some (.int b), none]) (st := []) (nz := 102) (sh := xshC) (M := xMt) rfl (Nat.le_of_ble_eq_true rfl) ?_
  show P0 8 (0, [some (.ref 47), some (.int a)], [], 102, xshC, xMt) _
  refine P0.go (k := 6) (s' := (8, [some (.ref 47), some (.int a)], [.int (((0) - (1) : Int32)), .int 0, .int a], 102, xshC, xMt)) rfl ?_
  refine P0.topi (x' := (-1)) (by decide) ?_
  refine P0.call (z := 136) (as := [.int a, .int 0, .int (-1)]) (pc := 11) (pl := [some (.ref 47), some (.int a)]) (st := []) (nz := 102) (sh := xshC) (M := xMt) rfl (Nat.le_of_ble_eq_true rfl) ?_
  show P0 136 (0, [some (.int a), some (.int 0), some (.int (-1))], [], 102, xshC, xMt) _
  refine P0.go (k := 3) (s' := (xcmp .gt (0) (a) 14 5, [some (.int a), some (.int 0), some (.int (-1))], [], 102, xshC, xMt)) rfl ?_
  refine P0.gt (fun h1 => ?_) (fun h1 => ?_)
  · refine P0.go (k := 1) (s' := (15, [some (.int a), some (.int 0), some (.int (-1))], [.int 0], 102, xshC, xMt)) rfl ?_
    refine P0.ret (v := some (.int 0)) rfl ?_
    refine ⟨rfl, ?_⟩
    show P0 8 (11, [some (.ref 47), some (.int a)], [.int 0], 102, xshC, xMt) _
    refine P0.ret (v := some (.int 0)) rfl ?_
    refine ⟨rfl, ?_⟩
    show P0 128 (8, [some (.ref 0), some (.int a), some (.int b), none], [.int 0], 102, xshC, xMt) _
    refine P0.go (k := 2) (s' := (21, [some (.ref 0), some (.int a), some (.int b), none], [.int (-1)], 102, xshC, xMt)) rfl ?_
    refine P0.ret (v := some (.int (-1))) rfl ?_
    exact congrArg (fun z => some (Value.int z)) (show (-1) = F_bargain a b from by unfold F_bargain; (repeat' split) <;> first | rfl | (exfalso; simp only [Int32.lt_iff_toInt_lt, Int32.le_iff_toInt_le, Int64.lt_iff_toInt_lt, Int64.le_iff_toInt_le, ← Int32.toInt_inj, Int32.toInt_toInt64, xl_0, xl_1, xl_2, xl_3, xl_4, xl_5, xl_6, xl_7, xl_8, xl_9, xl_10, xl_11, xl_12, xl_13, xl_20, xl_30, xl_59, xl_63, xl_64, xl_99, xl_100, xl_120, xl_999, xl_m1, xl_m2, xl_m3, xl_m4, xl_m5, xL_0, xL_1, xL_2, xL_3, xL_4, xL_5, xL_6, xL_7, xL_8, xL_20, xL_59, xL_63, xL_99, xL_999] at *; omega) | (exfalso; simp_all; done))
  · refine P0.go (k := 3) (s' := (xcmp .gt (a) ((-1)) 14 10, [some (.int a), some (.int 0), some (.int (-1))], [], 102, xshC, xMt)) rfl ?_
    refine P0.gt (fun h2 => ?_) (fun h2 => absurd True.intro (by exfalso; simp only [Int32.lt_iff_toInt_lt, Int32.le_iff_toInt_le, Int64.lt_iff_toInt_lt, Int64.le_iff_toInt_le, ← Int32.toInt_inj, Int32.toInt_toInt64, xl_0, xl_1, xl_2, xl_3, xl_4, xl_5, xl_6, xl_7, xl_8, xl_9, xl_10, xl_11, xl_12, xl_13, xl_20, xl_30, xl_59, xl_63, xl_64, xl_99, xl_100, xl_120, xl_999, xl_m1, xl_m2, xl_m3, xl_m4, xl_m5, xL_0, xL_1, xL_2, xL_3, xL_4, xL_5, xL_6, xL_7, xL_8, xL_20, xL_59, xL_63, xL_99, xL_999] at *; omega))
    refine P0.go (k := 1) (s' := (15, [some (.int a), some (.int 0), some (.int (-1))], [.int 0], 102, xshC, xMt)) rfl ?_
    refine P0.ret (v := some (.int 0)) rfl ?_
    refine ⟨rfl, ?_⟩
    show P0 8 (11, [some (.ref 47), some (.int a)], [.int 0], 102, xshC, xMt) _
    refine P0.ret (v := some (.int 0)) rfl ?_
    refine ⟨rfl, ?_⟩
    show P0 128 (8, [some (.ref 0), some (.int a), some (.int b), none], [.int 0], 102, xshC, xMt) _
    refine P0.go (k := 2) (s' := (21, [some (.ref 0), some (.int a), some (.int b), none], [.int (-1)], 102, xshC, xMt)) rfl ?_
    refine P0.ret (v := some (.int (-1))) rfl ?_
    exact congrArg (fun z => some (Value.int z)) (show (-1) = F_bargain a b from by unfold F_bargain; (repeat' split) <;> first | rfl | (exfalso; simp only [Int32.lt_iff_toInt_lt, Int32.le_iff_toInt_le, Int64.lt_iff_toInt_lt, Int64.le_iff_toInt_le, ← Int32.toInt_inj, Int32.toInt_toInt64, xl_0, xl_1, xl_2, xl_3, xl_4, xl_5, xl_6, xl_7, xl_8, xl_9, xl_10, xl_11, xl_12, xl_13, xl_20, xl_30, xl_59, xl_63, xl_64, xl_99, xl_100, xl_120, xl_999, xl_m1, xl_m2, xl_m3, xl_m4, xl_m5, xL_0, xL_1, xL_2, xL_3, xL_4, xL_5, xL_6, xL_7, xL_8, xL_20, xL_59, xL_63, xL_99, xL_999] at *; omega) | (exfalso; simp_all; done))
set_option maxRecDepth 100000 in
set_option maxHeartbeats 4000000 in
theorem wc_breaks (a : Int32) : P0 129 (0, [some (.ref 0), some (.int a)], [], 102, xshC, xMt) (fun r => r.1 = some (.int (F_breaks a))) := by
  refine P0.go (k := 3) (s' := (5, [some (.ref 0), some (.int a)], [.int a, .ref 47], 102, xshC, xMt)) rfl ?_
  refine P0.call (z := 8) (as := [.ref 47, .int a]) (pc := 8) (pl := [some (.ref 0), some (.int a)]) (st := []) (nz := 102) (sh := xshC) (M := xMt) rfl (Nat.le_of_ble_eq_true rfl) ?_
  show P0 8 (0, [some (.ref 47), some (.int a)], [], 102, xshC, xMt) _
  refine P0.go (k := 6) (s' := (8, [some (.ref 47), some (.int a)], [.int (((0) - (1) : Int32)), .int 0, .int a], 102, xshC, xMt)) rfl ?_
  refine P0.topi (x' := (-1)) (by decide) ?_
  refine P0.call (z := 136) (as := [.int a, .int 0, .int (-1)]) (pc := 11) (pl := [some (.ref 47), some (.int a)]) (st := []) (nz := 102) (sh := xshC) (M := xMt) rfl (Nat.le_of_ble_eq_true rfl) ?_
  show P0 136 (0, [some (.int a), some (.int 0), some (.int (-1))], [], 102, xshC, xMt) _
  refine P0.go (k := 3) (s' := (xcmp .gt (0) (a) 14 5, [some (.int a), some (.int 0), some (.int (-1))], [], 102, xshC, xMt)) rfl ?_
  refine P0.gt (fun h1 => ?_) (fun h1 => ?_)
  · refine P0.go (k := 1) (s' := (15, [some (.int a), some (.int 0), some (.int (-1))], [.int 0], 102, xshC, xMt)) rfl ?_
    refine P0.ret (v := some (.int 0)) rfl ?_
    refine ⟨rfl, ?_⟩
    show P0 8 (11, [some (.ref 47), some (.int a)], [.int 0], 102, xshC, xMt) _
    refine P0.ret (v := some (.int 0)) rfl ?_
    refine ⟨rfl, ?_⟩
    show P0 129 (8, [some (.ref 0), some (.int a)], [.int 0], 102, xshC, xMt) _
    refine P0.go (k := 2) (s' := (34, [some (.ref 0), some (.int a)], [.int (-1)], 102, xshC, xMt)) rfl ?_
    refine P0.ret (v := some (.int (-1))) rfl ?_
    exact congrArg (fun z => some (Value.int z)) (show (-1) = F_breaks a from by unfold F_breaks; (repeat' split) <;> first | rfl | (exfalso; simp only [Int32.lt_iff_toInt_lt, Int32.le_iff_toInt_le, Int64.lt_iff_toInt_lt, Int64.le_iff_toInt_le, ← Int32.toInt_inj, Int32.toInt_toInt64, xl_0, xl_1, xl_2, xl_3, xl_4, xl_5, xl_6, xl_7, xl_8, xl_9, xl_10, xl_11, xl_12, xl_13, xl_20, xl_30, xl_59, xl_63, xl_64, xl_99, xl_100, xl_120, xl_999, xl_m1, xl_m2, xl_m3, xl_m4, xl_m5, xL_0, xL_1, xL_2, xL_3, xL_4, xL_5, xL_6, xL_7, xL_8, xL_20, xL_59, xL_63, xL_99, xL_999] at *; omega) | (exfalso; simp_all; done))
  · refine P0.go (k := 3) (s' := (xcmp .gt (a) ((-1)) 14 10, [some (.int a), some (.int 0), some (.int (-1))], [], 102, xshC, xMt)) rfl ?_
    refine P0.gt (fun h2 => ?_) (fun h2 => absurd True.intro (by exfalso; simp only [Int32.lt_iff_toInt_lt, Int32.le_iff_toInt_le, Int64.lt_iff_toInt_lt, Int64.le_iff_toInt_le, ← Int32.toInt_inj, Int32.toInt_toInt64, xl_0, xl_1, xl_2, xl_3, xl_4, xl_5, xl_6, xl_7, xl_8, xl_9, xl_10, xl_11, xl_12, xl_13, xl_20, xl_30, xl_59, xl_63, xl_64, xl_99, xl_100, xl_120, xl_999, xl_m1, xl_m2, xl_m3, xl_m4, xl_m5, xL_0, xL_1, xL_2, xL_3, xL_4, xL_5, xL_6, xL_7, xL_8, xL_20, xL_59, xL_63, xL_99, xL_999] at *; omega))
    refine P0.go (k := 1) (s' := (15, [some (.int a), some (.int 0), some (.int (-1))], [.int 0], 102, xshC, xMt)) rfl ?_
    refine P0.ret (v := some (.int 0)) rfl ?_
    refine ⟨rfl, ?_⟩
    show P0 8 (11, [some (.ref 47), some (.int a)], [.int 0], 102, xshC, xMt) _
    refine P0.ret (v := some (.int 0)) rfl ?_
    refine ⟨rfl, ?_⟩
    show P0 129 (8, [some (.ref 0), some (.int a)], [.int 0], 102, xshC, xMt) _
    refine P0.go (k := 2) (s' := (34, [some (.ref 0), some (.int a)], [.int (-1)], 102, xshC, xMt)) rfl ?_
    refine P0.ret (v := some (.int (-1))) rfl ?_
    exact congrArg (fun z => some (Value.int z)) (show (-1) = F_breaks a from by unfold F_breaks; (repeat' split) <;> first | rfl | (exfalso; simp only [Int32.lt_iff_toInt_lt, Int32.le_iff_toInt_le, Int64.lt_iff_toInt_lt, Int64.le_iff_toInt_le, ← Int32.toInt_inj, Int32.toInt_toInt64, xl_0, xl_1, xl_2, xl_3, xl_4, xl_5, xl_6, xl_7, xl_8, xl_9, xl_10, xl_11, xl_12, xl_13, xl_20, xl_30, xl_59, xl_63, xl_64, xl_99, xl_100, xl_120, xl_999, xl_m1, xl_m2, xl_m3, xl_m4, xl_m5, xL_0, xL_1, xL_2, xL_3, xL_4, xL_5, xL_6, xL_7, xL_8, xL_20, xL_59, xL_63, xL_99, xL_999] at *; omega) | (exfalso; simp_all; done))
set_option maxRecDepth 100000 in
set_option maxHeartbeats 4000000 in
theorem wc_amend (a b c : Int32) : P0 131 (0, [some (.ref 0), some (.int a), some (.int b), some (.int c)], [], 102, xshC, xMt) (fun r => r.1 = some (.int (F_amend a b c))) := by
  refine P0.go (k := 3) (s' := (5, [some (.ref 0), some (.int a), some (.int b), some (.int c)], [.int a, .ref 51], 102, xshC, xMt)) rfl ?_
  refine P0.call (z := 36) (as := [.ref 51, .int a]) (pc := 8) (pl := [some (.ref 0), some (.int a), some (.int b), some (.int c)]) (st := []) (nz := 102) (sh := xshC) (M := xMt) rfl (Nat.le_of_ble_eq_true rfl) ?_
  show P0 36 (0, [some (.ref 51), some (.int a)], [], 102, xshC, xMt) _
  refine P0.go (k := 6) (s' := (8, [some (.ref 51), some (.int a)], [.int (((0) - (1) : Int32)), .int 0, .int a], 102, xshC, xMt)) rfl ?_
  refine P0.topi (x' := (-1)) (by decide) ?_
  refine P0.call (z := 136) (as := [.int a, .int 0, .int (-1)]) (pc := 11) (pl := [some (.ref 51), some (.int a)]) (st := []) (nz := 102) (sh := xshC) (M := xMt) rfl (Nat.le_of_ble_eq_true rfl) ?_
  show P0 136 (0, [some (.int a), some (.int 0), some (.int (-1))], [], 102, xshC, xMt) _
  refine P0.go (k := 3) (s' := (xcmp .gt (0) (a) 14 5, [some (.int a), some (.int 0), some (.int (-1))], [], 102, xshC, xMt)) rfl ?_
  refine P0.gt (fun h1 => ?_) (fun h1 => ?_)
  · refine P0.go (k := 1) (s' := (15, [some (.int a), some (.int 0), some (.int (-1))], [.int 0], 102, xshC, xMt)) rfl ?_
    refine P0.ret (v := some (.int 0)) rfl ?_
    refine ⟨rfl, ?_⟩
    show P0 36 (11, [some (.ref 51), some (.int a)], [.int 0], 102, xshC, xMt) _
    refine P0.ret (v := some (.int 0)) rfl ?_
    refine ⟨rfl, ?_⟩
    show P0 131 (8, [some (.ref 0), some (.int a), some (.int b), some (.int c)], [.int 0], 102, xshC, xMt) _
    refine P0.go (k := 2) (s' := (29, [some (.ref 0), some (.int a), some (.int b), some (.int c)], [.int (-1)], 102, xshC, xMt)) rfl ?_
    refine P0.ret (v := some (.int (-1))) rfl ?_
    exact congrArg (fun z => some (Value.int z)) (show (-1) = F_amend a b c from by unfold F_amend; (repeat' split) <;> first | rfl | (exfalso; simp only [Int32.lt_iff_toInt_lt, Int32.le_iff_toInt_le, Int64.lt_iff_toInt_lt, Int64.le_iff_toInt_le, ← Int32.toInt_inj, Int32.toInt_toInt64, xl_0, xl_1, xl_2, xl_3, xl_4, xl_5, xl_6, xl_7, xl_8, xl_9, xl_10, xl_11, xl_12, xl_13, xl_20, xl_30, xl_59, xl_63, xl_64, xl_99, xl_100, xl_120, xl_999, xl_m1, xl_m2, xl_m3, xl_m4, xl_m5, xL_0, xL_1, xL_2, xL_3, xL_4, xL_5, xL_6, xL_7, xL_8, xL_20, xL_59, xL_63, xL_99, xL_999] at *; omega) | (exfalso; simp_all; done))
  · refine P0.go (k := 3) (s' := (xcmp .gt (a) ((-1)) 14 10, [some (.int a), some (.int 0), some (.int (-1))], [], 102, xshC, xMt)) rfl ?_
    refine P0.gt (fun h2 => ?_) (fun h2 => absurd True.intro (by exfalso; simp only [Int32.lt_iff_toInt_lt, Int32.le_iff_toInt_le, Int64.lt_iff_toInt_lt, Int64.le_iff_toInt_le, ← Int32.toInt_inj, Int32.toInt_toInt64, xl_0, xl_1, xl_2, xl_3, xl_4, xl_5, xl_6, xl_7, xl_8, xl_9, xl_10, xl_11, xl_12, xl_13, xl_20, xl_30, xl_59, xl_63, xl_64, xl_99, xl_100, xl_120, xl_999, xl_m1, xl_m2, xl_m3, xl_m4, xl_m5, xL_0, xL_1, xL_2, xL_3, xL_4, xL_5, xL_6, xL_7, xL_8, xL_20, xL_59, xL_63, xL_99, xL_999] at *; omega))
    refine P0.go (k := 1) (s' := (15, [some (.int a), some (.int 0), some (.int (-1))], [.int 0], 102, xshC, xMt)) rfl ?_
    refine P0.ret (v := some (.int 0)) rfl ?_
    refine ⟨rfl, ?_⟩
    show P0 36 (11, [some (.ref 51), some (.int a)], [.int 0], 102, xshC, xMt) _
    refine P0.ret (v := some (.int 0)) rfl ?_
    refine ⟨rfl, ?_⟩
    show P0 131 (8, [some (.ref 0), some (.int a), some (.int b), some (.int c)], [.int 0], 102, xshC, xMt) _
    refine P0.go (k := 2) (s' := (29, [some (.ref 0), some (.int a), some (.int b), some (.int c)], [.int (-1)], 102, xshC, xMt)) rfl ?_
    refine P0.ret (v := some (.int (-1))) rfl ?_
    exact congrArg (fun z => some (Value.int z)) (show (-1) = F_amend a b c from by unfold F_amend; (repeat' split) <;> first | rfl | (exfalso; simp only [Int32.lt_iff_toInt_lt, Int32.le_iff_toInt_le, Int64.lt_iff_toInt_lt, Int64.le_iff_toInt_le, ← Int32.toInt_inj, Int32.toInt_toInt64, xl_0, xl_1, xl_2, xl_3, xl_4, xl_5, xl_6, xl_7, xl_8, xl_9, xl_10, xl_11, xl_12, xl_13, xl_20, xl_30, xl_59, xl_63, xl_64, xl_99, xl_100, xl_120, xl_999, xl_m1, xl_m2, xl_m3, xl_m4, xl_m5, xL_0, xL_1, xL_2, xL_3, xL_4, xL_5, xL_6, xL_7, xL_8, xL_20, xL_59, xL_63, xL_99, xL_999] at *; omega) | (exfalso; simp_all; done))
set_option maxRecDepth 100000 in
set_option maxHeartbeats 4000000 in
theorem wc_strike (a b c : Int32) : P0 132 (0, [some (.ref 0), some (.int a), some (.int b), some (.int c)], [], 102, xshC, xMt) (fun r => r.1 = some (.int (F_strike a b c))) := by
  refine P0.go (k := 3) (s' := (5, [some (.ref 0), some (.int a), some (.int b), some (.int c)], [.int a, .ref 51], 102, xshC, xMt)) rfl ?_
  refine P0.call (z := 36) (as := [.ref 51, .int a]) (pc := 8) (pl := [some (.ref 0), some (.int a), some (.int b), some (.int c)]) (st := []) (nz := 102) (sh := xshC) (M := xMt) rfl (Nat.le_of_ble_eq_true rfl) ?_
  show P0 36 (0, [some (.ref 51), some (.int a)], [], 102, xshC, xMt) _
  refine P0.go (k := 6) (s' := (8, [some (.ref 51), some (.int a)], [.int (((0) - (1) : Int32)), .int 0, .int a], 102, xshC, xMt)) rfl ?_
  refine P0.topi (x' := (-1)) (by decide) ?_
  refine P0.call (z := 136) (as := [.int a, .int 0, .int (-1)]) (pc := 11) (pl := [some (.ref 51), some (.int a)]) (st := []) (nz := 102) (sh := xshC) (M := xMt) rfl (Nat.le_of_ble_eq_true rfl) ?_
  show P0 136 (0, [some (.int a), some (.int 0), some (.int (-1))], [], 102, xshC, xMt) _
  refine P0.go (k := 3) (s' := (xcmp .gt (0) (a) 14 5, [some (.int a), some (.int 0), some (.int (-1))], [], 102, xshC, xMt)) rfl ?_
  refine P0.gt (fun h1 => ?_) (fun h1 => ?_)
  · refine P0.go (k := 1) (s' := (15, [some (.int a), some (.int 0), some (.int (-1))], [.int 0], 102, xshC, xMt)) rfl ?_
    refine P0.ret (v := some (.int 0)) rfl ?_
    refine ⟨rfl, ?_⟩
    show P0 36 (11, [some (.ref 51), some (.int a)], [.int 0], 102, xshC, xMt) _
    refine P0.ret (v := some (.int 0)) rfl ?_
    refine ⟨rfl, ?_⟩
    show P0 132 (8, [some (.ref 0), some (.int a), some (.int b), some (.int c)], [.int 0], 102, xshC, xMt) _
    refine P0.go (k := 2) (s' := (29, [some (.ref 0), some (.int a), some (.int b), some (.int c)], [.int (-1)], 102, xshC, xMt)) rfl ?_
    refine P0.ret (v := some (.int (-1))) rfl ?_
    exact congrArg (fun z => some (Value.int z)) (show (-1) = F_strike a b c from by unfold F_strike; (repeat' split) <;> first | rfl | (exfalso; simp only [Int32.lt_iff_toInt_lt, Int32.le_iff_toInt_le, Int64.lt_iff_toInt_lt, Int64.le_iff_toInt_le, ← Int32.toInt_inj, Int32.toInt_toInt64, xl_0, xl_1, xl_2, xl_3, xl_4, xl_5, xl_6, xl_7, xl_8, xl_9, xl_10, xl_11, xl_12, xl_13, xl_20, xl_30, xl_59, xl_63, xl_64, xl_99, xl_100, xl_120, xl_999, xl_m1, xl_m2, xl_m3, xl_m4, xl_m5, xL_0, xL_1, xL_2, xL_3, xL_4, xL_5, xL_6, xL_7, xL_8, xL_20, xL_59, xL_63, xL_99, xL_999] at *; omega) | (exfalso; simp_all; done))
  · refine P0.go (k := 3) (s' := (xcmp .gt (a) ((-1)) 14 10, [some (.int a), some (.int 0), some (.int (-1))], [], 102, xshC, xMt)) rfl ?_
    refine P0.gt (fun h2 => ?_) (fun h2 => absurd True.intro (by exfalso; simp only [Int32.lt_iff_toInt_lt, Int32.le_iff_toInt_le, Int64.lt_iff_toInt_lt, Int64.le_iff_toInt_le, ← Int32.toInt_inj, Int32.toInt_toInt64, xl_0, xl_1, xl_2, xl_3, xl_4, xl_5, xl_6, xl_7, xl_8, xl_9, xl_10, xl_11, xl_12, xl_13, xl_20, xl_30, xl_59, xl_63, xl_64, xl_99, xl_100, xl_120, xl_999, xl_m1, xl_m2, xl_m3, xl_m4, xl_m5, xL_0, xL_1, xL_2, xL_3, xL_4, xL_5, xL_6, xL_7, xL_8, xL_20, xL_59, xL_63, xL_99, xL_999] at *; omega))
    refine P0.go (k := 1) (s' := (15, [some (.int a), some (.int 0), some (.int (-1))], [.int 0], 102, xshC, xMt)) rfl ?_
    refine P0.ret (v := some (.int 0)) rfl ?_
    refine ⟨rfl, ?_⟩
    show P0 36 (11, [some (.ref 51), some (.int a)], [.int 0], 102, xshC, xMt) _
    refine P0.ret (v := some (.int 0)) rfl ?_
    refine ⟨rfl, ?_⟩
    show P0 132 (8, [some (.ref 0), some (.int a), some (.int b), some (.int c)], [.int 0], 102, xshC, xMt) _
    refine P0.go (k := 2) (s' := (29, [some (.ref 0), some (.int a), some (.int b), some (.int c)], [.int (-1)], 102, xshC, xMt)) rfl ?_
    refine P0.ret (v := some (.int (-1))) rfl ?_
    exact congrArg (fun z => some (Value.int z)) (show (-1) = F_strike a b c from by unfold F_strike; (repeat' split) <;> first | rfl | (exfalso; simp only [Int32.lt_iff_toInt_lt, Int32.le_iff_toInt_le, Int64.lt_iff_toInt_lt, Int64.le_iff_toInt_le, ← Int32.toInt_inj, Int32.toInt_toInt64, xl_0, xl_1, xl_2, xl_3, xl_4, xl_5, xl_6, xl_7, xl_8, xl_9, xl_10, xl_11, xl_12, xl_13, xl_20, xl_30, xl_59, xl_63, xl_64, xl_99, xl_100, xl_120, xl_999, xl_m1, xl_m2, xl_m3, xl_m4, xl_m5, xL_0, xL_1, xL_2, xL_3, xL_4, xL_5, xL_6, xL_7, xL_8, xL_20, xL_59, xL_63, xL_99, xL_999] at *; omega) | (exfalso; simp_all; done))
set_option maxRecDepth 100000 in
set_option maxHeartbeats 4000000 in
theorem wc_platform (a : Int32) : P0 133 (0, [some (.ref 0), some (.int a)], [], 102, xshC, xMt) (fun r => r.1 = some (.int (F_platform a))) := by
  refine P0.go (k := 3) (s' := (5, [some (.ref 0), some (.int a)], [.int a, .ref 51], 102, xshC, xMt)) rfl ?_
  refine P0.call (z := 43) (as := [.ref 51, .int a]) (pc := 8) (pl := [some (.ref 0), some (.int a)]) (st := []) (nz := 102) (sh := xshC) (M := xMt) rfl (Nat.le_of_ble_eq_true rfl) ?_
  show P0 43 (0, [some (.ref 51), some (.int a), none, none], [], 102, xshC, xMt) _
  refine P0.go (k := 9) (s' := (71, [some (.ref 51), some (.int a), some (.int a), some (.int 0)], [.int (-1)], 102, xshC, xMt)) rfl ?_
  refine P0.ret (v := some (.int (-1))) rfl ?_
  refine ⟨rfl, ?_⟩
  show P0 133 (8, [some (.ref 0), some (.int a)], [.int (-1)], 102, xshC, xMt) _
  refine P0.ret (v := some (.int (-1))) rfl ?_
  exact congrArg (fun z => some (Value.int z)) (show (-1) = F_platform a from by unfold F_platform; (repeat' split) <;> first | rfl | (exfalso; simp only [Int32.lt_iff_toInt_lt, Int32.le_iff_toInt_le, Int64.lt_iff_toInt_lt, Int64.le_iff_toInt_le, ← Int32.toInt_inj, Int32.toInt_toInt64, xl_0, xl_1, xl_2, xl_3, xl_4, xl_5, xl_6, xl_7, xl_8, xl_9, xl_10, xl_11, xl_12, xl_13, xl_20, xl_30, xl_59, xl_63, xl_64, xl_99, xl_100, xl_120, xl_999, xl_m1, xl_m2, xl_m3, xl_m4, xl_m5, xL_0, xL_1, xL_2, xL_3, xL_4, xL_5, xL_6, xL_7, xL_8, xL_20, xL_59, xL_63, xL_99, xL_999] at *; omega) | (exfalso; simp_all; done))
set_option maxRecDepth 100000 in
set_option maxHeartbeats 4000000 in
theorem wc_taken (a : Int32) : P0 134 (0, [some (.ref 0), some (.int a)], [], 102, xshC, xMt) (fun r => r.1 = some (.int (F_taken a))) := by
  refine P0.go (k := 3) (s' := (5, [some (.ref 0), some (.int a)], [.int a, .ref 51], 102, xshC, xMt)) rfl ?_
  refine P0.call (z := 36) (as := [.ref 51, .int a]) (pc := 8) (pl := [some (.ref 0), some (.int a)]) (st := []) (nz := 102) (sh := xshC) (M := xMt) rfl (Nat.le_of_ble_eq_true rfl) ?_
  show P0 36 (0, [some (.ref 51), some (.int a)], [], 102, xshC, xMt) _
  refine P0.go (k := 6) (s' := (8, [some (.ref 51), some (.int a)], [.int (((0) - (1) : Int32)), .int 0, .int a], 102, xshC, xMt)) rfl ?_
  refine P0.topi (x' := (-1)) (by decide) ?_
  refine P0.call (z := 136) (as := [.int a, .int 0, .int (-1)]) (pc := 11) (pl := [some (.ref 51), some (.int a)]) (st := []) (nz := 102) (sh := xshC) (M := xMt) rfl (Nat.le_of_ble_eq_true rfl) ?_
  show P0 136 (0, [some (.int a), some (.int 0), some (.int (-1))], [], 102, xshC, xMt) _
  refine P0.go (k := 3) (s' := (xcmp .gt (0) (a) 14 5, [some (.int a), some (.int 0), some (.int (-1))], [], 102, xshC, xMt)) rfl ?_
  refine P0.gt (fun h1 => ?_) (fun h1 => ?_)
  · refine P0.go (k := 1) (s' := (15, [some (.int a), some (.int 0), some (.int (-1))], [.int 0], 102, xshC, xMt)) rfl ?_
    refine P0.ret (v := some (.int 0)) rfl ?_
    refine ⟨rfl, ?_⟩
    show P0 36 (11, [some (.ref 51), some (.int a)], [.int 0], 102, xshC, xMt) _
    refine P0.ret (v := some (.int 0)) rfl ?_
    refine ⟨rfl, ?_⟩
    show P0 134 (8, [some (.ref 0), some (.int a)], [.int 0], 102, xshC, xMt) _
    refine P0.go (k := 2) (s' := (24, [some (.ref 0), some (.int a)], [.int (-1)], 102, xshC, xMt)) rfl ?_
    refine P0.ret (v := some (.int (-1))) rfl ?_
    exact congrArg (fun z => some (Value.int z)) (show (-1) = F_taken a from by unfold F_taken; (repeat' split) <;> first | rfl | (exfalso; simp only [Int32.lt_iff_toInt_lt, Int32.le_iff_toInt_le, Int64.lt_iff_toInt_lt, Int64.le_iff_toInt_le, ← Int32.toInt_inj, Int32.toInt_toInt64, xl_0, xl_1, xl_2, xl_3, xl_4, xl_5, xl_6, xl_7, xl_8, xl_9, xl_10, xl_11, xl_12, xl_13, xl_20, xl_30, xl_59, xl_63, xl_64, xl_99, xl_100, xl_120, xl_999, xl_m1, xl_m2, xl_m3, xl_m4, xl_m5, xL_0, xL_1, xL_2, xL_3, xL_4, xL_5, xL_6, xL_7, xL_8, xL_20, xL_59, xL_63, xL_99, xL_999] at *; omega) | (exfalso; simp_all; done))
  · refine P0.go (k := 3) (s' := (xcmp .gt (a) ((-1)) 14 10, [some (.int a), some (.int 0), some (.int (-1))], [], 102, xshC, xMt)) rfl ?_
    refine P0.gt (fun h2 => ?_) (fun h2 => absurd True.intro (by exfalso; simp only [Int32.lt_iff_toInt_lt, Int32.le_iff_toInt_le, Int64.lt_iff_toInt_lt, Int64.le_iff_toInt_le, ← Int32.toInt_inj, Int32.toInt_toInt64, xl_0, xl_1, xl_2, xl_3, xl_4, xl_5, xl_6, xl_7, xl_8, xl_9, xl_10, xl_11, xl_12, xl_13, xl_20, xl_30, xl_59, xl_63, xl_64, xl_99, xl_100, xl_120, xl_999, xl_m1, xl_m2, xl_m3, xl_m4, xl_m5, xL_0, xL_1, xL_2, xL_3, xL_4, xL_5, xL_6, xL_7, xL_8, xL_20, xL_59, xL_63, xL_99, xL_999] at *; omega))
    refine P0.go (k := 1) (s' := (15, [some (.int a), some (.int 0), some (.int (-1))], [.int 0], 102, xshC, xMt)) rfl ?_
    refine P0.ret (v := some (.int 0)) rfl ?_
    refine ⟨rfl, ?_⟩
    show P0 36 (11, [some (.ref 51), some (.int a)], [.int 0], 102, xshC, xMt) _
    refine P0.ret (v := some (.int 0)) rfl ?_
    refine ⟨rfl, ?_⟩
    show P0 134 (8, [some (.ref 0), some (.int a)], [.int 0], 102, xshC, xMt) _
    refine P0.go (k := 2) (s' := (24, [some (.ref 0), some (.int a)], [.int (-1)], 102, xshC, xMt)) rfl ?_
    refine P0.ret (v := some (.int (-1))) rfl ?_
    exact congrArg (fun z => some (Value.int z)) (show (-1) = F_taken a from by unfold F_taken; (repeat' split) <;> first | rfl | (exfalso; simp only [Int32.lt_iff_toInt_lt, Int32.le_iff_toInt_le, Int64.lt_iff_toInt_lt, Int64.le_iff_toInt_le, ← Int32.toInt_inj, Int32.toInt_toInt64, xl_0, xl_1, xl_2, xl_3, xl_4, xl_5, xl_6, xl_7, xl_8, xl_9, xl_10, xl_11, xl_12, xl_13, xl_20, xl_30, xl_59, xl_63, xl_64, xl_99, xl_100, xl_120, xl_999, xl_m1, xl_m2, xl_m3, xl_m4, xl_m5, xL_0, xL_1, xL_2, xL_3, xL_4, xL_5, xL_6, xL_7, xL_8, xL_20, xL_59, xL_63, xL_99, xL_999] at *; omega) | (exfalso; simp_all; done))
set_option maxRecDepth 100000 in
set_option maxHeartbeats 4000000 in
theorem wc_count (a : Int32) : P0 135 (0, [some (.ref 0), some (.int a)], [], 102, xshC, xMt) (fun r => r.1 = some (.int (F_count a))) := by
  refine P0.go (k := 1) (s' := (1, [some (.ref 0), some (.int a)], [.int a], 102, xshC, xMt)) rfl ?_
  by_cases h1 : a = 0
  · subst h1
    refine P0.go (k := 4) (s' := (75, [some (.ref 0), some (.int 0)], [.int 0], 102, xshC, xMt)) rfl ?_
    refine P0.ret (v := some (.int 0)) rfl ?_
    exact congrArg (fun z => some (Value.int z)) (show 0 = F_count 0 from by unfold F_count; (repeat' split) <;> first | rfl | (exfalso; simp only [Int32.lt_iff_toInt_lt, Int32.le_iff_toInt_le, Int64.lt_iff_toInt_lt, Int64.le_iff_toInt_le, ← Int32.toInt_inj, Int32.toInt_toInt64, xl_0, xl_1, xl_2, xl_3, xl_4, xl_5, xl_6, xl_7, xl_8, xl_9, xl_10, xl_11, xl_12, xl_13, xl_20, xl_30, xl_59, xl_63, xl_64, xl_99, xl_100, xl_120, xl_999, xl_m1, xl_m2, xl_m3, xl_m4, xl_m5, xL_0, xL_1, xL_2, xL_3, xL_4, xL_5, xL_6, xL_7, xL_8, xL_20, xL_59, xL_63, xL_99, xL_999] at *; omega) | (exfalso; simp_all; done))
  by_cases h2 : a = 1
  · subst h2
    refine P0.go (k := 4) (s' := (83, [some (.ref 0), some (.int 1)], [.int 0], 102, xshC, xMt)) rfl ?_
    refine P0.ret (v := some (.int 0)) rfl ?_
    exact congrArg (fun z => some (Value.int z)) (show 0 = F_count 1 from by unfold F_count; (repeat' split) <;> first | rfl | (exfalso; simp only [Int32.lt_iff_toInt_lt, Int32.le_iff_toInt_le, Int64.lt_iff_toInt_lt, Int64.le_iff_toInt_le, ← Int32.toInt_inj, Int32.toInt_toInt64, xl_0, xl_1, xl_2, xl_3, xl_4, xl_5, xl_6, xl_7, xl_8, xl_9, xl_10, xl_11, xl_12, xl_13, xl_20, xl_30, xl_59, xl_63, xl_64, xl_99, xl_100, xl_120, xl_999, xl_m1, xl_m2, xl_m3, xl_m4, xl_m5, xL_0, xL_1, xL_2, xL_3, xL_4, xL_5, xL_6, xL_7, xL_8, xL_20, xL_59, xL_63, xL_99, xL_999] at *; omega) | (exfalso; simp_all; done))
  by_cases h3 : a = 2
  · subst h3
    refine P0.go (k := 4) (s' := (91, [some (.ref 0), some (.int 2)], [.int 0], 102, xshC, xMt)) rfl ?_
    refine P0.ret (v := some (.int 0)) rfl ?_
    exact congrArg (fun z => some (Value.int z)) (show 0 = F_count 2 from by unfold F_count; (repeat' split) <;> first | rfl | (exfalso; simp only [Int32.lt_iff_toInt_lt, Int32.le_iff_toInt_le, Int64.lt_iff_toInt_lt, Int64.le_iff_toInt_le, ← Int32.toInt_inj, Int32.toInt_toInt64, xl_0, xl_1, xl_2, xl_3, xl_4, xl_5, xl_6, xl_7, xl_8, xl_9, xl_10, xl_11, xl_12, xl_13, xl_20, xl_30, xl_59, xl_63, xl_64, xl_99, xl_100, xl_120, xl_999, xl_m1, xl_m2, xl_m3, xl_m4, xl_m5, xL_0, xL_1, xL_2, xL_3, xL_4, xL_5, xL_6, xL_7, xL_8, xL_20, xL_59, xL_63, xL_99, xL_999] at *; omega) | (exfalso; simp_all; done))
  by_cases h4 : a = 3
  · subst h4
    refine P0.go (k := 4) (s' := (99, [some (.ref 0), some (.int 3)], [.int 0], 102, xshC, xMt)) rfl ?_
    refine P0.ret (v := some (.int 0)) rfl ?_
    exact congrArg (fun z => some (Value.int z)) (show 0 = F_count 3 from by unfold F_count; (repeat' split) <;> first | rfl | (exfalso; simp only [Int32.lt_iff_toInt_lt, Int32.le_iff_toInt_le, Int64.lt_iff_toInt_lt, Int64.le_iff_toInt_le, ← Int32.toInt_inj, Int32.toInt_toInt64, xl_0, xl_1, xl_2, xl_3, xl_4, xl_5, xl_6, xl_7, xl_8, xl_9, xl_10, xl_11, xl_12, xl_13, xl_20, xl_30, xl_59, xl_63, xl_64, xl_99, xl_100, xl_120, xl_999, xl_m1, xl_m2, xl_m3, xl_m4, xl_m5, xL_0, xL_1, xL_2, xL_3, xL_4, xL_5, xL_6, xL_7, xL_8, xL_20, xL_59, xL_63, xL_99, xL_999] at *; omega) | (exfalso; simp_all; done))
  by_cases h5 : a = 4
  · subst h5
    refine P0.go (k := 4) (s' := (107, [some (.ref 0), some (.int 4)], [.int 0], 102, xshC, xMt)) rfl ?_
    refine P0.ret (v := some (.int 0)) rfl ?_
    exact congrArg (fun z => some (Value.int z)) (show 0 = F_count 4 from by unfold F_count; (repeat' split) <;> first | rfl | (exfalso; simp only [Int32.lt_iff_toInt_lt, Int32.le_iff_toInt_le, Int64.lt_iff_toInt_lt, Int64.le_iff_toInt_le, ← Int32.toInt_inj, Int32.toInt_toInt64, xl_0, xl_1, xl_2, xl_3, xl_4, xl_5, xl_6, xl_7, xl_8, xl_9, xl_10, xl_11, xl_12, xl_13, xl_20, xl_30, xl_59, xl_63, xl_64, xl_99, xl_100, xl_120, xl_999, xl_m1, xl_m2, xl_m3, xl_m4, xl_m5, xL_0, xL_1, xL_2, xL_3, xL_4, xL_5, xL_6, xL_7, xL_8, xL_20, xL_59, xL_63, xL_99, xL_999] at *; omega) | (exfalso; simp_all; done))
  by_cases h6 : a = 5
  · subst h6
    refine P0.go (k := 3) (s' := (112, [some (.ref 0), some (.int 5)], [.int 0], 102, xshC, xMt)) rfl ?_
    refine P0.call (z := 141) (as := [.int 0]) (pc := 115) (pl := [some (.ref 0), some (.int 5)]) (st := []) (nz := 102) (sh := xshC) (M := xMt) rfl (Nat.le_of_ble_eq_true rfl) ?_
    show P0 141 (0, [some (.int 0)], [], 102, xshC, xMt) _
    refine P0.go (k := 3) (s' := (9, [some (.int 0)], [.int 0], 102, xshC, xMt)) rfl ?_
    refine P0.ret (v := some (.int 0)) rfl ?_
    refine ⟨rfl, ?_⟩
    show P0 135 (115, [some (.ref 0), some (.int 5)], [.int 0], 102, xshC, xMt) _
    refine P0.ret (v := some (.int 0)) rfl ?_
    exact congrArg (fun z => some (Value.int z)) (show 0 = F_count 5 from by unfold F_count; (repeat' split) <;> first | rfl | (exfalso; simp only [Int32.lt_iff_toInt_lt, Int32.le_iff_toInt_le, Int64.lt_iff_toInt_lt, Int64.le_iff_toInt_le, ← Int32.toInt_inj, Int32.toInt_toInt64, xl_0, xl_1, xl_2, xl_3, xl_4, xl_5, xl_6, xl_7, xl_8, xl_9, xl_10, xl_11, xl_12, xl_13, xl_20, xl_30, xl_59, xl_63, xl_64, xl_99, xl_100, xl_120, xl_999, xl_m1, xl_m2, xl_m3, xl_m4, xl_m5, xL_0, xL_1, xL_2, xL_3, xL_4, xL_5, xL_6, xL_7, xL_8, xL_20, xL_59, xL_63, xL_99, xL_999] at *; omega) | (exfalso; simp_all; done))
  by_cases h7 : a = 6
  · subst h7
    refine P0.go (k := 3) (s' := (120, [some (.ref 0), some (.int 6)], [.int (-1)], 102, xshC, xMt)) rfl ?_
    refine P0.ret (v := some (.int (-1))) rfl ?_
    exact congrArg (fun z => some (Value.int z)) (show (-1) = F_count 6 from by unfold F_count; (repeat' split) <;> first | rfl | (exfalso; simp only [Int32.lt_iff_toInt_lt, Int32.le_iff_toInt_le, Int64.lt_iff_toInt_lt, Int64.le_iff_toInt_le, ← Int32.toInt_inj, Int32.toInt_toInt64, xl_0, xl_1, xl_2, xl_3, xl_4, xl_5, xl_6, xl_7, xl_8, xl_9, xl_10, xl_11, xl_12, xl_13, xl_20, xl_30, xl_59, xl_63, xl_64, xl_99, xl_100, xl_120, xl_999, xl_m1, xl_m2, xl_m3, xl_m4, xl_m5, xL_0, xL_1, xL_2, xL_3, xL_4, xL_5, xL_6, xL_7, xL_8, xL_20, xL_59, xL_63, xL_99, xL_999] at *; omega) | (exfalso; simp_all; done))
  by_cases h8 : a = 7
  · subst h8
    refine P0.go (k := 3) (s' := (125, [some (.ref 0), some (.int 7)], [.ref 5], 102, xshC, xMt)) rfl ?_
    refine P0.call (z := 73) (as := [.ref 5]) (pc := 128) (pl := [some (.ref 0), some (.int 7)]) (st := []) (nz := 102) (sh := xshC) (M := xMt) rfl (Nat.le_of_ble_eq_true rfl) ?_
    show P0 73 (0, [some (.ref 5)], [], 102, xshC, xMt) _
    refine P0.go (k := 2) (s' := (2, [some (.ref 5)], [.int (-1), .ref 5], 102, xshC, xMt)) rfl ?_
    refine P0.call (z := 74) (as := [.ref 5, .int (-1)]) (pc := 5) (pl := [some (.ref 5)]) (st := []) (nz := 102) (sh := xshC) (M := xMt) rfl (Nat.le_of_ble_eq_true rfl) ?_
    show P0 74 (0, [some (.ref 5), some (.int (-1)), none, none], [], 102, xshC, xMt) _
    refine P0.go (k := 9) (s' := (36, [some (.ref 5), some (.int (-1)), some (.int 0), some (.int 0)], [.int 0], 102, xshC, xMt)) rfl ?_
    refine P0.ret (v := some (.int 0)) rfl ?_
    refine ⟨rfl, ?_⟩
    show P0 73 (5, [some (.ref 5)], [.int 0], 102, xshC, xMt) _
    refine P0.ret (v := some (.int 0)) rfl ?_
    refine ⟨rfl, ?_⟩
    show P0 135 (128, [some (.ref 0), some (.int 7)], [.int 0], 102, xshC, xMt) _
    refine P0.ret (v := some (.int 0)) rfl ?_
    exact congrArg (fun z => some (Value.int z)) (show 0 = F_count 7 from by unfold F_count; (repeat' split) <;> first | rfl | (exfalso; simp only [Int32.lt_iff_toInt_lt, Int32.le_iff_toInt_le, Int64.lt_iff_toInt_lt, Int64.le_iff_toInt_le, ← Int32.toInt_inj, Int32.toInt_toInt64, xl_0, xl_1, xl_2, xl_3, xl_4, xl_5, xl_6, xl_7, xl_8, xl_9, xl_10, xl_11, xl_12, xl_13, xl_20, xl_30, xl_59, xl_63, xl_64, xl_99, xl_100, xl_120, xl_999, xl_m1, xl_m2, xl_m3, xl_m4, xl_m5, xL_0, xL_1, xL_2, xL_3, xL_4, xL_5, xL_6, xL_7, xL_8, xL_20, xL_59, xL_63, xL_99, xL_999] at *; omega) | (exfalso; simp_all; done))
  by_cases h9 : a = 8
  · subst h9
    refine P0.go (k := 4) (s' := (136, [some (.ref 0), some (.int 8)], [.int 0], 102, xshC, xMt)) rfl ?_
    refine P0.ret (v := some (.int 0)) rfl ?_
    exact congrArg (fun z => some (Value.int z)) (show 0 = F_count 8 from by unfold F_count; (repeat' split) <;> first | rfl | (exfalso; simp only [Int32.lt_iff_toInt_lt, Int32.le_iff_toInt_le, Int64.lt_iff_toInt_lt, Int64.le_iff_toInt_le, ← Int32.toInt_inj, Int32.toInt_toInt64, xl_0, xl_1, xl_2, xl_3, xl_4, xl_5, xl_6, xl_7, xl_8, xl_9, xl_10, xl_11, xl_12, xl_13, xl_20, xl_30, xl_59, xl_63, xl_64, xl_99, xl_100, xl_120, xl_999, xl_m1, xl_m2, xl_m3, xl_m4, xl_m5, xL_0, xL_1, xL_2, xL_3, xL_4, xL_5, xL_6, xL_7, xL_8, xL_20, xL_59, xL_63, xL_99, xL_999] at *; omega) | (exfalso; simp_all; done))
  by_cases h10 : a = 9
  · subst h10
    refine P0.go (k := 4) (s' := (144, [some (.ref 0), some (.int 9)], [.int 0], 102, xshC, xMt)) rfl ?_
    refine P0.ret (v := some (.int 0)) rfl ?_
    exact congrArg (fun z => some (Value.int z)) (show 0 = F_count 9 from by unfold F_count; (repeat' split) <;> first | rfl | (exfalso; simp only [Int32.lt_iff_toInt_lt, Int32.le_iff_toInt_le, Int64.lt_iff_toInt_lt, Int64.le_iff_toInt_le, ← Int32.toInt_inj, Int32.toInt_toInt64, xl_0, xl_1, xl_2, xl_3, xl_4, xl_5, xl_6, xl_7, xl_8, xl_9, xl_10, xl_11, xl_12, xl_13, xl_20, xl_30, xl_59, xl_63, xl_64, xl_99, xl_100, xl_120, xl_999, xl_m1, xl_m2, xl_m3, xl_m4, xl_m5, xL_0, xL_1, xL_2, xL_3, xL_4, xL_5, xL_6, xL_7, xL_8, xL_20, xL_59, xL_63, xL_99, xL_999] at *; omega) | (exfalso; simp_all; done))
  by_cases h11 : a = 10
  · subst h11
    refine P0.go (k := 4) (s' := (152, [some (.ref 0), some (.int 10)], [.int 0], 102, xshC, xMt)) rfl ?_
    refine P0.ret (v := some (.int 0)) rfl ?_
    exact congrArg (fun z => some (Value.int z)) (show 0 = F_count 10 from by unfold F_count; (repeat' split) <;> first | rfl | (exfalso; simp only [Int32.lt_iff_toInt_lt, Int32.le_iff_toInt_le, Int64.lt_iff_toInt_lt, Int64.le_iff_toInt_le, ← Int32.toInt_inj, Int32.toInt_toInt64, xl_0, xl_1, xl_2, xl_3, xl_4, xl_5, xl_6, xl_7, xl_8, xl_9, xl_10, xl_11, xl_12, xl_13, xl_20, xl_30, xl_59, xl_63, xl_64, xl_99, xl_100, xl_120, xl_999, xl_m1, xl_m2, xl_m3, xl_m4, xl_m5, xL_0, xL_1, xL_2, xL_3, xL_4, xL_5, xL_6, xL_7, xL_8, xL_20, xL_59, xL_63, xL_99, xL_999] at *; omega) | (exfalso; simp_all; done))
  by_cases h12 : a = 11
  · subst h12
    refine P0.go (k := 3) (s' := (157, [some (.ref 0), some (.int 11)], [.ref 51], 102, xshC, xMt)) rfl ?_
    refine P0.call (z := 42) (as := [.ref 51]) (pc := 160) (pl := [some (.ref 0), some (.int 11)]) (st := []) (nz := 102) (sh := xshC) (M := xMt) rfl (Nat.le_of_ble_eq_true rfl) ?_
    show P0 42 (0, [some (.ref 51), none, none], [], 102, xshC, xMt) _
    refine P0.go (k := 9) (s' := (35, [some (.ref 51), some (.int 0), some (.int 0)], [.int 0], 102, xshC, xMt)) rfl ?_
    refine P0.ret (v := some (.int 0)) rfl ?_
    refine ⟨rfl, ?_⟩
    show P0 135 (160, [some (.ref 0), some (.int 11)], [.int 0], 102, xshC, xMt) _
    refine P0.ret (v := some (.int 0)) rfl ?_
    exact congrArg (fun z => some (Value.int z)) (show 0 = F_count 11 from by unfold F_count; (repeat' split) <;> first | rfl | (exfalso; simp only [Int32.lt_iff_toInt_lt, Int32.le_iff_toInt_le, Int64.lt_iff_toInt_lt, Int64.le_iff_toInt_le, ← Int32.toInt_inj, Int32.toInt_toInt64, xl_0, xl_1, xl_2, xl_3, xl_4, xl_5, xl_6, xl_7, xl_8, xl_9, xl_10, xl_11, xl_12, xl_13, xl_20, xl_30, xl_59, xl_63, xl_64, xl_99, xl_100, xl_120, xl_999, xl_m1, xl_m2, xl_m3, xl_m4, xl_m5, xL_0, xL_1, xL_2, xL_3, xL_4, xL_5, xL_6, xL_7, xL_8, xL_20, xL_59, xL_63, xL_99, xL_999] at *; omega) | (exfalso; simp_all; done))
  by_cases h13 : a = 12
  · subst h13
    refine P0.go (k := 4) (s' := (168, [some (.ref 0), some (.int 12)], [.int 0], 102, xshC, xMt)) rfl ?_
    refine P0.ret (v := some (.int 0)) rfl ?_
    exact congrArg (fun z => some (Value.int z)) (show 0 = F_count 12 from by unfold F_count; (repeat' split) <;> first | rfl | (exfalso; simp only [Int32.lt_iff_toInt_lt, Int32.le_iff_toInt_le, Int64.lt_iff_toInt_lt, Int64.le_iff_toInt_le, ← Int32.toInt_inj, Int32.toInt_toInt64, xl_0, xl_1, xl_2, xl_3, xl_4, xl_5, xl_6, xl_7, xl_8, xl_9, xl_10, xl_11, xl_12, xl_13, xl_20, xl_30, xl_59, xl_63, xl_64, xl_99, xl_100, xl_120, xl_999, xl_m1, xl_m2, xl_m3, xl_m4, xl_m5, xL_0, xL_1, xL_2, xL_3, xL_4, xL_5, xL_6, xL_7, xL_8, xL_20, xL_59, xL_63, xL_99, xL_999] at *; omega) | (exfalso; simp_all; done))
  refine P0.tabd (t := 169) rfl (by simp only [Int32.lt_iff_toInt_lt, Int32.le_iff_toInt_le, Int64.lt_iff_toInt_lt, Int64.le_iff_toInt_le, ← Int32.toInt_inj, Int32.toInt_toInt64, xl_0, xl_1, xl_2, xl_3, xl_4, xl_5, xl_6, xl_7, xl_8, xl_9, xl_10, xl_11, xl_12, xl_13, xl_20, xl_30, xl_59, xl_63, xl_64, xl_99, xl_100, xl_120, xl_999, xl_m1, xl_m2, xl_m3, xl_m4, xl_m5, xL_0, xL_1, xL_2, xL_3, xL_4, xL_5, xL_6, xL_7, xL_8, xL_20, xL_59, xL_63, xL_99, xL_999] at *; omega) rfl ?_
  refine P0.go (k := 1) (s' := (170, [some (.ref 0), some (.int a)], [.int (-1)], 102, xshC, xMt)) rfl ?_
  refine P0.ret (v := some (.int (-1))) rfl ?_
  exact congrArg (fun z => some (Value.int z)) (show (-1) = F_count a from by unfold F_count; (repeat' split) <;> first | rfl | (exfalso; simp only [Int32.lt_iff_toInt_lt, Int32.le_iff_toInt_le, Int64.lt_iff_toInt_lt, Int64.le_iff_toInt_le, ← Int32.toInt_inj, Int32.toInt_toInt64, xl_0, xl_1, xl_2, xl_3, xl_4, xl_5, xl_6, xl_7, xl_8, xl_9, xl_10, xl_11, xl_12, xl_13, xl_20, xl_30, xl_59, xl_63, xl_64, xl_99, xl_100, xl_120, xl_999, xl_m1, xl_m2, xl_m3, xl_m4, xl_m5, xL_0, xL_1, xL_2, xL_3, xL_4, xL_5, xL_6, xL_7, xL_8, xL_20, xL_59, xL_63, xL_99, xL_999] at *; omega) | (exfalso; simp_all; done))
