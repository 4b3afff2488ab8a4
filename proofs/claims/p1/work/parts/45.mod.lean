set_option maxRecDepth 100000 in
set_option maxHeartbeats 4000000 in
theorem wm_meeting (a b c d : Int32) : P0 157 (0, [some (.ref 56), some (.int a), some (.int b), some (.int c), some (.int d)], [], 102, xshD, xMt) (fun r => r.1 = some (.int (F_meeting a b c d))) := by
  refine P0.go (k := 1) (s' := (1, [some (.ref 56), some (.int a), some (.int b), some (.int c), some (.int d)], [.int a], 102, xshD, xMt)) rfl ?_
  refine P0.call (z := 156) (as := [.int a]) (pc := 4) (pl := [some (.ref 56), some (.int a), some (.int b), some (.int c), some (.int d)]) (st := []) (nz := 102) (sh := xshD) (M := xMt) rfl (Nat.le_of_ble_eq_true rfl) ?_
  show P0 156 (0, [some (.int a)], [], 102, xshD, xMt) _
  refine P0.go (k := 4) (s' := (6, [some (.int a)], [.long 7, .long 0, .long a.toInt64], 102, xshD, xMt)) rfl ?_
  refine P0.call (z := 154) (as := [.long a.toInt64, .long 0, .long 7]) (pc := 9) (pl := [some (.int a)]) (st := []) (nz := 102) (sh := xshD) (M := xMt) rfl (Nat.le_of_ble_eq_true rfl) ?_
  show P0 154 (0, [some (.long a.toInt64), none, some (.long 0), none, some (.long 7), none], [], 102, xshD, xMt) _
  refine P0.go (k := 4) (s' := (xcmp .lt (lg_cmp (a.toInt64) 0) (0) 17 6, [some (.long a.toInt64), none, some (.long 0), none, some (.long 7), none], [], 102, xshD, xMt)) rfl ?_
  refine P0.llt (fun h1 => ?_) (fun h1 => ?_)
  · refine P0.go (k := 1) (s' := (18, [some (.long a.toInt64), none, some (.long 0), none, some (.long 7), none], [.int 0], 102, xshD, xMt)) rfl ?_
    refine P0.ret (v := some (.int 0)) rfl ?_
    refine ⟨rfl, ?_⟩
    show P0 156 (9, [some (.int a)], [.int 0], 102, xshD, xMt) _
    refine P0.ret (v := some (.int 0)) rfl ?_
    refine ⟨rfl, ?_⟩
    show P0 157 (4, [some (.ref 56), some (.int a), some (.int b), some (.int c), some (.int d)], [.int 0], 102, xshD, xMt) _
    refine P0.go (k := 2) (s' := (21, [some (.ref 56), some (.int a), some (.int b), some (.int c), some (.int d)], [.int (-1)], 102, xshD, xMt)) rfl ?_
    refine P0.ret (v := some (.int (-1))) rfl ?_
    exact congrArg (fun z => some (Value.int z)) (show (-1) = F_meeting a b c d from by unfold F_meeting; (repeat' split) <;> first | rfl | (exfalso; simp only [Int32.lt_iff_toInt_lt, Int32.le_iff_toInt_le, Int64.lt_iff_toInt_lt, Int64.le_iff_toInt_le, ← Int32.toInt_inj, Int32.toInt_toInt64, xl_0, xl_1, xl_2, xl_3, xl_4, xl_5, xl_6, xl_7, xl_8, xl_9, xl_10, xl_11, xl_12, xl_13, xl_20, xl_30, xl_59, xl_63, xl_64, xl_99, xl_100, xl_120, xl_999, xl_m1, xl_m2, xl_m3, xl_m4, xl_m5, xL_0, xL_1, xL_2, xL_3, xL_4, xL_5, xL_6, xL_7, xL_8, xL_20, xL_59, xL_63, xL_99, xL_999] at *; omega) | (exfalso; simp_all; done))
  · refine P0.go (k := 4) (s' := (xcmp .gt (lg_cmp (a.toInt64) 7) (0) 17 13, [some (.long a.toInt64), none, some (.long 0), none, some (.long 7), none], [], 102, xshD, xMt)) rfl ?_
    refine P0.lgt (fun h2 => ?_) (fun h2 => ?_)
    · refine P0.go (k := 1) (s' := (18, [some (.long a.toInt64), none, some (.long 0), none, some (.long 7), none], [.int 0], 102, xshD, xMt)) rfl ?_
      refine P0.ret (v := some (.int 0)) rfl ?_
      refine ⟨rfl, ?_⟩
      show P0 156 (9, [some (.int a)], [.int 0], 102, xshD, xMt) _
      refine P0.ret (v := some (.int 0)) rfl ?_
      refine ⟨rfl, ?_⟩
      show P0 157 (4, [some (.ref 56), some (.int a), some (.int b), some (.int c), some (.int d)], [.int 0], 102, xshD, xMt) _
      refine P0.go (k := 2) (s' := (21, [some (.ref 56), some (.int a), some (.int b), some (.int c), some (.int d)], [.int (-1)], 102, xshD, xMt)) rfl ?_
      refine P0.ret (v := some (.int (-1))) rfl ?_
      exact congrArg (fun z => some (Value.int z)) (show (-1) = F_meeting a b c d from by unfold F_meeting; (repeat' split) <;> first | rfl | (exfalso; simp only [Int32.lt_iff_toInt_lt, Int32.le_iff_toInt_le, Int64.lt_iff_toInt_lt, Int64.le_iff_toInt_le, ← Int32.toInt_inj, Int32.toInt_toInt64, xl_0, xl_1, xl_2, xl_3, xl_4, xl_5, xl_6, xl_7, xl_8, xl_9, xl_10, xl_11, xl_12, xl_13, xl_20, xl_30, xl_59, xl_63, xl_64, xl_99, xl_100, xl_120, xl_999, xl_m1, xl_m2, xl_m3, xl_m4, xl_m5, xL_0, xL_1, xL_2, xL_3, xL_4, xL_5, xL_6, xL_7, xL_8, xL_20, xL_59, xL_63, xL_99, xL_999] at *; omega) | (exfalso; simp_all; done))
    · refine P0.go (k := 2) (s' := (18, [some (.long a.toInt64), none, some (.long 0), none, some (.long 7), none], [.int 1], 102, xshD, xMt)) rfl ?_
      refine P0.ret (v := some (.int 1)) rfl ?_
      refine ⟨rfl, ?_⟩
      show P0 156 (9, [some (.int a)], [.int 1], 102, xshD, xMt) _
      refine P0.ret (v := some (.int 1)) rfl ?_
      refine ⟨rfl, ?_⟩
      show P0 157 (4, [some (.ref 56), some (.int a), some (.int b), some (.int c), some (.int d)], [.int 1], 102, xshD, xMt) _
      refine P0.go (k := 4) (s' := (xcmp .eq (b) ((-1)) 22 12, [some (.ref 56), some (.int a), some (.int b), some (.int c), some (.int d)], [], 102, xshD, xMt)) rfl ?_
      refine P0.eq (fun h3 => ?_) (fun h3 => ?_)
      · refine P0.go (k := 4) (s' := (28, [some (.ref 56), some (.int a), some (.int b), some (.int c), some (.int d)], [.long 99, .long 0, .long c.toInt64], 102, xshD, xMt)) rfl ?_
        refine P0.call (z := 154) (as := [.long c.toInt64, .long 0, .long 99]) (pc := 31) (pl := [some (.ref 56), some (.int a), some (.int b), some (.int c), some (.int d)]) (st := []) (nz := 102) (sh := xshD) (M := xMt) rfl (Nat.le_of_ble_eq_true rfl) ?_
        show P0 154 (0, [some (.long c.toInt64), none, some (.long 0), none, some (.long 99), none], [], 102, xshD, xMt) _
        refine P0.go (k := 4) (s' := (xcmp .lt (lg_cmp (c.toInt64) 0) (0) 17 6, [some (.long c.toInt64), none, some (.long 0), none, some (.long 99), none], [], 102, xshD, xMt)) rfl ?_
        refine P0.llt (fun h4 => ?_) (fun h4 => ?_)
        · refine P0.go (k := 1) (s' := (18, [some (.long c.toInt64), none, some (.long 0), none, some (.long 99), none], [.int 0], 102, xshD, xMt)) rfl ?_
          refine P0.ret (v := some (.int 0)) rfl ?_
          refine ⟨rfl, ?_⟩
          show P0 157 (31, [some (.ref 56), some (.int a), some (.int b), some (.int c), some (.int d)], [.int 0], 102, xshD, xMt) _
          refine P0.go (k := 2) (s' := (49, [some (.ref 56), some (.int a), some (.int b), some (.int c), some (.int d)], [.int (-2)], 102, xshD, xMt)) rfl ?_
          refine P0.ret (v := some (.int (-2))) rfl ?_
          exact congrArg (fun z => some (Value.int z)) (show (-2) = F_meeting a b c d from by unfold F_meeting; (repeat' split) <;> first | rfl | (exfalso; simp only [Int32.lt_iff_toInt_lt, Int32.le_iff_toInt_le, Int64.lt_iff_toInt_lt, Int64.le_iff_toInt_le, ← Int32.toInt_inj, Int32.toInt_toInt64, xl_0, xl_1, xl_2, xl_3, xl_4, xl_5, xl_6, xl_7, xl_8, xl_9, xl_10, xl_11, xl_12, xl_13, xl_20, xl_30, xl_59, xl_63, xl_64, xl_99, xl_100, xl_120, xl_999, xl_m1, xl_m2, xl_m3, xl_m4, xl_m5, xL_0, xL_1, xL_2, xL_3, xL_4, xL_5, xL_6, xL_7, xL_8, xL_20, xL_59, xL_63, xL_99, xL_999] at *; omega) | (exfalso; simp_all; done))
        · refine P0.go (k := 4) (s' := (xcmp .gt (lg_cmp (c.toInt64) 99) (0) 17 13, [some (.long c.toInt64), none, some (.long 0), none, some (.long 99), none], [], 102, xshD, xMt)) rfl ?_
          refine P0.lgt (fun h5 => ?_) (fun h5 => ?_)
          · refine P0.go (k := 1) (s' := (18, [some (.long c.toInt64), none, some (.long 0), none, some (.long 99), none], [.int 0], 102, xshD, xMt)) rfl ?_
            refine P0.ret (v := some (.int 0)) rfl ?_
            refine ⟨rfl, ?_⟩
            show P0 157 (31, [some (.ref 56), some (.int a), some (.int b), some (.int c), some (.int d)], [.int 0], 102, xshD, xMt) _
            refine P0.go (k := 2) (s' := (49, [some (.ref 56), some (.int a), some (.int b), some (.int c), some (.int d)], [.int (-2)], 102, xshD, xMt)) rfl ?_
            refine P0.ret (v := some (.int (-2))) rfl ?_
            exact congrArg (fun z => some (Value.int z)) (show (-2) = F_meeting a b c d from by unfold F_meeting; (repeat' split) <;> first | rfl | (exfalso; simp only [Int32.lt_iff_toInt_lt, Int32.le_iff_toInt_le, Int64.lt_iff_toInt_lt, Int64.le_iff_toInt_le, ← Int32.toInt_inj, Int32.toInt_toInt64, xl_0, xl_1, xl_2, xl_3, xl_4, xl_5, xl_6, xl_7, xl_8, xl_9, xl_10, xl_11, xl_12, xl_13, xl_20, xl_30, xl_59, xl_63, xl_64, xl_99, xl_100, xl_120, xl_999, xl_m1, xl_m2, xl_m3, xl_m4, xl_m5, xL_0, xL_1, xL_2, xL_3, xL_4, xL_5, xL_6, xL_7, xL_8, xL_20, xL_59, xL_63, xL_99, xL_999] at *; omega) | (exfalso; simp_all; done))
          · refine P0.go (k := 2) (s' := (18, [some (.long c.toInt64), none, some (.long 0), none, some (.long 99), none], [.int 1], 102, xshD, xMt)) rfl ?_
            refine P0.ret (v := some (.int 1)) rfl ?_
            refine ⟨rfl, ?_⟩
            show P0 157 (31, [some (.ref 56), some (.int a), some (.int b), some (.int c), some (.int d)], [.int 1], 102, xshD, xMt) _
            refine P0.go (k := 5) (s' := (41, [some (.ref 56), some (.int a), some (.int b), some (.int c), some (.int d)], [.long 999, .long 0, .long d.toInt64], 102, xshD, xMt)) rfl ?_
            refine P0.call (z := 154) (as := [.long d.toInt64, .long 0, .long 999]) (pc := 44) (pl := [some (.ref 56), some (.int a), some (.int b), some (.int c), some (.int d)]) (st := []) (nz := 102) (sh := xshD) (M := xMt) rfl (Nat.le_of_ble_eq_true rfl) ?_
            show P0 154 (0, [some (.long d.toInt64), none, some (.long 0), none, some (.long 999), none], [], 102, xshD, xMt) _
            refine P0.go (k := 4) (s' := (xcmp .lt (lg_cmp (d.toInt64) 0) (0) 17 6, [some (.long d.toInt64), none, some (.long 0), none, some (.long 999), none], [], 102, xshD, xMt)) rfl ?_
            refine P0.llt (fun h6 => ?_) (fun h6 => ?_)
            · refine P0.go (k := 1) (s' := (18, [some (.long d.toInt64), none, some (.long 0), none, some (.long 999), none], [.int 0], 102, xshD, xMt)) rfl ?_
              refine P0.ret (v := some (.int 0)) rfl ?_
              refine ⟨rfl, ?_⟩
              show P0 157 (44, [some (.ref 56), some (.int a), some (.int b), some (.int c), some (.int d)], [.int 0], 102, xshD, xMt) _
              refine P0.go (k := 2) (s' := (49, [some (.ref 56), some (.int a), some (.int b), some (.int c), some (.int d)], [.int (-2)], 102, xshD, xMt)) rfl ?_
              refine P0.ret (v := some (.int (-2))) rfl ?_
              exact congrArg (fun z => some (Value.int z)) (show (-2) = F_meeting a b c d from by unfold F_meeting; (repeat' split) <;> first | rfl | (exfalso; simp only [Int32.lt_iff_toInt_lt, Int32.le_iff_toInt_le, Int64.lt_iff_toInt_lt, Int64.le_iff_toInt_le, ← Int32.toInt_inj, Int32.toInt_toInt64, xl_0, xl_1, xl_2, xl_3, xl_4, xl_5, xl_6, xl_7, xl_8, xl_9, xl_10, xl_11, xl_12, xl_13, xl_20, xl_30, xl_59, xl_63, xl_64, xl_99, xl_100, xl_120, xl_999, xl_m1, xl_m2, xl_m3, xl_m4, xl_m5, xL_0, xL_1, xL_2, xL_3, xL_4, xL_5, xL_6, xL_7, xL_8, xL_20, xL_59, xL_63, xL_99, xL_999] at *; omega) | (exfalso; simp_all; done))
            · refine P0.go (k := 4) (s' := (xcmp .gt (lg_cmp (d.toInt64) 999) (0) 17 13, [some (.long d.toInt64), none, some (.long 0), none, some (.long 999), none], [], 102, xshD, xMt)) rfl ?_
              refine P0.lgt (fun h7 => ?_) (fun h7 => ?_)
              · refine P0.go (k := 1) (s' := (18, [some (.long d.toInt64), none, some (.long 0), none, some (.long 999), none], [.int 0], 102, xshD, xMt)) rfl ?_
                refine P0.ret (v := some (.int 0)) rfl ?_
                refine ⟨rfl, ?_⟩
                show P0 157 (44, [some (.ref 56), some (.int a), some (.int b), some (.int c), some (.int d)], [.int 0], 102, xshD, xMt) _
                refine P0.go (k := 2) (s' := (49, [some (.ref 56), some (.int a), some (.int b), some (.int c), some (.int d)], [.int (-2)], 102, xshD, xMt)) rfl ?_
                refine P0.ret (v := some (.int (-2))) rfl ?_
                exact congrArg (fun z => some (Value.int z)) (show (-2) = F_meeting a b c d from by unfold F_meeting; (repeat' split) <;> first | rfl | (exfalso; simp only [Int32.lt_iff_toInt_lt, Int32.le_iff_toInt_le, Int64.lt_iff_toInt_lt, Int64.le_iff_toInt_le, ← Int32.toInt_inj, Int32.toInt_toInt64, xl_0, xl_1, xl_2, xl_3, xl_4, xl_5, xl_6, xl_7, xl_8, xl_9, xl_10, xl_11, xl_12, xl_13, xl_20, xl_30, xl_59, xl_63, xl_64, xl_99, xl_100, xl_120, xl_999, xl_m1, xl_m2, xl_m3, xl_m4, xl_m5, xL_0, xL_1, xL_2, xL_3, xL_4, xL_5, xL_6, xL_7, xL_8, xL_20, xL_59, xL_63, xL_99, xL_999] at *; omega) | (exfalso; simp_all; done))
              · refine P0.go (k := 2) (s' := (18, [some (.long d.toInt64), none, some (.long 0), none, some (.long 999), none], [.int 1], 102, xshD, xMt)) rfl ?_
                refine P0.ret (v := some (.int 1)) rfl ?_
                refine ⟨rfl, ?_⟩
                show P0 157 (44, [some (.ref 56), some (.int a), some (.int b), some (.int c), some (.int d)], [.int 1], 102, xshD, xMt) _
                refine P0.go (k := 39) (s' := (119, [some (.ref 56), some (.int a), some (.int b), some (.int c), some (.int d)], [.int (((1) - (1) : Int32))], 102, xshD, (xup (xup (xup (xup (xup xMt 57 0 (a)) 58 0 (b)) 59 0 (c)) 60 0 (d)) 56 0 (1)))) rfl ?_
                refine P0.topi (x' := 0) (by decide) ?_
                refine P0.ret (v := some (.int 0)) rfl ?_
                exact congrArg (fun z => some (Value.int z)) (show 0 = F_meeting a b c d from by unfold F_meeting; (repeat' split) <;> first | rfl | (exfalso; simp only [Int32.lt_iff_toInt_lt, Int32.le_iff_toInt_le, Int64.lt_iff_toInt_lt, Int64.le_iff_toInt_le, ← Int32.toInt_inj, Int32.toInt_toInt64, xl_0, xl_1, xl_2, xl_3, xl_4, xl_5, xl_6, xl_7, xl_8, xl_9, xl_10, xl_11, xl_12, xl_13, xl_20, xl_30, xl_59, xl_63, xl_64, xl_99, xl_100, xl_120, xl_999, xl_m1, xl_m2, xl_m3, xl_m4, xl_m5, xL_0, xL_1, xL_2, xL_3, xL_4, xL_5, xL_6, xL_7, xL_8, xL_20, xL_59, xL_63, xL_99, xL_999] at *; omega) | (exfalso; simp_all; done))
      · refine P0.go (k := 2) (s' := (14, [some (.ref 56), some (.int a), some (.int b), some (.int c), some (.int d)], [.int b, .ref 56], 102, xshD, xMt)) rfl ?_
        refine P0.call (z := 155) (as := [.ref 56, .int b]) (pc := 17) (pl := [some (.ref 56), some (.int a), some (.int b), some (.int c), some (.int d)]) (st := []) (nz := 102) (sh := xshD) (M := xMt) rfl (Nat.le_of_ble_eq_true rfl) ?_
        show P0 155 (0, [some (.ref 56), some (.int b)], [], 102, xshD, xMt) _
        refine P0.go (k := 2) (s' := (xcmp .lt (b) (0) 16 4, [some (.ref 56), some (.int b)], [], 102, xshD, xMt)) rfl ?_
        refine P0.lt (fun h8 => ?_) (fun h8 => ?_)
        · refine P0.go (k := 1) (s' := (17, [some (.ref 56), some (.int b)], [.int 0], 102, xshD, xMt)) rfl ?_
          refine P0.ret (v := some (.int 0)) rfl ?_
          refine ⟨rfl, ?_⟩
          show P0 157 (17, [some (.ref 56), some (.int a), some (.int b), some (.int c), some (.int d)], [.int 0], 102, xshD, xMt) _
          refine P0.go (k := 2) (s' := (21, [some (.ref 56), some (.int a), some (.int b), some (.int c), some (.int d)], [.int (-1)], 102, xshD, xMt)) rfl ?_
          refine P0.ret (v := some (.int (-1))) rfl ?_
          exact congrArg (fun z => some (Value.int z)) (show (-1) = F_meeting a b c d from by unfold F_meeting; (repeat' split) <;> first | rfl | (exfalso; simp only [Int32.lt_iff_toInt_lt, Int32.le_iff_toInt_le, Int64.lt_iff_toInt_lt, Int64.le_iff_toInt_le, ← Int32.toInt_inj, Int32.toInt_toInt64, xl_0, xl_1, xl_2, xl_3, xl_4, xl_5, xl_6, xl_7, xl_8, xl_9, xl_10, xl_11, xl_12, xl_13, xl_20, xl_30, xl_59, xl_63, xl_64, xl_99, xl_100, xl_120, xl_999, xl_m1, xl_m2, xl_m3, xl_m4, xl_m5, xL_0, xL_1, xL_2, xL_3, xL_4, xL_5, xL_6, xL_7, xL_8, xL_20, xL_59, xL_63, xL_99, xL_999] at *; omega) | (exfalso; simp_all; done))
        · refine P0.go (k := 4) (s' := (xcmp .ge (b) (0) 16 12, [some (.ref 56), some (.int b)], [], 102, xshD, xMt)) rfl ?_
          refine P0.ge (fun h9 => ?_) (fun h9 => absurd True.intro (by exfalso; simp only [Int32.lt_iff_toInt_lt, Int32.le_iff_toInt_le, Int64.lt_iff_toInt_lt, Int64.le_iff_toInt_le, ← Int32.toInt_inj, Int32.toInt_toInt64, xl_0, xl_1, xl_2, xl_3, xl_4, xl_5, xl_6, xl_7, xl_8, xl_9, xl_10, xl_11, xl_12, xl_13, xl_20, xl_30, xl_59, xl_63, xl_64, xl_99, xl_100, xl_120, xl_999, xl_m1, xl_m2, xl_m3, xl_m4, xl_m5, xL_0, xL_1, xL_2, xL_3, xL_4, xL_5, xL_6, xL_7, xL_8, xL_20, xL_59, xL_63, xL_99, xL_999] at *; omega))
          refine P0.go (k := 1) (s' := (17, [some (.ref 56), some (.int b)], [.int 0], 102, xshD, xMt)) rfl ?_
          refine P0.ret (v := some (.int 0)) rfl ?_
          refine ⟨rfl, ?_⟩
          show P0 157 (17, [some (.ref 56), some (.int a), some (.int b), some (.int c), some (.int d)], [.int 0], 102, xshD, xMt) _
          refine P0.go (k := 2) (s' := (21, [some (.ref 56), some (.int a), some (.int b), some (.int c), some (.int d)], [.int (-1)], 102, xshD, xMt)) rfl ?_
          refine P0.ret (v := some (.int (-1))) rfl ?_
          exact congrArg (fun z => some (Value.int z)) (show (-1) = F_meeting a b c d from by unfold F_meeting; (repeat' split) <;> first | rfl | (exfalso; simp only [Int32.lt_iff_toInt_lt, Int32.le_iff_toInt_le, Int64.lt_iff_toInt_lt, Int64.le_iff_toInt_le, ← Int32.toInt_inj, Int32.toInt_toInt64, xl_0, xl_1, xl_2, xl_3, xl_4, xl_5, xl_6, xl_7, xl_8, xl_9, xl_10, xl_11, xl_12, xl_13, xl_20, xl_30, xl_59, xl_63, xl_64, xl_99, xl_100, xl_120, xl_999, xl_m1, xl_m2, xl_m3, xl_m4, xl_m5, xL_0, xL_1, xL_2, xL_3, xL_4, xL_5, xL_6, xL_7, xL_8, xL_20, xL_59, xL_63, xL_99, xL_999] at *; omega) | (exfalso; simp_all; done))
set_option maxRecDepth 100000 in
set_option maxHeartbeats 4000000 in
theorem wm_law (a b : Int32) : P0 158 (0, [some (.ref 56), some (.int a), some (.int b), none], [], 102, xshD, xMt) (fun r => r.1 = some (.int (F_law a b))) := by
  refine P0.go (k := 4) (s' := (4, [some (.ref 56), some (.int a), some (.int b), none], [.long 1, .long 0, .long a.toInt64], 102, xshD, xMt)) rfl ?_
  refine P0.call (z := 154) (as := [.long a.toInt64, .long 0, .long 1]) (pc := 7) (pl := [some (.ref 56), some (.int a), some (.int b), none]) (st := []) (nz := 102) (sh := xshD) (M := xMt) rfl (Nat.le_of_ble_eq_true rfl) ?_
  show P0 154 (0, [some (.long a.toInt64), none, some (.long 0), none, some (.long 1), none], [], 102, xshD, xMt) _
  refine P0.go (k := 4) (s' := (xcmp .lt (lg_cmp (a.toInt64) 0) (0) 17 6, [some (.long a.toInt64), none, some (.long 0), none, some (.long 1), none], [], 102, xshD, xMt)) rfl ?_
  refine P0.llt (fun h1 => ?_) (fun h1 => ?_)
  · refine P0.go (k := 1) (s' := (18, [some (.long a.toInt64), none, some (.long 0), none, some (.long 1), none], [.int 0], 102, xshD, xMt)) rfl ?_
    refine P0.ret (v := some (.int 0)) rfl ?_
    refine ⟨rfl, ?_⟩
    show P0 158 (7, [some (.ref 56), some (.int a), some (.int b), none], [.int 0], 102, xshD, xMt) _
    refine P0.go (k := 2) (s' := (11, [some (.ref 56), some (.int a), some (.int b), none], [.int (-1)], 102, xshD, xMt)) rfl ?_
    refine P0.ret (v := some (.int (-1))) rfl ?_
    exact congrArg (fun z => some (Value.int z)) (show (-1) = F_law a b from by unfold F_law; (repeat' split) <;> first | rfl | (exfalso; simp only [Int32.lt_iff_toInt_lt, Int32.le_iff_toInt_le, Int64.lt_iff_toInt_lt, Int64.le_iff_toInt_le, ← Int32.toInt_inj, Int32.toInt_toInt64, xl_0, xl_1, xl_2, xl_3, xl_4, xl_5, xl_6, xl_7, xl_8, xl_9, xl_10, xl_11, xl_12, xl_13, xl_20, xl_30, xl_59, xl_63, xl_64, xl_99, xl_100, xl_120, xl_999, xl_m1, xl_m2, xl_m3, xl_m4, xl_m5, xL_0, xL_1, xL_2, xL_3, xL_4, xL_5, xL_6, xL_7, xL_8, xL_20, xL_59, xL_63, xL_99, xL_999] at *; omega) | (exfalso; simp_all; done))
  · refine P0.go (k := 4) (s' := (xcmp .gt (lg_cmp (a.toInt64) 1) (0) 17 13, [some (.long a.toInt64), none, some (.long 0), none, some (.long 1), none], [], 102, xshD, xMt)) rfl ?_
    refine P0.lgt (fun h2 => ?_) (fun h2 => ?_)
    · refine P0.go (k := 1) (s' := (18, [some (.long a.toInt64), none, some (.long 0), none, some (.long 1), none], [.int 0], 102, xshD, xMt)) rfl ?_
      refine P0.ret (v := some (.int 0)) rfl ?_
      refine ⟨rfl, ?_⟩
      show P0 158 (7, [some (.ref 56), some (.int a), some (.int b), none], [.int 0], 102, xshD, xMt) _
      refine P0.go (k := 2) (s' := (11, [some (.ref 56), some (.int a), some (.int b), none], [.int (-1)], 102, xshD, xMt)) rfl ?_
      refine P0.ret (v := some (.int (-1))) rfl ?_
      exact congrArg (fun z => some (Value.int z)) (show (-1) = F_law a b from by unfold F_law; (repeat' split) <;> first | rfl | (exfalso; simp only [Int32.lt_iff_toInt_lt, Int32.le_iff_toInt_le, Int64.lt_iff_toInt_lt, Int64.le_iff_toInt_le, ← Int32.toInt_inj, Int32.toInt_toInt64, xl_0, xl_1, xl_2, xl_3, xl_4, xl_5, xl_6, xl_7, xl_8, xl_9, xl_10, xl_11, xl_12, xl_13, xl_20, xl_30, xl_59, xl_63, xl_64, xl_99, xl_100, xl_120, xl_999, xl_m1, xl_m2, xl_m3, xl_m4, xl_m5, xL_0, xL_1, xL_2, xL_3, xL_4, xL_5, xL_6, xL_7, xL_8, xL_20, xL_59, xL_63, xL_99, xL_999] at *; omega) | (exfalso; simp_all; done))
    · refine P0.go (k := 2) (s' := (18, [some (.long a.toInt64), none, some (.long 0), none, some (.long 1), none], [.int 1], 102, xshD, xMt)) rfl ?_
      refine P0.ret (v := some (.int 1)) rfl ?_
      refine ⟨rfl, ?_⟩
      show P0 158 (7, [some (.ref 56), some (.int a), some (.int b), none], [.int 1], 102, xshD, xMt) _
      refine P0.go (k := 6) (s' := (xcmp .ne (a) (0) 25 19, [some (.ref 56), some (.int a), some (.int b), none], [.long 0, .long b.toInt64], 102, xshD, xMt)) rfl ?_
      refine P0.ne (fun h3 => ?_) (fun h3 => ?_)
      · refine P0.go (k := 1) (s' := (28, [some (.ref 56), some (.int a), some (.int b), none], [.long 999, .long 0, .long b.toInt64], 102, xshD, xMt)) rfl ?_
        refine P0.call (z := 154) (as := [.long b.toInt64, .long 0, .long 999]) (pc := 31) (pl := [some (.ref 56), some (.int a), some (.int b), none]) (st := []) (nz := 102) (sh := xshD) (M := xMt) rfl (Nat.le_of_ble_eq_true rfl) ?_
        show P0 154 (0, [some (.long b.toInt64), none, some (.long 0), none, some (.long 999), none], [], 102, xshD, xMt) _
        refine P0.go (k := 4) (s' := (xcmp .lt (lg_cmp (b.toInt64) 0) (0) 17 6, [some (.long b.toInt64), none, some (.long 0), none, some (.long 999), none], [], 102, xshD, xMt)) rfl ?_
        refine P0.llt (fun h4 => ?_) (fun h4 => ?_)
        · refine P0.go (k := 1) (s' := (18, [some (.long b.toInt64), none, some (.long 0), none, some (.long 999), none], [.int 0], 102, xshD, xMt)) rfl ?_
          refine P0.ret (v := some (.int 0)) rfl ?_
          refine ⟨rfl, ?_⟩
          show P0 158 (31, [some (.ref 56), some (.int a), some (.int b), none], [.int 0], 102, xshD, xMt) _
          refine P0.go (k := 2) (s' := (36, [some (.ref 56), some (.int a), some (.int b), none], [.int (-2)], 102, xshD, xMt)) rfl ?_
          refine P0.ret (v := some (.int (-2))) rfl ?_
          exact congrArg (fun z => some (Value.int z)) (show (-2) = F_law a b from by unfold F_law; (repeat' split) <;> first | rfl | (exfalso; simp only [Int32.lt_iff_toInt_lt, Int32.le_iff_toInt_le, Int64.lt_iff_toInt_lt, Int64.le_iff_toInt_le, ← Int32.toInt_inj, Int32.toInt_toInt64, xl_0, xl_1, xl_2, xl_3, xl_4, xl_5, xl_6, xl_7, xl_8, xl_9, xl_10, xl_11, xl_12, xl_13, xl_20, xl_30, xl_59, xl_63, xl_64, xl_99, xl_100, xl_120, xl_999, xl_m1, xl_m2, xl_m3, xl_m4, xl_m5, xL_0, xL_1, xL_2, xL_3, xL_4, xL_5, xL_6, xL_7, xL_8, xL_20, xL_59, xL_63, xL_99, xL_999] at *; omega) | (exfalso; simp_all; done))
        · refine P0.go (k := 4) (s' := (xcmp .gt (lg_cmp (b.toInt64) 999) (0) 17 13, [some (.long b.toInt64), none, some (.long 0), none, some (.long 999), none], [], 102, xshD, xMt)) rfl ?_
          refine P0.lgt (fun h5 => ?_) (fun h5 => ?_)
          · refine P0.go (k := 1) (s' := (18, [some (.long b.toInt64), none, some (.long 0), none, some (.long 999), none], [.int 0], 102, xshD, xMt)) rfl ?_
            refine P0.ret (v := some (.int 0)) rfl ?_
            refine ⟨rfl, ?_⟩
            show P0 158 (31, [some (.ref 56), some (.int a), some (.int b), none], [.int 0], 102, xshD, xMt) _
            refine P0.go (k := 2) (s' := (36, [some (.ref 56), some (.int a), some (.int b), none], [.int (-2)], 102, xshD, xMt)) rfl ?_
            refine P0.ret (v := some (.int (-2))) rfl ?_
            exact congrArg (fun z => some (Value.int z)) (show (-2) = F_law a b from by unfold F_law; (repeat' split) <;> first | rfl | (exfalso; simp only [Int32.lt_iff_toInt_lt, Int32.le_iff_toInt_le, Int64.lt_iff_toInt_lt, Int64.le_iff_toInt_le, ← Int32.toInt_inj, Int32.toInt_toInt64, xl_0, xl_1, xl_2, xl_3, xl_4, xl_5, xl_6, xl_7, xl_8, xl_9, xl_10, xl_11, xl_12, xl_13, xl_20, xl_30, xl_59, xl_63, xl_64, xl_99, xl_100, xl_120, xl_999, xl_m1, xl_m2, xl_m3, xl_m4, xl_m5, xL_0, xL_1, xL_2, xL_3, xL_4, xL_5, xL_6, xL_7, xL_8, xL_20, xL_59, xL_63, xL_99, xL_999] at *; omega) | (exfalso; simp_all; done))
          · refine P0.go (k := 2) (s' := (18, [some (.long b.toInt64), none, some (.long 0), none, some (.long 999), none], [.int 1], 102, xshD, xMt)) rfl ?_
            refine P0.ret (v := some (.int 1)) rfl ?_
            refine ⟨rfl, ?_⟩
            show P0 158 (31, [some (.ref 56), some (.int a), some (.int b), none], [.int 1], 102, xshD, xMt) _
            refine P0.go (k := 4) (s' := (42, [some (.ref 56), some (.int a), some (.int b), none], [.int a, .ref 61], 102, xshD, xMt)) rfl ?_
            by_cases h6 : a = 1
            · subst h6
              refine P0.go (k := 8) (s' := (52, [some (.ref 56), some (.int 1), some (.int b), some (.int 5)], [.int 5], 102, xshD, (xup xMt 61 1 (b)))) rfl ?_
              refine P0.ret (v := some (.int 5)) rfl ?_
              exact congrArg (fun z => some (Value.int z)) (show 5 = F_law 1 b from by unfold F_law; (repeat' split) <;> first | rfl | (exfalso; simp only [Int32.lt_iff_toInt_lt, Int32.le_iff_toInt_le, Int64.lt_iff_toInt_lt, Int64.le_iff_toInt_le, ← Int32.toInt_inj, Int32.toInt_toInt64, xl_0, xl_1, xl_2, xl_3, xl_4, xl_5, xl_6, xl_7, xl_8, xl_9, xl_10, xl_11, xl_12, xl_13, xl_20, xl_30, xl_59, xl_63, xl_64, xl_99, xl_100, xl_120, xl_999, xl_m1, xl_m2, xl_m3, xl_m4, xl_m5, xL_0, xL_1, xL_2, xL_3, xL_4, xL_5, xL_6, xL_7, xL_8, xL_20, xL_59, xL_63, xL_99, xL_999] at *; omega) | (exfalso; simp_all; done))
            exact absurd True.intro (by exfalso; simp only [Int32.lt_iff_toInt_lt, Int32.le_iff_toInt_le, Int64.lt_iff_toInt_lt, Int64.le_iff_toInt_le, ← Int32.toInt_inj, Int32.toInt_toInt64, xl_0, xl_1, xl_2, xl_3, xl_4, xl_5, xl_6, xl_7, xl_8, xl_9, xl_10, xl_11, xl_12, xl_13, xl_20, xl_30, xl_59, xl_63, xl_64, xl_99, xl_100, xl_120, xl_999, xl_m1, xl_m2, xl_m3, xl_m4, xl_m5, xL_0, xL_1, xL_2, xL_3, xL_4, xL_5, xL_6, xL_7, xL_8, xL_20, xL_59, xL_63, xL_99, xL_999] at *; omega)
      · refine P0.go (k := 2) (s' := (28, [some (.ref 56), some (.int a), some (.int b), none], [.long 99, .long 0, .long b.toInt64], 102, xshD, xMt)) rfl ?_
        refine P0.call (z := 154) (as := [.long b.toInt64, .long 0, .long 99]) (pc := 31) (pl := [some (.ref 56), some (.int a), some (.int b), none]) (st := []) (nz := 102) (sh := xshD) (M := xMt) rfl (Nat.le_of_ble_eq_true rfl) ?_
        show P0 154 (0, [some (.long b.toInt64), none, some (.long 0), none, some (.long 99), none], [], 102, xshD, xMt) _
        refine P0.go (k := 4) (s' := (xcmp .lt (lg_cmp (b.toInt64) 0) (0) 17 6, [some (.long b.toInt64), none, some (.long 0), none, some (.long 99), none], [], 102, xshD, xMt)) rfl ?_
        refine P0.llt (fun h7 => ?_) (fun h7 => ?_)
        · refine P0.go (k := 1) (s' := (18, [some (.long b.toInt64), none, some (.long 0), none, some (.long 99), none], [.int 0], 102, xshD, xMt)) rfl ?_
          refine P0.ret (v := some (.int 0)) rfl ?_
          refine ⟨rfl, ?_⟩
          show P0 158 (31, [some (.ref 56), some (.int a), some (.int b), none], [.int 0], 102, xshD, xMt) _
          refine P0.go (k := 2) (s' := (36, [some (.ref 56), some (.int a), some (.int b), none], [.int (-2)], 102, xshD, xMt)) rfl ?_
          refine P0.ret (v := some (.int (-2))) rfl ?_
          exact congrArg (fun z => some (Value.int z)) (show (-2) = F_law a b from by unfold F_law; (repeat' split) <;> first | rfl | (exfalso; simp only [Int32.lt_iff_toInt_lt, Int32.le_iff_toInt_le, Int64.lt_iff_toInt_lt, Int64.le_iff_toInt_le, ← Int32.toInt_inj, Int32.toInt_toInt64, xl_0, xl_1, xl_2, xl_3, xl_4, xl_5, xl_6, xl_7, xl_8, xl_9, xl_10, xl_11, xl_12, xl_13, xl_20, xl_30, xl_59, xl_63, xl_64, xl_99, xl_100, xl_120, xl_999, xl_m1, xl_m2, xl_m3, xl_m4, xl_m5, xL_0, xL_1, xL_2, xL_3, xL_4, xL_5, xL_6, xL_7, xL_8, xL_20, xL_59, xL_63, xL_99, xL_999] at *; omega) | (exfalso; simp_all; done))
        · refine P0.go (k := 4) (s' := (xcmp .gt (lg_cmp (b.toInt64) 99) (0) 17 13, [some (.long b.toInt64), none, some (.long 0), none, some (.long 99), none], [], 102, xshD, xMt)) rfl ?_
          refine P0.lgt (fun h8 => ?_) (fun h8 => ?_)
          · refine P0.go (k := 1) (s' := (18, [some (.long b.toInt64), none, some (.long 0), none, some (.long 99), none], [.int 0], 102, xshD, xMt)) rfl ?_
            refine P0.ret (v := some (.int 0)) rfl ?_
            refine ⟨rfl, ?_⟩
            show P0 158 (31, [some (.ref 56), some (.int a), some (.int b), none], [.int 0], 102, xshD, xMt) _
            refine P0.go (k := 2) (s' := (36, [some (.ref 56), some (.int a), some (.int b), none], [.int (-2)], 102, xshD, xMt)) rfl ?_
            refine P0.ret (v := some (.int (-2))) rfl ?_
            exact congrArg (fun z => some (Value.int z)) (show (-2) = F_law a b from by unfold F_law; (repeat' split) <;> first | rfl | (exfalso; simp only [Int32.lt_iff_toInt_lt, Int32.le_iff_toInt_le, Int64.lt_iff_toInt_lt, Int64.le_iff_toInt_le, ← Int32.toInt_inj, Int32.toInt_toInt64, xl_0, xl_1, xl_2, xl_3, xl_4, xl_5, xl_6, xl_7, xl_8, xl_9, xl_10, xl_11, xl_12, xl_13, xl_20, xl_30, xl_59, xl_63, xl_64, xl_99, xl_100, xl_120, xl_999, xl_m1, xl_m2, xl_m3, xl_m4, xl_m5, xL_0, xL_1, xL_2, xL_3, xL_4, xL_5, xL_6, xL_7, xL_8, xL_20, xL_59, xL_63, xL_99, xL_999] at *; omega) | (exfalso; simp_all; done))
          · refine P0.go (k := 2) (s' := (18, [some (.long b.toInt64), none, some (.long 0), none, some (.long 99), none], [.int 1], 102, xshD, xMt)) rfl ?_
            refine P0.ret (v := some (.int 1)) rfl ?_
            refine ⟨rfl, ?_⟩
            show P0 158 (31, [some (.ref 56), some (.int a), some (.int b), none], [.int 1], 102, xshD, xMt) _
            refine P0.go (k := 4) (s' := (42, [some (.ref 56), some (.int a), some (.int b), none], [.int a, .ref 61], 102, xshD, xMt)) rfl ?_
            by_cases h9 : a = 0
            · subst h9
              refine P0.go (k := 8) (s' := (52, [some (.ref 56), some (.int 0), some (.int b), some (.int 7)], [.int 7], 102, xshD, (xup xMt 61 0 (b)))) rfl ?_
              refine P0.ret (v := some (.int 7)) rfl ?_
              exact congrArg (fun z => some (Value.int z)) (show 7 = F_law 0 b from by unfold F_law; (repeat' split) <;> first | rfl | (exfalso; simp only [Int32.lt_iff_toInt_lt, Int32.le_iff_toInt_le, Int64.lt_iff_toInt_lt, Int64.le_iff_toInt_le, ← Int32.toInt_inj, Int32.toInt_toInt64, xl_0, xl_1, xl_2, xl_3, xl_4, xl_5, xl_6, xl_7, xl_8, xl_9, xl_10, xl_11, xl_12, xl_13, xl_20, xl_30, xl_59, xl_63, xl_64, xl_99, xl_100, xl_120, xl_999, xl_m1, xl_m2, xl_m3, xl_m4, xl_m5, xL_0, xL_1, xL_2, xL_3, xL_4, xL_5, xL_6, xL_7, xL_8, xL_20, xL_59, xL_63, xL_99, xL_999] at *; omega) | (exfalso; simp_all; done))
            exact absurd True.intro (by exfalso; simp only [Int32.lt_iff_toInt_lt, Int32.le_iff_toInt_le, Int64.lt_iff_toInt_lt, Int64.le_iff_toInt_le, ← Int32.toInt_inj, Int32.toInt_toInt64, xl_0, xl_1, xl_2, xl_3, xl_4, xl_5, xl_6, xl_7, xl_8, xl_9, xl_10, xl_11, xl_12, xl_13, xl_20, xl_30, xl_59, xl_63, xl_64, xl_99, xl_100, xl_120, xl_999, xl_m1, xl_m2, xl_m3, xl_m4, xl_m5, xL_0, xL_1, xL_2, xL_3, xL_4, xL_5, xL_6, xL_7, xL_8, xL_20, xL_59, xL_63, xL_99, xL_999] at *; omega)
set_option maxRecDepth 100000 in
set_option maxHeartbeats 4000000 in
theorem wm_good (a : Int32) : P0 160 (0, [some (.ref 56), some (.int a)], [], 102, xshD, xMt) (fun r => r.1 = some (.int (F_good a))) := by
  refine P0.go (k := 2) (s' := (2, [some (.ref 56), some (.int a)], [.int a, .ref 56], 102, xshD, xMt)) rfl ?_
  refine P0.call (z := 155) (as := [.ref 56, .int a]) (pc := 5) (pl := [some (.ref 56), some (.int a)]) (st := []) (nz := 102) (sh := xshD) (M := xMt) rfl (Nat.le_of_ble_eq_true rfl) ?_
  show P0 155 (0, [some (.ref 56), some (.int a)], [], 102, xshD, xMt) _
  refine P0.go (k := 2) (s' := (xcmp .lt (a) (0) 16 4, [some (.ref 56), some (.int a)], [], 102, xshD, xMt)) rfl ?_
  refine P0.lt (fun h1 => ?_) (fun h1 => ?_)
  · refine P0.go (k := 1) (s' := (17, [some (.ref 56), some (.int a)], [.int 0], 102, xshD, xMt)) rfl ?_
    refine P0.ret (v := some (.int 0)) rfl ?_
    refine ⟨rfl, ?_⟩
    show P0 160 (5, [some (.ref 56), some (.int a)], [.int 0], 102, xshD, xMt) _
    refine P0.go (k := 3) (s' := (25, [some (.ref 56), some (.int a)], [.int (-1)], 102, xshD, xMt)) rfl ?_
    refine P0.ret (v := some (.int (-1))) rfl ?_
    exact congrArg (fun z => some (Value.int z)) (show (-1) = F_good a from by unfold F_good; (repeat' split) <;> first | rfl | (exfalso; simp only [Int32.lt_iff_toInt_lt, Int32.le_iff_toInt_le, Int64.lt_iff_toInt_lt, Int64.le_iff_toInt_le, ← Int32.toInt_inj, Int32.toInt_toInt64, xl_0, xl_1, xl_2, xl_3, xl_4, xl_5, xl_6, xl_7, xl_8, xl_9, xl_10, xl_11, xl_12, xl_13, xl_20, xl_30, xl_59, xl_63, xl_64, xl_99, xl_100, xl_120, xl_999, xl_m1, xl_m2, xl_m3, xl_m4, xl_m5, xL_0, xL_1, xL_2, xL_3, xL_4, xL_5, xL_6, xL_7, xL_8, xL_20, xL_59, xL_63, xL_99, xL_999] at *; omega) | (exfalso; simp_all; done))
  · refine P0.go (k := 4) (s' := (xcmp .ge (a) (0) 16 12, [some (.ref 56), some (.int a)], [], 102, xshD, xMt)) rfl ?_
    refine P0.ge (fun h2 => ?_) (fun h2 => absurd True.intro (by exfalso; simp only [Int32.lt_iff_toInt_lt, Int32.le_iff_toInt_le, Int64.lt_iff_toInt_lt, Int64.le_iff_toInt_le, ← Int32.toInt_inj, Int32.toInt_toInt64, xl_0, xl_1, xl_2, xl_3, xl_4, xl_5, xl_6, xl_7, xl_8, xl_9, xl_10, xl_11, xl_12, xl_13, xl_20, xl_30, xl_59, xl_63, xl_64, xl_99, xl_100, xl_120, xl_999, xl_m1, xl_m2, xl_m3, xl_m4, xl_m5, xL_0, xL_1, xL_2, xL_3, xL_4, xL_5, xL_6, xL_7, xL_8, xL_20, xL_59, xL_63, xL_99, xL_999] at *; omega))
    refine P0.go (k := 1) (s' := (17, [some (.ref 56), some (.int a)], [.int 0], 102, xshD, xMt)) rfl ?_
    refine P0.ret (v := some (.int 0)) rfl ?_
    refine ⟨rfl, ?_⟩
    show P0 160 (5, [some (.ref 56), some (.int a)], [.int 0], 102, xshD, xMt) _
    refine P0.go (k := 3) (s' := (25, [some (.ref 56), some (.int a)], [.int (-1)], 102, xshD, xMt)) rfl ?_
    refine P0.ret (v := some (.int (-1))) rfl ?_
    exact congrArg (fun z => some (Value.int z)) (show (-1) = F_good a from by unfold F_good; (repeat' split) <;> first | rfl | (exfalso; simp only [Int32.lt_iff_toInt_lt, Int32.le_iff_toInt_le, Int64.lt_iff_toInt_lt, Int64.le_iff_toInt_le, ← Int32.toInt_inj, Int32.toInt_toInt64, xl_0, xl_1, xl_2, xl_3, xl_4, xl_5, xl_6, xl_7, xl_8, xl_9, xl_10, xl_11, xl_12, xl_13, xl_20, xl_30, xl_59, xl_63, xl_64, xl_99, xl_100, xl_120, xl_999, xl_m1, xl_m2, xl_m3, xl_m4, xl_m5, xL_0, xL_1, xL_2, xL_3, xL_4, xL_5, xL_6, xL_7, xL_8, xL_20, xL_59, xL_63, xL_99, xL_999] at *; omega) | (exfalso; simp_all; done))
set_option maxRecDepth 100000 in
set_option maxHeartbeats 4000000 in
theorem wm_seat (a b c d : Int32) : P0 162 (0, [some (.ref 56), some (.int a), some (.int b), some (.int c), some (.int d), none, none], [], 102, xshD, xMt) (fun r => r.1 = some (.int (F_seat a b c d))) := by
  refine P0.go (k := 1) (s' := (1, [some (.ref 56), some (.int a), some (.int b), some (.int c), some (.int d), none, none], [.int b], 102, xshD, xMt)) rfl ?_
  refine P0.call (z := 156) (as := [.int b]) (pc := 4) (pl := [some (.ref 56), some (.int a), some (.int b), some (.int c), some (.int d), none, none]) (st := []) (nz := 102) (sh := xshD) (M := xMt) rfl (Nat.le_of_ble_eq_true rfl) ?_
  show P0 156 (0, [some (.int b)], [], 102, xshD, xMt) _
  refine P0.go (k := 4) (s' := (6, [some (.int b)], [.long 7, .long 0, .long b.toInt64], 102, xshD, xMt)) rfl ?_
  refine P0.call (z := 154) (as := [.long b.toInt64, .long 0, .long 7]) (pc := 9) (pl := [some (.int b)]) (st := []) (nz := 102) (sh := xshD) (M := xMt) rfl (Nat.le_of_ble_eq_true rfl) ?_
  show P0 154 (0, [some (.long b.toInt64), none, some (.long 0), none, some (.long 7), none], [], 102, xshD, xMt) _
  refine P0.go (k := 4) (s' := (xcmp .lt (lg_cmp (b.toInt64) 0) (0) 17 6, [some (.long b.toInt64), none, some (.long 0), none, some (.long 7), none], [], 102, xshD, xMt)) rfl ?_
  refine P0.llt (fun h1 => ?_) (fun h1 => ?_)
  · refine P0.go (k := 1) (s' := (18, [some (.long b.toInt64), none, some (.long 0), none, some (.long 7), none], [.int 0], 102, xshD, xMt)) rfl ?_
    refine P0.ret (v := some (.int 0)) rfl ?_
    refine ⟨rfl, ?_⟩
    show P0 156 (9, [some (.int b)], [.int 0], 102, xshD, xMt) _
    refine P0.ret (v := some (.int 0)) rfl ?_
    refine ⟨rfl, ?_⟩
    show P0 162 (4, [some (.ref 56), some (.int a), some (.int b), some (.int c), some (.int d), none, none], [.int 0], 102, xshD, xMt) _
    refine P0.go (k := 7) (s' := (76, [some (.ref 56), some (.int a), some (.int b), some (.int c), some (.int d), some (.int 1), none], [.int (-1)], 102, xshD, xMt)) rfl ?_
    refine P0.ret (v := some (.int (-1))) rfl ?_
    exact congrArg (fun z => some (Value.int z)) (show (-1) = F_seat a b c d from by unfold F_seat; (repeat' split) <;> first | rfl | (exfalso; simp only [Int32.lt_iff_toInt_lt, Int32.le_iff_toInt_le, Int64.lt_iff_toInt_lt, Int64.le_iff_toInt_le, ← Int32.toInt_inj, Int32.toInt_toInt64, xl_0, xl_1, xl_2, xl_3, xl_4, xl_5, xl_6, xl_7, xl_8, xl_9, xl_10, xl_11, xl_12, xl_13, xl_20, xl_30, xl_59, xl_63, xl_64, xl_99, xl_100, xl_120, xl_999, xl_m1, xl_m2, xl_m3, xl_m4, xl_m5, xL_0, xL_1, xL_2, xL_3, xL_4, xL_5, xL_6, xL_7, xL_8, xL_20, xL_59, xL_63, xL_99, xL_999] at *; omega) | (exfalso; simp_all; done))
  · refine P0.go (k := 4) (s' := (xcmp .gt (lg_cmp (b.toInt64) 7) (0) 17 13, [some (.long b.toInt64), none, some (.long 0), none, some (.long 7), none], [], 102, xshD, xMt)) rfl ?_
    refine P0.lgt (fun h2 => ?_) (fun h2 => ?_)
    · refine P0.go (k := 1) (s' := (18, [some (.long b.toInt64), none, some (.long 0), none, some (.long 7), none], [.int 0], 102, xshD, xMt)) rfl ?_
      refine P0.ret (v := some (.int 0)) rfl ?_
      refine ⟨rfl, ?_⟩
      show P0 156 (9, [some (.int b)], [.int 0], 102, xshD, xMt) _
      refine P0.ret (v := some (.int 0)) rfl ?_
      refine ⟨rfl, ?_⟩
      show P0 162 (4, [some (.ref 56), some (.int a), some (.int b), some (.int c), some (.int d), none, none], [.int 0], 102, xshD, xMt) _
      refine P0.go (k := 7) (s' := (76, [some (.ref 56), some (.int a), some (.int b), some (.int c), some (.int d), some (.int 1), none], [.int (-1)], 102, xshD, xMt)) rfl ?_
      refine P0.ret (v := some (.int (-1))) rfl ?_
      exact congrArg (fun z => some (Value.int z)) (show (-1) = F_seat a b c d from by unfold F_seat; (repeat' split) <;> first | rfl | (exfalso; simp only [Int32.lt_iff_toInt_lt, Int32.le_iff_toInt_le, Int64.lt_iff_toInt_lt, Int64.le_iff_toInt_le, ← Int32.toInt_inj, Int32.toInt_toInt64, xl_0, xl_1, xl_2, xl_3, xl_4, xl_5, xl_6, xl_7, xl_8, xl_9, xl_10, xl_11, xl_12, xl_13, xl_20, xl_30, xl_59, xl_63, xl_64, xl_99, xl_100, xl_120, xl_999, xl_m1, xl_m2, xl_m3, xl_m4, xl_m5, xL_0, xL_1, xL_2, xL_3, xL_4, xL_5, xL_6, xL_7, xL_8, xL_20, xL_59, xL_63, xL_99, xL_999] at *; omega) | (exfalso; simp_all; done))
    · refine P0.go (k := 2) (s' := (18, [some (.long b.toInt64), none, some (.long 0), none, some (.long 7), none], [.int 1], 102, xshD, xMt)) rfl ?_
      refine P0.ret (v := some (.int 1)) rfl ?_
      refine ⟨rfl, ?_⟩
      show P0 156 (9, [some (.int b)], [.int 1], 102, xshD, xMt) _
      refine P0.ret (v := some (.int 1)) rfl ?_
      refine ⟨rfl, ?_⟩
      show P0 162 (4, [some (.ref 56), some (.int a), some (.int b), some (.int c), some (.int d), none, none], [.int 1], 102, xshD, xMt) _
      refine P0.go (k := 3) (s' := (9, [some (.ref 56), some (.int a), some (.int b), some (.int c), some (.int d), none, none], [.int c, .ref 56], 102, xshD, xMt)) rfl ?_
      refine P0.call (z := 155) (as := [.ref 56, .int c]) (pc := 12) (pl := [some (.ref 56), some (.int a), some (.int b), some (.int c), some (.int d), none, none]) (st := []) (nz := 102) (sh := xshD) (M := xMt) rfl (Nat.le_of_ble_eq_true rfl) ?_
      show P0 155 (0, [some (.ref 56), some (.int c)], [], 102, xshD, xMt) _
      refine P0.go (k := 2) (s' := (xcmp .lt (c) (0) 16 4, [some (.ref 56), some (.int c)], [], 102, xshD, xMt)) rfl ?_
      refine P0.lt (fun h3 => ?_) (fun h3 => ?_)
      · refine P0.go (k := 1) (s' := (17, [some (.ref 56), some (.int c)], [.int 0], 102, xshD, xMt)) rfl ?_
        refine P0.ret (v := some (.int 0)) rfl ?_
        refine ⟨rfl, ?_⟩
        show P0 162 (12, [some (.ref 56), some (.int a), some (.int b), some (.int c), some (.int d), none, none], [.int 0], 102, xshD, xMt) _
        refine P0.go (k := 7) (s' := (76, [some (.ref 56), some (.int a), some (.int b), some (.int c), some (.int d), some (.int 1), none], [.int (-1)], 102, xshD, xMt)) rfl ?_
        refine P0.ret (v := some (.int (-1))) rfl ?_
        exact congrArg (fun z => some (Value.int z)) (show (-1) = F_seat a b c d from by unfold F_seat; (repeat' split) <;> first | rfl | (exfalso; simp only [Int32.lt_iff_toInt_lt, Int32.le_iff_toInt_le, Int64.lt_iff_toInt_lt, Int64.le_iff_toInt_le, ← Int32.toInt_inj, Int32.toInt_toInt64, xl_0, xl_1, xl_2, xl_3, xl_4, xl_5, xl_6, xl_7, xl_8, xl_9, xl_10, xl_11, xl_12, xl_13, xl_20, xl_30, xl_59, xl_63, xl_64, xl_99, xl_100, xl_120, xl_999, xl_m1, xl_m2, xl_m3, xl_m4, xl_m5, xL_0, xL_1, xL_2, xL_3, xL_4, xL_5, xL_6, xL_7, xL_8, xL_20, xL_59, xL_63, xL_99, xL_999] at *; omega) | (exfalso; simp_all; done))
      · refine P0.go (k := 4) (s' := (xcmp .ge (c) (0) 16 12, [some (.ref 56), some (.int c)], [], 102, xshD, xMt)) rfl ?_
        refine P0.ge (fun h4 => ?_) (fun h4 => absurd True.intro (by exfalso; simp only [Int32.lt_iff_toInt_lt, Int32.le_iff_toInt_le, Int64.lt_iff_toInt_lt, Int64.le_iff_toInt_le, ← Int32.toInt_inj, Int32.toInt_toInt64, xl_0, xl_1, xl_2, xl_3, xl_4, xl_5, xl_6, xl_7, xl_8, xl_9, xl_10, xl_11, xl_12, xl_13, xl_20, xl_30, xl_59, xl_63, xl_64, xl_99, xl_100, xl_120, xl_999, xl_m1, xl_m2, xl_m3, xl_m4, xl_m5, xL_0, xL_1, xL_2, xL_3, xL_4, xL_5, xL_6, xL_7, xL_8, xL_20, xL_59, xL_63, xL_99, xL_999] at *; omega))
        refine P0.go (k := 1) (s' := (17, [some (.ref 56), some (.int c)], [.int 0], 102, xshD, xMt)) rfl ?_
        refine P0.ret (v := some (.int 0)) rfl ?_
        refine ⟨rfl, ?_⟩
        show P0 162 (12, [some (.ref 56), some (.int a), some (.int b), some (.int c), some (.int d), none, none], [.int 0], 102, xshD, xMt) _
        refine P0.go (k := 7) (s' := (76, [some (.ref 56), some (.int a), some (.int b), some (.int c), some (.int d), some (.int 1), none], [.int (-1)], 102, xshD, xMt)) rfl ?_
        refine P0.ret (v := some (.int (-1))) rfl ?_
        exact congrArg (fun z => some (Value.int z)) (show (-1) = F_seat a b c d from by unfold F_seat; (repeat' split) <;> first | rfl | (exfalso; simp only [Int32.lt_iff_toInt_lt, Int32.le_iff_toInt_le, Int64.lt_iff_toInt_lt, Int64.le_iff_toInt_le, ← Int32.toInt_inj, Int32.toInt_toInt64, xl_0, xl_1, xl_2, xl_3, xl_4, xl_5, xl_6, xl_7, xl_8, xl_9, xl_10, xl_11, xl_12, xl_13, xl_20, xl_30, xl_59, xl_63, xl_64, xl_99, xl_100, xl_120, xl_999, xl_m1, xl_m2, xl_m3, xl_m4, xl_m5, xL_0, xL_1, xL_2, xL_3, xL_4, xL_5, xL_6, xL_7, xL_8, xL_20, xL_59, xL_63, xL_99, xL_999] at *; omega) | (exfalso; simp_all; done))
set_option maxRecDepth 100000 in
set_option maxHeartbeats 4000000 in
theorem wm_out (a b : Int32) : P0 163 (0, [some (.ref 56), some (.int a), some (.int b), none], [], 102, xshD, xMt) (fun r => r.1 = some (.int (F_out a b))) := by
  refine P0.go (k := 2) (s' := (2, [some (.ref 56), some (.int a), some (.int b), none], [.int a, .ref 56], 102, xshD, xMt)) rfl ?_
  refine P0.call (z := 161) (as := [.ref 56, .int a]) (pc := 5) (pl := [some (.ref 56), some (.int a), some (.int b), none]) (st := []) (nz := 102) (sh := xshD) (M := xMt) rfl (Nat.le_of_ble_eq_true rfl) ?_
  show P0 161 (0, [some (.ref 56), some (.int a)], [], 102, xshD, xMt) _
  refine P0.go (k := 2) (s' := (xcmp .lt (a) (0) 16 4, [some (.ref 56), some (.int a)], [], 102, xshD, xMt)) rfl ?_
  refine P0.lt (fun h1 => ?_) (fun h1 => ?_)
  · refine P0.go (k := 1) (s' := (17, [some (.ref 56), some (.int a)], [.int 0], 102, xshD, xMt)) rfl ?_
    refine P0.ret (v := some (.int 0)) rfl ?_
    refine ⟨rfl, ?_⟩
    show P0 163 (5, [some (.ref 56), some (.int a), some (.int b), none], [.int 0], 102, xshD, xMt) _
    refine P0.go (k := 2) (s' := (9, [some (.ref 56), some (.int a), some (.int b), none], [.int (-1)], 102, xshD, xMt)) rfl ?_
    refine P0.ret (v := some (.int (-1))) rfl ?_
    exact congrArg (fun z => some (Value.int z)) (show (-1) = F_out a b from by unfold F_out; (repeat' split) <;> first | rfl | (exfalso; simp only [Int32.lt_iff_toInt_lt, Int32.le_iff_toInt_le, Int64.lt_iff_toInt_lt, Int64.le_iff_toInt_le, ← Int32.toInt_inj, Int32.toInt_toInt64, xl_0, xl_1, xl_2, xl_3, xl_4, xl_5, xl_6, xl_7, xl_8, xl_9, xl_10, xl_11, xl_12, xl_13, xl_20, xl_30, xl_59, xl_63, xl_64, xl_99, xl_100, xl_120, xl_999, xl_m1, xl_m2, xl_m3, xl_m4, xl_m5, xL_0, xL_1, xL_2, xL_3, xL_4, xL_5, xL_6, xL_7, xL_8, xL_20, xL_59, xL_63, xL_99, xL_999] at *; omega) | (exfalso; simp_all; done))
  · refine P0.go (k := 4) (s' := (xcmp .ge (a) (0) 16 12, [some (.ref 56), some (.int a)], [], 102, xshD, xMt)) rfl ?_
    refine P0.ge (fun h2 => ?_) (fun h2 => absurd True.intro (by exfalso; simp only [Int32.lt_iff_toInt_lt, Int32.le_iff_toInt_le, Int64.lt_iff_toInt_lt, Int64.le_iff_toInt_le, ← Int32.toInt_inj, Int32.toInt_toInt64, xl_0, xl_1, xl_2, xl_3, xl_4, xl_5, xl_6, xl_7, xl_8, xl_9, xl_10, xl_11, xl_12, xl_13, xl_20, xl_30, xl_59, xl_63, xl_64, xl_99, xl_100, xl_120, xl_999, xl_m1, xl_m2, xl_m3, xl_m4, xl_m5, xL_0, xL_1, xL_2, xL_3, xL_4, xL_5, xL_6, xL_7, xL_8, xL_20, xL_59, xL_63, xL_99, xL_999] at *; omega))
    refine P0.go (k := 1) (s' := (17, [some (.ref 56), some (.int a)], [.int 0], 102, xshD, xMt)) rfl ?_
    refine P0.ret (v := some (.int 0)) rfl ?_
    refine ⟨rfl, ?_⟩
    show P0 163 (5, [some (.ref 56), some (.int a), some (.int b), none], [.int 0], 102, xshD, xMt) _
    refine P0.go (k := 2) (s' := (9, [some (.ref 56), some (.int a), some (.int b), none], [.int (-1)], 102, xshD, xMt)) rfl ?_
    refine P0.ret (v := some (.int (-1))) rfl ?_
    exact congrArg (fun z => some (Value.int z)) (show (-1) = F_out a b from by unfold F_out; (repeat' split) <;> first | rfl | (exfalso; simp only [Int32.lt_iff_toInt_lt, Int32.le_iff_toInt_le, Int64.lt_iff_toInt_lt, Int64.le_iff_toInt_le, ← Int32.toInt_inj, Int32.toInt_toInt64, xl_0, xl_1, xl_2, xl_3, xl_4, xl_5, xl_6, xl_7, xl_8, xl_9, xl_10, xl_11, xl_12, xl_13, xl_20, xl_30, xl_59, xl_63, xl_64, xl_99, xl_100, xl_120, xl_999, xl_m1, xl_m2, xl_m3, xl_m4, xl_m5, xL_0, xL_1, xL_2, xL_3, xL_4, xL_5, xL_6, xL_7, xL_8, xL_20, xL_59, xL_63, xL_99, xL_999] at *; omega) | (exfalso; simp_all; done))
set_option maxRecDepth 100000 in
set_option maxHeartbeats 4000000 in
theorem wm_like (a b : Int32) : P0 164 (0, [some (.ref 56), some (.int a), some (.int b), none], [], 102, xshD, xMt) (fun r => r.1 = some (.int (F_like a b))) := by
  refine P0.go (k := 2) (s' := (2, [some (.ref 56), some (.int a), some (.int b), none], [.int a, .ref 56], 102, xshD, xMt)) rfl ?_
  refine P0.call (z := 161) (as := [.ref 56, .int a]) (pc := 5) (pl := [some (.ref 56), some (.int a), some (.int b), none]) (st := []) (nz := 102) (sh := xshD) (M := xMt) rfl (Nat.le_of_ble_eq_true rfl) ?_
  show P0 161 (0, [some (.ref 56), some (.int a)], [], 102, xshD, xMt) _
  refine P0.go (k := 2) (s' := (xcmp .lt (a) (0) 16 4, [some (.ref 56), some (.int a)], [], 102, xshD, xMt)) rfl ?_
  refine P0.lt (fun h1 => ?_) (fun h1 => ?_)
  · refine P0.go (k := 1) (s' := (17, [some (.ref 56), some (.int a)], [.int 0], 102, xshD, xMt)) rfl ?_
    refine P0.ret (v := some (.int 0)) rfl ?_
    refine ⟨rfl, ?_⟩
    show P0 164 (5, [some (.ref 56), some (.int a), some (.int b), none], [.int 0], 102, xshD, xMt) _
    refine P0.go (k := 2) (s' := (16, [some (.ref 56), some (.int a), some (.int b), none], [.int (-1)], 102, xshD, xMt)) rfl ?_
    refine P0.ret (v := some (.int (-1))) rfl ?_
    exact congrArg (fun z => some (Value.int z)) (show (-1) = F_like a b from by unfold F_like; (repeat' split) <;> first | rfl | (exfalso; simp only [Int32.lt_iff_toInt_lt, Int32.le_iff_toInt_le, Int64.lt_iff_toInt_lt, Int64.le_iff_toInt_le, ← Int32.toInt_inj, Int32.toInt_toInt64, xl_0, xl_1, xl_2, xl_3, xl_4, xl_5, xl_6, xl_7, xl_8, xl_9, xl_10, xl_11, xl_12, xl_13, xl_20, xl_30, xl_59, xl_63, xl_64, xl_99, xl_100, xl_120, xl_999, xl_m1, xl_m2, xl_m3, xl_m4, xl_m5, xL_0, xL_1, xL_2, xL_3, xL_4, xL_5, xL_6, xL_7, xL_8, xL_20, xL_59, xL_63, xL_99, xL_999] at *; omega) | (exfalso; simp_all; done))
  · refine P0.go (k := 4) (s' := (xcmp .ge (a) (0) 16 12, [some (.ref 56), some (.int a)], [], 102, xshD, xMt)) rfl ?_
    refine P0.ge (fun h2 => ?_) (fun h2 => absurd True.intro (by exfalso; simp only [Int32.lt_iff_toInt_lt, Int32.le_iff_toInt_le, Int64.lt_iff_toInt_lt, Int64.le_iff_toInt_le, ← Int32.toInt_inj, Int32.toInt_toInt64, xl_0, xl_1, xl_2, xl_3, xl_4, xl_5, xl_6, xl_7, xl_8, xl_9, xl_10, xl_11, xl_12, xl_13, xl_20, xl_30, xl_59, xl_63, xl_64, xl_99, xl_100, xl_120, xl_999, xl_m1, xl_m2, xl_m3, xl_m4, xl_m5, xL_0, xL_1, xL_2, xL_3, xL_4, xL_5, xL_6, xL_7, xL_8, xL_20, xL_59, xL_63, xL_99, xL_999] at *; omega))
    refine P0.go (k := 1) (s' := (17, [some (.ref 56), some (.int a)], [.int 0], 102, xshD, xMt)) rfl ?_
    refine P0.ret (v := some (.int 0)) rfl ?_
    refine ⟨rfl, ?_⟩
    show P0 164 (5, [some (.ref 56), some (.int a), some (.int b), none], [.int 0], 102, xshD, xMt) _
    refine P0.go (k := 2) (s' := (16, [some (.ref 56), some (.int a), some (.int b), none], [.int (-1)], 102, xshD, xMt)) rfl ?_
    refine P0.ret (v := some (.int (-1))) rfl ?_
    exact congrArg (fun z => some (Value.int z)) (show (-1) = F_like a b from by unfold F_like; (repeat' split) <;> first | rfl | (exfalso; simp only [Int32.lt_iff_toInt_lt, Int32.le_iff_toInt_le, Int64.lt_iff_toInt_lt, Int64.le_iff_toInt_le, ← Int32.toInt_inj, Int32.toInt_toInt64, xl_0, xl_1, xl_2, xl_3, xl_4, xl_5, xl_6, xl_7, xl_8, xl_9, xl_10, xl_11, xl_12, xl_13, xl_20, xl_30, xl_59, xl_63, xl_64, xl_99, xl_100, xl_120, xl_999, xl_m1, xl_m2, xl_m3, xl_m4, xl_m5, xL_0, xL_1, xL_2, xL_3, xL_4, xL_5, xL_6, xL_7, xL_8, xL_20, xL_59, xL_63, xL_99, xL_999] at *; omega) | (exfalso; simp_all; done))
set_option maxRecDepth 100000 in
set_option maxHeartbeats 4000000 in
theorem wm_unlike (a : Int32) : P0 165 (0, [some (.ref 56), some (.int a), none], [], 102, xshD, xMt) (fun r => r.1 = some (.int (F_unlike a))) := by
  refine P0.go (k := 2) (s' := (2, [some (.ref 56), some (.int a), none], [.int a, .ref 56], 102, xshD, xMt)) rfl ?_
  refine P0.call (z := 161) (as := [.ref 56, .int a]) (pc := 5) (pl := [some (.ref 56), some (.int a), none]) (st := []) (nz := 102) (sh := xshD) (M := xMt) rfl (Nat.le_of_ble_eq_true rfl) ?_
  show P0 161 (0, [some (.ref 56), some (.int a)], [], 102, xshD, xMt) _
  refine P0.go (k := 2) (s' := (xcmp .lt (a) (0) 16 4, [some (.ref 56), some (.int a)], [], 102, xshD, xMt)) rfl ?_
  refine P0.lt (fun h1 => ?_) (fun h1 => ?_)
  · refine P0.go (k := 1) (s' := (17, [some (.ref 56), some (.int a)], [.int 0], 102, xshD, xMt)) rfl ?_
    refine P0.ret (v := some (.int 0)) rfl ?_
    refine ⟨rfl, ?_⟩
    show P0 165 (5, [some (.ref 56), some (.int a), none], [.int 0], 102, xshD, xMt) _
    refine P0.go (k := 2) (s' := (9, [some (.ref 56), some (.int a), none], [.int (-1)], 102, xshD, xMt)) rfl ?_
    refine P0.ret (v := some (.int (-1))) rfl ?_
    exact congrArg (fun z => some (Value.int z)) (show (-1) = F_unlike a from by unfold F_unlike; (repeat' split) <;> first | rfl | (exfalso; simp only [Int32.lt_iff_toInt_lt, Int32.le_iff_toInt_le, Int64.lt_iff_toInt_lt, Int64.le_iff_toInt_le, ← Int32.toInt_inj, Int32.toInt_toInt64, xl_0, xl_1, xl_2, xl_3, xl_4, xl_5, xl_6, xl_7, xl_8, xl_9, xl_10, xl_11, xl_12, xl_13, xl_20, xl_30, xl_59, xl_63, xl_64, xl_99, xl_100, xl_120, xl_999, xl_m1, xl_m2, xl_m3, xl_m4, xl_m5, xL_0, xL_1, xL_2, xL_3, xL_4, xL_5, xL_6, xL_7, xL_8, xL_20, xL_59, xL_63, xL_99, xL_999] at *; omega) | (exfalso; simp_all; done))
  · refine P0.go (k := 4) (s' := (xcmp .ge (a) (0) 16 12, [some (.ref 56), some (.int a)], [], 102, xshD, xMt)) rfl ?_
    refine P0.ge (fun h2 => ?_) (fun h2 => absurd True.intro (by exfalso; simp only [Int32.lt_iff_toInt_lt, Int32.le_iff_toInt_le, Int64.lt_iff_toInt_lt, Int64.le_iff_toInt_le, ← Int32.toInt_inj, Int32.toInt_toInt64, xl_0, xl_1, xl_2, xl_3, xl_4, xl_5, xl_6, xl_7, xl_8, xl_9, xl_10, xl_11, xl_12, xl_13, xl_20, xl_30, xl_59, xl_63, xl_64, xl_99, xl_100, xl_120, xl_999, xl_m1, xl_m2, xl_m3, xl_m4, xl_m5, xL_0, xL_1, xL_2, xL_3, xL_4, xL_5, xL_6, xL_7, xL_8, xL_20, xL_59, xL_63, xL_99, xL_999] at *; omega))
    refine P0.go (k := 1) (s' := (17, [some (.ref 56), some (.int a)], [.int 0], 102, xshD, xMt)) rfl ?_
    refine P0.ret (v := some (.int 0)) rfl ?_
    refine ⟨rfl, ?_⟩
    show P0 165 (5, [some (.ref 56), some (.int a), none], [.int 0], 102, xshD, xMt) _
    refine P0.go (k := 2) (s' := (9, [some (.ref 56), some (.int a), none], [.int (-1)], 102, xshD, xMt)) rfl ?_
    refine P0.ret (v := some (.int (-1))) rfl ?_
    exact congrArg (fun z => some (Value.int z)) (show (-1) = F_unlike a from by unfold F_unlike; (repeat' split) <;> first | rfl | (exfalso; simp only [Int32.lt_iff_toInt_lt, Int32.le_iff_toInt_le, Int64.lt_iff_toInt_lt, Int64.le_iff_toInt_le, ← Int32.toInt_inj, Int32.toInt_toInt64, xl_0, xl_1, xl_2, xl_3, xl_4, xl_5, xl_6, xl_7, xl_8, xl_9, xl_10, xl_11, xl_12, xl_13, xl_20, xl_30, xl_59, xl_63, xl_64, xl_99, xl_100, xl_120, xl_999, xl_m1, xl_m2, xl_m3, xl_m4, xl_m5, xL_0, xL_1, xL_2, xL_3, xL_4, xL_5, xL_6, xL_7, xL_8, xL_20, xL_59, xL_63, xL_99, xL_999] at *; omega) | (exfalso; simp_all; done))
set_option maxRecDepth 100000 in
set_option maxHeartbeats 4000000 in
theorem wm_credential (a : Int32) : P0 166 (0, [some (.ref 56), some (.int a)], [], 102, xshD, xMt) (fun r => r.1 = some (.int (F_credential a))) := by
  refine P0.go (k := 2) (s' := (2, [some (.ref 56), some (.int a)], [.int a, .ref 56], 102, xshD, xMt)) rfl ?_
  refine P0.call (z := 161) (as := [.ref 56, .int a]) (pc := 5) (pl := [some (.ref 56), some (.int a)]) (st := []) (nz := 102) (sh := xshD) (M := xMt) rfl (Nat.le_of_ble_eq_true rfl) ?_
  show P0 161 (0, [some (.ref 56), some (.int a)], [], 102, xshD, xMt) _
  refine P0.go (k := 2) (s' := (xcmp .lt (a) (0) 16 4, [some (.ref 56), some (.int a)], [], 102, xshD, xMt)) rfl ?_
  refine P0.lt (fun h1 => ?_) (fun h1 => ?_)
  · refine P0.go (k := 1) (s' := (17, [some (.ref 56), some (.int a)], [.int 0], 102, xshD, xMt)) rfl ?_
    refine P0.ret (v := some (.int 0)) rfl ?_
    refine ⟨rfl, ?_⟩
    show P0 166 (5, [some (.ref 56), some (.int a)], [.int 0], 102, xshD, xMt) _
    refine P0.go (k := 2) (s' := (9, [some (.ref 56), some (.int a)], [.int (-1)], 102, xshD, xMt)) rfl ?_
    refine P0.ret (v := some (.int (-1))) rfl ?_
    exact congrArg (fun z => some (Value.int z)) (show (-1) = F_credential a from by unfold F_credential; (repeat' split) <;> first | rfl | (exfalso; simp only [Int32.lt_iff_toInt_lt, Int32.le_iff_toInt_le, Int64.lt_iff_toInt_lt, Int64.le_iff_toInt_le, ← Int32.toInt_inj, Int32.toInt_toInt64, xl_0, xl_1, xl_2, xl_3, xl_4, xl_5, xl_6, xl_7, xl_8, xl_9, xl_10, xl_11, xl_12, xl_13, xl_20, xl_30, xl_59, xl_63, xl_64, xl_99, xl_100, xl_120, xl_999, xl_m1, xl_m2, xl_m3, xl_m4, xl_m5, xL_0, xL_1, xL_2, xL_3, xL_4, xL_5, xL_6, xL_7, xL_8, xL_20, xL_59, xL_63, xL_99, xL_999] at *; omega) | (exfalso; simp_all; done))
  · refine P0.go (k := 4) (s' := (xcmp .ge (a) (0) 16 12, [some (.ref 56), some (.int a)], [], 102, xshD, xMt)) rfl ?_
    refine P0.ge (fun h2 => ?_) (fun h2 => absurd True.intro (by exfalso; simp only [Int32.lt_iff_toInt_lt, Int32.le_iff_toInt_le, Int64.lt_iff_toInt_lt, Int64.le_iff_toInt_le, ← Int32.toInt_inj, Int32.toInt_toInt64, xl_0, xl_1, xl_2, xl_3, xl_4, xl_5, xl_6, xl_7, xl_8, xl_9, xl_10, xl_11, xl_12, xl_13, xl_20, xl_30, xl_59, xl_63, xl_64, xl_99, xl_100, xl_120, xl_999, xl_m1, xl_m2, xl_m3, xl_m4, xl_m5, xL_0, xL_1, xL_2, xL_3, xL_4, xL_5, xL_6, xL_7, xL_8, xL_20, xL_59, xL_63, xL_99, xL_999] at *; omega))
    refine P0.go (k := 1) (s' := (17, [some (.ref 56), some (.int a)], [.int 0], 102, xshD, xMt)) rfl ?_
    refine P0.ret (v := some (.int 0)) rfl ?_
    refine ⟨rfl, ?_⟩
    show P0 166 (5, [some (.ref 56), some (.int a)], [.int 0], 102, xshD, xMt) _
    refine P0.go (k := 2) (s' := (9, [some (.ref 56), some (.int a)], [.int (-1)], 102, xshD, xMt)) rfl ?_
    refine P0.ret (v := some (.int (-1))) rfl ?_
    exact congrArg (fun z => some (Value.int z)) (show (-1) = F_credential a from by unfold F_credential; (repeat' split) <;> first | rfl | (exfalso; simp only [Int32.lt_iff_toInt_lt, Int32.le_iff_toInt_le, Int64.lt_iff_toInt_lt, Int64.le_iff_toInt_le, ← Int32.toInt_inj, Int32.toInt_toInt64, xl_0, xl_1, xl_2, xl_3, xl_4, xl_5, xl_6, xl_7, xl_8, xl_9, xl_10, xl_11, xl_12, xl_13, xl_20, xl_30, xl_59, xl_63, xl_64, xl_99, xl_100, xl_120, xl_999, xl_m1, xl_m2, xl_m3, xl_m4, xl_m5, xL_0, xL_1, xL_2, xL_3, xL_4, xL_5, xL_6, xL_7, xL_8, xL_20, xL_59, xL_63, xL_99, xL_999] at *; omega) | (exfalso; simp_all; done))
set_option maxRecDepth 100000 in
set_option maxHeartbeats 4000000 in
theorem wm_about (a b : Int32) : P0 171 (0, [some (.ref 56), some (.int a), some (.int b)], [], 102, xshD, xMt) (fun r => r.1 = some (.int (F_about a b))) := by
  refine P0.go (k := 2) (s' := (2, [some (.ref 56), some (.int a), some (.int b)], [.int a, .ref 56], 102, xshD, xMt)) rfl ?_
  refine P0.call (z := 161) (as := [.ref 56, .int a]) (pc := 5) (pl := [some (.ref 56), some (.int a), some (.int b)]) (st := []) (nz := 102) (sh := xshD) (M := xMt) rfl (Nat.le_of_ble_eq_true rfl) ?_
  show P0 161 (0, [some (.ref 56), some (.int a)], [], 102, xshD, xMt) _
  refine P0.go (k := 2) (s' := (xcmp .lt (a) (0) 16 4, [some (.ref 56), some (.int a)], [], 102, xshD, xMt)) rfl ?_
  refine P0.lt (fun h1 => ?_) (fun h1 => ?_)
  · refine P0.go (k := 1) (s' := (17, [some (.ref 56), some (.int a)], [.int 0], 102, xshD, xMt)) rfl ?_
    refine P0.ret (v := some (.int 0)) rfl ?_
    refine ⟨rfl, ?_⟩
    show P0 171 (5, [some (.ref 56), some (.int a), some (.int b)], [.int 0], 102, xshD, xMt) _
    refine P0.go (k := 2) (s' := (9, [some (.ref 56), some (.int a), some (.int b)], [.int (-1)], 102, xshD, xMt)) rfl ?_
    refine P0.ret (v := some (.int (-1))) rfl ?_
    exact congrArg (fun z => some (Value.int z)) (show (-1) = F_about a b from by unfold F_about; (repeat' split) <;> first | rfl | (exfalso; simp only [Int32.lt_iff_toInt_lt, Int32.le_iff_toInt_le, Int64.lt_iff_toInt_lt, Int64.le_iff_toInt_le, ← Int32.toInt_inj, Int32.toInt_toInt64, xl_0, xl_1, xl_2, xl_3, xl_4, xl_5, xl_6, xl_7, xl_8, xl_9, xl_10, xl_11, xl_12, xl_13, xl_20, xl_30, xl_59, xl_63, xl_64, xl_99, xl_100, xl_120, xl_999, xl_m1, xl_m2, xl_m3, xl_m4, xl_m5, xL_0, xL_1, xL_2, xL_3, xL_4, xL_5, xL_6, xL_7, xL_8, xL_20, xL_59, xL_63, xL_99, xL_999] at *; omega) | (exfalso; simp_all; done))
  · refine P0.go (k := 4) (s' := (xcmp .ge (a) (0) 16 12, [some (.ref 56), some (.int a)], [], 102, xshD, xMt)) rfl ?_
    refine P0.ge (fun h2 => ?_) (fun h2 => absurd True.intro (by exfalso; simp only [Int32.lt_iff_toInt_lt, Int32.le_iff_toInt_le, Int64.lt_iff_toInt_lt, Int64.le_iff_toInt_le, ← Int32.toInt_inj, Int32.toInt_toInt64, xl_0, xl_1, xl_2, xl_3, xl_4, xl_5, xl_6, xl_7, xl_8, xl_9, xl_10, xl_11, xl_12, xl_13, xl_20, xl_30, xl_59, xl_63, xl_64, xl_99, xl_100, xl_120, xl_999, xl_m1, xl_m2, xl_m3, xl_m4, xl_m5, xL_0, xL_1, xL_2, xL_3, xL_4, xL_5, xL_6, xL_7, xL_8, xL_20, xL_59, xL_63, xL_99, xL_999] at *; omega))
    refine P0.go (k := 1) (s' := (17, [some (.ref 56), some (.int a)], [.int 0], 102, xshD, xMt)) rfl ?_
    refine P0.ret (v := some (.int 0)) rfl ?_
    refine ⟨rfl, ?_⟩
    show P0 171 (5, [some (.ref 56), some (.int a), some (.int b)], [.int 0], 102, xshD, xMt) _
    refine P0.go (k := 2) (s' := (9, [some (.ref 56), some (.int a), some (.int b)], [.int (-1)], 102, xshD, xMt)) rfl ?_
    refine P0.ret (v := some (.int (-1))) rfl ?_
    exact congrArg (fun z => some (Value.int z)) (show (-1) = F_about a b from by unfold F_about; (repeat' split) <;> first | rfl | (exfalso; simp only [Int32.lt_iff_toInt_lt, Int32.le_iff_toInt_le, Int64.lt_iff_toInt_lt, Int64.le_iff_toInt_le, ← Int32.toInt_inj, Int32.toInt_toInt64, xl_0, xl_1, xl_2, xl_3, xl_4, xl_5, xl_6, xl_7, xl_8, xl_9, xl_10, xl_11, xl_12, xl_13, xl_20, xl_30, xl_59, xl_63, xl_64, xl_99, xl_100, xl_120, xl_999, xl_m1, xl_m2, xl_m3, xl_m4, xl_m5, xL_0, xL_1, xL_2, xL_3, xL_4, xL_5, xL_6, xL_7, xL_8, xL_20, xL_59, xL_63, xL_99, xL_999] at *; omega) | (exfalso; simp_all; done))
set_option maxRecDepth 100000 in
set_option maxHeartbeats 4000000 in
theorem wm_force (a : Int32) : P0 184 (0, [some (.ref 56), some (.int a)], [], 102, xshD, xMt) (fun r => r.1 = some (.int (F_force a))) := by
  refine P0.go (k := 4) (s' := (6, [some (.ref 56), some (.int a)], [.long 4, .long 0, .long a.toInt64], 102, xshD, xMt)) rfl ?_
  refine P0.call (z := 154) (as := [.long a.toInt64, .long 0, .long 4]) (pc := 9) (pl := [some (.ref 56), some (.int a)]) (st := []) (nz := 102) (sh := xshD) (M := xMt) rfl (Nat.le_of_ble_eq_true rfl) ?_
  show P0 154 (0, [some (.long a.toInt64), none, some (.long 0), none, some (.long 4), none], [], 102, xshD, xMt) _
  refine P0.go (k := 4) (s' := (xcmp .lt (lg_cmp (a.toInt64) 0) (0) 17 6, [some (.long a.toInt64), none, some (.long 0), none, some (.long 4), none], [], 102, xshD, xMt)) rfl ?_
  refine P0.llt (fun h1 => ?_) (fun h1 => ?_)
  · refine P0.go (k := 1) (s' := (18, [some (.long a.toInt64), none, some (.long 0), none, some (.long 4), none], [.int 0], 102, xshD, xMt)) rfl ?_
    refine P0.ret (v := some (.int 0)) rfl ?_
    refine ⟨rfl, ?_⟩
    show P0 184 (9, [some (.ref 56), some (.int a)], [.int 0], 102, xshD, xMt) _
    refine P0.go (k := 2) (s' := (21, [some (.ref 56), some (.int a)], [.int (-1)], 102, xshD, xMt)) rfl ?_
    refine P0.ret (v := some (.int (-1))) rfl ?_
    exact congrArg (fun z => some (Value.int z)) (show (-1) = F_force a from by unfold F_force; (repeat' split) <;> first | rfl | (exfalso; simp only [Int32.lt_iff_toInt_lt, Int32.le_iff_toInt_le, Int64.lt_iff_toInt_lt, Int64.le_iff_toInt_le, ← Int32.toInt_inj, Int32.toInt_toInt64, xl_0, xl_1, xl_2, xl_3, xl_4, xl_5, xl_6, xl_7, xl_8, xl_9, xl_10, xl_11, xl_12, xl_13, xl_20, xl_30, xl_59, xl_63, xl_64, xl_99, xl_100, xl_120, xl_999, xl_m1, xl_m2, xl_m3, xl_m4, xl_m5, xL_0, xL_1, xL_2, xL_3, xL_4, xL_5, xL_6, xL_7, xL_8, xL_20, xL_59, xL_63, xL_99, xL_999] at *; omega) | (exfalso; simp_all; done))
  · refine P0.go (k := 4) (s' := (xcmp .gt (lg_cmp (a.toInt64) 4) (0) 17 13, [some (.long a.toInt64), none, some (.long 0), none, some (.long 4), none], [], 102, xshD, xMt)) rfl ?_
    refine P0.lgt (fun h2 => ?_) (fun h2 => ?_)
    · refine P0.go (k := 1) (s' := (18, [some (.long a.toInt64), none, some (.long 0), none, some (.long 4), none], [.int 0], 102, xshD, xMt)) rfl ?_
      refine P0.ret (v := some (.int 0)) rfl ?_
      refine ⟨rfl, ?_⟩
      show P0 184 (9, [some (.ref 56), some (.int a)], [.int 0], 102, xshD, xMt) _
      refine P0.go (k := 2) (s' := (21, [some (.ref 56), some (.int a)], [.int (-1)], 102, xshD, xMt)) rfl ?_
      refine P0.ret (v := some (.int (-1))) rfl ?_
      exact congrArg (fun z => some (Value.int z)) (show (-1) = F_force a from by unfold F_force; (repeat' split) <;> first | rfl | (exfalso; simp only [Int32.lt_iff_toInt_lt, Int32.le_iff_toInt_le, Int64.lt_iff_toInt_lt, Int64.le_iff_toInt_le, ← Int32.toInt_inj, Int32.toInt_toInt64, xl_0, xl_1, xl_2, xl_3, xl_4, xl_5, xl_6, xl_7, xl_8, xl_9, xl_10, xl_11, xl_12, xl_13, xl_20, xl_30, xl_59, xl_63, xl_64, xl_99, xl_100, xl_120, xl_999, xl_m1, xl_m2, xl_m3, xl_m4, xl_m5, xL_0, xL_1, xL_2, xL_3, xL_4, xL_5, xL_6, xL_7, xL_8, xL_20, xL_59, xL_63, xL_99, xL_999] at *; omega) | (exfalso; simp_all; done))
    · refine P0.go (k := 2) (s' := (18, [some (.long a.toInt64), none, some (.long 0), none, some (.long 4), none], [.int 1], 102, xshD, xMt)) rfl ?_
      refine P0.ret (v := some (.int 1)) rfl ?_
      refine ⟨rfl, ?_⟩
      show P0 184 (9, [some (.ref 56), some (.int a)], [.int 1], 102, xshD, xMt) _
      refine P0.go (k := 3) (s' := (14, [some (.ref 56), some (.int a)], [.int a, .ref 56], 102, xshD, xMt)) rfl ?_
      refine P0.call (z := 183) (as := [.ref 56, .int a]) (pc := 17) (pl := [some (.ref 56), some (.int a)]) (st := []) (nz := 102) (sh := xshD) (M := xMt) rfl (Nat.le_of_ble_eq_true rfl) ?_
      show P0 183 (0, [some (.ref 56), some (.int a), none, none], [], 102, xshD, xMt) _
      refine P0.go (k := 9) (s' := (43, [some (.ref 56), some (.int a), some (.int (-1)), some (.int 0)], [.int (-1)], 102, xshD, xMt)) rfl ?_
      refine P0.ret (v := some (.int (-1))) rfl ?_
      refine ⟨rfl, ?_⟩
      show P0 184 (17, [some (.ref 56), some (.int a)], [.int (-1)], 102, xshD, xMt) _
      refine P0.go (k := 1) (s' := (21, [some (.ref 56), some (.int a)], [.int (-1)], 102, xshD, xMt)) rfl ?_
      refine P0.ret (v := some (.int (-1))) rfl ?_
      exact congrArg (fun z => some (Value.int z)) (show (-1) = F_force a from by unfold F_force; (repeat' split) <;> first | rfl | (exfalso; simp only [Int32.lt_iff_toInt_lt, Int32.le_iff_toInt_le, Int64.lt_iff_toInt_lt, Int64.le_iff_toInt_le, ← Int32.toInt_inj, Int32.toInt_toInt64, xl_0, xl_1, xl_2, xl_3, xl_4, xl_5, xl_6, xl_7, xl_8, xl_9, xl_10, xl_11, xl_12, xl_13, xl_20, xl_30, xl_59, xl_63, xl_64, xl_99, xl_100, xl_120, xl_999, xl_m1, xl_m2, xl_m3, xl_m4, xl_m5, xL_0, xL_1, xL_2, xL_3, xL_4, xL_5, xL_6, xL_7, xL_8, xL_20, xL_59, xL_63, xL_99, xL_999] at *; omega) | (exfalso; simp_all; done))
set_option maxRecDepth 100000 in
set_option maxHeartbeats 4000000 in
theorem wm_move (a b : Int32) : P0 187 (0, [some (.ref 56), some (.int a), some (.int b), none, none], [], 102, xshD, xMt) (fun r => r.1 = some (.int (F_move a b))) := by
  refine P0.go (k := 4) (s' := (6, [some (.ref 56), some (.int a), some (.int b), none, none], [.long 4, .long 0, .long a.toInt64], 102, xshD, xMt)) rfl ?_
  refine P0.call (z := 154) (as := [.long a.toInt64, .long 0, .long 4]) (pc := 9) (pl := [some (.ref 56), some (.int a), some (.int b), none, none]) (st := []) (nz := 102) (sh := xshD) (M := xMt) rfl (Nat.le_of_ble_eq_true rfl) ?_
  show P0 154 (0, [some (.long a.toInt64), none, some (.long 0), none, some (.long 4), none], [], 102, xshD, xMt) _
  refine P0.go (k := 4) (s' := (xcmp .lt (lg_cmp (a.toInt64) 0) (0) 17 6, [some (.long a.toInt64), none, some (.long 0), none, some (.long 4), none], [], 102, xshD, xMt)) rfl ?_
  refine P0.llt (fun h1 => ?_) (fun h1 => ?_)
  · refine P0.go (k := 1) (s' := (18, [some (.long a.toInt64), none, some (.long 0), none, some (.long 4), none], [.int 0], 102, xshD, xMt)) rfl ?_
    refine P0.ret (v := some (.int 0)) rfl ?_
    refine ⟨rfl, ?_⟩
    show P0 187 (9, [some (.ref 56), some (.int a), some (.int b), none, none], [.int 0], 102, xshD, xMt) _
    refine P0.go (k := 2) (s' := (22, [some (.ref 56), some (.int a), some (.int b), none, none], [.int (-1)], 102, xshD, xMt)) rfl ?_
    refine P0.ret (v := some (.int (-1))) rfl ?_
    exact congrArg (fun z => some (Value.int z)) (show (-1) = F_move a b from by unfold F_move; (repeat' split) <;> first | rfl | (exfalso; simp only [Int32.lt_iff_toInt_lt, Int32.le_iff_toInt_le, Int64.lt_iff_toInt_lt, Int64.le_iff_toInt_le, ← Int32.toInt_inj, Int32.toInt_toInt64, xl_0, xl_1, xl_2, xl_3, xl_4, xl_5, xl_6, xl_7, xl_8, xl_9, xl_10, xl_11, xl_12, xl_13, xl_20, xl_30, xl_59, xl_63, xl_64, xl_99, xl_100, xl_120, xl_999, xl_m1, xl_m2, xl_m3, xl_m4, xl_m5, xL_0, xL_1, xL_2, xL_3, xL_4, xL_5, xL_6, xL_7, xL_8, xL_20, xL_59, xL_63, xL_99, xL_999] at *; omega) | (exfalso; simp_all; done))
  · refine P0.go (k := 4) (s' := (xcmp .gt (lg_cmp (a.toInt64) 4) (0) 17 13, [some (.long a.toInt64), none, some (.long 0), none, some (.long 4), none], [], 102, xshD, xMt)) rfl ?_
    refine P0.lgt (fun h2 => ?_) (fun h2 => ?_)
    · refine P0.go (k := 1) (s' := (18, [some (.long a.toInt64), none, some (.long 0), none, some (.long 4), none], [.int 0], 102, xshD, xMt)) rfl ?_
      refine P0.ret (v := some (.int 0)) rfl ?_
      refine ⟨rfl, ?_⟩
      show P0 187 (9, [some (.ref 56), some (.int a), some (.int b), none, none], [.int 0], 102, xshD, xMt) _
      refine P0.go (k := 2) (s' := (22, [some (.ref 56), some (.int a), some (.int b), none, none], [.int (-1)], 102, xshD, xMt)) rfl ?_
      refine P0.ret (v := some (.int (-1))) rfl ?_
      exact congrArg (fun z => some (Value.int z)) (show (-1) = F_move a b from by unfold F_move; (repeat' split) <;> first | rfl | (exfalso; simp only [Int32.lt_iff_toInt_lt, Int32.le_iff_toInt_le, Int64.lt_iff_toInt_lt, Int64.le_iff_toInt_le, ← Int32.toInt_inj, Int32.toInt_toInt64, xl_0, xl_1, xl_2, xl_3, xl_4, xl_5, xl_6, xl_7, xl_8, xl_9, xl_10, xl_11, xl_12, xl_13, xl_20, xl_30, xl_59, xl_63, xl_64, xl_99, xl_100, xl_120, xl_999, xl_m1, xl_m2, xl_m3, xl_m4, xl_m5, xL_0, xL_1, xL_2, xL_3, xL_4, xL_5, xL_6, xL_7, xL_8, xL_20, xL_59, xL_63, xL_99, xL_999] at *; omega) | (exfalso; simp_all; done))
    · refine P0.go (k := 2) (s' := (18, [some (.long a.toInt64), none, some (.long 0), none, some (.long 4), none], [.int 1], 102, xshD, xMt)) rfl ?_
      refine P0.ret (v := some (.int 1)) rfl ?_
      refine ⟨rfl, ?_⟩
      show P0 187 (9, [some (.ref 56), some (.int a), some (.int b), none, none], [.int 1], 102, xshD, xMt) _
      refine P0.go (k := 4) (s' := (15, [some (.ref 56), some (.int a), some (.int b), none, none], [.int b, .int a, .ref 56], 102, xshD, xMt)) rfl ?_
      refine P0.call (z := 186) (as := [.ref 56, .int a, .int b]) (pc := 18) (pl := [some (.ref 56), some (.int a), some (.int b), none, none]) (st := []) (nz := 102) (sh := xshD) (M := xMt) rfl (Nat.le_of_ble_eq_true rfl) ?_
      show P0 186 (0, [some (.ref 56), some (.int a), some (.int b)], [], 102, xshD, xMt) _
      refine P0.go (k := 1) (s' := (1, [some (.ref 56), some (.int a), some (.int b)], [.int a], 102, xshD, xMt)) rfl ?_
      by_cases h3 : a = 0
      · subst h3
        refine P0.go (k := 3) (s' := (xcmp .lt (b) (0) 48 36, [some (.ref 56), some (.int 0), some (.int b)], [], 102, xshD, xMt)) rfl ?_
        refine P0.lt (fun h4 => ?_) (fun h4 => ?_)
        · refine P0.go (k := 1) (s' := (49, [some (.ref 56), some (.int 0), some (.int b)], [.int 0], 102, xshD, xMt)) rfl ?_
          refine P0.ret (v := some (.int 0)) rfl ?_
          refine ⟨rfl, ?_⟩
          show P0 187 (18, [some (.ref 56), some (.int 0), some (.int b), none, none], [.int 0], 102, xshD, xMt) _
          refine P0.go (k := 2) (s' := (22, [some (.ref 56), some (.int 0), some (.int b), none, none], [.int (-1)], 102, xshD, xMt)) rfl ?_
          refine P0.ret (v := some (.int (-1))) rfl ?_
          exact congrArg (fun z => some (Value.int z)) (show (-1) = F_move 0 b from by unfold F_move; (repeat' split) <;> first | rfl | (exfalso; simp only [Int32.lt_iff_toInt_lt, Int32.le_iff_toInt_le, Int64.lt_iff_toInt_lt, Int64.le_iff_toInt_le, ← Int32.toInt_inj, Int32.toInt_toInt64, xl_0, xl_1, xl_2, xl_3, xl_4, xl_5, xl_6, xl_7, xl_8, xl_9, xl_10, xl_11, xl_12, xl_13, xl_20, xl_30, xl_59, xl_63, xl_64, xl_99, xl_100, xl_120, xl_999, xl_m1, xl_m2, xl_m3, xl_m4, xl_m5, xL_0, xL_1, xL_2, xL_3, xL_4, xL_5, xL_6, xL_7, xL_8, xL_20, xL_59, xL_63, xL_99, xL_999] at *; omega) | (exfalso; simp_all; done))
        · refine P0.go (k := 4) (s' := (xcmp .ge (b) (0) 48 44, [some (.ref 56), some (.int 0), some (.int b)], [], 102, xshD, xMt)) rfl ?_
          refine P0.ge (fun h5 => ?_) (fun h5 => absurd True.intro (by exfalso; simp only [Int32.lt_iff_toInt_lt, Int32.le_iff_toInt_le, Int64.lt_iff_toInt_lt, Int64.le_iff_toInt_le, ← Int32.toInt_inj, Int32.toInt_toInt64, xl_0, xl_1, xl_2, xl_3, xl_4, xl_5, xl_6, xl_7, xl_8, xl_9, xl_10, xl_11, xl_12, xl_13, xl_20, xl_30, xl_59, xl_63, xl_64, xl_99, xl_100, xl_120, xl_999, xl_m1, xl_m2, xl_m3, xl_m4, xl_m5, xL_0, xL_1, xL_2, xL_3, xL_4, xL_5, xL_6, xL_7, xL_8, xL_20, xL_59, xL_63, xL_99, xL_999] at *; omega))
          refine P0.go (k := 1) (s' := (49, [some (.ref 56), some (.int 0), some (.int b)], [.int 0], 102, xshD, xMt)) rfl ?_
          refine P0.ret (v := some (.int 0)) rfl ?_
          refine ⟨rfl, ?_⟩
          show P0 187 (18, [some (.ref 56), some (.int 0), some (.int b), none, none], [.int 0], 102, xshD, xMt) _
          refine P0.go (k := 2) (s' := (22, [some (.ref 56), some (.int 0), some (.int b), none, none], [.int (-1)], 102, xshD, xMt)) rfl ?_
          refine P0.ret (v := some (.int (-1))) rfl ?_
          exact congrArg (fun z => some (Value.int z)) (show (-1) = F_move 0 b from by unfold F_move; (repeat' split) <;> first | rfl | (exfalso; simp only [Int32.lt_iff_toInt_lt, Int32.le_iff_toInt_le, Int64.lt_iff_toInt_lt, Int64.le_iff_toInt_le, ← Int32.toInt_inj, Int32.toInt_toInt64, xl_0, xl_1, xl_2, xl_3, xl_4, xl_5, xl_6, xl_7, xl_8, xl_9, xl_10, xl_11, xl_12, xl_13, xl_20, xl_30, xl_59, xl_63, xl_64, xl_99, xl_100, xl_120, xl_999, xl_m1, xl_m2, xl_m3, xl_m4, xl_m5, xL_0, xL_1, xL_2, xL_3, xL_4, xL_5, xL_6, xL_7, xL_8, xL_20, xL_59, xL_63, xL_99, xL_999] at *; omega) | (exfalso; simp_all; done))
      by_cases h6 : a = 1
      · subst h6
        refine P0.go (k := 5) (s' := (56, [some (.ref 56), some (.int 1), some (.int b)], [.long 59, .long 0, .long b.toInt64], 102, xshD, xMt)) rfl ?_
        refine P0.call (z := 154) (as := [.long b.toInt64, .long 0, .long 59]) (pc := 59) (pl := [some (.ref 56), some (.int 1), some (.int b)]) (st := []) (nz := 102) (sh := xshD) (M := xMt) rfl (Nat.le_of_ble_eq_true rfl) ?_
        show P0 154 (0, [some (.long b.toInt64), none, some (.long 0), none, some (.long 59), none], [], 102, xshD, xMt) _
        refine P0.go (k := 4) (s' := (xcmp .lt (lg_cmp (b.toInt64) 0) (0) 17 6, [some (.long b.toInt64), none, some (.long 0), none, some (.long 59), none], [], 102, xshD, xMt)) rfl ?_
        refine P0.llt (fun h7 => ?_) (fun h7 => ?_)
        · refine P0.go (k := 1) (s' := (18, [some (.long b.toInt64), none, some (.long 0), none, some (.long 59), none], [.int 0], 102, xshD, xMt)) rfl ?_
          refine P0.ret (v := some (.int 0)) rfl ?_
          refine ⟨rfl, ?_⟩
          show P0 186 (59, [some (.ref 56), some (.int 1), some (.int b)], [.int 0], 102, xshD, xMt) _
          refine P0.go (k := 2) (s' := (91, [some (.ref 56), some (.int 1), some (.int b)], [.int 0], 102, xshD, xMt)) rfl ?_
          refine P0.ret (v := some (.int 0)) rfl ?_
          refine ⟨rfl, ?_⟩
          show P0 187 (18, [some (.ref 56), some (.int 1), some (.int b), none, none], [.int 0], 102, xshD, xMt) _
          refine P0.go (k := 2) (s' := (22, [some (.ref 56), some (.int 1), some (.int b), none, none], [.int (-1)], 102, xshD, xMt)) rfl ?_
          refine P0.ret (v := some (.int (-1))) rfl ?_
          exact congrArg (fun z => some (Value.int z)) (show (-1) = F_move 1 b from by unfold F_move; (repeat' split) <;> first | rfl | (exfalso; simp only [Int32.lt_iff_toInt_lt, Int32.le_iff_toInt_le, Int64.lt_iff_toInt_lt, Int64.le_iff_toInt_le, ← Int32.toInt_inj, Int32.toInt_toInt64, xl_0, xl_1, xl_2, xl_3, xl_4, xl_5, xl_6, xl_7, xl_8, xl_9, xl_10, xl_11, xl_12, xl_13, xl_20, xl_30, xl_59, xl_63, xl_64, xl_99, xl_100, xl_120, xl_999, xl_m1, xl_m2, xl_m3, xl_m4, xl_m5, xL_0, xL_1, xL_2, xL_3, xL_4, xL_5, xL_6, xL_7, xL_8, xL_20, xL_59, xL_63, xL_99, xL_999] at *; omega) | (exfalso; simp_all; done))
        · refine P0.go (k := 4) (s' := (xcmp .gt (lg_cmp (b.toInt64) 59) (0) 17 13, [some (.long b.toInt64), none, some (.long 0), none, some (.long 59), none], [], 102, xshD, xMt)) rfl ?_
          refine P0.lgt (fun h8 => ?_) (fun h8 => ?_)
          · refine P0.go (k := 1) (s' := (18, [some (.long b.toInt64), none, some (.long 0), none, some (.long 59), none], [.int 0], 102, xshD, xMt)) rfl ?_
            refine P0.ret (v := some (.int 0)) rfl ?_
            refine ⟨rfl, ?_⟩
            show P0 186 (59, [some (.ref 56), some (.int 1), some (.int b)], [.int 0], 102, xshD, xMt) _
            refine P0.go (k := 2) (s' := (91, [some (.ref 56), some (.int 1), some (.int b)], [.int 0], 102, xshD, xMt)) rfl ?_
            refine P0.ret (v := some (.int 0)) rfl ?_
            refine ⟨rfl, ?_⟩
            show P0 187 (18, [some (.ref 56), some (.int 1), some (.int b), none, none], [.int 0], 102, xshD, xMt) _
            refine P0.go (k := 2) (s' := (22, [some (.ref 56), some (.int 1), some (.int b), none, none], [.int (-1)], 102, xshD, xMt)) rfl ?_
            refine P0.ret (v := some (.int (-1))) rfl ?_
            exact congrArg (fun z => some (Value.int z)) (show (-1) = F_move 1 b from by unfold F_move; (repeat' split) <;> first | rfl | (exfalso; simp only [Int32.lt_iff_toInt_lt, Int32.le_iff_toInt_le, Int64.lt_iff_toInt_lt, Int64.le_iff_toInt_le, ← Int32.toInt_inj, Int32.toInt_toInt64, xl_0, xl_1, xl_2, xl_3, xl_4, xl_5, xl_6, xl_7, xl_8, xl_9, xl_10, xl_11, xl_12, xl_13, xl_20, xl_30, xl_59, xl_63, xl_64, xl_99, xl_100, xl_120, xl_999, xl_m1, xl_m2, xl_m3, xl_m4, xl_m5, xL_0, xL_1, xL_2, xL_3, xL_4, xL_5, xL_6, xL_7, xL_8, xL_20, xL_59, xL_63, xL_99, xL_999] at *; omega) | (exfalso; simp_all; done))
          · refine P0.go (k := 2) (s' := (18, [some (.long b.toInt64), none, some (.long 0), none, some (.long 59), none], [.int 1], 102, xshD, xMt)) rfl ?_
            refine P0.ret (v := some (.int 1)) rfl ?_
            refine ⟨rfl, ?_⟩
            show P0 186 (59, [some (.ref 56), some (.int 1), some (.int b)], [.int 1], 102, xshD, xMt) _
            refine P0.go (k := 5) (s' := (67, [some (.ref 56), some (.int 1), some (.int b)], [.int (b - b / 30 * 30), .ref 56], 102, xshD, xMt)) rfl ?_
            refine P0.call (z := 161) (as := [.ref 56, .int (b - b / 30 * 30)]) (pc := 70) (pl := [some (.ref 56), some (.int 1), some (.int b)]) (st := []) (nz := 102) (sh := xshD) (M := xMt) rfl (Nat.le_of_ble_eq_true rfl) ?_
            show P0 161 (0, [some (.ref 56), some (.int (b - b / 30 * 30))], [], 102, xshD, xMt) _
            refine P0.go (k := 2) (s' := (xcmp .lt (b - b / 30 * 30) (0) 16 4, [some (.ref 56), some (.int (b - b / 30 * 30))], [], 102, xshD, xMt)) rfl ?_
            refine P0.lt (fun h9 => ?_) (fun h9 => ?_)
            · refine P0.go (k := 1) (s' := (17, [some (.ref 56), some (.int (b - b / 30 * 30))], [.int 0], 102, xshD, xMt)) rfl ?_
              refine P0.ret (v := some (.int 0)) rfl ?_
              refine ⟨rfl, ?_⟩
              show P0 186 (70, [some (.ref 56), some (.int 1), some (.int b)], [.int 0], 102, xshD, xMt) _
              refine P0.go (k := 2) (s' := (91, [some (.ref 56), some (.int 1), some (.int b)], [.int 0], 102, xshD, xMt)) rfl ?_
              refine P0.ret (v := some (.int 0)) rfl ?_
              refine ⟨rfl, ?_⟩
              show P0 187 (18, [some (.ref 56), some (.int 1), some (.int b), none, none], [.int 0], 102, xshD, xMt) _
              refine P0.go (k := 2) (s' := (22, [some (.ref 56), some (.int 1), some (.int b), none, none], [.int (-1)], 102, xshD, xMt)) rfl ?_
              refine P0.ret (v := some (.int (-1))) rfl ?_
              exact congrArg (fun z => some (Value.int z)) (show (-1) = F_move 1 b from by unfold F_move; (repeat' split) <;> first | rfl | (exfalso; simp only [Int32.lt_iff_toInt_lt, Int32.le_iff_toInt_le, Int64.lt_iff_toInt_lt, Int64.le_iff_toInt_le, ← Int32.toInt_inj, Int32.toInt_toInt64, xl_0, xl_1, xl_2, xl_3, xl_4, xl_5, xl_6, xl_7, xl_8, xl_9, xl_10, xl_11, xl_12, xl_13, xl_20, xl_30, xl_59, xl_63, xl_64, xl_99, xl_100, xl_120, xl_999, xl_m1, xl_m2, xl_m3, xl_m4, xl_m5, xL_0, xL_1, xL_2, xL_3, xL_4, xL_5, xL_6, xL_7, xL_8, xL_20, xL_59, xL_63, xL_99, xL_999] at *; omega) | (exfalso; simp_all; done))
            · refine P0.go (k := 4) (s' := (xcmp .ge (b - b / 30 * 30) (0) 16 12, [some (.ref 56), some (.int (b - b / 30 * 30))], [], 102, xshD, xMt)) rfl ?_
              refine P0.ge (fun h10 => ?_) (fun h10 => absurd True.intro (by exfalso; simp only [Int32.lt_iff_toInt_lt, Int32.le_iff_toInt_le, Int64.lt_iff_toInt_lt, Int64.le_iff_toInt_le, ← Int32.toInt_inj, Int32.toInt_toInt64, xl_0, xl_1, xl_2, xl_3, xl_4, xl_5, xl_6, xl_7, xl_8, xl_9, xl_10, xl_11, xl_12, xl_13, xl_20, xl_30, xl_59, xl_63, xl_64, xl_99, xl_100, xl_120, xl_999, xl_m1, xl_m2, xl_m3, xl_m4, xl_m5, xL_0, xL_1, xL_2, xL_3, xL_4, xL_5, xL_6, xL_7, xL_8, xL_20, xL_59, xL_63, xL_99, xL_999] at *; omega))
              refine P0.go (k := 1) (s' := (17, [some (.ref 56), some (.int (b - b / 30 * 30))], [.int 0], 102, xshD, xMt)) rfl ?_
              refine P0.ret (v := some (.int 0)) rfl ?_
              refine ⟨rfl, ?_⟩
              show P0 186 (70, [some (.ref 56), some (.int 1), some (.int b)], [.int 0], 102, xshD, xMt) _
              refine P0.go (k := 2) (s' := (91, [some (.ref 56), some (.int 1), some (.int b)], [.int 0], 102, xshD, xMt)) rfl ?_
              refine P0.ret (v := some (.int 0)) rfl ?_
              refine ⟨rfl, ?_⟩
              show P0 187 (18, [some (.ref 56), some (.int 1), some (.int b), none, none], [.int 0], 102, xshD, xMt) _
              refine P0.go (k := 2) (s' := (22, [some (.ref 56), some (.int 1), some (.int b), none, none], [.int (-1)], 102, xshD, xMt)) rfl ?_
              refine P0.ret (v := some (.int (-1))) rfl ?_
              exact congrArg (fun z => some (Value.int z)) (show (-1) = F_move 1 b from by unfold F_move; (repeat' split) <;> first | rfl | (exfalso; simp only [Int32.lt_iff_toInt_lt, Int32.le_iff_toInt_le, Int64.lt_iff_toInt_lt, Int64.le_iff_toInt_le, ← Int32.toInt_inj, Int32.toInt_toInt64, xl_0, xl_1, xl_2, xl_3, xl_4, xl_5, xl_6, xl_7, xl_8, xl_9, xl_10, xl_11, xl_12, xl_13, xl_20, xl_30, xl_59, xl_63, xl_64, xl_99, xl_100, xl_120, xl_999, xl_m1, xl_m2, xl_m3, xl_m4, xl_m5, xL_0, xL_1, xL_2, xL_3, xL_4, xL_5, xL_6, xL_7, xL_8, xL_20, xL_59, xL_63, xL_99, xL_999] at *; omega) | (exfalso; simp_all; done))
      by_cases h11 : a = 2
      · subst h11
        refine P0.go (k := 3) (s' := (xcmp .ne (b) (0) 105 101, [some (.ref 56), some (.int 2), some (.int b)], [], 102, xshD, xMt)) rfl ?_
        refine P0.ne (fun h12 => ?_) (fun h12 => ?_)
        · refine P0.go (k := 1) (s' := (106, [some (.ref 56), some (.int 2), some (.int b)], [.int 0], 102, xshD, xMt)) rfl ?_
          refine P0.ret (v := some (.int 0)) rfl ?_
          refine ⟨rfl, ?_⟩
          show P0 187 (18, [some (.ref 56), some (.int 2), some (.int b), none, none], [.int 0], 102, xshD, xMt) _
          refine P0.go (k := 2) (s' := (22, [some (.ref 56), some (.int 2), some (.int b), none, none], [.int (-1)], 102, xshD, xMt)) rfl ?_
          refine P0.ret (v := some (.int (-1))) rfl ?_
          exact congrArg (fun z => some (Value.int z)) (show (-1) = F_move 2 b from by unfold F_move; (repeat' split) <;> first | rfl | (exfalso; simp only [Int32.lt_iff_toInt_lt, Int32.le_iff_toInt_le, Int64.lt_iff_toInt_lt, Int64.le_iff_toInt_le, ← Int32.toInt_inj, Int32.toInt_toInt64, xl_0, xl_1, xl_2, xl_3, xl_4, xl_5, xl_6, xl_7, xl_8, xl_9, xl_10, xl_11, xl_12, xl_13, xl_20, xl_30, xl_59, xl_63, xl_64, xl_99, xl_100, xl_120, xl_999, xl_m1, xl_m2, xl_m3, xl_m4, xl_m5, xL_0, xL_1, xL_2, xL_3, xL_4, xL_5, xL_6, xL_7, xL_8, xL_20, xL_59, xL_63, xL_99, xL_999] at *; omega) | (exfalso; simp_all; done))
        · refine P0.go (k := 2) (s' := (106, [some (.ref 56), some (.int 2), some (.int b)], [.int 1], 102, xshD, xMt)) rfl ?_
          refine P0.ret (v := some (.int 1)) rfl ?_
          refine ⟨rfl, ?_⟩
          show P0 187 (18, [some (.ref 56), some (.int 2), some (.int b), none, none], [.int 1], 102, xshD, xMt) _
          refine P0.go (k := 3) (s' := (25, [some (.ref 56), some (.int 2), some (.int b), none, none], [.int 2, .ref 56], 102, xshD, xMt)) rfl ?_
          refine P0.call (z := 183) (as := [.ref 56, .int 2]) (pc := 28) (pl := [some (.ref 56), some (.int 2), some (.int b), none, none]) (st := []) (nz := 102) (sh := xshD) (M := xMt) rfl (Nat.le_of_ble_eq_true rfl) ?_
          show P0 183 (0, [some (.ref 56), some (.int 2), none, none], [], 102, xshD, xMt) _
          refine P0.go (k := 9) (s' := (43, [some (.ref 56), some (.int 2), some (.int (-1)), some (.int 0)], [.int (-1)], 102, xshD, xMt)) rfl ?_
          refine P0.ret (v := some (.int (-1))) rfl ?_
          refine ⟨rfl, ?_⟩
          show P0 187 (28, [some (.ref 56), some (.int 2), some (.int b), none, none], [.int (-1)], 102, xshD, xMt) _
          refine P0.go (k := 40) (s' := (131, [some (.ref 56), some (.int 2), some (.int b), some (.int (-1)), some (.int 0)], [.int (-1), .int 0, .ref 85], 102, xshD, (xup (xup (xup xMt 82 0 (2)) 83 0 (b)) 84 0 (0)))) rfl ?_
          refine P0.go (k := 23) (s' := (184, [some (.ref 56), some (.int 2), some (.int b), some (.int (-1)), some (.int 0)], [.int 1], 102, xshD, (xup (xup (xup (xup (xup (xup xMt 82 0 (2)) 83 0 (b)) 84 0 (0)) 85 0 (1)) 86 0 (2)) 56 31 (1)))) rfl ?_
          refine P0.ret (v := some (.int 1)) rfl ?_
          exact congrArg (fun z => some (Value.int z)) (show 1 = F_move 2 b from by unfold F_move; (repeat' split) <;> first | rfl | (exfalso; simp only [Int32.lt_iff_toInt_lt, Int32.le_iff_toInt_le, Int64.lt_iff_toInt_lt, Int64.le_iff_toInt_le, ← Int32.toInt_inj, Int32.toInt_toInt64, xl_0, xl_1, xl_2, xl_3, xl_4, xl_5, xl_6, xl_7, xl_8, xl_9, xl_10, xl_11, xl_12, xl_13, xl_20, xl_30, xl_59, xl_63, xl_64, xl_99, xl_100, xl_120, xl_999, xl_m1, xl_m2, xl_m3, xl_m4, xl_m5, xL_0, xL_1, xL_2, xL_3, xL_4, xL_5, xL_6, xL_7, xL_8, xL_20, xL_59, xL_63, xL_99, xL_999] at *; omega) | (exfalso; simp_all; done))
      by_cases h13 : a = 3
      · subst h13
        refine P0.go (k := 2) (s' := (93, [some (.ref 56), some (.int 3), some (.int b)], [.int b], 102, xshD, xMt)) rfl ?_
        refine P0.call (z := 156) (as := [.int b]) (pc := 96) (pl := [some (.ref 56), some (.int 3), some (.int b)]) (st := []) (nz := 102) (sh := xshD) (M := xMt) rfl (Nat.le_of_ble_eq_true rfl) ?_
        show P0 156 (0, [some (.int b)], [], 102, xshD, xMt) _
        refine P0.go (k := 4) (s' := (6, [some (.int b)], [.long 7, .long 0, .long b.toInt64], 102, xshD, xMt)) rfl ?_
        refine P0.call (z := 154) (as := [.long b.toInt64, .long 0, .long 7]) (pc := 9) (pl := [some (.int b)]) (st := []) (nz := 102) (sh := xshD) (M := xMt) rfl (Nat.le_of_ble_eq_true rfl) ?_
        show P0 154 (0, [some (.long b.toInt64), none, some (.long 0), none, some (.long 7), none], [], 102, xshD, xMt) _
        refine P0.go (k := 4) (s' := (xcmp .lt (lg_cmp (b.toInt64) 0) (0) 17 6, [some (.long b.toInt64), none, some (.long 0), none, some (.long 7), none], [], 102, xshD, xMt)) rfl ?_
        refine P0.llt (fun h14 => ?_) (fun h14 => ?_)
        · refine P0.go (k := 1) (s' := (18, [some (.long b.toInt64), none, some (.long 0), none, some (.long 7), none], [.int 0], 102, xshD, xMt)) rfl ?_
          refine P0.ret (v := some (.int 0)) rfl ?_
          refine ⟨rfl, ?_⟩
          show P0 156 (9, [some (.int b)], [.int 0], 102, xshD, xMt) _
          refine P0.ret (v := some (.int 0)) rfl ?_
          refine ⟨rfl, ?_⟩
          show P0 186 (96, [some (.ref 56), some (.int 3), some (.int b)], [.int 0], 102, xshD, xMt) _
          refine P0.ret (v := some (.int 0)) rfl ?_
          refine ⟨rfl, ?_⟩
          show P0 187 (18, [some (.ref 56), some (.int 3), some (.int b), none, none], [.int 0], 102, xshD, xMt) _
          refine P0.go (k := 2) (s' := (22, [some (.ref 56), some (.int 3), some (.int b), none, none], [.int (-1)], 102, xshD, xMt)) rfl ?_
          refine P0.ret (v := some (.int (-1))) rfl ?_
          exact congrArg (fun z => some (Value.int z)) (show (-1) = F_move 3 b from by unfold F_move; (repeat' split) <;> first | rfl | (exfalso; simp only [Int32.lt_iff_toInt_lt, Int32.le_iff_toInt_le, Int64.lt_iff_toInt_lt, Int64.le_iff_toInt_le, ← Int32.toInt_inj, Int32.toInt_toInt64, xl_0, xl_1, xl_2, xl_3, xl_4, xl_5, xl_6, xl_7, xl_8, xl_9, xl_10, xl_11, xl_12, xl_13, xl_20, xl_30, xl_59, xl_63, xl_64, xl_99, xl_100, xl_120, xl_999, xl_m1, xl_m2, xl_m3, xl_m4, xl_m5, xL_0, xL_1, xL_2, xL_3, xL_4, xL_5, xL_6, xL_7, xL_8, xL_20, xL_59, xL_63, xL_99, xL_999] at *; omega) | (exfalso; simp_all; done))
        · refine P0.go (k := 4) (s' := (xcmp .gt (lg_cmp (b.toInt64) 7) (0) 17 13, [some (.long b.toInt64), none, some (.long 0), none, some (.long 7), none], [], 102, xshD, xMt)) rfl ?_
          refine P0.lgt (fun h15 => ?_) (fun h15 => ?_)
          · refine P0.go (k := 1) (s' := (18, [some (.long b.toInt64), none, some (.long 0), none, some (.long 7), none], [.int 0], 102, xshD, xMt)) rfl ?_
            refine P0.ret (v := some (.int 0)) rfl ?_
            refine ⟨rfl, ?_⟩
            show P0 156 (9, [some (.int b)], [.int 0], 102, xshD, xMt) _
            refine P0.ret (v := some (.int 0)) rfl ?_
            refine ⟨rfl, ?_⟩
            show P0 186 (96, [some (.ref 56), some (.int 3), some (.int b)], [.int 0], 102, xshD, xMt) _
            refine P0.ret (v := some (.int 0)) rfl ?_
            refine ⟨rfl, ?_⟩
            show P0 187 (18, [some (.ref 56), some (.int 3), some (.int b), none, none], [.int 0], 102, xshD, xMt) _
            refine P0.go (k := 2) (s' := (22, [some (.ref 56), some (.int 3), some (.int b), none, none], [.int (-1)], 102, xshD, xMt)) rfl ?_
            refine P0.ret (v := some (.int (-1))) rfl ?_
            exact congrArg (fun z => some (Value.int z)) (show (-1) = F_move 3 b from by unfold F_move; (repeat' split) <;> first | rfl | (exfalso; simp only [Int32.lt_iff_toInt_lt, Int32.le_iff_toInt_le, Int64.lt_iff_toInt_lt, Int64.le_iff_toInt_le, ← Int32.toInt_inj, Int32.toInt_toInt64, xl_0, xl_1, xl_2, xl_3, xl_4, xl_5, xl_6, xl_7, xl_8, xl_9, xl_10, xl_11, xl_12, xl_13, xl_20, xl_30, xl_59, xl_63, xl_64, xl_99, xl_100, xl_120, xl_999, xl_m1, xl_m2, xl_m3, xl_m4, xl_m5, xL_0, xL_1, xL_2, xL_3, xL_4, xL_5, xL_6, xL_7, xL_8, xL_20, xL_59, xL_63, xL_99, xL_999] at *; omega) | (exfalso; simp_all; done))
          · refine P0.go (k := 2) (s' := (18, [some (.long b.toInt64), none, some (.long 0), none, some (.long 7), none], [.int 1], 102, xshD, xMt)) rfl ?_
            refine P0.ret (v := some (.int 1)) rfl ?_
            refine ⟨rfl, ?_⟩
            show P0 156 (9, [some (.int b)], [.int 1], 102, xshD, xMt) _
            refine P0.ret (v := some (.int 1)) rfl ?_
            refine ⟨rfl, ?_⟩
            show P0 186 (96, [some (.ref 56), some (.int 3), some (.int b)], [.int 1], 102, xshD, xMt) _
            refine P0.ret (v := some (.int 1)) rfl ?_
            refine ⟨rfl, ?_⟩
            show P0 187 (18, [some (.ref 56), some (.int 3), some (.int b), none, none], [.int 1], 102, xshD, xMt) _
            refine P0.go (k := 3) (s' := (25, [some (.ref 56), some (.int 3), some (.int b), none, none], [.int 3, .ref 56], 102, xshD, xMt)) rfl ?_
            refine P0.call (z := 183) (as := [.ref 56, .int 3]) (pc := 28) (pl := [some (.ref 56), some (.int 3), some (.int b), none, none]) (st := []) (nz := 102) (sh := xshD) (M := xMt) rfl (Nat.le_of_ble_eq_true rfl) ?_
            show P0 183 (0, [some (.ref 56), some (.int 3), none, none], [], 102, xshD, xMt) _
            refine P0.go (k := 9) (s' := (43, [some (.ref 56), some (.int 3), some (.int (-1)), some (.int 0)], [.int (-1)], 102, xshD, xMt)) rfl ?_
            refine P0.ret (v := some (.int (-1))) rfl ?_
            refine ⟨rfl, ?_⟩
            show P0 187 (28, [some (.ref 56), some (.int 3), some (.int b), none, none], [.int (-1)], 102, xshD, xMt) _
            refine P0.go (k := 40) (s' := (131, [some (.ref 56), some (.int 3), some (.int b), some (.int (-1)), some (.int 0)], [.int (-1), .int 0, .ref 85], 102, xshD, (xup (xup (xup xMt 82 0 (3)) 83 0 (b)) 84 0 (0)))) rfl ?_
            refine P0.go (k := 23) (s' := (184, [some (.ref 56), some (.int 3), some (.int b), some (.int (-1)), some (.int 0)], [.int 1], 102, xshD, (xup (xup (xup (xup (xup (xup xMt 82 0 (3)) 83 0 (b)) 84 0 (0)) 85 0 (1)) 86 0 (2)) 56 31 (1)))) rfl ?_
            refine P0.ret (v := some (.int 1)) rfl ?_
            exact congrArg (fun z => some (Value.int z)) (show 1 = F_move 3 b from by unfold F_move; (repeat' split) <;> first | rfl | (exfalso; simp only [Int32.lt_iff_toInt_lt, Int32.le_iff_toInt_le, Int64.lt_iff_toInt_lt, Int64.le_iff_toInt_le, ← Int32.toInt_inj, Int32.toInt_toInt64, xl_0, xl_1, xl_2, xl_3, xl_4, xl_5, xl_6, xl_7, xl_8, xl_9, xl_10, xl_11, xl_12, xl_13, xl_20, xl_30, xl_59, xl_63, xl_64, xl_99, xl_100, xl_120, xl_999, xl_m1, xl_m2, xl_m3, xl_m4, xl_m5, xL_0, xL_1, xL_2, xL_3, xL_4, xL_5, xL_6, xL_7, xL_8, xL_20, xL_59, xL_63, xL_99, xL_999] at *; omega) | (exfalso; simp_all; done))
      by_cases h16 : a = 4
      · subst h16
        refine P0.go (k := 3) (s' := (xcmp .ne (b) (0) 105 101, [some (.ref 56), some (.int 4), some (.int b)], [], 102, xshD, xMt)) rfl ?_
        refine P0.ne (fun h17 => ?_) (fun h17 => ?_)
        · refine P0.go (k := 1) (s' := (106, [some (.ref 56), some (.int 4), some (.int b)], [.int 0], 102, xshD, xMt)) rfl ?_
          refine P0.ret (v := some (.int 0)) rfl ?_
          refine ⟨rfl, ?_⟩
          show P0 187 (18, [some (.ref 56), some (.int 4), some (.int b), none, none], [.int 0], 102, xshD, xMt) _
          refine P0.go (k := 2) (s' := (22, [some (.ref 56), some (.int 4), some (.int b), none, none], [.int (-1)], 102, xshD, xMt)) rfl ?_
          refine P0.ret (v := some (.int (-1))) rfl ?_
          exact congrArg (fun z => some (Value.int z)) (show (-1) = F_move 4 b from by unfold F_move; (repeat' split) <;> first | rfl | (exfalso; simp only [Int32.lt_iff_toInt_lt, Int32.le_iff_toInt_le, Int64.lt_iff_toInt_lt, Int64.le_iff_toInt_le, ← Int32.toInt_inj, Int32.toInt_toInt64, xl_0, xl_1, xl_2, xl_3, xl_4, xl_5, xl_6, xl_7, xl_8, xl_9, xl_10, xl_11, xl_12, xl_13, xl_20, xl_30, xl_59, xl_63, xl_64, xl_99, xl_100, xl_120, xl_999, xl_m1, xl_m2, xl_m3, xl_m4, xl_m5, xL_0, xL_1, xL_2, xL_3, xL_4, xL_5, xL_6, xL_7, xL_8, xL_20, xL_59, xL_63, xL_99, xL_999] at *; omega) | (exfalso; simp_all; done))
        · refine P0.go (k := 2) (s' := (106, [some (.ref 56), some (.int 4), some (.int b)], [.int 1], 102, xshD, xMt)) rfl ?_
          refine P0.ret (v := some (.int 1)) rfl ?_
          refine ⟨rfl, ?_⟩
          show P0 187 (18, [some (.ref 56), some (.int 4), some (.int b), none, none], [.int 1], 102, xshD, xMt) _
          refine P0.go (k := 3) (s' := (25, [some (.ref 56), some (.int 4), some (.int b), none, none], [.int 4, .ref 56], 102, xshD, xMt)) rfl ?_
          refine P0.call (z := 183) (as := [.ref 56, .int 4]) (pc := 28) (pl := [some (.ref 56), some (.int 4), some (.int b), none, none]) (st := []) (nz := 102) (sh := xshD) (M := xMt) rfl (Nat.le_of_ble_eq_true rfl) ?_
          show P0 183 (0, [some (.ref 56), some (.int 4), none, none], [], 102, xshD, xMt) _
          refine P0.go (k := 9) (s' := (43, [some (.ref 56), some (.int 4), some (.int (-1)), some (.int 0)], [.int (-1)], 102, xshD, xMt)) rfl ?_
          refine P0.ret (v := some (.int (-1))) rfl ?_
          refine ⟨rfl, ?_⟩
          show P0 187 (28, [some (.ref 56), some (.int 4), some (.int b), none, none], [.int (-1)], 102, xshD, xMt) _
          refine P0.go (k := 40) (s' := (131, [some (.ref 56), some (.int 4), some (.int b), some (.int (-1)), some (.int 0)], [.int (-1), .int 0, .ref 85], 102, xshD, (xup (xup (xup xMt 82 0 (4)) 83 0 (b)) 84 0 (0)))) rfl ?_
          refine P0.go (k := 23) (s' := (184, [some (.ref 56), some (.int 4), some (.int b), some (.int (-1)), some (.int 0)], [.int 1], 102, xshD, (xup (xup (xup (xup (xup (xup xMt 82 0 (4)) 83 0 (b)) 84 0 (0)) 85 0 (1)) 86 0 (2)) 56 31 (1)))) rfl ?_
          refine P0.ret (v := some (.int 1)) rfl ?_
          exact congrArg (fun z => some (Value.int z)) (show 1 = F_move 4 b from by unfold F_move; (repeat' split) <;> first | rfl | (exfalso; simp only [Int32.lt_iff_toInt_lt, Int32.le_iff_toInt_le, Int64.lt_iff_toInt_lt, Int64.le_iff_toInt_le, ← Int32.toInt_inj, Int32.toInt_toInt64, xl_0, xl_1, xl_2, xl_3, xl_4, xl_5, xl_6, xl_7, xl_8, xl_9, xl_10, xl_11, xl_12, xl_13, xl_20, xl_30, xl_59, xl_63, xl_64, xl_99, xl_100, xl_120, xl_999, xl_m1, xl_m2, xl_m3, xl_m4, xl_m5, xL_0, xL_1, xL_2, xL_3, xL_4, xL_5, xL_6, xL_7, xL_8, xL_20, xL_59, xL_63, xL_99, xL_999] at *; omega) | (exfalso; simp_all; done))
      exact absurd True.intro (by exfalso; simp only [Int32.lt_iff_toInt_lt, Int32.le_iff_toInt_le, Int64.lt_iff_toInt_lt, Int64.le_iff_toInt_le, ← Int32.toInt_inj, Int32.toInt_toInt64, xl_0, xl_1, xl_2, xl_3, xl_4, xl_5, xl_6, xl_7, xl_8, xl_9, xl_10, xl_11, xl_12, xl_13, xl_20, xl_30, xl_59, xl_63, xl_64, xl_99, xl_100, xl_120, xl_999, xl_m1, xl_m2, xl_m3, xl_m4, xl_m5, xL_0, xL_1, xL_2, xL_3, xL_4, xL_5, xL_6, xL_7, xL_8, xL_20, xL_59, xL_63, xL_99, xL_999] at *; omega)
set_option maxRecDepth 100000 in
set_option maxHeartbeats 4000000 in
theorem wm_vote (a : Int32) : P0 191 (0, [some (.ref 56), some (.int a), none, none], [], 102, xshD, xMt) (fun r => r.1 = some (.int (F_vote a))) := by
  refine P0.go (k := 2) (s' := (xcmp .lt (a) (0) 14 4, [some (.ref 56), some (.int a), none, none], [], 102, xshD, xMt)) rfl ?_
  refine P0.lt (fun h1 => ?_) (fun h1 => ?_)
  · refine P0.go (k := 1) (s' := (16, [some (.ref 56), some (.int a), none, none], [.int (-2)], 102, xshD, xMt)) rfl ?_
    refine P0.ret (v := some (.int (-2))) rfl ?_
    exact congrArg (fun z => some (Value.int z)) (show (-2) = F_vote a from by unfold F_vote; (repeat' split) <;> first | rfl | (exfalso; simp only [Int32.lt_iff_toInt_lt, Int32.le_iff_toInt_le, Int64.lt_iff_toInt_lt, Int64.le_iff_toInt_le, ← Int32.toInt_inj, Int32.toInt_toInt64, xl_0, xl_1, xl_2, xl_3, xl_4, xl_5, xl_6, xl_7, xl_8, xl_9, xl_10, xl_11, xl_12, xl_13, xl_20, xl_30, xl_59, xl_63, xl_64, xl_99, xl_100, xl_120, xl_999, xl_m1, xl_m2, xl_m3, xl_m4, xl_m5, xL_0, xL_1, xL_2, xL_3, xL_4, xL_5, xL_6, xL_7, xL_8, xL_20, xL_59, xL_63, xL_99, xL_999] at *; omega) | (exfalso; simp_all; done))
  · refine P0.go (k := 6) (s' := (xcmp .lt (a) (1) 17 14, [some (.ref 56), some (.int a), none, none], [], 102, xshD, xMt)) rfl ?_
    refine P0.lt (fun h2 => ?_) (fun h2 => ?_)
    · refine P0.go (k := 4) (s' := (26, [some (.ref 56), some (.int a), none, none], [.int (-3)], 102, xshD, xMt)) rfl ?_
      refine P0.ret (v := some (.int (-3))) rfl ?_
      exact congrArg (fun z => some (Value.int z)) (show (-3) = F_vote a from by unfold F_vote; (repeat' split) <;> first | rfl | (exfalso; simp only [Int32.lt_iff_toInt_lt, Int32.le_iff_toInt_le, Int64.lt_iff_toInt_lt, Int64.le_iff_toInt_le, ← Int32.toInt_inj, Int32.toInt_toInt64, xl_0, xl_1, xl_2, xl_3, xl_4, xl_5, xl_6, xl_7, xl_8, xl_9, xl_10, xl_11, xl_12, xl_13, xl_20, xl_30, xl_59, xl_63, xl_64, xl_99, xl_100, xl_120, xl_999, xl_m1, xl_m2, xl_m3, xl_m4, xl_m5, xL_0, xL_1, xL_2, xL_3, xL_4, xL_5, xL_6, xL_7, xL_8, xL_20, xL_59, xL_63, xL_99, xL_999] at *; omega) | (exfalso; simp_all; done))
    · refine P0.go (k := 1) (s' := (16, [some (.ref 56), some (.int a), none, none], [.int (-2)], 102, xshD, xMt)) rfl ?_
      refine P0.ret (v := some (.int (-2))) rfl ?_
      exact congrArg (fun z => some (Value.int z)) (show (-2) = F_vote a from by unfold F_vote; (repeat' split) <;> first | rfl | (exfalso; simp only [Int32.lt_iff_toInt_lt, Int32.le_iff_toInt_le, Int64.lt_iff_toInt_lt, Int64.le_iff_toInt_le, ← Int32.toInt_inj, Int32.toInt_toInt64, xl_0, xl_1, xl_2, xl_3, xl_4, xl_5, xl_6, xl_7, xl_8, xl_9, xl_10, xl_11, xl_12, xl_13, xl_20, xl_30, xl_59, xl_63, xl_64, xl_99, xl_100, xl_120, xl_999, xl_m1, xl_m2, xl_m3, xl_m4, xl_m5, xL_0, xL_1, xL_2, xL_3, xL_4, xL_5, xL_6, xL_7, xL_8, xL_20, xL_59, xL_63, xL_99, xL_999] at *; omega) | (exfalso; simp_all; done))
set_option maxRecDepth 100000 in
set_option maxHeartbeats 4000000 in
theorem wm_motion (a b : Int32) : P0 192 (0, [some (.ref 56), some (.int a), some (.int b)], [], 102, xshD, xMt) (fun r => r.1 = some (.int (F_motion a b))) := by
  refine P0.go (k := 2) (s' := (xcmp .lt (a) (0) 12 4, [some (.ref 56), some (.int a), some (.int b)], [], 102, xshD, xMt)) rfl ?_
  refine P0.lt (fun h1 => ?_) (fun h1 => ?_)
  · refine P0.go (k := 1) (s' := (13, [some (.ref 56), some (.int a), some (.int b)], [.int (-1)], 102, xshD, xMt)) rfl ?_
    refine P0.ret (v := some (.int (-1))) rfl ?_
    exact congrArg (fun z => some (Value.int z)) (show (-1) = F_motion a b from by unfold F_motion; (repeat' split) <;> first | rfl | (exfalso; simp only [Int32.lt_iff_toInt_lt, Int32.le_iff_toInt_le, Int64.lt_iff_toInt_lt, Int64.le_iff_toInt_le, ← Int32.toInt_inj, Int32.toInt_toInt64, xl_0, xl_1, xl_2, xl_3, xl_4, xl_5, xl_6, xl_7, xl_8, xl_9, xl_10, xl_11, xl_12, xl_13, xl_20, xl_30, xl_59, xl_63, xl_64, xl_99, xl_100, xl_120, xl_999, xl_m1, xl_m2, xl_m3, xl_m4, xl_m5, xL_0, xL_1, xL_2, xL_3, xL_4, xL_5, xL_6, xL_7, xL_8, xL_20, xL_59, xL_63, xL_99, xL_999] at *; omega) | (exfalso; simp_all; done))
  · refine P0.go (k := 4) (s' := (xcmp .lt (a) (0) 14 12, [some (.ref 56), some (.int a), some (.int b)], [], 102, xshD, xMt)) rfl ?_
    refine P0.lt (fun h2 => absurd True.intro (by exfalso; simp only [Int32.lt_iff_toInt_lt, Int32.le_iff_toInt_le, Int64.lt_iff_toInt_lt, Int64.le_iff_toInt_le, ← Int32.toInt_inj, Int32.toInt_toInt64, xl_0, xl_1, xl_2, xl_3, xl_4, xl_5, xl_6, xl_7, xl_8, xl_9, xl_10, xl_11, xl_12, xl_13, xl_20, xl_30, xl_59, xl_63, xl_64, xl_99, xl_100, xl_120, xl_999, xl_m1, xl_m2, xl_m3, xl_m4, xl_m5, xL_0, xL_1, xL_2, xL_3, xL_4, xL_5, xL_6, xL_7, xL_8, xL_20, xL_59, xL_63, xL_99, xL_999] at *; omega)) (fun h2 => ?_)
    refine P0.go (k := 1) (s' := (13, [some (.ref 56), some (.int a), some (.int b)], [.int (-1)], 102, xshD, xMt)) rfl ?_
    refine P0.ret (v := some (.int (-1))) rfl ?_
    exact congrArg (fun z => some (Value.int z)) (show (-1) = F_motion a b from by unfold F_motion; (repeat' split) <;> first | rfl | (exfalso; simp only [Int32.lt_iff_toInt_lt, Int32.le_iff_toInt_le, Int64.lt_iff_toInt_lt, Int64.le_iff_toInt_le, ← Int32.toInt_inj, Int32.toInt_toInt64, xl_0, xl_1, xl_2, xl_3, xl_4, xl_5, xl_6, xl_7, xl_8, xl_9, xl_10, xl_11, xl_12, xl_13, xl_20, xl_30, xl_59, xl_63, xl_64, xl_99, xl_100, xl_120, xl_999, xl_m1, xl_m2, xl_m3, xl_m4, xl_m5, xL_0, xL_1, xL_2, xL_3, xL_4, xL_5, xL_6, xL_7, xL_8, xL_20, xL_59, xL_63, xL_99, xL_999] at *; omega) | (exfalso; simp_all; done))
set_option maxRecDepth 100000 in
set_option maxHeartbeats 4000000 in
theorem wm_bind (a b : Int32) : P0 193 (0, [some (.ref 56), some (.int a), some (.int b), none], [], 102, xshD, xMt) (fun r => r.1 = some (.int (F_bind a b))) := by
  refine P0.go (k := 1) (s' := (1, [some (.ref 56), some (.int a), some (.int b), none], [.int a], 102, xshD, xMt)) rfl ?_
  refine P0.call (z := 156) (as := [.int a]) (pc := 4) (pl := [some (.ref 56), some (.int a), some (.int b), none]) (st := []) (nz := 102) (sh := xshD) (M := xMt) rfl (Nat.le_of_ble_eq_true rfl) ?_
  show P0 156 (0, [some (.int a)], [], 102, xshD, xMt) _
  refine P0.go (k := 4) (s' := (6, [some (.int a)], [.long 7, .long 0, .long a.toInt64], 102, xshD, xMt)) rfl ?_
  refine P0.call (z := 154) (as := [.long a.toInt64, .long 0, .long 7]) (pc := 9) (pl := [some (.int a)]) (st := []) (nz := 102) (sh := xshD) (M := xMt) rfl (Nat.le_of_ble_eq_true rfl) ?_
  show P0 154 (0, [some (.long a.toInt64), none, some (.long 0), none, some (.long 7), none], [], 102, xshD, xMt) _
  refine P0.go (k := 4) (s' := (xcmp .lt (lg_cmp (a.toInt64) 0) (0) 17 6, [some (.long a.toInt64), none, some (.long 0), none, some (.long 7), none], [], 102, xshD, xMt)) rfl ?_
  refine P0.llt (fun h1 => ?_) (fun h1 => ?_)
  · refine P0.go (k := 1) (s' := (18, [some (.long a.toInt64), none, some (.long 0), none, some (.long 7), none], [.int 0], 102, xshD, xMt)) rfl ?_
    refine P0.ret (v := some (.int 0)) rfl ?_
    refine ⟨rfl, ?_⟩
    show P0 156 (9, [some (.int a)], [.int 0], 102, xshD, xMt) _
    refine P0.ret (v := some (.int 0)) rfl ?_
    refine ⟨rfl, ?_⟩
    show P0 193 (4, [some (.ref 56), some (.int a), some (.int b), none], [.int 0], 102, xshD, xMt) _
    refine P0.go (k := 2) (s' := (21, [some (.ref 56), some (.int a), some (.int b), none], [.int (-5)], 102, xshD, xMt)) rfl ?_
    refine P0.ret (v := some (.int (-5))) rfl ?_
    exact congrArg (fun z => some (Value.int z)) (show (-5) = F_bind a b from by unfold F_bind; (repeat' split) <;> first | rfl | (exfalso; simp only [Int32.lt_iff_toInt_lt, Int32.le_iff_toInt_le, Int64.lt_iff_toInt_lt, Int64.le_iff_toInt_le, ← Int32.toInt_inj, Int32.toInt_toInt64, xl_0, xl_1, xl_2, xl_3, xl_4, xl_5, xl_6, xl_7, xl_8, xl_9, xl_10, xl_11, xl_12, xl_13, xl_20, xl_30, xl_59, xl_63, xl_64, xl_99, xl_100, xl_120, xl_999, xl_m1, xl_m2, xl_m3, xl_m4, xl_m5, xL_0, xL_1, xL_2, xL_3, xL_4, xL_5, xL_6, xL_7, xL_8, xL_20, xL_59, xL_63, xL_99, xL_999] at *; omega) | (exfalso; simp_all; done))
  · refine P0.go (k := 4) (s' := (xcmp .gt (lg_cmp (a.toInt64) 7) (0) 17 13, [some (.long a.toInt64), none, some (.long 0), none, some (.long 7), none], [], 102, xshD, xMt)) rfl ?_
    refine P0.lgt (fun h2 => ?_) (fun h2 => ?_)
    · refine P0.go (k := 1) (s' := (18, [some (.long a.toInt64), none, some (.long 0), none, some (.long 7), none], [.int 0], 102, xshD, xMt)) rfl ?_
      refine P0.ret (v := some (.int 0)) rfl ?_
      refine ⟨rfl, ?_⟩
      show P0 156 (9, [some (.int a)], [.int 0], 102, xshD, xMt) _
      refine P0.ret (v := some (.int 0)) rfl ?_
      refine ⟨rfl, ?_⟩
      show P0 193 (4, [some (.ref 56), some (.int a), some (.int b), none], [.int 0], 102, xshD, xMt) _
      refine P0.go (k := 2) (s' := (21, [some (.ref 56), some (.int a), some (.int b), none], [.int (-5)], 102, xshD, xMt)) rfl ?_
      refine P0.ret (v := some (.int (-5))) rfl ?_
      exact congrArg (fun z => some (Value.int z)) (show (-5) = F_bind a b from by unfold F_bind; (repeat' split) <;> first | rfl | (exfalso; simp only [Int32.lt_iff_toInt_lt, Int32.le_iff_toInt_le, Int64.lt_iff_toInt_lt, Int64.le_iff_toInt_le, ← Int32.toInt_inj, Int32.toInt_toInt64, xl_0, xl_1, xl_2, xl_3, xl_4, xl_5, xl_6, xl_7, xl_8, xl_9, xl_10, xl_11, xl_12, xl_13, xl_20, xl_30, xl_59, xl_63, xl_64, xl_99, xl_100, xl_120, xl_999, xl_m1, xl_m2, xl_m3, xl_m4, xl_m5, xL_0, xL_1, xL_2, xL_3, xL_4, xL_5, xL_6, xL_7, xL_8, xL_20, xL_59, xL_63, xL_99, xL_999] at *; omega) | (exfalso; simp_all; done))
    · refine P0.go (k := 2) (s' := (18, [some (.long a.toInt64), none, some (.long 0), none, some (.long 7), none], [.int 1], 102, xshD, xMt)) rfl ?_
      refine P0.ret (v := some (.int 1)) rfl ?_
      refine ⟨rfl, ?_⟩
      show P0 156 (9, [some (.int a)], [.int 1], 102, xshD, xMt) _
      refine P0.ret (v := some (.int 1)) rfl ?_
      refine ⟨rfl, ?_⟩
      show P0 193 (4, [some (.ref 56), some (.int a), some (.int b), none], [.int 1], 102, xshD, xMt) _
      refine P0.go (k := 4) (s' := (xcmp .eq (b) ((-1)) 22 12, [some (.ref 56), some (.int a), some (.int b), none], [], 102, xshD, xMt)) rfl ?_
      refine P0.eq (fun h3 => ?_) (fun h3 => ?_)
      · refine P0.go (k := 3) (s' := (27, [some (.ref 56), some (.int a), some (.int b), none], [.int a, .ref 90], 102, xshD, xMt)) rfl ?_
        by_cases h4 : a = 0
        · subst h4
          refine P0.go (k := 8) (s' := (37, [some (.ref 56), some (.int 0), some (.int b), some (.int (-1))], [.int (-1)], 102, xshD, (xup xMt 90 0 (b)))) rfl ?_
          refine P0.ret (v := some (.int (-1))) rfl ?_
          exact congrArg (fun z => some (Value.int z)) (show (-1) = F_bind 0 b from by unfold F_bind; (repeat' split) <;> first | rfl | (exfalso; simp only [Int32.lt_iff_toInt_lt, Int32.le_iff_toInt_le, Int64.lt_iff_toInt_lt, Int64.le_iff_toInt_le, ← Int32.toInt_inj, Int32.toInt_toInt64, xl_0, xl_1, xl_2, xl_3, xl_4, xl_5, xl_6, xl_7, xl_8, xl_9, xl_10, xl_11, xl_12, xl_13, xl_20, xl_30, xl_59, xl_63, xl_64, xl_99, xl_100, xl_120, xl_999, xl_m1, xl_m2, xl_m3, xl_m4, xl_m5, xL_0, xL_1, xL_2, xL_3, xL_4, xL_5, xL_6, xL_7, xL_8, xL_20, xL_59, xL_63, xL_99, xL_999] at *; omega) | (exfalso; simp_all; done))
        by_cases h5 : a = 1
        · subst h5
          refine P0.go (k := 8) (s' := (37, [some (.ref 56), some (.int 1), some (.int b), some (.int (-1))], [.int (-1)], 102, xshD, (xup xMt 90 1 (b)))) rfl ?_
          refine P0.ret (v := some (.int (-1))) rfl ?_
          exact congrArg (fun z => some (Value.int z)) (show (-1) = F_bind 1 b from by unfold F_bind; (repeat' split) <;> first | rfl | (exfalso; simp only [Int32.lt_iff_toInt_lt, Int32.le_iff_toInt_le, Int64.lt_iff_toInt_lt, Int64.le_iff_toInt_le, ← Int32.toInt_inj, Int32.toInt_toInt64, xl_0, xl_1, xl_2, xl_3, xl_4, xl_5, xl_6, xl_7, xl_8, xl_9, xl_10, xl_11, xl_12, xl_13, xl_20, xl_30, xl_59, xl_63, xl_64, xl_99, xl_100, xl_120, xl_999, xl_m1, xl_m2, xl_m3, xl_m4, xl_m5, xL_0, xL_1, xL_2, xL_3, xL_4, xL_5, xL_6, xL_7, xL_8, xL_20, xL_59, xL_63, xL_99, xL_999] at *; omega) | (exfalso; simp_all; done))
        by_cases h6 : a = 2
        · subst h6
          refine P0.go (k := 8) (s' := (37, [some (.ref 56), some (.int 2), some (.int b), some (.int (-1))], [.int (-1)], 102, xshD, (xup xMt 90 2 (b)))) rfl ?_
          refine P0.ret (v := some (.int (-1))) rfl ?_
          exact congrArg (fun z => some (Value.int z)) (show (-1) = F_bind 2 b from by unfold F_bind; (repeat' split) <;> first | rfl | (exfalso; simp only [Int32.lt_iff_toInt_lt, Int32.le_iff_toInt_le, Int64.lt_iff_toInt_lt, Int64.le_iff_toInt_le, ← Int32.toInt_inj, Int32.toInt_toInt64, xl_0, xl_1, xl_2, xl_3, xl_4, xl_5, xl_6, xl_7, xl_8, xl_9, xl_10, xl_11, xl_12, xl_13, xl_20, xl_30, xl_59, xl_63, xl_64, xl_99, xl_100, xl_120, xl_999, xl_m1, xl_m2, xl_m3, xl_m4, xl_m5, xL_0, xL_1, xL_2, xL_3, xL_4, xL_5, xL_6, xL_7, xL_8, xL_20, xL_59, xL_63, xL_99, xL_999] at *; omega) | (exfalso; simp_all; done))
        by_cases h7 : a = 3
        · subst h7
          refine P0.go (k := 8) (s' := (37, [some (.ref 56), some (.int 3), some (.int b), some (.int (-1))], [.int (-1)], 102, xshD, (xup xMt 90 3 (b)))) rfl ?_
          refine P0.ret (v := some (.int (-1))) rfl ?_
          exact congrArg (fun z => some (Value.int z)) (show (-1) = F_bind 3 b from by unfold F_bind; (repeat' split) <;> first | rfl | (exfalso; simp only [Int32.lt_iff_toInt_lt, Int32.le_iff_toInt_le, Int64.lt_iff_toInt_lt, Int64.le_iff_toInt_le, ← Int32.toInt_inj, Int32.toInt_toInt64, xl_0, xl_1, xl_2, xl_3, xl_4, xl_5, xl_6, xl_7, xl_8, xl_9, xl_10, xl_11, xl_12, xl_13, xl_20, xl_30, xl_59, xl_63, xl_64, xl_99, xl_100, xl_120, xl_999, xl_m1, xl_m2, xl_m3, xl_m4, xl_m5, xL_0, xL_1, xL_2, xL_3, xL_4, xL_5, xL_6, xL_7, xL_8, xL_20, xL_59, xL_63, xL_99, xL_999] at *; omega) | (exfalso; simp_all; done))
        by_cases h8 : a = 4
        · subst h8
          refine P0.go (k := 8) (s' := (37, [some (.ref 56), some (.int 4), some (.int b), some (.int (-1))], [.int (-1)], 102, xshD, (xup xMt 90 4 (b)))) rfl ?_
          refine P0.ret (v := some (.int (-1))) rfl ?_
          exact congrArg (fun z => some (Value.int z)) (show (-1) = F_bind 4 b from by unfold F_bind; (repeat' split) <;> first | rfl | (exfalso; simp only [Int32.lt_iff_toInt_lt, Int32.le_iff_toInt_le, Int64.lt_iff_toInt_lt, Int64.le_iff_toInt_le, ← Int32.toInt_inj, Int32.toInt_toInt64, xl_0, xl_1, xl_2, xl_3, xl_4, xl_5, xl_6, xl_7, xl_8, xl_9, xl_10, xl_11, xl_12, xl_13, xl_20, xl_30, xl_59, xl_63, xl_64, xl_99, xl_100, xl_120, xl_999, xl_m1, xl_m2, xl_m3, xl_m4, xl_m5, xL_0, xL_1, xL_2, xL_3, xL_4, xL_5, xL_6, xL_7, xL_8, xL_20, xL_59, xL_63, xL_99, xL_999] at *; omega) | (exfalso; simp_all; done))
        by_cases h9 : a = 5
        · subst h9
          refine P0.go (k := 8) (s' := (37, [some (.ref 56), some (.int 5), some (.int b), some (.int (-1))], [.int (-1)], 102, xshD, (xup xMt 90 5 (b)))) rfl ?_
          refine P0.ret (v := some (.int (-1))) rfl ?_
          exact congrArg (fun z => some (Value.int z)) (show (-1) = F_bind 5 b from by unfold F_bind; (repeat' split) <;> first | rfl | (exfalso; simp only [Int32.lt_iff_toInt_lt, Int32.le_iff_toInt_le, Int64.lt_iff_toInt_lt, Int64.le_iff_toInt_le, ← Int32.toInt_inj, Int32.toInt_toInt64, xl_0, xl_1, xl_2, xl_3, xl_4, xl_5, xl_6, xl_7, xl_8, xl_9, xl_10, xl_11, xl_12, xl_13, xl_20, xl_30, xl_59, xl_63, xl_64, xl_99, xl_100, xl_120, xl_999, xl_m1, xl_m2, xl_m3, xl_m4, xl_m5, xL_0, xL_1, xL_2, xL_3, xL_4, xL_5, xL_6, xL_7, xL_8, xL_20, xL_59, xL_63, xL_99, xL_999] at *; omega) | (exfalso; simp_all; done))
        by_cases h10 : a = 6
        · subst h10
          refine P0.go (k := 8) (s' := (37, [some (.ref 56), some (.int 6), some (.int b), some (.int (-1))], [.int (-1)], 102, xshD, (xup xMt 90 6 (b)))) rfl ?_
          refine P0.ret (v := some (.int (-1))) rfl ?_
          exact congrArg (fun z => some (Value.int z)) (show (-1) = F_bind 6 b from by unfold F_bind; (repeat' split) <;> first | rfl | (exfalso; simp only [Int32.lt_iff_toInt_lt, Int32.le_iff_toInt_le, Int64.lt_iff_toInt_lt, Int64.le_iff_toInt_le, ← Int32.toInt_inj, Int32.toInt_toInt64, xl_0, xl_1, xl_2, xl_3, xl_4, xl_5, xl_6, xl_7, xl_8, xl_9, xl_10, xl_11, xl_12, xl_13, xl_20, xl_30, xl_59, xl_63, xl_64, xl_99, xl_100, xl_120, xl_999, xl_m1, xl_m2, xl_m3, xl_m4, xl_m5, xL_0, xL_1, xL_2, xL_3, xL_4, xL_5, xL_6, xL_7, xL_8, xL_20, xL_59, xL_63, xL_99, xL_999] at *; omega) | (exfalso; simp_all; done))
        by_cases h11 : a = 7
        · subst h11
          refine P0.go (k := 8) (s' := (37, [some (.ref 56), some (.int 7), some (.int b), some (.int (-1))], [.int (-1)], 102, xshD, (xup xMt 90 7 (b)))) rfl ?_
          refine P0.ret (v := some (.int (-1))) rfl ?_
          exact congrArg (fun z => some (Value.int z)) (show (-1) = F_bind 7 b from by unfold F_bind; (repeat' split) <;> first | rfl | (exfalso; simp only [Int32.lt_iff_toInt_lt, Int32.le_iff_toInt_le, Int64.lt_iff_toInt_lt, Int64.le_iff_toInt_le, ← Int32.toInt_inj, Int32.toInt_toInt64, xl_0, xl_1, xl_2, xl_3, xl_4, xl_5, xl_6, xl_7, xl_8, xl_9, xl_10, xl_11, xl_12, xl_13, xl_20, xl_30, xl_59, xl_63, xl_64, xl_99, xl_100, xl_120, xl_999, xl_m1, xl_m2, xl_m3, xl_m4, xl_m5, xL_0, xL_1, xL_2, xL_3, xL_4, xL_5, xL_6, xL_7, xL_8, xL_20, xL_59, xL_63, xL_99, xL_999] at *; omega) | (exfalso; simp_all; done))
        exact absurd True.intro (by exfalso; simp only [Int32.lt_iff_toInt_lt, Int32.le_iff_toInt_le, Int64.lt_iff_toInt_lt, Int64.le_iff_toInt_le, ← Int32.toInt_inj, Int32.toInt_toInt64, xl_0, xl_1, xl_2, xl_3, xl_4, xl_5, xl_6, xl_7, xl_8, xl_9, xl_10, xl_11, xl_12, xl_13, xl_20, xl_30, xl_59, xl_63, xl_64, xl_99, xl_100, xl_120, xl_999, xl_m1, xl_m2, xl_m3, xl_m4, xl_m5, xL_0, xL_1, xL_2, xL_3, xL_4, xL_5, xL_6, xL_7, xL_8, xL_20, xL_59, xL_63, xL_99, xL_999] at *; omega)
      · refine P0.go (k := 1) (s' := (13, [some (.ref 56), some (.int a), some (.int b), none], [.int b], 102, xshD, xMt)) rfl ?_
        refine P0.call (z := 156) (as := [.int b]) (pc := 16) (pl := [some (.ref 56), some (.int a), some (.int b), none]) (st := []) (nz := 102) (sh := xshD) (M := xMt) rfl (Nat.le_of_ble_eq_true rfl) ?_
        show P0 156 (0, [some (.int b)], [], 102, xshD, xMt) _
        refine P0.go (k := 4) (s' := (6, [some (.int b)], [.long 7, .long 0, .long b.toInt64], 102, xshD, xMt)) rfl ?_
        refine P0.call (z := 154) (as := [.long b.toInt64, .long 0, .long 7]) (pc := 9) (pl := [some (.int b)]) (st := []) (nz := 102) (sh := xshD) (M := xMt) rfl (Nat.le_of_ble_eq_true rfl) ?_
        show P0 154 (0, [some (.long b.toInt64), none, some (.long 0), none, some (.long 7), none], [], 102, xshD, xMt) _
        refine P0.go (k := 4) (s' := (xcmp .lt (lg_cmp (b.toInt64) 0) (0) 17 6, [some (.long b.toInt64), none, some (.long 0), none, some (.long 7), none], [], 102, xshD, xMt)) rfl ?_
        refine P0.llt (fun h12 => ?_) (fun h12 => ?_)
        · refine P0.go (k := 1) (s' := (18, [some (.long b.toInt64), none, some (.long 0), none, some (.long 7), none], [.int 0], 102, xshD, xMt)) rfl ?_
          refine P0.ret (v := some (.int 0)) rfl ?_
          refine ⟨rfl, ?_⟩
          show P0 156 (9, [some (.int b)], [.int 0], 102, xshD, xMt) _
          refine P0.ret (v := some (.int 0)) rfl ?_
          refine ⟨rfl, ?_⟩
          show P0 193 (16, [some (.ref 56), some (.int a), some (.int b), none], [.int 0], 102, xshD, xMt) _
          refine P0.go (k := 2) (s' := (21, [some (.ref 56), some (.int a), some (.int b), none], [.int (-5)], 102, xshD, xMt)) rfl ?_
          refine P0.ret (v := some (.int (-5))) rfl ?_
          exact congrArg (fun z => some (Value.int z)) (show (-5) = F_bind a b from by unfold F_bind; (repeat' split) <;> first | rfl | (exfalso; simp only [Int32.lt_iff_toInt_lt, Int32.le_iff_toInt_le, Int64.lt_iff_toInt_lt, Int64.le_iff_toInt_le, ← Int32.toInt_inj, Int32.toInt_toInt64, xl_0, xl_1, xl_2, xl_3, xl_4, xl_5, xl_6, xl_7, xl_8, xl_9, xl_10, xl_11, xl_12, xl_13, xl_20, xl_30, xl_59, xl_63, xl_64, xl_99, xl_100, xl_120, xl_999, xl_m1, xl_m2, xl_m3, xl_m4, xl_m5, xL_0, xL_1, xL_2, xL_3, xL_4, xL_5, xL_6, xL_7, xL_8, xL_20, xL_59, xL_63, xL_99, xL_999] at *; omega) | (exfalso; simp_all; done))
        · refine P0.go (k := 4) (s' := (xcmp .gt (lg_cmp (b.toInt64) 7) (0) 17 13, [some (.long b.toInt64), none, some (.long 0), none, some (.long 7), none], [], 102, xshD, xMt)) rfl ?_
          refine P0.lgt (fun h13 => ?_) (fun h13 => ?_)
          · refine P0.go (k := 1) (s' := (18, [some (.long b.toInt64), none, some (.long 0), none, some (.long 7), none], [.int 0], 102, xshD, xMt)) rfl ?_
            refine P0.ret (v := some (.int 0)) rfl ?_
            refine ⟨rfl, ?_⟩
            show P0 156 (9, [some (.int b)], [.int 0], 102, xshD, xMt) _
            refine P0.ret (v := some (.int 0)) rfl ?_
            refine ⟨rfl, ?_⟩
            show P0 193 (16, [some (.ref 56), some (.int a), some (.int b), none], [.int 0], 102, xshD, xMt) _
            refine P0.go (k := 2) (s' := (21, [some (.ref 56), some (.int a), some (.int b), none], [.int (-5)], 102, xshD, xMt)) rfl ?_
            refine P0.ret (v := some (.int (-5))) rfl ?_
            exact congrArg (fun z => some (Value.int z)) (show (-5) = F_bind a b from by unfold F_bind; (repeat' split) <;> first | rfl | (exfalso; simp only [Int32.lt_iff_toInt_lt, Int32.le_iff_toInt_le, Int64.lt_iff_toInt_lt, Int64.le_iff_toInt_le, ← Int32.toInt_inj, Int32.toInt_toInt64, xl_0, xl_1, xl_2, xl_3, xl_4, xl_5, xl_6, xl_7, xl_8, xl_9, xl_10, xl_11, xl_12, xl_13, xl_20, xl_30, xl_59, xl_63, xl_64, xl_99, xl_100, xl_120, xl_999, xl_m1, xl_m2, xl_m3, xl_m4, xl_m5, xL_0, xL_1, xL_2, xL_3, xL_4, xL_5, xL_6, xL_7, xL_8, xL_20, xL_59, xL_63, xL_99, xL_999] at *; omega) | (exfalso; simp_all; done))
          · refine P0.go (k := 2) (s' := (18, [some (.long b.toInt64), none, some (.long 0), none, some (.long 7), none], [.int 1], 102, xshD, xMt)) rfl ?_
            refine P0.ret (v := some (.int 1)) rfl ?_
            refine ⟨rfl, ?_⟩
            show P0 156 (9, [some (.int b)], [.int 1], 102, xshD, xMt) _
            refine P0.ret (v := some (.int 1)) rfl ?_
            refine ⟨rfl, ?_⟩
            show P0 193 (16, [some (.ref 56), some (.int a), some (.int b), none], [.int 1], 102, xshD, xMt) _
            refine P0.go (k := 4) (s' := (27, [some (.ref 56), some (.int a), some (.int b), none], [.int a, .ref 90], 102, xshD, xMt)) rfl ?_
            by_cases h14 : a = 0
            · subst h14
              refine P0.go (k := 8) (s' := (37, [some (.ref 56), some (.int 0), some (.int b), some (.int (-1))], [.int (-1)], 102, xshD, (xup xMt 90 0 (b)))) rfl ?_
              refine P0.ret (v := some (.int (-1))) rfl ?_
              exact congrArg (fun z => some (Value.int z)) (show (-1) = F_bind 0 b from by unfold F_bind; (repeat' split) <;> first | rfl | (exfalso; simp only [Int32.lt_iff_toInt_lt, Int32.le_iff_toInt_le, Int64.lt_iff_toInt_lt, Int64.le_iff_toInt_le, ← Int32.toInt_inj, Int32.toInt_toInt64, xl_0, xl_1, xl_2, xl_3, xl_4, xl_5, xl_6, xl_7, xl_8, xl_9, xl_10, xl_11, xl_12, xl_13, xl_20, xl_30, xl_59, xl_63, xl_64, xl_99, xl_100, xl_120, xl_999, xl_m1, xl_m2, xl_m3, xl_m4, xl_m5, xL_0, xL_1, xL_2, xL_3, xL_4, xL_5, xL_6, xL_7, xL_8, xL_20, xL_59, xL_63, xL_99, xL_999] at *; omega) | (exfalso; simp_all; done))
            by_cases h15 : a = 1
            · subst h15
              refine P0.go (k := 8) (s' := (37, [some (.ref 56), some (.int 1), some (.int b), some (.int (-1))], [.int (-1)], 102, xshD, (xup xMt 90 1 (b)))) rfl ?_
              refine P0.ret (v := some (.int (-1))) rfl ?_
              exact congrArg (fun z => some (Value.int z)) (show (-1) = F_bind 1 b from by unfold F_bind; (repeat' split) <;> first | rfl | (exfalso; simp only [Int32.lt_iff_toInt_lt, Int32.le_iff_toInt_le, Int64.lt_iff_toInt_lt, Int64.le_iff_toInt_le, ← Int32.toInt_inj, Int32.toInt_toInt64, xl_0, xl_1, xl_2, xl_3, xl_4, xl_5, xl_6, xl_7, xl_8, xl_9, xl_10, xl_11, xl_12, xl_13, xl_20, xl_30, xl_59, xl_63, xl_64, xl_99, xl_100, xl_120, xl_999, xl_m1, xl_m2, xl_m3, xl_m4, xl_m5, xL_0, xL_1, xL_2, xL_3, xL_4, xL_5, xL_6, xL_7, xL_8, xL_20, xL_59, xL_63, xL_99, xL_999] at *; omega) | (exfalso; simp_all; done))
            by_cases h16 : a = 2
            · subst h16
              refine P0.go (k := 8) (s' := (37, [some (.ref 56), some (.int 2), some (.int b), some (.int (-1))], [.int (-1)], 102, xshD, (xup xMt 90 2 (b)))) rfl ?_
              refine P0.ret (v := some (.int (-1))) rfl ?_
              exact congrArg (fun z => some (Value.int z)) (show (-1) = F_bind 2 b from by unfold F_bind; (repeat' split) <;> first | rfl | (exfalso; simp only [Int32.lt_iff_toInt_lt, Int32.le_iff_toInt_le, Int64.lt_iff_toInt_lt, Int64.le_iff_toInt_le, ← Int32.toInt_inj, Int32.toInt_toInt64, xl_0, xl_1, xl_2, xl_3, xl_4, xl_5, xl_6, xl_7, xl_8, xl_9, xl_10, xl_11, xl_12, xl_13, xl_20, xl_30, xl_59, xl_63, xl_64, xl_99, xl_100, xl_120, xl_999, xl_m1, xl_m2, xl_m3, xl_m4, xl_m5, xL_0, xL_1, xL_2, xL_3, xL_4, xL_5, xL_6, xL_7, xL_8, xL_20, xL_59, xL_63, xL_99, xL_999] at *; omega) | (exfalso; simp_all; done))
            by_cases h17 : a = 3
            · subst h17
              refine P0.go (k := 8) (s' := (37, [some (.ref 56), some (.int 3), some (.int b), some (.int (-1))], [.int (-1)], 102, xshD, (xup xMt 90 3 (b)))) rfl ?_
              refine P0.ret (v := some (.int (-1))) rfl ?_
              exact congrArg (fun z => some (Value.int z)) (show (-1) = F_bind 3 b from by unfold F_bind; (repeat' split) <;> first | rfl | (exfalso; simp only [Int32.lt_iff_toInt_lt, Int32.le_iff_toInt_le, Int64.lt_iff_toInt_lt, Int64.le_iff_toInt_le, ← Int32.toInt_inj, Int32.toInt_toInt64, xl_0, xl_1, xl_2, xl_3, xl_4, xl_5, xl_6, xl_7, xl_8, xl_9, xl_10, xl_11, xl_12, xl_13, xl_20, xl_30, xl_59, xl_63, xl_64, xl_99, xl_100, xl_120, xl_999, xl_m1, xl_m2, xl_m3, xl_m4, xl_m5, xL_0, xL_1, xL_2, xL_3, xL_4, xL_5, xL_6, xL_7, xL_8, xL_20, xL_59, xL_63, xL_99, xL_999] at *; omega) | (exfalso; simp_all; done))
            by_cases h18 : a = 4
            · subst h18
              refine P0.go (k := 8) (s' := (37, [some (.ref 56), some (.int 4), some (.int b), some (.int (-1))], [.int (-1)], 102, xshD, (xup xMt 90 4 (b)))) rfl ?_
              refine P0.ret (v := some (.int (-1))) rfl ?_
              exact congrArg (fun z => some (Value.int z)) (show (-1) = F_bind 4 b from by unfold F_bind; (repeat' split) <;> first | rfl | (exfalso; simp only [Int32.lt_iff_toInt_lt, Int32.le_iff_toInt_le, Int64.lt_iff_toInt_lt, Int64.le_iff_toInt_le, ← Int32.toInt_inj, Int32.toInt_toInt64, xl_0, xl_1, xl_2, xl_3, xl_4, xl_5, xl_6, xl_7, xl_8, xl_9, xl_10, xl_11, xl_12, xl_13, xl_20, xl_30, xl_59, xl_63, xl_64, xl_99, xl_100, xl_120, xl_999, xl_m1, xl_m2, xl_m3, xl_m4, xl_m5, xL_0, xL_1, xL_2, xL_3, xL_4, xL_5, xL_6, xL_7, xL_8, xL_20, xL_59, xL_63, xL_99, xL_999] at *; omega) | (exfalso; simp_all; done))
            by_cases h19 : a = 5
            · subst h19
              refine P0.go (k := 8) (s' := (37, [some (.ref 56), some (.int 5), some (.int b), some (.int (-1))], [.int (-1)], 102, xshD, (xup xMt 90 5 (b)))) rfl ?_
              refine P0.ret (v := some (.int (-1))) rfl ?_
              exact congrArg (fun z => some (Value.int z)) (show (-1) = F_bind 5 b from by unfold F_bind; (repeat' split) <;> first | rfl | (exfalso; simp only [Int32.lt_iff_toInt_lt, Int32.le_iff_toInt_le, Int64.lt_iff_toInt_lt, Int64.le_iff_toInt_le, ← Int32.toInt_inj, Int32.toInt_toInt64, xl_0, xl_1, xl_2, xl_3, xl_4, xl_5, xl_6, xl_7, xl_8, xl_9, xl_10, xl_11, xl_12, xl_13, xl_20, xl_30, xl_59, xl_63, xl_64, xl_99, xl_100, xl_120, xl_999, xl_m1, xl_m2, xl_m3, xl_m4, xl_m5, xL_0, xL_1, xL_2, xL_3, xL_4, xL_5, xL_6, xL_7, xL_8, xL_20, xL_59, xL_63, xL_99, xL_999] at *; omega) | (exfalso; simp_all; done))
            by_cases h20 : a = 6
            · subst h20
              refine P0.go (k := 8) (s' := (37, [some (.ref 56), some (.int 6), some (.int b), some (.int (-1))], [.int (-1)], 102, xshD, (xup xMt 90 6 (b)))) rfl ?_
              refine P0.ret (v := some (.int (-1))) rfl ?_
              exact congrArg (fun z => some (Value.int z)) (show (-1) = F_bind 6 b from by unfold F_bind; (repeat' split) <;> first | rfl | (exfalso; simp only [Int32.lt_iff_toInt_lt, Int32.le_iff_toInt_le, Int64.lt_iff_toInt_lt, Int64.le_iff_toInt_le, ← Int32.toInt_inj, Int32.toInt_toInt64, xl_0, xl_1, xl_2, xl_3, xl_4, xl_5, xl_6, xl_7, xl_8, xl_9, xl_10, xl_11, xl_12, xl_13, xl_20, xl_30, xl_59, xl_63, xl_64, xl_99, xl_100, xl_120, xl_999, xl_m1, xl_m2, xl_m3, xl_m4, xl_m5, xL_0, xL_1, xL_2, xL_3, xL_4, xL_5, xL_6, xL_7, xL_8, xL_20, xL_59, xL_63, xL_99, xL_999] at *; omega) | (exfalso; simp_all; done))
            by_cases h21 : a = 7
            · subst h21
              refine P0.go (k := 8) (s' := (37, [some (.ref 56), some (.int 7), some (.int b), some (.int (-1))], [.int (-1)], 102, xshD, (xup xMt 90 7 (b)))) rfl ?_
              refine P0.ret (v := some (.int (-1))) rfl ?_
              exact congrArg (fun z => some (Value.int z)) (show (-1) = F_bind 7 b from by unfold F_bind; (repeat' split) <;> first | rfl | (exfalso; simp only [Int32.lt_iff_toInt_lt, Int32.le_iff_toInt_le, Int64.lt_iff_toInt_lt, Int64.le_iff_toInt_le, ← Int32.toInt_inj, Int32.toInt_toInt64, xl_0, xl_1, xl_2, xl_3, xl_4, xl_5, xl_6, xl_7, xl_8, xl_9, xl_10, xl_11, xl_12, xl_13, xl_20, xl_30, xl_59, xl_63, xl_64, xl_99, xl_100, xl_120, xl_999, xl_m1, xl_m2, xl_m3, xl_m4, xl_m5, xL_0, xL_1, xL_2, xL_3, xL_4, xL_5, xL_6, xL_7, xL_8, xL_20, xL_59, xL_63, xL_99, xL_999] at *; omega) | (exfalso; simp_all; done))
            exact absurd True.intro (by exfalso; simp only [Int32.lt_iff_toInt_lt, Int32.le_iff_toInt_le, Int64.lt_iff_toInt_lt, Int64.le_iff_toInt_le, ← Int32.toInt_inj, Int32.toInt_toInt64, xl_0, xl_1, xl_2, xl_3, xl_4, xl_5, xl_6, xl_7, xl_8, xl_9, xl_10, xl_11, xl_12, xl_13, xl_20, xl_30, xl_59, xl_63, xl_64, xl_99, xl_100, xl_120, xl_999, xl_m1, xl_m2, xl_m3, xl_m4, xl_m5, xL_0, xL_1, xL_2, xL_3, xL_4, xL_5, xL_6, xL_7, xL_8, xL_20, xL_59, xL_63, xL_99, xL_999] at *; omega)
set_option maxRecDepth 100000 in
set_option maxHeartbeats 4000000 in
theorem wm_release (a b : Int32) : P0 194 (0, [some (.ref 56), some (.int a), some (.int b), none], [], 102, xshD, xMt) (fun r => r.1 = some (.int (F_release a b))) := by
  refine P0.go (k := 1) (s' := (1, [some (.ref 56), some (.int a), some (.int b), none], [.int a], 102, xshD, xMt)) rfl ?_
  refine P0.call (z := 156) (as := [.int a]) (pc := 4) (pl := [some (.ref 56), some (.int a), some (.int b), none]) (st := []) (nz := 102) (sh := xshD) (M := xMt) rfl (Nat.le_of_ble_eq_true rfl) ?_
  show P0 156 (0, [some (.int a)], [], 102, xshD, xMt) _
  refine P0.go (k := 4) (s' := (6, [some (.int a)], [.long 7, .long 0, .long a.toInt64], 102, xshD, xMt)) rfl ?_
  refine P0.call (z := 154) (as := [.long a.toInt64, .long 0, .long 7]) (pc := 9) (pl := [some (.int a)]) (st := []) (nz := 102) (sh := xshD) (M := xMt) rfl (Nat.le_of_ble_eq_true rfl) ?_
  show P0 154 (0, [some (.long a.toInt64), none, some (.long 0), none, some (.long 7), none], [], 102, xshD, xMt) _
  refine P0.go (k := 4) (s' := (xcmp .lt (lg_cmp (a.toInt64) 0) (0) 17 6, [some (.long a.toInt64), none, some (.long 0), none, some (.long 7), none], [], 102, xshD, xMt)) rfl ?_
  refine P0.llt (fun h1 => ?_) (fun h1 => ?_)
  · refine P0.go (k := 1) (s' := (18, [some (.long a.toInt64), none, some (.long 0), none, some (.long 7), none], [.int 0], 102, xshD, xMt)) rfl ?_
    refine P0.ret (v := some (.int 0)) rfl ?_
    refine ⟨rfl, ?_⟩
    show P0 156 (9, [some (.int a)], [.int 0], 102, xshD, xMt) _
    refine P0.ret (v := some (.int 0)) rfl ?_
    refine ⟨rfl, ?_⟩
    show P0 194 (4, [some (.ref 56), some (.int a), some (.int b), none], [.int 0], 102, xshD, xMt) _
    refine P0.go (k := 2) (s' := (8, [some (.ref 56), some (.int a), some (.int b), none], [.int (-1)], 102, xshD, xMt)) rfl ?_
    refine P0.ret (v := some (.int (-1))) rfl ?_
    exact congrArg (fun z => some (Value.int z)) (show (-1) = F_release a b from by unfold F_release; (repeat' split) <;> first | rfl | (exfalso; simp only [Int32.lt_iff_toInt_lt, Int32.le_iff_toInt_le, Int64.lt_iff_toInt_lt, Int64.le_iff_toInt_le, ← Int32.toInt_inj, Int32.toInt_toInt64, xl_0, xl_1, xl_2, xl_3, xl_4, xl_5, xl_6, xl_7, xl_8, xl_9, xl_10, xl_11, xl_12, xl_13, xl_20, xl_30, xl_59, xl_63, xl_64, xl_99, xl_100, xl_120, xl_999, xl_m1, xl_m2, xl_m3, xl_m4, xl_m5, xL_0, xL_1, xL_2, xL_3, xL_4, xL_5, xL_6, xL_7, xL_8, xL_20, xL_59, xL_63, xL_99, xL_999] at *; omega) | (exfalso; simp_all; done))
  · refine P0.go (k := 4) (s' := (xcmp .gt (lg_cmp (a.toInt64) 7) (0) 17 13, [some (.long a.toInt64), none, some (.long 0), none, some (.long 7), none], [], 102, xshD, xMt)) rfl ?_
    refine P0.lgt (fun h2 => ?_) (fun h2 => ?_)
    · refine P0.go (k := 1) (s' := (18, [some (.long a.toInt64), none, some (.long 0), none, some (.long 7), none], [.int 0], 102, xshD, xMt)) rfl ?_
      refine P0.ret (v := some (.int 0)) rfl ?_
      refine ⟨rfl, ?_⟩
      show P0 156 (9, [some (.int a)], [.int 0], 102, xshD, xMt) _
      refine P0.ret (v := some (.int 0)) rfl ?_
      refine ⟨rfl, ?_⟩
      show P0 194 (4, [some (.ref 56), some (.int a), some (.int b), none], [.int 0], 102, xshD, xMt) _
      refine P0.go (k := 2) (s' := (8, [some (.ref 56), some (.int a), some (.int b), none], [.int (-1)], 102, xshD, xMt)) rfl ?_
      refine P0.ret (v := some (.int (-1))) rfl ?_
      exact congrArg (fun z => some (Value.int z)) (show (-1) = F_release a b from by unfold F_release; (repeat' split) <;> first | rfl | (exfalso; simp only [Int32.lt_iff_toInt_lt, Int32.le_iff_toInt_le, Int64.lt_iff_toInt_lt, Int64.le_iff_toInt_le, ← Int32.toInt_inj, Int32.toInt_toInt64, xl_0, xl_1, xl_2, xl_3, xl_4, xl_5, xl_6, xl_7, xl_8, xl_9, xl_10, xl_11, xl_12, xl_13, xl_20, xl_30, xl_59, xl_63, xl_64, xl_99, xl_100, xl_120, xl_999, xl_m1, xl_m2, xl_m3, xl_m4, xl_m5, xL_0, xL_1, xL_2, xL_3, xL_4, xL_5, xL_6, xL_7, xL_8, xL_20, xL_59, xL_63, xL_99, xL_999] at *; omega) | (exfalso; simp_all; done))
    · refine P0.go (k := 2) (s' := (18, [some (.long a.toInt64), none, some (.long 0), none, some (.long 7), none], [.int 1], 102, xshD, xMt)) rfl ?_
      refine P0.ret (v := some (.int 1)) rfl ?_
      refine ⟨rfl, ?_⟩
      show P0 156 (9, [some (.int a)], [.int 1], 102, xshD, xMt) _
      refine P0.ret (v := some (.int 1)) rfl ?_
      refine ⟨rfl, ?_⟩
      show P0 194 (4, [some (.ref 56), some (.int a), some (.int b), none], [.int 1], 102, xshD, xMt) _
      refine P0.go (k := 5) (s' := (13, [some (.ref 56), some (.int a), some (.int b), none], [.long 1, .long 0, .long b.toInt64], 102, xshD, xMt)) rfl ?_
      refine P0.call (z := 154) (as := [.long b.toInt64, .long 0, .long 1]) (pc := 16) (pl := [some (.ref 56), some (.int a), some (.int b), none]) (st := []) (nz := 102) (sh := xshD) (M := xMt) rfl (Nat.le_of_ble_eq_true rfl) ?_
      show P0 154 (0, [some (.long b.toInt64), none, some (.long 0), none, some (.long 1), none], [], 102, xshD, xMt) _
      refine P0.go (k := 4) (s' := (xcmp .lt (lg_cmp (b.toInt64) 0) (0) 17 6, [some (.long b.toInt64), none, some (.long 0), none, some (.long 1), none], [], 102, xshD, xMt)) rfl ?_
      refine P0.llt (fun h3 => ?_) (fun h3 => ?_)
      · refine P0.go (k := 1) (s' := (18, [some (.long b.toInt64), none, some (.long 0), none, some (.long 1), none], [.int 0], 102, xshD, xMt)) rfl ?_
        refine P0.ret (v := some (.int 0)) rfl ?_
        refine ⟨rfl, ?_⟩
        show P0 194 (16, [some (.ref 56), some (.int a), some (.int b), none], [.int 0], 102, xshD, xMt) _
        refine P0.go (k := 2) (s' := (21, [some (.ref 56), some (.int a), some (.int b), none], [.int (-2)], 102, xshD, xMt)) rfl ?_
        refine P0.ret (v := some (.int (-2))) rfl ?_
        exact congrArg (fun z => some (Value.int z)) (show (-2) = F_release a b from by unfold F_release; (repeat' split) <;> first | rfl | (exfalso; simp only [Int32.lt_iff_toInt_lt, Int32.le_iff_toInt_le, Int64.lt_iff_toInt_lt, Int64.le_iff_toInt_le, ← Int32.toInt_inj, Int32.toInt_toInt64, xl_0, xl_1, xl_2, xl_3, xl_4, xl_5, xl_6, xl_7, xl_8, xl_9, xl_10, xl_11, xl_12, xl_13, xl_20, xl_30, xl_59, xl_63, xl_64, xl_99, xl_100, xl_120, xl_999, xl_m1, xl_m2, xl_m3, xl_m4, xl_m5, xL_0, xL_1, xL_2, xL_3, xL_4, xL_5, xL_6, xL_7, xL_8, xL_20, xL_59, xL_63, xL_99, xL_999] at *; omega) | (exfalso; simp_all; done))
      · refine P0.go (k := 4) (s' := (xcmp .gt (lg_cmp (b.toInt64) 1) (0) 17 13, [some (.long b.toInt64), none, some (.long 0), none, some (.long 1), none], [], 102, xshD, xMt)) rfl ?_
        refine P0.lgt (fun h4 => ?_) (fun h4 => ?_)
        · refine P0.go (k := 1) (s' := (18, [some (.long b.toInt64), none, some (.long 0), none, some (.long 1), none], [.int 0], 102, xshD, xMt)) rfl ?_
          refine P0.ret (v := some (.int 0)) rfl ?_
          refine ⟨rfl, ?_⟩
          show P0 194 (16, [some (.ref 56), some (.int a), some (.int b), none], [.int 0], 102, xshD, xMt) _
          refine P0.go (k := 2) (s' := (21, [some (.ref 56), some (.int a), some (.int b), none], [.int (-2)], 102, xshD, xMt)) rfl ?_
          refine P0.ret (v := some (.int (-2))) rfl ?_
          exact congrArg (fun z => some (Value.int z)) (show (-2) = F_release a b from by unfold F_release; (repeat' split) <;> first | rfl | (exfalso; simp only [Int32.lt_iff_toInt_lt, Int32.le_iff_toInt_le, Int64.lt_iff_toInt_lt, Int64.le_iff_toInt_le, ← Int32.toInt_inj, Int32.toInt_toInt64, xl_0, xl_1, xl_2, xl_3, xl_4, xl_5, xl_6, xl_7, xl_8, xl_9, xl_10, xl_11, xl_12, xl_13, xl_20, xl_30, xl_59, xl_63, xl_64, xl_99, xl_100, xl_120, xl_999, xl_m1, xl_m2, xl_m3, xl_m4, xl_m5, xL_0, xL_1, xL_2, xL_3, xL_4, xL_5, xL_6, xL_7, xL_8, xL_20, xL_59, xL_63, xL_99, xL_999] at *; omega) | (exfalso; simp_all; done))
        · refine P0.go (k := 2) (s' := (18, [some (.long b.toInt64), none, some (.long 0), none, some (.long 1), none], [.int 1], 102, xshD, xMt)) rfl ?_
          refine P0.ret (v := some (.int 1)) rfl ?_
          refine ⟨rfl, ?_⟩
          show P0 194 (16, [some (.ref 56), some (.int a), some (.int b), none], [.int 1], 102, xshD, xMt) _
          refine P0.go (k := 4) (s' := (27, [some (.ref 56), some (.int a), some (.int b), none], [.int a, .ref 91], 102, xshD, xMt)) rfl ?_
          by_cases h5 : a = 0
          · subst h5
            refine P0.go (k := 8) (s' := (xcmp .ne (b) (1) 43 39, [some (.ref 56), some (.int 0), some (.int b), some (.int 0)], [.int 0, .ref 91], 102, xshD, xMt)) rfl ?_
            refine P0.ne (fun h6 => ?_) (fun h6 => ?_)
            · refine P0.go (k := 5) (s' := (54, [some (.ref 56), some (.int 0), some (.int b), some (.int 0)], [.int 0], 102, xshD, (xup xMt 91 0 (vp_nar .boolean 0)))) rfl ?_
              refine P0.ret (v := some (.int 0)) rfl ?_
              exact congrArg (fun z => some (Value.int z)) (show 0 = F_release 0 b from by unfold F_release; (repeat' split) <;> first | rfl | (exfalso; simp only [Int32.lt_iff_toInt_lt, Int32.le_iff_toInt_le, Int64.lt_iff_toInt_lt, Int64.le_iff_toInt_le, ← Int32.toInt_inj, Int32.toInt_toInt64, xl_0, xl_1, xl_2, xl_3, xl_4, xl_5, xl_6, xl_7, xl_8, xl_9, xl_10, xl_11, xl_12, xl_13, xl_20, xl_30, xl_59, xl_63, xl_64, xl_99, xl_100, xl_120, xl_999, xl_m1, xl_m2, xl_m3, xl_m4, xl_m5, xL_0, xL_1, xL_2, xL_3, xL_4, xL_5, xL_6, xL_7, xL_8, xL_20, xL_59, xL_63, xL_99, xL_999] at *; omega) | (exfalso; simp_all; done))
            · refine P0.go (k := 6) (s' := (54, [some (.ref 56), some (.int 0), some (.int b), some (.int 0)], [.int 0], 102, xshD, (xup xMt 91 0 (vp_nar .boolean 1)))) rfl ?_
              refine P0.ret (v := some (.int 0)) rfl ?_
              exact congrArg (fun z => some (Value.int z)) (show 0 = F_release 0 b from by unfold F_release; (repeat' split) <;> first | rfl | (exfalso; simp only [Int32.lt_iff_toInt_lt, Int32.le_iff_toInt_le, Int64.lt_iff_toInt_lt, Int64.le_iff_toInt_le, ← Int32.toInt_inj, Int32.toInt_toInt64, xl_0, xl_1, xl_2, xl_3, xl_4, xl_5, xl_6, xl_7, xl_8, xl_9, xl_10, xl_11, xl_12, xl_13, xl_20, xl_30, xl_59, xl_63, xl_64, xl_99, xl_100, xl_120, xl_999, xl_m1, xl_m2, xl_m3, xl_m4, xl_m5, xL_0, xL_1, xL_2, xL_3, xL_4, xL_5, xL_6, xL_7, xL_8, xL_20, xL_59, xL_63, xL_99, xL_999] at *; omega) | (exfalso; simp_all; done))
          by_cases h7 : a = 1
          · subst h7
            refine P0.go (k := 8) (s' := (xcmp .ne (b) (1) 43 39, [some (.ref 56), some (.int 1), some (.int b), some (.int 0)], [.int 1, .ref 91], 102, xshD, xMt)) rfl ?_
            refine P0.ne (fun h8 => ?_) (fun h8 => ?_)
            · refine P0.go (k := 5) (s' := (54, [some (.ref 56), some (.int 1), some (.int b), some (.int 0)], [.int 0], 102, xshD, (xup xMt 91 1 (vp_nar .boolean 0)))) rfl ?_
              refine P0.ret (v := some (.int 0)) rfl ?_
              exact congrArg (fun z => some (Value.int z)) (show 0 = F_release 1 b from by unfold F_release; (repeat' split) <;> first | rfl | (exfalso; simp only [Int32.lt_iff_toInt_lt, Int32.le_iff_toInt_le, Int64.lt_iff_toInt_lt, Int64.le_iff_toInt_le, ← Int32.toInt_inj, Int32.toInt_toInt64, xl_0, xl_1, xl_2, xl_3, xl_4, xl_5, xl_6, xl_7, xl_8, xl_9, xl_10, xl_11, xl_12, xl_13, xl_20, xl_30, xl_59, xl_63, xl_64, xl_99, xl_100, xl_120, xl_999, xl_m1, xl_m2, xl_m3, xl_m4, xl_m5, xL_0, xL_1, xL_2, xL_3, xL_4, xL_5, xL_6, xL_7, xL_8, xL_20, xL_59, xL_63, xL_99, xL_999] at *; omega) | (exfalso; simp_all; done))
            · refine P0.go (k := 6) (s' := (54, [some (.ref 56), some (.int 1), some (.int b), some (.int 0)], [.int 0], 102, xshD, (xup xMt 91 1 (vp_nar .boolean 1)))) rfl ?_
              refine P0.ret (v := some (.int 0)) rfl ?_
              exact congrArg (fun z => some (Value.int z)) (show 0 = F_release 1 b from by unfold F_release; (repeat' split) <;> first | rfl | (exfalso; simp only [Int32.lt_iff_toInt_lt, Int32.le_iff_toInt_le, Int64.lt_iff_toInt_lt, Int64.le_iff_toInt_le, ← Int32.toInt_inj, Int32.toInt_toInt64, xl_0, xl_1, xl_2, xl_3, xl_4, xl_5, xl_6, xl_7, xl_8, xl_9, xl_10, xl_11, xl_12, xl_13, xl_20, xl_30, xl_59, xl_63, xl_64, xl_99, xl_100, xl_120, xl_999, xl_m1, xl_m2, xl_m3, xl_m4, xl_m5, xL_0, xL_1, xL_2, xL_3, xL_4, xL_5, xL_6, xL_7, xL_8, xL_20, xL_59, xL_63, xL_99, xL_999] at *; omega) | (exfalso; simp_all; done))
          by_cases h9 : a = 2
          · subst h9
            refine P0.go (k := 8) (s' := (xcmp .ne (b) (1) 43 39, [some (.ref 56), some (.int 2), some (.int b), some (.int 0)], [.int 2, .ref 91], 102, xshD, xMt)) rfl ?_
            refine P0.ne (fun h10 => ?_) (fun h10 => ?_)
            · refine P0.go (k := 5) (s' := (54, [some (.ref 56), some (.int 2), some (.int b), some (.int 0)], [.int 0], 102, xshD, (xup xMt 91 2 (vp_nar .boolean 0)))) rfl ?_
              refine P0.ret (v := some (.int 0)) rfl ?_
              exact congrArg (fun z => some (Value.int z)) (show 0 = F_release 2 b from by unfold F_release; (repeat' split) <;> first | rfl | (exfalso; simp only [Int32.lt_iff_toInt_lt, Int32.le_iff_toInt_le, Int64.lt_iff_toInt_lt, Int64.le_iff_toInt_le, ← Int32.toInt_inj, Int32.toInt_toInt64, xl_0, xl_1, xl_2, xl_3, xl_4, xl_5, xl_6, xl_7, xl_8, xl_9, xl_10, xl_11, xl_12, xl_13, xl_20, xl_30, xl_59, xl_63, xl_64, xl_99, xl_100, xl_120, xl_999, xl_m1, xl_m2, xl_m3, xl_m4, xl_m5, xL_0, xL_1, xL_2, xL_3, xL_4, xL_5, xL_6, xL_7, xL_8, xL_20, xL_59, xL_63, xL_99, xL_999] at *; omega) | (exfalso; simp_all; done))
            · refine P0.go (k := 6) (s' := (54, [some (.ref 56), some (.int 2), some (.int b), some (.int 0)], [.int 0], 102, xshD, (xup xMt 91 2 (vp_nar .boolean 1)))) rfl ?_
              refine P0.ret (v := some (.int 0)) rfl ?_
              exact congrArg (fun z => some (Value.int z)) (show 0 = F_release 2 b from by unfold F_release; (repeat' split) <;> first | rfl | (exfalso; simp only [Int32.lt_iff_toInt_lt, Int32.le_iff_toInt_le, Int64.lt_iff_toInt_lt, Int64.le_iff_toInt_le, ← Int32.toInt_inj, Int32.toInt_toInt64, xl_0, xl_1, xl_2, xl_3, xl_4, xl_5, xl_6, xl_7, xl_8, xl_9, xl_10, xl_11, xl_12, xl_13, xl_20, xl_30, xl_59, xl_63, xl_64, xl_99, xl_100, xl_120, xl_999, xl_m1, xl_m2, xl_m3, xl_m4, xl_m5, xL_0, xL_1, xL_2, xL_3, xL_4, xL_5, xL_6, xL_7, xL_8, xL_20, xL_59, xL_63, xL_99, xL_999] at *; omega) | (exfalso; simp_all; done))
          by_cases h11 : a = 3
          · subst h11
            refine P0.go (k := 8) (s' := (xcmp .ne (b) (1) 43 39, [some (.ref 56), some (.int 3), some (.int b), some (.int 0)], [.int 3, .ref 91], 102, xshD, xMt)) rfl ?_
            refine P0.ne (fun h12 => ?_) (fun h12 => ?_)
            · refine P0.go (k := 5) (s' := (54, [some (.ref 56), some (.int 3), some (.int b), some (.int 0)], [.int 0], 102, xshD, (xup xMt 91 3 (vp_nar .boolean 0)))) rfl ?_
              refine P0.ret (v := some (.int 0)) rfl ?_
              exact congrArg (fun z => some (Value.int z)) (show 0 = F_release 3 b from by unfold F_release; (repeat' split) <;> first | rfl | (exfalso; simp only [Int32.lt_iff_toInt_lt, Int32.le_iff_toInt_le, Int64.lt_iff_toInt_lt, Int64.le_iff_toInt_le, ← Int32.toInt_inj, Int32.toInt_toInt64, xl_0, xl_1, xl_2, xl_3, xl_4, xl_5, xl_6, xl_7, xl_8, xl_9, xl_10, xl_11, xl_12, xl_13, xl_20, xl_30, xl_59, xl_63, xl_64, xl_99, xl_100, xl_120, xl_999, xl_m1, xl_m2, xl_m3, xl_m4, xl_m5, xL_0, xL_1, xL_2, xL_3, xL_4, xL_5, xL_6, xL_7, xL_8, xL_20, xL_59, xL_63, xL_99, xL_999] at *; omega) | (exfalso; simp_all; done))
            · refine P0.go (k := 6) (s' := (54, [some (.ref 56), some (.int 3), some (.int b), some (.int 0)], [.int 0], 102, xshD, (xup xMt 91 3 (vp_nar .boolean 1)))) rfl ?_
              refine P0.ret (v := some (.int 0)) rfl ?_
              exact congrArg (fun z => some (Value.int z)) (show 0 = F_release 3 b from by unfold F_release; (repeat' split) <;> first | rfl | (exfalso; simp only [Int32.lt_iff_toInt_lt, Int32.le_iff_toInt_le, Int64.lt_iff_toInt_lt, Int64.le_iff_toInt_le, ← Int32.toInt_inj, Int32.toInt_toInt64, xl_0, xl_1, xl_2, xl_3, xl_4, xl_5, xl_6, xl_7, xl_8, xl_9, xl_10, xl_11, xl_12, xl_13, xl_20, xl_30, xl_59, xl_63, xl_64, xl_99, xl_100, xl_120, xl_999, xl_m1, xl_m2, xl_m3, xl_m4, xl_m5, xL_0, xL_1, xL_2, xL_3, xL_4, xL_5, xL_6, xL_7, xL_8, xL_20, xL_59, xL_63, xL_99, xL_999] at *; omega) | (exfalso; simp_all; done))
          by_cases h13 : a = 4
          · subst h13
            refine P0.go (k := 8) (s' := (xcmp .ne (b) (1) 43 39, [some (.ref 56), some (.int 4), some (.int b), some (.int 0)], [.int 4, .ref 91], 102, xshD, xMt)) rfl ?_
            refine P0.ne (fun h14 => ?_) (fun h14 => ?_)
            · refine P0.go (k := 5) (s' := (54, [some (.ref 56), some (.int 4), some (.int b), some (.int 0)], [.int 0], 102, xshD, (xup xMt 91 4 (vp_nar .boolean 0)))) rfl ?_
              refine P0.ret (v := some (.int 0)) rfl ?_
              exact congrArg (fun z => some (Value.int z)) (show 0 = F_release 4 b from by unfold F_release; (repeat' split) <;> first | rfl | (exfalso; simp only [Int32.lt_iff_toInt_lt, Int32.le_iff_toInt_le, Int64.lt_iff_toInt_lt, Int64.le_iff_toInt_le, ← Int32.toInt_inj, Int32.toInt_toInt64, xl_0, xl_1, xl_2, xl_3, xl_4, xl_5, xl_6, xl_7, xl_8, xl_9, xl_10, xl_11, xl_12, xl_13, xl_20, xl_30, xl_59, xl_63, xl_64, xl_99, xl_100, xl_120, xl_999, xl_m1, xl_m2, xl_m3, xl_m4, xl_m5, xL_0, xL_1, xL_2, xL_3, xL_4, xL_5, xL_6, xL_7, xL_8, xL_20, xL_59, xL_63, xL_99, xL_999] at *; omega) | (exfalso; simp_all; done))
            · refine P0.go (k := 6) (s' := (54, [some (.ref 56), some (.int 4), some (.int b), some (.int 0)], [.int 0], 102, xshD, (xup xMt 91 4 (vp_nar .boolean 1)))) rfl ?_
              refine P0.ret (v := some (.int 0)) rfl ?_
              exact congrArg (fun z => some (Value.int z)) (show 0 = F_release 4 b from by unfold F_release; (repeat' split) <;> first | rfl | (exfalso; simp only [Int32.lt_iff_toInt_lt, Int32.le_iff_toInt_le, Int64.lt_iff_toInt_lt, Int64.le_iff_toInt_le, ← Int32.toInt_inj, Int32.toInt_toInt64, xl_0, xl_1, xl_2, xl_3, xl_4, xl_5, xl_6, xl_7, xl_8, xl_9, xl_10, xl_11, xl_12, xl_13, xl_20, xl_30, xl_59, xl_63, xl_64, xl_99, xl_100, xl_120, xl_999, xl_m1, xl_m2, xl_m3, xl_m4, xl_m5, xL_0, xL_1, xL_2, xL_3, xL_4, xL_5, xL_6, xL_7, xL_8, xL_20, xL_59, xL_63, xL_99, xL_999] at *; omega) | (exfalso; simp_all; done))
          by_cases h15 : a = 5
          · subst h15
            refine P0.go (k := 8) (s' := (xcmp .ne (b) (1) 43 39, [some (.ref 56), some (.int 5), some (.int b), some (.int 0)], [.int 5, .ref 91], 102, xshD, xMt)) rfl ?_
            refine P0.ne (fun h16 => ?_) (fun h16 => ?_)
            · refine P0.go (k := 5) (s' := (54, [some (.ref 56), some (.int 5), some (.int b), some (.int 0)], [.int 0], 102, xshD, (xup xMt 91 5 (vp_nar .boolean 0)))) rfl ?_
              refine P0.ret (v := some (.int 0)) rfl ?_
              exact congrArg (fun z => some (Value.int z)) (show 0 = F_release 5 b from by unfold F_release; (repeat' split) <;> first | rfl | (exfalso; simp only [Int32.lt_iff_toInt_lt, Int32.le_iff_toInt_le, Int64.lt_iff_toInt_lt, Int64.le_iff_toInt_le, ← Int32.toInt_inj, Int32.toInt_toInt64, xl_0, xl_1, xl_2, xl_3, xl_4, xl_5, xl_6, xl_7, xl_8, xl_9, xl_10, xl_11, xl_12, xl_13, xl_20, xl_30, xl_59, xl_63, xl_64, xl_99, xl_100, xl_120, xl_999, xl_m1, xl_m2, xl_m3, xl_m4, xl_m5, xL_0, xL_1, xL_2, xL_3, xL_4, xL_5, xL_6, xL_7, xL_8, xL_20, xL_59, xL_63, xL_99, xL_999] at *; omega) | (exfalso; simp_all; done))
            · refine P0.go (k := 6) (s' := (54, [some (.ref 56), some (.int 5), some (.int b), some (.int 0)], [.int 0], 102, xshD, (xup xMt 91 5 (vp_nar .boolean 1)))) rfl ?_
              refine P0.ret (v := some (.int 0)) rfl ?_
              exact congrArg (fun z => some (Value.int z)) (show 0 = F_release 5 b from by unfold F_release; (repeat' split) <;> first | rfl | (exfalso; simp only [Int32.lt_iff_toInt_lt, Int32.le_iff_toInt_le, Int64.lt_iff_toInt_lt, Int64.le_iff_toInt_le, ← Int32.toInt_inj, Int32.toInt_toInt64, xl_0, xl_1, xl_2, xl_3, xl_4, xl_5, xl_6, xl_7, xl_8, xl_9, xl_10, xl_11, xl_12, xl_13, xl_20, xl_30, xl_59, xl_63, xl_64, xl_99, xl_100, xl_120, xl_999, xl_m1, xl_m2, xl_m3, xl_m4, xl_m5, xL_0, xL_1, xL_2, xL_3, xL_4, xL_5, xL_6, xL_7, xL_8, xL_20, xL_59, xL_63, xL_99, xL_999] at *; omega) | (exfalso; simp_all; done))
          by_cases h17 : a = 6
          · subst h17
            refine P0.go (k := 8) (s' := (xcmp .ne (b) (1) 43 39, [some (.ref 56), some (.int 6), some (.int b), some (.int 0)], [.int 6, .ref 91], 102, xshD, xMt)) rfl ?_
            refine P0.ne (fun h18 => ?_) (fun h18 => ?_)
            · refine P0.go (k := 5) (s' := (54, [some (.ref 56), some (.int 6), some (.int b), some (.int 0)], [.int 0], 102, xshD, (xup xMt 91 6 (vp_nar .boolean 0)))) rfl ?_
              refine P0.ret (v := some (.int 0)) rfl ?_
              exact congrArg (fun z => some (Value.int z)) (show 0 = F_release 6 b from by unfold F_release; (repeat' split) <;> first | rfl | (exfalso; simp only [Int32.lt_iff_toInt_lt, Int32.le_iff_toInt_le, Int64.lt_iff_toInt_lt, Int64.le_iff_toInt_le, ← Int32.toInt_inj, Int32.toInt_toInt64, xl_0, xl_1, xl_2, xl_3, xl_4, xl_5, xl_6, xl_7, xl_8, xl_9, xl_10, xl_11, xl_12, xl_13, xl_20, xl_30, xl_59, xl_63, xl_64, xl_99, xl_100, xl_120, xl_999, xl_m1, xl_m2, xl_m3, xl_m4, xl_m5, xL_0, xL_1, xL_2, xL_3, xL_4, xL_5, xL_6, xL_7, xL_8, xL_20, xL_59, xL_63, xL_99, xL_999] at *; omega) | (exfalso; simp_all; done))
            · refine P0.go (k := 6) (s' := (54, [some (.ref 56), some (.int 6), some (.int b), some (.int 0)], [.int 0], 102, xshD, (xup xMt 91 6 (vp_nar .boolean 1)))) rfl ?_
              refine P0.ret (v := some (.int 0)) rfl ?_
              exact congrArg (fun z => some (Value.int z)) (show 0 = F_release 6 b from by unfold F_release; (repeat' split) <;> first | rfl | (exfalso; simp only [Int32.lt_iff_toInt_lt, Int32.le_iff_toInt_le, Int64.lt_iff_toInt_lt, Int64.le_iff_toInt_le, ← Int32.toInt_inj, Int32.toInt_toInt64, xl_0, xl_1, xl_2, xl_3, xl_4, xl_5, xl_6, xl_7, xl_8, xl_9, xl_10, xl_11, xl_12, xl_13, xl_20, xl_30, xl_59, xl_63, xl_64, xl_99, xl_100, xl_120, xl_999, xl_m1, xl_m2, xl_m3, xl_m4, xl_m5, xL_0, xL_1, xL_2, xL_3, xL_4, xL_5, xL_6, xL_7, xL_8, xL_20, xL_59, xL_63, xL_99, xL_999] at *; omega) | (exfalso; simp_all; done))
          by_cases h19 : a = 7
          · subst h19
            refine P0.go (k := 8) (s' := (xcmp .ne (b) (1) 43 39, [some (.ref 56), some (.int 7), some (.int b), some (.int 0)], [.int 7, .ref 91], 102, xshD, xMt)) rfl ?_
            refine P0.ne (fun h20 => ?_) (fun h20 => ?_)
            · refine P0.go (k := 5) (s' := (54, [some (.ref 56), some (.int 7), some (.int b), some (.int 0)], [.int 0], 102, xshD, (xup xMt 91 7 (vp_nar .boolean 0)))) rfl ?_
              refine P0.ret (v := some (.int 0)) rfl ?_
              exact congrArg (fun z => some (Value.int z)) (show 0 = F_release 7 b from by unfold F_release; (repeat' split) <;> first | rfl | (exfalso; simp only [Int32.lt_iff_toInt_lt, Int32.le_iff_toInt_le, Int64.lt_iff_toInt_lt, Int64.le_iff_toInt_le, ← Int32.toInt_inj, Int32.toInt_toInt64, xl_0, xl_1, xl_2, xl_3, xl_4, xl_5, xl_6, xl_7, xl_8, xl_9, xl_10, xl_11, xl_12, xl_13, xl_20, xl_30, xl_59, xl_63, xl_64, xl_99, xl_100, xl_120, xl_999, xl_m1, xl_m2, xl_m3, xl_m4, xl_m5, xL_0, xL_1, xL_2, xL_3, xL_4, xL_5, xL_6, xL_7, xL_8, xL_20, xL_59, xL_63, xL_99, xL_999] at *; omega) | (exfalso; simp_all; done))
            · refine P0.go (k := 6) (s' := (54, [some (.ref 56), some (.int 7), some (.int b), some (.int 0)], [.int 0], 102, xshD, (xup xMt 91 7 (vp_nar .boolean 1)))) rfl ?_
              refine P0.ret (v := some (.int 0)) rfl ?_
              exact congrArg (fun z => some (Value.int z)) (show 0 = F_release 7 b from by unfold F_release; (repeat' split) <;> first | rfl | (exfalso; simp only [Int32.lt_iff_toInt_lt, Int32.le_iff_toInt_le, Int64.lt_iff_toInt_lt, Int64.le_iff_toInt_le, ← Int32.toInt_inj, Int32.toInt_toInt64, xl_0, xl_1, xl_2, xl_3, xl_4, xl_5, xl_6, xl_7, xl_8, xl_9, xl_10, xl_11, xl_12, xl_13, xl_20, xl_30, xl_59, xl_63, xl_64, xl_99, xl_100, xl_120, xl_999, xl_m1, xl_m2, xl_m3, xl_m4, xl_m5, xL_0, xL_1, xL_2, xL_3, xL_4, xL_5, xL_6, xL_7, xL_8, xL_20, xL_59, xL_63, xL_99, xL_999] at *; omega) | (exfalso; simp_all; done))
          exact absurd True.intro (by exfalso; simp only [Int32.lt_iff_toInt_lt, Int32.le_iff_toInt_le, Int64.lt_iff_toInt_lt, Int64.le_iff_toInt_le, ← Int32.toInt_inj, Int32.toInt_toInt64, xl_0, xl_1, xl_2, xl_3, xl_4, xl_5, xl_6, xl_7, xl_8, xl_9, xl_10, xl_11, xl_12, xl_13, xl_20, xl_30, xl_59, xl_63, xl_64, xl_99, xl_100, xl_120, xl_999, xl_m1, xl_m2, xl_m3, xl_m4, xl_m5, xL_0, xL_1, xL_2, xL_3, xL_4, xL_5, xL_6, xL_7, xL_8, xL_20, xL_59, xL_63, xL_99, xL_999] at *; omega)
set_option maxRecDepth 100000 in
set_option maxHeartbeats 4000000 in
theorem wm_had (a : Int32) : P0 200 (0, [some (.ref 56), some (.int a)], [], 102, xshD, xMt) (fun r => r.1 = some (.int (F_had a))) := by
  refine P0.go (k := 1) (s' := (1, [some (.ref 56), some (.int a)], [.int a], 102, xshD, xMt)) rfl ?_
  refine P0.call (z := 156) (as := [.int a]) (pc := 4) (pl := [some (.ref 56), some (.int a)]) (st := []) (nz := 102) (sh := xshD) (M := xMt) rfl (Nat.le_of_ble_eq_true rfl) ?_
  show P0 156 (0, [some (.int a)], [], 102, xshD, xMt) _
  refine P0.go (k := 4) (s' := (6, [some (.int a)], [.long 7, .long 0, .long a.toInt64], 102, xshD, xMt)) rfl ?_
  refine P0.call (z := 154) (as := [.long a.toInt64, .long 0, .long 7]) (pc := 9) (pl := [some (.int a)]) (st := []) (nz := 102) (sh := xshD) (M := xMt) rfl (Nat.le_of_ble_eq_true rfl) ?_
  show P0 154 (0, [some (.long a.toInt64), none, some (.long 0), none, some (.long 7), none], [], 102, xshD, xMt) _
  refine P0.go (k := 4) (s' := (xcmp .lt (lg_cmp (a.toInt64) 0) (0) 17 6, [some (.long a.toInt64), none, some (.long 0), none, some (.long 7), none], [], 102, xshD, xMt)) rfl ?_
  refine P0.llt (fun h1 => ?_) (fun h1 => ?_)
  · refine P0.go (k := 1) (s' := (18, [some (.long a.toInt64), none, some (.long 0), none, some (.long 7), none], [.int 0], 102, xshD, xMt)) rfl ?_
    refine P0.ret (v := some (.int 0)) rfl ?_
    refine ⟨rfl, ?_⟩
    show P0 156 (9, [some (.int a)], [.int 0], 102, xshD, xMt) _
    refine P0.ret (v := some (.int 0)) rfl ?_
    refine ⟨rfl, ?_⟩
    show P0 200 (4, [some (.ref 56), some (.int a)], [.int 0], 102, xshD, xMt) _
    refine P0.go (k := 2) (s' := (17, [some (.ref 56), some (.int a)], [.int (-1)], 102, xshD, xMt)) rfl ?_
    refine P0.ret (v := some (.int (-1))) rfl ?_
    exact congrArg (fun z => some (Value.int z)) (show (-1) = F_had a from by unfold F_had; (repeat' split) <;> first | rfl | (exfalso; simp only [Int32.lt_iff_toInt_lt, Int32.le_iff_toInt_le, Int64.lt_iff_toInt_lt, Int64.le_iff_toInt_le, ← Int32.toInt_inj, Int32.toInt_toInt64, xl_0, xl_1, xl_2, xl_3, xl_4, xl_5, xl_6, xl_7, xl_8, xl_9, xl_10, xl_11, xl_12, xl_13, xl_20, xl_30, xl_59, xl_63, xl_64, xl_99, xl_100, xl_120, xl_999, xl_m1, xl_m2, xl_m3, xl_m4, xl_m5, xL_0, xL_1, xL_2, xL_3, xL_4, xL_5, xL_6, xL_7, xL_8, xL_20, xL_59, xL_63, xL_99, xL_999] at *; omega) | (exfalso; simp_all; done))
  · refine P0.go (k := 4) (s' := (xcmp .gt (lg_cmp (a.toInt64) 7) (0) 17 13, [some (.long a.toInt64), none, some (.long 0), none, some (.long 7), none], [], 102, xshD, xMt)) rfl ?_
    refine P0.lgt (fun h2 => ?_) (fun h2 => ?_)
    · refine P0.go (k := 1) (s' := (18, [some (.long a.toInt64), none, some (.long 0), none, some (.long 7), none], [.int 0], 102, xshD, xMt)) rfl ?_
      refine P0.ret (v := some (.int 0)) rfl ?_
      refine ⟨rfl, ?_⟩
      show P0 156 (9, [some (.int a)], [.int 0], 102, xshD, xMt) _
      refine P0.ret (v := some (.int 0)) rfl ?_
      refine ⟨rfl, ?_⟩
      show P0 200 (4, [some (.ref 56), some (.int a)], [.int 0], 102, xshD, xMt) _
      refine P0.go (k := 2) (s' := (17, [some (.ref 56), some (.int a)], [.int (-1)], 102, xshD, xMt)) rfl ?_
      refine P0.ret (v := some (.int (-1))) rfl ?_
      exact congrArg (fun z => some (Value.int z)) (show (-1) = F_had a from by unfold F_had; (repeat' split) <;> first | rfl | (exfalso; simp only [Int32.lt_iff_toInt_lt, Int32.le_iff_toInt_le, Int64.lt_iff_toInt_lt, Int64.le_iff_toInt_le, ← Int32.toInt_inj, Int32.toInt_toInt64, xl_0, xl_1, xl_2, xl_3, xl_4, xl_5, xl_6, xl_7, xl_8, xl_9, xl_10, xl_11, xl_12, xl_13, xl_20, xl_30, xl_59, xl_63, xl_64, xl_99, xl_100, xl_120, xl_999, xl_m1, xl_m2, xl_m3, xl_m4, xl_m5, xL_0, xL_1, xL_2, xL_3, xL_4, xL_5, xL_6, xL_7, xL_8, xL_20, xL_59, xL_63, xL_99, xL_999] at *; omega) | (exfalso; simp_all; done))
    · refine P0.go (k := 2) (s' := (18, [some (.long a.toInt64), none, some (.long 0), none, some (.long 7), none], [.int 1], 102, xshD, xMt)) rfl ?_
      refine P0.ret (v := some (.int 1)) rfl ?_
      refine ⟨rfl, ?_⟩
      show P0 156 (9, [some (.int a)], [.int 1], 102, xshD, xMt) _
      refine P0.ret (v := some (.int 1)) rfl ?_
      refine ⟨rfl, ?_⟩
      show P0 200 (4, [some (.ref 56), some (.int a)], [.int 1], 102, xshD, xMt) _
      refine P0.go (k := 4) (s' := (12, [some (.ref 56), some (.int a)], [.int a, .ref 92], 102, xshD, xMt)) rfl ?_
      by_cases h3 : a = 0
      · subst h3
        refine P0.go (k := 2) (s' := (17, [some (.ref 56), some (.int 0)], [.int 0], 102, xshD, xMt)) rfl ?_
        refine P0.ret (v := some (.int 0)) rfl ?_
        exact congrArg (fun z => some (Value.int z)) (show 0 = F_had 0 from by unfold F_had; (repeat' split) <;> first | rfl | (exfalso; simp only [Int32.lt_iff_toInt_lt, Int32.le_iff_toInt_le, Int64.lt_iff_toInt_lt, Int64.le_iff_toInt_le, ← Int32.toInt_inj, Int32.toInt_toInt64, xl_0, xl_1, xl_2, xl_3, xl_4, xl_5, xl_6, xl_7, xl_8, xl_9, xl_10, xl_11, xl_12, xl_13, xl_20, xl_30, xl_59, xl_63, xl_64, xl_99, xl_100, xl_120, xl_999, xl_m1, xl_m2, xl_m3, xl_m4, xl_m5, xL_0, xL_1, xL_2, xL_3, xL_4, xL_5, xL_6, xL_7, xL_8, xL_20, xL_59, xL_63, xL_99, xL_999] at *; omega) | (exfalso; simp_all; done))
      by_cases h4 : a = 1
      · subst h4
        refine P0.go (k := 2) (s' := (17, [some (.ref 56), some (.int 1)], [.int 0], 102, xshD, xMt)) rfl ?_
        refine P0.ret (v := some (.int 0)) rfl ?_
        exact congrArg (fun z => some (Value.int z)) (show 0 = F_had 1 from by unfold F_had; (repeat' split) <;> first | rfl | (exfalso; simp only [Int32.lt_iff_toInt_lt, Int32.le_iff_toInt_le, Int64.lt_iff_toInt_lt, Int64.le_iff_toInt_le, ← Int32.toInt_inj, Int32.toInt_toInt64, xl_0, xl_1, xl_2, xl_3, xl_4, xl_5, xl_6, xl_7, xl_8, xl_9, xl_10, xl_11, xl_12, xl_13, xl_20, xl_30, xl_59, xl_63, xl_64, xl_99, xl_100, xl_120, xl_999, xl_m1, xl_m2, xl_m3, xl_m4, xl_m5, xL_0, xL_1, xL_2, xL_3, xL_4, xL_5, xL_6, xL_7, xL_8, xL_20, xL_59, xL_63, xL_99, xL_999] at *; omega) | (exfalso; simp_all; done))
      by_cases h5 : a = 2
      · subst h5
        refine P0.go (k := 2) (s' := (17, [some (.ref 56), some (.int 2)], [.int 0], 102, xshD, xMt)) rfl ?_
        refine P0.ret (v := some (.int 0)) rfl ?_
        exact congrArg (fun z => some (Value.int z)) (show 0 = F_had 2 from by unfold F_had; (repeat' split) <;> first | rfl | (exfalso; simp only [Int32.lt_iff_toInt_lt, Int32.le_iff_toInt_le, Int64.lt_iff_toInt_lt, Int64.le_iff_toInt_le, ← Int32.toInt_inj, Int32.toInt_toInt64, xl_0, xl_1, xl_2, xl_3, xl_4, xl_5, xl_6, xl_7, xl_8, xl_9, xl_10, xl_11, xl_12, xl_13, xl_20, xl_30, xl_59, xl_63, xl_64, xl_99, xl_100, xl_120, xl_999, xl_m1, xl_m2, xl_m3, xl_m4, xl_m5, xL_0, xL_1, xL_2, xL_3, xL_4, xL_5, xL_6, xL_7, xL_8, xL_20, xL_59, xL_63, xL_99, xL_999] at *; omega) | (exfalso; simp_all; done))
      by_cases h6 : a = 3
      · subst h6
        refine P0.go (k := 2) (s' := (17, [some (.ref 56), some (.int 3)], [.int 0], 102, xshD, xMt)) rfl ?_
        refine P0.ret (v := some (.int 0)) rfl ?_
        exact congrArg (fun z => some (Value.int z)) (show 0 = F_had 3 from by unfold F_had; (repeat' split) <;> first | rfl | (exfalso; simp only [Int32.lt_iff_toInt_lt, Int32.le_iff_toInt_le, Int64.lt_iff_toInt_lt, Int64.le_iff_toInt_le, ← Int32.toInt_inj, Int32.toInt_toInt64, xl_0, xl_1, xl_2, xl_3, xl_4, xl_5, xl_6, xl_7, xl_8, xl_9, xl_10, xl_11, xl_12, xl_13, xl_20, xl_30, xl_59, xl_63, xl_64, xl_99, xl_100, xl_120, xl_999, xl_m1, xl_m2, xl_m3, xl_m4, xl_m5, xL_0, xL_1, xL_2, xL_3, xL_4, xL_5, xL_6, xL_7, xL_8, xL_20, xL_59, xL_63, xL_99, xL_999] at *; omega) | (exfalso; simp_all; done))
      by_cases h7 : a = 4
      · subst h7
        refine P0.go (k := 2) (s' := (17, [some (.ref 56), some (.int 4)], [.int 0], 102, xshD, xMt)) rfl ?_
        refine P0.ret (v := some (.int 0)) rfl ?_
        exact congrArg (fun z => some (Value.int z)) (show 0 = F_had 4 from by unfold F_had; (repeat' split) <;> first | rfl | (exfalso; simp only [Int32.lt_iff_toInt_lt, Int32.le_iff_toInt_le, Int64.lt_iff_toInt_lt, Int64.le_iff_toInt_le, ← Int32.toInt_inj, Int32.toInt_toInt64, xl_0, xl_1, xl_2, xl_3, xl_4, xl_5, xl_6, xl_7, xl_8, xl_9, xl_10, xl_11, xl_12, xl_13, xl_20, xl_30, xl_59, xl_63, xl_64, xl_99, xl_100, xl_120, xl_999, xl_m1, xl_m2, xl_m3, xl_m4, xl_m5, xL_0, xL_1, xL_2, xL_3, xL_4, xL_5, xL_6, xL_7, xL_8, xL_20, xL_59, xL_63, xL_99, xL_999] at *; omega) | (exfalso; simp_all; done))
      by_cases h8 : a = 5
      · subst h8
        refine P0.go (k := 2) (s' := (17, [some (.ref 56), some (.int 5)], [.int 0], 102, xshD, xMt)) rfl ?_
        refine P0.ret (v := some (.int 0)) rfl ?_
        exact congrArg (fun z => some (Value.int z)) (show 0 = F_had 5 from by unfold F_had; (repeat' split) <;> first | rfl | (exfalso; simp only [Int32.lt_iff_toInt_lt, Int32.le_iff_toInt_le, Int64.lt_iff_toInt_lt, Int64.le_iff_toInt_le, ← Int32.toInt_inj, Int32.toInt_toInt64, xl_0, xl_1, xl_2, xl_3, xl_4, xl_5, xl_6, xl_7, xl_8, xl_9, xl_10, xl_11, xl_12, xl_13, xl_20, xl_30, xl_59, xl_63, xl_64, xl_99, xl_100, xl_120, xl_999, xl_m1, xl_m2, xl_m3, xl_m4, xl_m5, xL_0, xL_1, xL_2, xL_3, xL_4, xL_5, xL_6, xL_7, xL_8, xL_20, xL_59, xL_63, xL_99, xL_999] at *; omega) | (exfalso; simp_all; done))
      by_cases h9 : a = 6
      · subst h9
        refine P0.go (k := 2) (s' := (17, [some (.ref 56), some (.int 6)], [.int 0], 102, xshD, xMt)) rfl ?_
        refine P0.ret (v := some (.int 0)) rfl ?_
        exact congrArg (fun z => some (Value.int z)) (show 0 = F_had 6 from by unfold F_had; (repeat' split) <;> first | rfl | (exfalso; simp only [Int32.lt_iff_toInt_lt, Int32.le_iff_toInt_le, Int64.lt_iff_toInt_lt, Int64.le_iff_toInt_le, ← Int32.toInt_inj, Int32.toInt_toInt64, xl_0, xl_1, xl_2, xl_3, xl_4, xl_5, xl_6, xl_7, xl_8, xl_9, xl_10, xl_11, xl_12, xl_13, xl_20, xl_30, xl_59, xl_63, xl_64, xl_99, xl_100, xl_120, xl_999, xl_m1, xl_m2, xl_m3, xl_m4, xl_m5, xL_0, xL_1, xL_2, xL_3, xL_4, xL_5, xL_6, xL_7, xL_8, xL_20, xL_59, xL_63, xL_99, xL_999] at *; omega) | (exfalso; simp_all; done))
      by_cases h10 : a = 7
      · subst h10
        refine P0.go (k := 2) (s' := (17, [some (.ref 56), some (.int 7)], [.int 0], 102, xshD, xMt)) rfl ?_
        refine P0.ret (v := some (.int 0)) rfl ?_
        exact congrArg (fun z => some (Value.int z)) (show 0 = F_had 7 from by unfold F_had; (repeat' split) <;> first | rfl | (exfalso; simp only [Int32.lt_iff_toInt_lt, Int32.le_iff_toInt_le, Int64.lt_iff_toInt_lt, Int64.le_iff_toInt_le, ← Int32.toInt_inj, Int32.toInt_toInt64, xl_0, xl_1, xl_2, xl_3, xl_4, xl_5, xl_6, xl_7, xl_8, xl_9, xl_10, xl_11, xl_12, xl_13, xl_20, xl_30, xl_59, xl_63, xl_64, xl_99, xl_100, xl_120, xl_999, xl_m1, xl_m2, xl_m3, xl_m4, xl_m5, xL_0, xL_1, xL_2, xL_3, xL_4, xL_5, xL_6, xL_7, xL_8, xL_20, xL_59, xL_63, xL_99, xL_999] at *; omega) | (exfalso; simp_all; done))
      exact absurd True.intro (by exfalso; simp only [Int32.lt_iff_toInt_lt, Int32.le_iff_toInt_le, Int64.lt_iff_toInt_lt, Int64.le_iff_toInt_le, ← Int32.toInt_inj, Int32.toInt_toInt64, xl_0, xl_1, xl_2, xl_3, xl_4, xl_5, xl_6, xl_7, xl_8, xl_9, xl_10, xl_11, xl_12, xl_13, xl_20, xl_30, xl_59, xl_63, xl_64, xl_99, xl_100, xl_120, xl_999, xl_m1, xl_m2, xl_m3, xl_m4, xl_m5, xL_0, xL_1, xL_2, xL_3, xL_4, xL_5, xL_6, xL_7, xL_8, xL_20, xL_59, xL_63, xL_99, xL_999] at *; omega)
set_option maxRecDepth 100000 in
set_option maxHeartbeats 4000000 in
theorem wm_group (a b : Int32) : P0 207 (0, [some (.ref 56), some (.int a), some (.int b), none], [], 102, xshD, xMt) (fun r => r.1 = some (.int (F_group a b))) := by
  refine P0.go (k := 1) (s' := (1, [some (.ref 56), some (.int a), some (.int b), none], [.int a], 102, xshD, xMt)) rfl ?_
  refine P0.call (z := 205) (as := [.int a]) (pc := 4) (pl := [some (.ref 56), some (.int a), some (.int b), none]) (st := []) (nz := 102) (sh := xshD) (M := xMt) rfl (Nat.le_of_ble_eq_true rfl) ?_
  show P0 205 (0, [some (.int a)], [], 102, xshD, xMt) _
  refine P0.go (k := 4) (s' := (6, [some (.int a)], [.long 5, .long 0, .long a.toInt64], 102, xshD, xMt)) rfl ?_
  refine P0.call (z := 154) (as := [.long a.toInt64, .long 0, .long 5]) (pc := 9) (pl := [some (.int a)]) (st := []) (nz := 102) (sh := xshD) (M := xMt) rfl (Nat.le_of_ble_eq_true rfl) ?_
  show P0 154 (0, [some (.long a.toInt64), none, some (.long 0), none, some (.long 5), none], [], 102, xshD, xMt) _
  refine P0.go (k := 4) (s' := (xcmp .lt (lg_cmp (a.toInt64) 0) (0) 17 6, [some (.long a.toInt64), none, some (.long 0), none, some (.long 5), none], [], 102, xshD, xMt)) rfl ?_
  refine P0.llt (fun h1 => ?_) (fun h1 => ?_)
  · refine P0.go (k := 1) (s' := (18, [some (.long a.toInt64), none, some (.long 0), none, some (.long 5), none], [.int 0], 102, xshD, xMt)) rfl ?_
    refine P0.ret (v := some (.int 0)) rfl ?_
    refine ⟨rfl, ?_⟩
    show P0 205 (9, [some (.int a)], [.int 0], 102, xshD, xMt) _
    refine P0.ret (v := some (.int 0)) rfl ?_
    refine ⟨rfl, ?_⟩
    show P0 207 (4, [some (.ref 56), some (.int a), some (.int b), none], [.int 0], 102, xshD, xMt) _
    refine P0.go (k := 2) (s' := (8, [some (.ref 56), some (.int a), some (.int b), none], [.int (-1)], 102, xshD, xMt)) rfl ?_
    refine P0.ret (v := some (.int (-1))) rfl ?_
    exact congrArg (fun z => some (Value.int z)) (show (-1) = F_group a b from by unfold F_group; (repeat' split) <;> first | rfl | (exfalso; simp only [Int32.lt_iff_toInt_lt, Int32.le_iff_toInt_le, Int64.lt_iff_toInt_lt, Int64.le_iff_toInt_le, ← Int32.toInt_inj, Int32.toInt_toInt64, xl_0, xl_1, xl_2, xl_3, xl_4, xl_5, xl_6, xl_7, xl_8, xl_9, xl_10, xl_11, xl_12, xl_13, xl_20, xl_30, xl_59, xl_63, xl_64, xl_99, xl_100, xl_120, xl_999, xl_m1, xl_m2, xl_m3, xl_m4, xl_m5, xL_0, xL_1, xL_2, xL_3, xL_4, xL_5, xL_6, xL_7, xL_8, xL_20, xL_59, xL_63, xL_99, xL_999] at *; omega) | (exfalso; simp_all; done))
  · refine P0.go (k := 4) (s' := (xcmp .gt (lg_cmp (a.toInt64) 5) (0) 17 13, [some (.long a.toInt64), none, some (.long 0), none, some (.long 5), none], [], 102, xshD, xMt)) rfl ?_
    refine P0.lgt (fun h2 => ?_) (fun h2 => ?_)
    · refine P0.go (k := 1) (s' := (18, [some (.long a.toInt64), none, some (.long 0), none, some (.long 5), none], [.int 0], 102, xshD, xMt)) rfl ?_
      refine P0.ret (v := some (.int 0)) rfl ?_
      refine ⟨rfl, ?_⟩
      show P0 205 (9, [some (.int a)], [.int 0], 102, xshD, xMt) _
      refine P0.ret (v := some (.int 0)) rfl ?_
      refine ⟨rfl, ?_⟩
      show P0 207 (4, [some (.ref 56), some (.int a), some (.int b), none], [.int 0], 102, xshD, xMt) _
      refine P0.go (k := 2) (s' := (8, [some (.ref 56), some (.int a), some (.int b), none], [.int (-1)], 102, xshD, xMt)) rfl ?_
      refine P0.ret (v := some (.int (-1))) rfl ?_
      exact congrArg (fun z => some (Value.int z)) (show (-1) = F_group a b from by unfold F_group; (repeat' split) <;> first | rfl | (exfalso; simp only [Int32.lt_iff_toInt_lt, Int32.le_iff_toInt_le, Int64.lt_iff_toInt_lt, Int64.le_iff_toInt_le, ← Int32.toInt_inj, Int32.toInt_toInt64, xl_0, xl_1, xl_2, xl_3, xl_4, xl_5, xl_6, xl_7, xl_8, xl_9, xl_10, xl_11, xl_12, xl_13, xl_20, xl_30, xl_59, xl_63, xl_64, xl_99, xl_100, xl_120, xl_999, xl_m1, xl_m2, xl_m3, xl_m4, xl_m5, xL_0, xL_1, xL_2, xL_3, xL_4, xL_5, xL_6, xL_7, xL_8, xL_20, xL_59, xL_63, xL_99, xL_999] at *; omega) | (exfalso; simp_all; done))
    · refine P0.go (k := 2) (s' := (18, [some (.long a.toInt64), none, some (.long 0), none, some (.long 5), none], [.int 1], 102, xshD, xMt)) rfl ?_
      refine P0.ret (v := some (.int 1)) rfl ?_
      refine ⟨rfl, ?_⟩
      show P0 205 (9, [some (.int a)], [.int 1], 102, xshD, xMt) _
      refine P0.ret (v := some (.int 1)) rfl ?_
      refine ⟨rfl, ?_⟩
      show P0 207 (4, [some (.ref 56), some (.int a), some (.int b), none], [.int 1], 102, xshD, xMt) _
      refine P0.go (k := 5) (s' := (15, [some (.ref 56), some (.int a), some (.int b), none], [.long 99, .long 0, .long b.toInt64], 102, xshD, xMt)) rfl ?_
      refine P0.call (z := 154) (as := [.long b.toInt64, .long 0, .long 99]) (pc := 18) (pl := [some (.ref 56), some (.int a), some (.int b), none]) (st := []) (nz := 102) (sh := xshD) (M := xMt) rfl (Nat.le_of_ble_eq_true rfl) ?_
      show P0 154 (0, [some (.long b.toInt64), none, some (.long 0), none, some (.long 99), none], [], 102, xshD, xMt) _
      refine P0.go (k := 4) (s' := (xcmp .lt (lg_cmp (b.toInt64) 0) (0) 17 6, [some (.long b.toInt64), none, some (.long 0), none, some (.long 99), none], [], 102, xshD, xMt)) rfl ?_
      refine P0.llt (fun h3 => ?_) (fun h3 => ?_)
      · refine P0.go (k := 1) (s' := (18, [some (.long b.toInt64), none, some (.long 0), none, some (.long 99), none], [.int 0], 102, xshD, xMt)) rfl ?_
        refine P0.ret (v := some (.int 0)) rfl ?_
        refine ⟨rfl, ?_⟩
        show P0 207 (18, [some (.ref 56), some (.int a), some (.int b), none], [.int 0], 102, xshD, xMt) _
        refine P0.go (k := 2) (s' := (23, [some (.ref 56), some (.int a), some (.int b), none], [.int (-2)], 102, xshD, xMt)) rfl ?_
        refine P0.ret (v := some (.int (-2))) rfl ?_
        exact congrArg (fun z => some (Value.int z)) (show (-2) = F_group a b from by unfold F_group; (repeat' split) <;> first | rfl | (exfalso; simp only [Int32.lt_iff_toInt_lt, Int32.le_iff_toInt_le, Int64.lt_iff_toInt_lt, Int64.le_iff_toInt_le, ← Int32.toInt_inj, Int32.toInt_toInt64, xl_0, xl_1, xl_2, xl_3, xl_4, xl_5, xl_6, xl_7, xl_8, xl_9, xl_10, xl_11, xl_12, xl_13, xl_20, xl_30, xl_59, xl_63, xl_64, xl_99, xl_100, xl_120, xl_999, xl_m1, xl_m2, xl_m3, xl_m4, xl_m5, xL_0, xL_1, xL_2, xL_3, xL_4, xL_5, xL_6, xL_7, xL_8, xL_20, xL_59, xL_63, xL_99, xL_999] at *; omega) | (exfalso; simp_all; done))
      · refine P0.go (k := 4) (s' := (xcmp .gt (lg_cmp (b.toInt64) 99) (0) 17 13, [some (.long b.toInt64), none, some (.long 0), none, some (.long 99), none], [], 102, xshD, xMt)) rfl ?_
        refine P0.lgt (fun h4 => ?_) (fun h4 => ?_)
        · refine P0.go (k := 1) (s' := (18, [some (.long b.toInt64), none, some (.long 0), none, some (.long 99), none], [.int 0], 102, xshD, xMt)) rfl ?_
          refine P0.ret (v := some (.int 0)) rfl ?_
          refine ⟨rfl, ?_⟩
          show P0 207 (18, [some (.ref 56), some (.int a), some (.int b), none], [.int 0], 102, xshD, xMt) _
          refine P0.go (k := 2) (s' := (23, [some (.ref 56), some (.int a), some (.int b), none], [.int (-2)], 102, xshD, xMt)) rfl ?_
          refine P0.ret (v := some (.int (-2))) rfl ?_
          exact congrArg (fun z => some (Value.int z)) (show (-2) = F_group a b from by unfold F_group; (repeat' split) <;> first | rfl | (exfalso; simp only [Int32.lt_iff_toInt_lt, Int32.le_iff_toInt_le, Int64.lt_iff_toInt_lt, Int64.le_iff_toInt_le, ← Int32.toInt_inj, Int32.toInt_toInt64, xl_0, xl_1, xl_2, xl_3, xl_4, xl_5, xl_6, xl_7, xl_8, xl_9, xl_10, xl_11, xl_12, xl_13, xl_20, xl_30, xl_59, xl_63, xl_64, xl_99, xl_100, xl_120, xl_999, xl_m1, xl_m2, xl_m3, xl_m4, xl_m5, xL_0, xL_1, xL_2, xL_3, xL_4, xL_5, xL_6, xL_7, xL_8, xL_20, xL_59, xL_63, xL_99, xL_999] at *; omega) | (exfalso; simp_all; done))
        · refine P0.go (k := 2) (s' := (18, [some (.long b.toInt64), none, some (.long 0), none, some (.long 99), none], [.int 1], 102, xshD, xMt)) rfl ?_
          refine P0.ret (v := some (.int 1)) rfl ?_
          refine ⟨rfl, ?_⟩
          show P0 207 (18, [some (.ref 56), some (.int a), some (.int b), none], [.int 1], 102, xshD, xMt) _
          refine P0.go (k := 4) (s' := (29, [some (.ref 56), some (.int a), some (.int b), none], [.int a, .ref 96], 102, xshD, xMt)) rfl ?_
          by_cases h5 : a = 0
          · subst h5
            refine P0.go (k := 8) (s' := (39, [some (.ref 56), some (.int 0), some (.int b), some (.int 0)], [.int 0], 102, xshD, (xup xMt 96 0 (b)))) rfl ?_
            refine P0.ret (v := some (.int 0)) rfl ?_
            exact congrArg (fun z => some (Value.int z)) (show 0 = F_group 0 b from by unfold F_group; (repeat' split) <;> first | rfl | (exfalso; simp only [Int32.lt_iff_toInt_lt, Int32.le_iff_toInt_le, Int64.lt_iff_toInt_lt, Int64.le_iff_toInt_le, ← Int32.toInt_inj, Int32.toInt_toInt64, xl_0, xl_1, xl_2, xl_3, xl_4, xl_5, xl_6, xl_7, xl_8, xl_9, xl_10, xl_11, xl_12, xl_13, xl_20, xl_30, xl_59, xl_63, xl_64, xl_99, xl_100, xl_120, xl_999, xl_m1, xl_m2, xl_m3, xl_m4, xl_m5, xL_0, xL_1, xL_2, xL_3, xL_4, xL_5, xL_6, xL_7, xL_8, xL_20, xL_59, xL_63, xL_99, xL_999] at *; omega) | (exfalso; simp_all; done))
          by_cases h6 : a = 1
          · subst h6
            refine P0.go (k := 8) (s' := (39, [some (.ref 56), some (.int 1), some (.int b), some (.int 0)], [.int 0], 102, xshD, (xup xMt 96 1 (b)))) rfl ?_
            refine P0.ret (v := some (.int 0)) rfl ?_
            exact congrArg (fun z => some (Value.int z)) (show 0 = F_group 1 b from by unfold F_group; (repeat' split) <;> first | rfl | (exfalso; simp only [Int32.lt_iff_toInt_lt, Int32.le_iff_toInt_le, Int64.lt_iff_toInt_lt, Int64.le_iff_toInt_le, ← Int32.toInt_inj, Int32.toInt_toInt64, xl_0, xl_1, xl_2, xl_3, xl_4, xl_5, xl_6, xl_7, xl_8, xl_9, xl_10, xl_11, xl_12, xl_13, xl_20, xl_30, xl_59, xl_63, xl_64, xl_99, xl_100, xl_120, xl_999, xl_m1, xl_m2, xl_m3, xl_m4, xl_m5, xL_0, xL_1, xL_2, xL_3, xL_4, xL_5, xL_6, xL_7, xL_8, xL_20, xL_59, xL_63, xL_99, xL_999] at *; omega) | (exfalso; simp_all; done))
          by_cases h7 : a = 2
          · subst h7
            refine P0.go (k := 8) (s' := (39, [some (.ref 56), some (.int 2), some (.int b), some (.int 0)], [.int 0], 102, xshD, (xup xMt 96 2 (b)))) rfl ?_
            refine P0.ret (v := some (.int 0)) rfl ?_
            exact congrArg (fun z => some (Value.int z)) (show 0 = F_group 2 b from by unfold F_group; (repeat' split) <;> first | rfl | (exfalso; simp only [Int32.lt_iff_toInt_lt, Int32.le_iff_toInt_le, Int64.lt_iff_toInt_lt, Int64.le_iff_toInt_le, ← Int32.toInt_inj, Int32.toInt_toInt64, xl_0, xl_1, xl_2, xl_3, xl_4, xl_5, xl_6, xl_7, xl_8, xl_9, xl_10, xl_11, xl_12, xl_13, xl_20, xl_30, xl_59, xl_63, xl_64, xl_99, xl_100, xl_120, xl_999, xl_m1, xl_m2, xl_m3, xl_m4, xl_m5, xL_0, xL_1, xL_2, xL_3, xL_4, xL_5, xL_6, xL_7, xL_8, xL_20, xL_59, xL_63, xL_99, xL_999] at *; omega) | (exfalso; simp_all; done))
          by_cases h8 : a = 3
          · subst h8
            refine P0.go (k := 8) (s' := (39, [some (.ref 56), some (.int 3), some (.int b), some (.int 0)], [.int 0], 102, xshD, (xup xMt 96 3 (b)))) rfl ?_
            refine P0.ret (v := some (.int 0)) rfl ?_
            exact congrArg (fun z => some (Value.int z)) (show 0 = F_group 3 b from by unfold F_group; (repeat' split) <;> first | rfl | (exfalso; simp only [Int32.lt_iff_toInt_lt, Int32.le_iff_toInt_le, Int64.lt_iff_toInt_lt, Int64.le_iff_toInt_le, ← Int32.toInt_inj, Int32.toInt_toInt64, xl_0, xl_1, xl_2, xl_3, xl_4, xl_5, xl_6, xl_7, xl_8, xl_9, xl_10, xl_11, xl_12, xl_13, xl_20, xl_30, xl_59, xl_63, xl_64, xl_99, xl_100, xl_120, xl_999, xl_m1, xl_m2, xl_m3, xl_m4, xl_m5, xL_0, xL_1, xL_2, xL_3, xL_4, xL_5, xL_6, xL_7, xL_8, xL_20, xL_59, xL_63, xL_99, xL_999] at *; omega) | (exfalso; simp_all; done))
          by_cases h9 : a = 4
          · subst h9
            refine P0.go (k := 8) (s' := (39, [some (.ref 56), some (.int 4), some (.int b), some (.int 0)], [.int 0], 102, xshD, (xup xMt 96 4 (b)))) rfl ?_
            refine P0.ret (v := some (.int 0)) rfl ?_
            exact congrArg (fun z => some (Value.int z)) (show 0 = F_group 4 b from by unfold F_group; (repeat' split) <;> first | rfl | (exfalso; simp only [Int32.lt_iff_toInt_lt, Int32.le_iff_toInt_le, Int64.lt_iff_toInt_lt, Int64.le_iff_toInt_le, ← Int32.toInt_inj, Int32.toInt_toInt64, xl_0, xl_1, xl_2, xl_3, xl_4, xl_5, xl_6, xl_7, xl_8, xl_9, xl_10, xl_11, xl_12, xl_13, xl_20, xl_30, xl_59, xl_63, xl_64, xl_99, xl_100, xl_120, xl_999, xl_m1, xl_m2, xl_m3, xl_m4, xl_m5, xL_0, xL_1, xL_2, xL_3, xL_4, xL_5, xL_6, xL_7, xL_8, xL_20, xL_59, xL_63, xL_99, xL_999] at *; omega) | (exfalso; simp_all; done))
          by_cases h10 : a = 5
          · subst h10
            refine P0.go (k := 8) (s' := (39, [some (.ref 56), some (.int 5), some (.int b), some (.int 0)], [.int 0], 102, xshD, (xup xMt 96 5 (b)))) rfl ?_
            refine P0.ret (v := some (.int 0)) rfl ?_
            exact congrArg (fun z => some (Value.int z)) (show 0 = F_group 5 b from by unfold F_group; (repeat' split) <;> first | rfl | (exfalso; simp only [Int32.lt_iff_toInt_lt, Int32.le_iff_toInt_le, Int64.lt_iff_toInt_lt, Int64.le_iff_toInt_le, ← Int32.toInt_inj, Int32.toInt_toInt64, xl_0, xl_1, xl_2, xl_3, xl_4, xl_5, xl_6, xl_7, xl_8, xl_9, xl_10, xl_11, xl_12, xl_13, xl_20, xl_30, xl_59, xl_63, xl_64, xl_99, xl_100, xl_120, xl_999, xl_m1, xl_m2, xl_m3, xl_m4, xl_m5, xL_0, xL_1, xL_2, xL_3, xL_4, xL_5, xL_6, xL_7, xL_8, xL_20, xL_59, xL_63, xL_99, xL_999] at *; omega) | (exfalso; simp_all; done))
          exact absurd True.intro (by exfalso; simp only [Int32.lt_iff_toInt_lt, Int32.le_iff_toInt_le, Int64.lt_iff_toInt_lt, Int64.le_iff_toInt_le, ← Int32.toInt_inj, Int32.toInt_toInt64, xl_0, xl_1, xl_2, xl_3, xl_4, xl_5, xl_6, xl_7, xl_8, xl_9, xl_10, xl_11, xl_12, xl_13, xl_20, xl_30, xl_59, xl_63, xl_64, xl_99, xl_100, xl_120, xl_999, xl_m1, xl_m2, xl_m3, xl_m4, xl_m5, xL_0, xL_1, xL_2, xL_3, xL_4, xL_5, xL_6, xL_7, xL_8, xL_20, xL_59, xL_63, xL_99, xL_999] at *; omega)
set_option maxRecDepth 100000 in
set_option maxHeartbeats 4000000 in
theorem wm_offer (a : Int32) : P0 208 (0, [some (.ref 56), some (.int a)], [], 102, xshD, xMt) (fun r => r.1 = some (.int (F_offer a))) := by
  refine P0.go (k := 4) (s' := (6, [some (.ref 56), some (.int a)], [.long 63, .long 1, .long a.toInt64], 102, xshD, xMt)) rfl ?_
  refine P0.call (z := 154) (as := [.long a.toInt64, .long 1, .long 63]) (pc := 9) (pl := [some (.ref 56), some (.int a)]) (st := []) (nz := 102) (sh := xshD) (M := xMt) rfl (Nat.le_of_ble_eq_true rfl) ?_
  show P0 154 (0, [some (.long a.toInt64), none, some (.long 1), none, some (.long 63), none], [], 102, xshD, xMt) _
  refine P0.go (k := 4) (s' := (xcmp .lt (lg_cmp (a.toInt64) 1) (0) 17 6, [some (.long a.toInt64), none, some (.long 1), none, some (.long 63), none], [], 102, xshD, xMt)) rfl ?_
  refine P0.llt (fun h1 => ?_) (fun h1 => ?_)
  · refine P0.go (k := 1) (s' := (18, [some (.long a.toInt64), none, some (.long 1), none, some (.long 63), none], [.int 0], 102, xshD, xMt)) rfl ?_
    refine P0.ret (v := some (.int 0)) rfl ?_
    refine ⟨rfl, ?_⟩
    show P0 208 (9, [some (.ref 56), some (.int a)], [.int 0], 102, xshD, xMt) _
    refine P0.go (k := 2) (s' := (14, [some (.ref 56), some (.int a)], [.int (-2)], 102, xshD, xMt)) rfl ?_
    refine P0.ret (v := some (.int (-2))) rfl ?_
    exact congrArg (fun z => some (Value.int z)) (show (-2) = F_offer a from by unfold F_offer; (repeat' split) <;> first | rfl | (exfalso; simp only [Int32.lt_iff_toInt_lt, Int32.le_iff_toInt_le, Int64.lt_iff_toInt_lt, Int64.le_iff_toInt_le, ← Int32.toInt_inj, Int32.toInt_toInt64, xl_0, xl_1, xl_2, xl_3, xl_4, xl_5, xl_6, xl_7, xl_8, xl_9, xl_10, xl_11, xl_12, xl_13, xl_20, xl_30, xl_59, xl_63, xl_64, xl_99, xl_100, xl_120, xl_999, xl_m1, xl_m2, xl_m3, xl_m4, xl_m5, xL_0, xL_1, xL_2, xL_3, xL_4, xL_5, xL_6, xL_7, xL_8, xL_20, xL_59, xL_63, xL_99, xL_999] at *; omega) | (exfalso; simp_all; done))
  · refine P0.go (k := 4) (s' := (xcmp .gt (lg_cmp (a.toInt64) 63) (0) 17 13, [some (.long a.toInt64), none, some (.long 1), none, some (.long 63), none], [], 102, xshD, xMt)) rfl ?_
    refine P0.lgt (fun h2 => ?_) (fun h2 => ?_)
    · refine P0.go (k := 1) (s' := (18, [some (.long a.toInt64), none, some (.long 1), none, some (.long 63), none], [.int 0], 102, xshD, xMt)) rfl ?_
      refine P0.ret (v := some (.int 0)) rfl ?_
      refine ⟨rfl, ?_⟩
      show P0 208 (9, [some (.ref 56), some (.int a)], [.int 0], 102, xshD, xMt) _
      refine P0.go (k := 2) (s' := (14, [some (.ref 56), some (.int a)], [.int (-2)], 102, xshD, xMt)) rfl ?_
      refine P0.ret (v := some (.int (-2))) rfl ?_
      exact congrArg (fun z => some (Value.int z)) (show (-2) = F_offer a from by unfold F_offer; (repeat' split) <;> first | rfl | (exfalso; simp only [Int32.lt_iff_toInt_lt, Int32.le_iff_toInt_le, Int64.lt_iff_toInt_lt, Int64.le_iff_toInt_le, ← Int32.toInt_inj, Int32.toInt_toInt64, xl_0, xl_1, xl_2, xl_3, xl_4, xl_5, xl_6, xl_7, xl_8, xl_9, xl_10, xl_11, xl_12, xl_13, xl_20, xl_30, xl_59, xl_63, xl_64, xl_99, xl_100, xl_120, xl_999, xl_m1, xl_m2, xl_m3, xl_m4, xl_m5, xL_0, xL_1, xL_2, xL_3, xL_4, xL_5, xL_6, xL_7, xL_8, xL_20, xL_59, xL_63, xL_99, xL_999] at *; omega) | (exfalso; simp_all; done))
    · refine P0.go (k := 2) (s' := (18, [some (.long a.toInt64), none, some (.long 1), none, some (.long 63), none], [.int 1], 102, xshD, xMt)) rfl ?_
      refine P0.ret (v := some (.int 1)) rfl ?_
      refine ⟨rfl, ?_⟩
      show P0 208 (9, [some (.ref 56), some (.int a)], [.int 1], 102, xshD, xMt) _
      refine P0.go (k := 21) (s' := (53, [some (.ref 56), some (.int a)], [.int (((1) - (1) : Int32))], 102, xshD, (xup (xup xMt 97 0 (a)) 56 52 (1)))) rfl ?_
      refine P0.topi (x' := 0) (by decide) ?_
      refine P0.ret (v := some (.int 0)) rfl ?_
      exact congrArg (fun z => some (Value.int z)) (show 0 = F_offer a from by unfold F_offer; (repeat' split) <;> first | rfl | (exfalso; simp only [Int32.lt_iff_toInt_lt, Int32.le_iff_toInt_le, Int64.lt_iff_toInt_lt, Int64.le_iff_toInt_le, ← Int32.toInt_inj, Int32.toInt_toInt64, xl_0, xl_1, xl_2, xl_3, xl_4, xl_5, xl_6, xl_7, xl_8, xl_9, xl_10, xl_11, xl_12, xl_13, xl_20, xl_30, xl_59, xl_63, xl_64, xl_99, xl_100, xl_120, xl_999, xl_m1, xl_m2, xl_m3, xl_m4, xl_m5, xL_0, xL_1, xL_2, xL_3, xL_4, xL_5, xL_6, xL_7, xL_8, xL_20, xL_59, xL_63, xL_99, xL_999] at *; omega) | (exfalso; simp_all; done))
set_option maxRecDepth 100000 in
set_option maxHeartbeats 4000000 in
theorem wm_gets (a b c : Int32) : P0 209 (0, [some (.ref 56), some (.int a), some (.int b), some (.int c), none], [], 102, xshD, xMt) (fun r => r.1 = some (.int (F_gets a b c))) := by
  refine P0.go (k := 2) (s' := (2, [some (.ref 56), some (.int a), some (.int b), some (.int c), none], [.int a, .ref 56], 102, xshD, xMt)) rfl ?_
  refine P0.call (z := 206) (as := [.ref 56, .int a]) (pc := 5) (pl := [some (.ref 56), some (.int a), some (.int b), some (.int c), none]) (st := []) (nz := 102) (sh := xshD) (M := xMt) rfl (Nat.le_of_ble_eq_true rfl) ?_
  show P0 206 (0, [some (.ref 56), some (.int a)], [], 102, xshD, xMt) _
  refine P0.go (k := 2) (s' := (xcmp .lt (a) (0) 16 4, [some (.ref 56), some (.int a)], [], 102, xshD, xMt)) rfl ?_
  refine P0.lt (fun h1 => ?_) (fun h1 => ?_)
  · refine P0.go (k := 1) (s' := (17, [some (.ref 56), some (.int a)], [.int 0], 102, xshD, xMt)) rfl ?_
    refine P0.ret (v := some (.int 0)) rfl ?_
    refine ⟨rfl, ?_⟩
    show P0 209 (5, [some (.ref 56), some (.int a), some (.int b), some (.int c), none], [.int 0], 102, xshD, xMt) _
    refine P0.go (k := 2) (s' := (29, [some (.ref 56), some (.int a), some (.int b), some (.int c), none], [.int (-1)], 102, xshD, xMt)) rfl ?_
    refine P0.ret (v := some (.int (-1))) rfl ?_
    exact congrArg (fun z => some (Value.int z)) (show (-1) = F_gets a b c from by unfold F_gets; (repeat' split) <;> first | rfl | (exfalso; simp only [Int32.lt_iff_toInt_lt, Int32.le_iff_toInt_le, Int64.lt_iff_toInt_lt, Int64.le_iff_toInt_le, ← Int32.toInt_inj, Int32.toInt_toInt64, xl_0, xl_1, xl_2, xl_3, xl_4, xl_5, xl_6, xl_7, xl_8, xl_9, xl_10, xl_11, xl_12, xl_13, xl_20, xl_30, xl_59, xl_63, xl_64, xl_99, xl_100, xl_120, xl_999, xl_m1, xl_m2, xl_m3, xl_m4, xl_m5, xL_0, xL_1, xL_2, xL_3, xL_4, xL_5, xL_6, xL_7, xL_8, xL_20, xL_59, xL_63, xL_99, xL_999] at *; omega) | (exfalso; simp_all; done))
  · refine P0.go (k := 4) (s' := (xcmp .ge (a) (0) 16 12, [some (.ref 56), some (.int a)], [], 102, xshD, xMt)) rfl ?_
    refine P0.ge (fun h2 => ?_) (fun h2 => absurd True.intro (by exfalso; simp only [Int32.lt_iff_toInt_lt, Int32.le_iff_toInt_le, Int64.lt_iff_toInt_lt, Int64.le_iff_toInt_le, ← Int32.toInt_inj, Int32.toInt_toInt64, xl_0, xl_1, xl_2, xl_3, xl_4, xl_5, xl_6, xl_7, xl_8, xl_9, xl_10, xl_11, xl_12, xl_13, xl_20, xl_30, xl_59, xl_63, xl_64, xl_99, xl_100, xl_120, xl_999, xl_m1, xl_m2, xl_m3, xl_m4, xl_m5, xL_0, xL_1, xL_2, xL_3, xL_4, xL_5, xL_6, xL_7, xL_8, xL_20, xL_59, xL_63, xL_99, xL_999] at *; omega))
    refine P0.go (k := 1) (s' := (17, [some (.ref 56), some (.int a)], [.int 0], 102, xshD, xMt)) rfl ?_
    refine P0.ret (v := some (.int 0)) rfl ?_
    refine ⟨rfl, ?_⟩
    show P0 209 (5, [some (.ref 56), some (.int a), some (.int b), some (.int c), none], [.int 0], 102, xshD, xMt) _
    refine P0.go (k := 2) (s' := (29, [some (.ref 56), some (.int a), some (.int b), some (.int c), none], [.int (-1)], 102, xshD, xMt)) rfl ?_
    refine P0.ret (v := some (.int (-1))) rfl ?_
    exact congrArg (fun z => some (Value.int z)) (show (-1) = F_gets a b c from by unfold F_gets; (repeat' split) <;> first | rfl | (exfalso; simp only [Int32.lt_iff_toInt_lt, Int32.le_iff_toInt_le, Int64.lt_iff_toInt_lt, Int64.le_iff_toInt_le, ← Int32.toInt_inj, Int32.toInt_toInt64, xl_0, xl_1, xl_2, xl_3, xl_4, xl_5, xl_6, xl_7, xl_8, xl_9, xl_10, xl_11, xl_12, xl_13, xl_20, xl_30, xl_59, xl_63, xl_64, xl_99, xl_100, xl_120, xl_999, xl_m1, xl_m2, xl_m3, xl_m4, xl_m5, xL_0, xL_1, xL_2, xL_3, xL_4, xL_5, xL_6, xL_7, xL_8, xL_20, xL_59, xL_63, xL_99, xL_999] at *; omega) | (exfalso; simp_all; done))
set_option maxRecDepth 100000 in
set_option maxHeartbeats 4000000 in
theorem wm_bargain (a b : Int32) : P0 212 (0, [some (.ref 56), some (.int a), some (.int b)], [], 102, xshD, xMt) (fun r => r.1 = some (.int (F_bargain a b))) := by
  refine P0.go (k := 2) (s' := (2, [some (.ref 56), some (.int a), some (.int b)], [.int a, .ref 56], 102, xshD, xMt)) rfl ?_
  refine P0.call (z := 206) (as := [.ref 56, .int a]) (pc := 5) (pl := [some (.ref 56), some (.int a), some (.int b)]) (st := []) (nz := 102) (sh := xshD) (M := xMt) rfl (Nat.le_of_ble_eq_true rfl) ?_
  show P0 206 (0, [some (.ref 56), some (.int a)], [], 102, xshD, xMt) _
  refine P0.go (k := 2) (s' := (xcmp .lt (a) (0) 16 4, [some (.ref 56), some (.int a)], [], 102, xshD, xMt)) rfl ?_
  refine P0.lt (fun h1 => ?_) (fun h1 => ?_)
  · refine P0.go (k := 1) (s' := (17, [some (.ref 56), some (.int a)], [.int 0], 102, xshD, xMt)) rfl ?_
    refine P0.ret (v := some (.int 0)) rfl ?_
    refine ⟨rfl, ?_⟩
    show P0 212 (5, [some (.ref 56), some (.int a), some (.int b)], [.int 0], 102, xshD, xMt) _
    refine P0.go (k := 2) (s' := (19, [some (.ref 56), some (.int a), some (.int b)], [.int (-1)], 102, xshD, xMt)) rfl ?_
    refine P0.ret (v := some (.int (-1))) rfl ?_
    exact congrArg (fun z => some (Value.int z)) (show (-1) = F_bargain a b from by unfold F_bargain; (repeat' split) <;> first | rfl | (exfalso; simp only [Int32.lt_iff_toInt_lt, Int32.le_iff_toInt_le, Int64.lt_iff_toInt_lt, Int64.le_iff_toInt_le, ← Int32.toInt_inj, Int32.toInt_toInt64, xl_0, xl_1, xl_2, xl_3, xl_4, xl_5, xl_6, xl_7, xl_8, xl_9, xl_10, xl_11, xl_12, xl_13, xl_20, xl_30, xl_59, xl_63, xl_64, xl_99, xl_100, xl_120, xl_999, xl_m1, xl_m2, xl_m3, xl_m4, xl_m5, xL_0, xL_1, xL_2, xL_3, xL_4, xL_5, xL_6, xL_7, xL_8, xL_20, xL_59, xL_63, xL_99, xL_999] at *; omega) | (exfalso; simp_all; done))
  · refine P0.go (k := 4) (s' := (xcmp .ge (a) (0) 16 12, [some (.ref 56), some (.int a)], [], 102, xshD, xMt)) rfl ?_
    refine P0.ge (fun h2 => ?_) (fun h2 => absurd True.intro (by exfalso; simp only [Int32.lt_iff_toInt_lt, Int32.le_iff_toInt_le, Int64.lt_iff_toInt_lt, Int64.le_iff_toInt_le, ← Int32.toInt_inj, Int32.toInt_toInt64, xl_0, xl_1, xl_2, xl_3, xl_4, xl_5, xl_6, xl_7, xl_8, xl_9, xl_10, xl_11, xl_12, xl_13, xl_20, xl_30, xl_59, xl_63, xl_64, xl_99, xl_100, xl_120, xl_999, xl_m1, xl_m2, xl_m3, xl_m4, xl_m5, xL_0, xL_1, xL_2, xL_3, xL_4, xL_5, xL_6, xL_7, xL_8, xL_20, xL_59, xL_63, xL_99, xL_999] at *; omega))
    refine P0.go (k := 1) (s' := (17, [some (.ref 56), some (.int a)], [.int 0], 102, xshD, xMt)) rfl ?_
    refine P0.ret (v := some (.int 0)) rfl ?_
    refine ⟨rfl, ?_⟩
    show P0 212 (5, [some (.ref 56), some (.int a), some (.int b)], [.int 0], 102, xshD, xMt) _
    refine P0.go (k := 2) (s' := (19, [some (.ref 56), some (.int a), some (.int b)], [.int (-1)], 102, xshD, xMt)) rfl ?_
    refine P0.ret (v := some (.int (-1))) rfl ?_
    exact congrArg (fun z => some (Value.int z)) (show (-1) = F_bargain a b from by unfold F_bargain; (repeat' split) <;> first | rfl | (exfalso; simp only [Int32.lt_iff_toInt_lt, Int32.le_iff_toInt_le, Int64.lt_iff_toInt_lt, Int64.le_iff_toInt_le, ← Int32.toInt_inj, Int32.toInt_toInt64, xl_0, xl_1, xl_2, xl_3, xl_4, xl_5, xl_6, xl_7, xl_8, xl_9, xl_10, xl_11, xl_12, xl_13, xl_20, xl_30, xl_59, xl_63, xl_64, xl_99, xl_100, xl_120, xl_999, xl_m1, xl_m2, xl_m3, xl_m4, xl_m5, xL_0, xL_1, xL_2, xL_3, xL_4, xL_5, xL_6, xL_7, xL_8, xL_20, xL_59, xL_63, xL_99, xL_999] at *; omega) | (exfalso; simp_all; done))
set_option maxRecDepth 100000 in
set_option maxHeartbeats 4000000 in
theorem wm_breaks (a : Int32) : P0 213 (0, [some (.ref 56), some (.int a)], [], 102, xshD, xMt) (fun r => r.1 = some (.int (F_breaks a))) := by
  refine P0.go (k := 2) (s' := (2, [some (.ref 56), some (.int a)], [.int a, .ref 56], 102, xshD, xMt)) rfl ?_
  refine P0.call (z := 206) (as := [.ref 56, .int a]) (pc := 5) (pl := [some (.ref 56), some (.int a)]) (st := []) (nz := 102) (sh := xshD) (M := xMt) rfl (Nat.le_of_ble_eq_true rfl) ?_
  show P0 206 (0, [some (.ref 56), some (.int a)], [], 102, xshD, xMt) _
  refine P0.go (k := 2) (s' := (xcmp .lt (a) (0) 16 4, [some (.ref 56), some (.int a)], [], 102, xshD, xMt)) rfl ?_
  refine P0.lt (fun h1 => ?_) (fun h1 => ?_)
  · refine P0.go (k := 1) (s' := (17, [some (.ref 56), some (.int a)], [.int 0], 102, xshD, xMt)) rfl ?_
    refine P0.ret (v := some (.int 0)) rfl ?_
    refine ⟨rfl, ?_⟩
    show P0 213 (5, [some (.ref 56), some (.int a)], [.int 0], 102, xshD, xMt) _
    refine P0.go (k := 2) (s' := (25, [some (.ref 56), some (.int a)], [.int (-1)], 102, xshD, xMt)) rfl ?_
    refine P0.ret (v := some (.int (-1))) rfl ?_
    exact congrArg (fun z => some (Value.int z)) (show (-1) = F_breaks a from by unfold F_breaks; (repeat' split) <;> first | rfl | (exfalso; simp only [Int32.lt_iff_toInt_lt, Int32.le_iff_toInt_le, Int64.lt_iff_toInt_lt, Int64.le_iff_toInt_le, ← Int32.toInt_inj, Int32.toInt_toInt64, xl_0, xl_1, xl_2, xl_3, xl_4, xl_5, xl_6, xl_7, xl_8, xl_9, xl_10, xl_11, xl_12, xl_13, xl_20, xl_30, xl_59, xl_63, xl_64, xl_99, xl_100, xl_120, xl_999, xl_m1, xl_m2, xl_m3, xl_m4, xl_m5, xL_0, xL_1, xL_2, xL_3, xL_4, xL_5, xL_6, xL_7, xL_8, xL_20, xL_59, xL_63, xL_99, xL_999] at *; omega) | (exfalso; simp_all; done))
  · refine P0.go (k := 4) (s' := (xcmp .ge (a) (0) 16 12, [some (.ref 56), some (.int a)], [], 102, xshD, xMt)) rfl ?_
    refine P0.ge (fun h2 => ?_) (fun h2 => absurd True.intro (by exfalso; simp only [Int32.lt_iff_toInt_lt, Int32.le_iff_toInt_le, Int64.lt_iff_toInt_lt, Int64.le_iff_toInt_le, ← Int32.toInt_inj, Int32.toInt_toInt64, xl_0, xl_1, xl_2, xl_3, xl_4, xl_5, xl_6, xl_7, xl_8, xl_9, xl_10, xl_11, xl_12, xl_13, xl_20, xl_30, xl_59, xl_63, xl_64, xl_99, xl_100, xl_120, xl_999, xl_m1, xl_m2, xl_m3, xl_m4, xl_m5, xL_0, xL_1, xL_2, xL_3, xL_4, xL_5, xL_6, xL_7, xL_8, xL_20, xL_59, xL_63, xL_99, xL_999] at *; omega))
    refine P0.go (k := 1) (s' := (17, [some (.ref 56), some (.int a)], [.int 0], 102, xshD, xMt)) rfl ?_
    refine P0.ret (v := some (.int 0)) rfl ?_
    refine ⟨rfl, ?_⟩
    show P0 213 (5, [some (.ref 56), some (.int a)], [.int 0], 102, xshD, xMt) _
    refine P0.go (k := 2) (s' := (25, [some (.ref 56), some (.int a)], [.int (-1)], 102, xshD, xMt)) rfl ?_
    refine P0.ret (v := some (.int (-1))) rfl ?_
    exact congrArg (fun z => some (Value.int z)) (show (-1) = F_breaks a from by unfold F_breaks; (repeat' split) <;> first | rfl | (exfalso; simp only [Int32.lt_iff_toInt_lt, Int32.le_iff_toInt_le, Int64.lt_iff_toInt_lt, Int64.le_iff_toInt_le, ← Int32.toInt_inj, Int32.toInt_toInt64, xl_0, xl_1, xl_2, xl_3, xl_4, xl_5, xl_6, xl_7, xl_8, xl_9, xl_10, xl_11, xl_12, xl_13, xl_20, xl_30, xl_59, xl_63, xl_64, xl_99, xl_100, xl_120, xl_999, xl_m1, xl_m2, xl_m3, xl_m4, xl_m5, xL_0, xL_1, xL_2, xL_3, xL_4, xL_5, xL_6, xL_7, xL_8, xL_20, xL_59, xL_63, xL_99, xL_999] at *; omega) | (exfalso; simp_all; done))
set_option maxRecDepth 100000 in
set_option maxHeartbeats 4000000 in
theorem wm_amend (a b c : Int32) : P0 216 (0, [some (.ref 56), some (.int a), some (.int b), some (.int c), none], [], 102, xshD, xMt) (fun r => r.1 = some (.int (F_amend a b c))) := by
  refine P0.go (k := 2) (s' := (2, [some (.ref 56), some (.int a), some (.int b), some (.int c), none], [.int a, .ref 56], 102, xshD, xMt)) rfl ?_
  refine P0.call (z := 214) (as := [.ref 56, .int a]) (pc := 5) (pl := [some (.ref 56), some (.int a), some (.int b), some (.int c), none]) (st := []) (nz := 102) (sh := xshD) (M := xMt) rfl (Nat.le_of_ble_eq_true rfl) ?_
  show P0 214 (0, [some (.ref 56), some (.int a)], [], 102, xshD, xMt) _
  refine P0.go (k := 2) (s' := (xcmp .lt (a) (0) 16 4, [some (.ref 56), some (.int a)], [], 102, xshD, xMt)) rfl ?_
  refine P0.lt (fun h1 => ?_) (fun h1 => ?_)
  · refine P0.go (k := 1) (s' := (17, [some (.ref 56), some (.int a)], [.int 0], 102, xshD, xMt)) rfl ?_
    refine P0.ret (v := some (.int 0)) rfl ?_
    refine ⟨rfl, ?_⟩
    show P0 216 (5, [some (.ref 56), some (.int a), some (.int b), some (.int c), none], [.int 0], 102, xshD, xMt) _
    refine P0.go (k := 2) (s' := (25, [some (.ref 56), some (.int a), some (.int b), some (.int c), none], [.int (-1)], 102, xshD, xMt)) rfl ?_
    refine P0.ret (v := some (.int (-1))) rfl ?_
    exact congrArg (fun z => some (Value.int z)) (show (-1) = F_amend a b c from by unfold F_amend; (repeat' split) <;> first | rfl | (exfalso; simp only [Int32.lt_iff_toInt_lt, Int32.le_iff_toInt_le, Int64.lt_iff_toInt_lt, Int64.le_iff_toInt_le, ← Int32.toInt_inj, Int32.toInt_toInt64, xl_0, xl_1, xl_2, xl_3, xl_4, xl_5, xl_6, xl_7, xl_8, xl_9, xl_10, xl_11, xl_12, xl_13, xl_20, xl_30, xl_59, xl_63, xl_64, xl_99, xl_100, xl_120, xl_999, xl_m1, xl_m2, xl_m3, xl_m4, xl_m5, xL_0, xL_1, xL_2, xL_3, xL_4, xL_5, xL_6, xL_7, xL_8, xL_20, xL_59, xL_63, xL_99, xL_999] at *; omega) | (exfalso; simp_all; done))
  · refine P0.go (k := 4) (s' := (xcmp .ge (a) (0) 16 12, [some (.ref 56), some (.int a)], [], 102, xshD, xMt)) rfl ?_
    refine P0.ge (fun h2 => ?_) (fun h2 => absurd True.intro (by exfalso; simp only [Int32.lt_iff_toInt_lt, Int32.le_iff_toInt_le, Int64.lt_iff_toInt_lt, Int64.le_iff_toInt_le, ← Int32.toInt_inj, Int32.toInt_toInt64, xl_0, xl_1, xl_2, xl_3, xl_4, xl_5, xl_6, xl_7, xl_8, xl_9, xl_10, xl_11, xl_12, xl_13, xl_20, xl_30, xl_59, xl_63, xl_64, xl_99, xl_100, xl_120, xl_999, xl_m1, xl_m2, xl_m3, xl_m4, xl_m5, xL_0, xL_1, xL_2, xL_3, xL_4, xL_5, xL_6, xL_7, xL_8, xL_20, xL_59, xL_63, xL_99, xL_999] at *; omega))
    refine P0.go (k := 1) (s' := (17, [some (.ref 56), some (.int a)], [.int 0], 102, xshD, xMt)) rfl ?_
    refine P0.ret (v := some (.int 0)) rfl ?_
    refine ⟨rfl, ?_⟩
    show P0 216 (5, [some (.ref 56), some (.int a), some (.int b), some (.int c), none], [.int 0], 102, xshD, xMt) _
    refine P0.go (k := 2) (s' := (25, [some (.ref 56), some (.int a), some (.int b), some (.int c), none], [.int (-1)], 102, xshD, xMt)) rfl ?_
    refine P0.ret (v := some (.int (-1))) rfl ?_
    exact congrArg (fun z => some (Value.int z)) (show (-1) = F_amend a b c from by unfold F_amend; (repeat' split) <;> first | rfl | (exfalso; simp only [Int32.lt_iff_toInt_lt, Int32.le_iff_toInt_le, Int64.lt_iff_toInt_lt, Int64.le_iff_toInt_le, ← Int32.toInt_inj, Int32.toInt_toInt64, xl_0, xl_1, xl_2, xl_3, xl_4, xl_5, xl_6, xl_7, xl_8, xl_9, xl_10, xl_11, xl_12, xl_13, xl_20, xl_30, xl_59, xl_63, xl_64, xl_99, xl_100, xl_120, xl_999, xl_m1, xl_m2, xl_m3, xl_m4, xl_m5, xL_0, xL_1, xL_2, xL_3, xL_4, xL_5, xL_6, xL_7, xL_8, xL_20, xL_59, xL_63, xL_99, xL_999] at *; omega) | (exfalso; simp_all; done))
set_option maxRecDepth 100000 in
set_option maxHeartbeats 4000000 in
theorem wm_strike (a b c : Int32) : P0 217 (0, [some (.ref 56), some (.int a), some (.int b), some (.int c), none], [], 102, xshD, xMt) (fun r => r.1 = some (.int (F_strike a b c))) := by
  refine P0.go (k := 2) (s' := (2, [some (.ref 56), some (.int a), some (.int b), some (.int c), none], [.int a, .ref 56], 102, xshD, xMt)) rfl ?_
  refine P0.call (z := 214) (as := [.ref 56, .int a]) (pc := 5) (pl := [some (.ref 56), some (.int a), some (.int b), some (.int c), none]) (st := []) (nz := 102) (sh := xshD) (M := xMt) rfl (Nat.le_of_ble_eq_true rfl) ?_
  show P0 214 (0, [some (.ref 56), some (.int a)], [], 102, xshD, xMt) _
  refine P0.go (k := 2) (s' := (xcmp .lt (a) (0) 16 4, [some (.ref 56), some (.int a)], [], 102, xshD, xMt)) rfl ?_
  refine P0.lt (fun h1 => ?_) (fun h1 => ?_)
  · refine P0.go (k := 1) (s' := (17, [some (.ref 56), some (.int a)], [.int 0], 102, xshD, xMt)) rfl ?_
    refine P0.ret (v := some (.int 0)) rfl ?_
    refine ⟨rfl, ?_⟩
    show P0 217 (5, [some (.ref 56), some (.int a), some (.int b), some (.int c), none], [.int 0], 102, xshD, xMt) _
    refine P0.go (k := 2) (s' := (25, [some (.ref 56), some (.int a), some (.int b), some (.int c), none], [.int (-1)], 102, xshD, xMt)) rfl ?_
    refine P0.ret (v := some (.int (-1))) rfl ?_
    exact congrArg (fun z => some (Value.int z)) (show (-1) = F_strike a b c from by unfold F_strike; (repeat' split) <;> first | rfl | (exfalso; simp only [Int32.lt_iff_toInt_lt, Int32.le_iff_toInt_le, Int64.lt_iff_toInt_lt, Int64.le_iff_toInt_le, ← Int32.toInt_inj, Int32.toInt_toInt64, xl_0, xl_1, xl_2, xl_3, xl_4, xl_5, xl_6, xl_7, xl_8, xl_9, xl_10, xl_11, xl_12, xl_13, xl_20, xl_30, xl_59, xl_63, xl_64, xl_99, xl_100, xl_120, xl_999, xl_m1, xl_m2, xl_m3, xl_m4, xl_m5, xL_0, xL_1, xL_2, xL_3, xL_4, xL_5, xL_6, xL_7, xL_8, xL_20, xL_59, xL_63, xL_99, xL_999] at *; omega) | (exfalso; simp_all; done))
  · refine P0.go (k := 4) (s' := (xcmp .ge (a) (0) 16 12, [some (.ref 56), some (.int a)], [], 102, xshD, xMt)) rfl ?_
    refine P0.ge (fun h2 => ?_) (fun h2 => absurd True.intro (by exfalso; simp only [Int32.lt_iff_toInt_lt, Int32.le_iff_toInt_le, Int64.lt_iff_toInt_lt, Int64.le_iff_toInt_le, ← Int32.toInt_inj, Int32.toInt_toInt64, xl_0, xl_1, xl_2, xl_3, xl_4, xl_5, xl_6, xl_7, xl_8, xl_9, xl_10, xl_11, xl_12, xl_13, xl_20, xl_30, xl_59, xl_63, xl_64, xl_99, xl_100, xl_120, xl_999, xl_m1, xl_m2, xl_m3, xl_m4, xl_m5, xL_0, xL_1, xL_2, xL_3, xL_4, xL_5, xL_6, xL_7, xL_8, xL_20, xL_59, xL_63, xL_99, xL_999] at *; omega))
    refine P0.go (k := 1) (s' := (17, [some (.ref 56), some (.int a)], [.int 0], 102, xshD, xMt)) rfl ?_
    refine P0.ret (v := some (.int 0)) rfl ?_
    refine ⟨rfl, ?_⟩
    show P0 217 (5, [some (.ref 56), some (.int a), some (.int b), some (.int c), none], [.int 0], 102, xshD, xMt) _
    refine P0.go (k := 2) (s' := (25, [some (.ref 56), some (.int a), some (.int b), some (.int c), none], [.int (-1)], 102, xshD, xMt)) rfl ?_
    refine P0.ret (v := some (.int (-1))) rfl ?_
    exact congrArg (fun z => some (Value.int z)) (show (-1) = F_strike a b c from by unfold F_strike; (repeat' split) <;> first | rfl | (exfalso; simp only [Int32.lt_iff_toInt_lt, Int32.le_iff_toInt_le, Int64.lt_iff_toInt_lt, Int64.le_iff_toInt_le, ← Int32.toInt_inj, Int32.toInt_toInt64, xl_0, xl_1, xl_2, xl_3, xl_4, xl_5, xl_6, xl_7, xl_8, xl_9, xl_10, xl_11, xl_12, xl_13, xl_20, xl_30, xl_59, xl_63, xl_64, xl_99, xl_100, xl_120, xl_999, xl_m1, xl_m2, xl_m3, xl_m4, xl_m5, xL_0, xL_1, xL_2, xL_3, xL_4, xL_5, xL_6, xL_7, xL_8, xL_20, xL_59, xL_63, xL_99, xL_999] at *; omega) | (exfalso; simp_all; done))
set_option maxRecDepth 100000 in
set_option maxHeartbeats 4000000 in
theorem wm_platform (a : Int32) : P0 218 (0, [some (.ref 56), some (.int a), none, none], [], 102, xshD, xMt) (fun r => r.1 = some (.int (F_platform a))) := by
  refine P0.go (k := 9) (s' := (63, [some (.ref 56), some (.int a), some (.int a), some (.int 0)], [.int (-1)], 102, xshD, xMt)) rfl ?_
  refine P0.ret (v := some (.int (-1))) rfl ?_
  exact congrArg (fun z => some (Value.int z)) (show (-1) = F_platform a from by unfold F_platform; (repeat' split) <;> first | rfl | (exfalso; simp only [Int32.lt_iff_toInt_lt, Int32.le_iff_toInt_le, Int64.lt_iff_toInt_lt, Int64.le_iff_toInt_le, ← Int32.toInt_inj, Int32.toInt_toInt64, xl_0, xl_1, xl_2, xl_3, xl_4, xl_5, xl_6, xl_7, xl_8, xl_9, xl_10, xl_11, xl_12, xl_13, xl_20, xl_30, xl_59, xl_63, xl_64, xl_99, xl_100, xl_120, xl_999, xl_m1, xl_m2, xl_m3, xl_m4, xl_m5, xL_0, xL_1, xL_2, xL_3, xL_4, xL_5, xL_6, xL_7, xL_8, xL_20, xL_59, xL_63, xL_99, xL_999] at *; omega) | (exfalso; simp_all; done))
set_option maxRecDepth 100000 in
set_option maxHeartbeats 4000000 in
theorem wm_taken (a : Int32) : P0 219 (0, [some (.ref 56), some (.int a)], [], 102, xshD, xMt) (fun r => r.1 = some (.int (F_taken a))) := by
  refine P0.go (k := 2) (s' := (2, [some (.ref 56), some (.int a)], [.int a, .ref 56], 102, xshD, xMt)) rfl ?_
  refine P0.call (z := 214) (as := [.ref 56, .int a]) (pc := 5) (pl := [some (.ref 56), some (.int a)]) (st := []) (nz := 102) (sh := xshD) (M := xMt) rfl (Nat.le_of_ble_eq_true rfl) ?_
  show P0 214 (0, [some (.ref 56), some (.int a)], [], 102, xshD, xMt) _
  refine P0.go (k := 2) (s' := (xcmp .lt (a) (0) 16 4, [some (.ref 56), some (.int a)], [], 102, xshD, xMt)) rfl ?_
  refine P0.lt (fun h1 => ?_) (fun h1 => ?_)
  · refine P0.go (k := 1) (s' := (17, [some (.ref 56), some (.int a)], [.int 0], 102, xshD, xMt)) rfl ?_
    refine P0.ret (v := some (.int 0)) rfl ?_
    refine ⟨rfl, ?_⟩
    show P0 219 (5, [some (.ref 56), some (.int a)], [.int 0], 102, xshD, xMt) _
    refine P0.go (k := 3) (s' := (26, [some (.ref 56), some (.int a)], [.int (-1)], 102, xshD, xMt)) rfl ?_
    refine P0.ret (v := some (.int (-1))) rfl ?_
    exact congrArg (fun z => some (Value.int z)) (show (-1) = F_taken a from by unfold F_taken; (repeat' split) <;> first | rfl | (exfalso; simp only [Int32.lt_iff_toInt_lt, Int32.le_iff_toInt_le, Int64.lt_iff_toInt_lt, Int64.le_iff_toInt_le, ← Int32.toInt_inj, Int32.toInt_toInt64, xl_0, xl_1, xl_2, xl_3, xl_4, xl_5, xl_6, xl_7, xl_8, xl_9, xl_10, xl_11, xl_12, xl_13, xl_20, xl_30, xl_59, xl_63, xl_64, xl_99, xl_100, xl_120, xl_999, xl_m1, xl_m2, xl_m3, xl_m4, xl_m5, xL_0, xL_1, xL_2, xL_3, xL_4, xL_5, xL_6, xL_7, xL_8, xL_20, xL_59, xL_63, xL_99, xL_999] at *; omega) | (exfalso; simp_all; done))
  · refine P0.go (k := 4) (s' := (xcmp .ge (a) (0) 16 12, [some (.ref 56), some (.int a)], [], 102, xshD, xMt)) rfl ?_
    refine P0.ge (fun h2 => ?_) (fun h2 => absurd True.intro (by exfalso; simp only [Int32.lt_iff_toInt_lt, Int32.le_iff_toInt_le, Int64.lt_iff_toInt_lt, Int64.le_iff_toInt_le, ← Int32.toInt_inj, Int32.toInt_toInt64, xl_0, xl_1, xl_2, xl_3, xl_4, xl_5, xl_6, xl_7, xl_8, xl_9, xl_10, xl_11, xl_12, xl_13, xl_20, xl_30, xl_59, xl_63, xl_64, xl_99, xl_100, xl_120, xl_999, xl_m1, xl_m2, xl_m3, xl_m4, xl_m5, xL_0, xL_1, xL_2, xL_3, xL_4, xL_5, xL_6, xL_7, xL_8, xL_20, xL_59, xL_63, xL_99, xL_999] at *; omega))
    refine P0.go (k := 1) (s' := (17, [some (.ref 56), some (.int a)], [.int 0], 102, xshD, xMt)) rfl ?_
    refine P0.ret (v := some (.int 0)) rfl ?_
    refine ⟨rfl, ?_⟩
    show P0 219 (5, [some (.ref 56), some (.int a)], [.int 0], 102, xshD, xMt) _
    refine P0.go (k := 3) (s' := (26, [some (.ref 56), some (.int a)], [.int (-1)], 102, xshD, xMt)) rfl ?_
    refine P0.ret (v := some (.int (-1))) rfl ?_
    exact congrArg (fun z => some (Value.int z)) (show (-1) = F_taken a from by unfold F_taken; (repeat' split) <;> first | rfl | (exfalso; simp only [Int32.lt_iff_toInt_lt, Int32.le_iff_toInt_le, Int64.lt_iff_toInt_lt, Int64.le_iff_toInt_le, ← Int32.toInt_inj, Int32.toInt_toInt64, xl_0, xl_1, xl_2, xl_3, xl_4, xl_5, xl_6, xl_7, xl_8, xl_9, xl_10, xl_11, xl_12, xl_13, xl_20, xl_30, xl_59, xl_63, xl_64, xl_99, xl_100, xl_120, xl_999, xl_m1, xl_m2, xl_m3, xl_m4, xl_m5, xL_0, xL_1, xL_2, xL_3, xL_4, xL_5, xL_6, xL_7, xL_8, xL_20, xL_59, xL_63, xL_99, xL_999] at *; omega) | (exfalso; simp_all; done))
set_option maxRecDepth 100000 in
set_option maxHeartbeats 4000000 in
theorem wm_count (a : Int32) : P0 220 (0, [some (.ref 56), some (.int a), none, none], [], 102, xshD, xMt) (fun r => r.1 = some (.int (F_count a))) := by
  refine P0.go (k := 1) (s' := (1, [some (.ref 56), some (.int a), none, none], [.int a], 102, xshD, xMt)) rfl ?_
  by_cases h1 : a = 0
  · subst h1
    refine P0.go (k := 3) (s' := (72, [some (.ref 56), some (.int 0), none, none], [.int 0], 102, xshD, xMt)) rfl ?_
    refine P0.ret (v := some (.int 0)) rfl ?_
    exact congrArg (fun z => some (Value.int z)) (show 0 = F_count 0 from by unfold F_count; (repeat' split) <;> first | rfl | (exfalso; simp only [Int32.lt_iff_toInt_lt, Int32.le_iff_toInt_le, Int64.lt_iff_toInt_lt, Int64.le_iff_toInt_le, ← Int32.toInt_inj, Int32.toInt_toInt64, xl_0, xl_1, xl_2, xl_3, xl_4, xl_5, xl_6, xl_7, xl_8, xl_9, xl_10, xl_11, xl_12, xl_13, xl_20, xl_30, xl_59, xl_63, xl_64, xl_99, xl_100, xl_120, xl_999, xl_m1, xl_m2, xl_m3, xl_m4, xl_m5, xL_0, xL_1, xL_2, xL_3, xL_4, xL_5, xL_6, xL_7, xL_8, xL_20, xL_59, xL_63, xL_99, xL_999] at *; omega) | (exfalso; simp_all; done))
  by_cases h2 : a = 1
  · subst h2
    refine P0.go (k := 3) (s' := (77, [some (.ref 56), some (.int 1), none, none], [.int 0], 102, xshD, xMt)) rfl ?_
    refine P0.ret (v := some (.int 0)) rfl ?_
    exact congrArg (fun z => some (Value.int z)) (show 0 = F_count 1 from by unfold F_count; (repeat' split) <;> first | rfl | (exfalso; simp only [Int32.lt_iff_toInt_lt, Int32.le_iff_toInt_le, Int64.lt_iff_toInt_lt, Int64.le_iff_toInt_le, ← Int32.toInt_inj, Int32.toInt_toInt64, xl_0, xl_1, xl_2, xl_3, xl_4, xl_5, xl_6, xl_7, xl_8, xl_9, xl_10, xl_11, xl_12, xl_13, xl_20, xl_30, xl_59, xl_63, xl_64, xl_99, xl_100, xl_120, xl_999, xl_m1, xl_m2, xl_m3, xl_m4, xl_m5, xL_0, xL_1, xL_2, xL_3, xL_4, xL_5, xL_6, xL_7, xL_8, xL_20, xL_59, xL_63, xL_99, xL_999] at *; omega) | (exfalso; simp_all; done))
  by_cases h3 : a = 2
  · subst h3
    refine P0.go (k := 3) (s' := (82, [some (.ref 56), some (.int 2), none, none], [.int 0], 102, xshD, xMt)) rfl ?_
    refine P0.ret (v := some (.int 0)) rfl ?_
    exact congrArg (fun z => some (Value.int z)) (show 0 = F_count 2 from by unfold F_count; (repeat' split) <;> first | rfl | (exfalso; simp only [Int32.lt_iff_toInt_lt, Int32.le_iff_toInt_le, Int64.lt_iff_toInt_lt, Int64.le_iff_toInt_le, ← Int32.toInt_inj, Int32.toInt_toInt64, xl_0, xl_1, xl_2, xl_3, xl_4, xl_5, xl_6, xl_7, xl_8, xl_9, xl_10, xl_11, xl_12, xl_13, xl_20, xl_30, xl_59, xl_63, xl_64, xl_99, xl_100, xl_120, xl_999, xl_m1, xl_m2, xl_m3, xl_m4, xl_m5, xL_0, xL_1, xL_2, xL_3, xL_4, xL_5, xL_6, xL_7, xL_8, xL_20, xL_59, xL_63, xL_99, xL_999] at *; omega) | (exfalso; simp_all; done))
  by_cases h4 : a = 3
  · subst h4
    refine P0.go (k := 3) (s' := (87, [some (.ref 56), some (.int 3), none, none], [.int 0], 102, xshD, xMt)) rfl ?_
    refine P0.ret (v := some (.int 0)) rfl ?_
    exact congrArg (fun z => some (Value.int z)) (show 0 = F_count 3 from by unfold F_count; (repeat' split) <;> first | rfl | (exfalso; simp only [Int32.lt_iff_toInt_lt, Int32.le_iff_toInt_le, Int64.lt_iff_toInt_lt, Int64.le_iff_toInt_le, ← Int32.toInt_inj, Int32.toInt_toInt64, xl_0, xl_1, xl_2, xl_3, xl_4, xl_5, xl_6, xl_7, xl_8, xl_9, xl_10, xl_11, xl_12, xl_13, xl_20, xl_30, xl_59, xl_63, xl_64, xl_99, xl_100, xl_120, xl_999, xl_m1, xl_m2, xl_m3, xl_m4, xl_m5, xL_0, xL_1, xL_2, xL_3, xL_4, xL_5, xL_6, xL_7, xL_8, xL_20, xL_59, xL_63, xL_99, xL_999] at *; omega) | (exfalso; simp_all; done))
  by_cases h5 : a = 4
  · subst h5
    refine P0.go (k := 3) (s' := (92, [some (.ref 56), some (.int 4), none, none], [.int 0], 102, xshD, xMt)) rfl ?_
    refine P0.ret (v := some (.int 0)) rfl ?_
    exact congrArg (fun z => some (Value.int z)) (show 0 = F_count 4 from by unfold F_count; (repeat' split) <;> first | rfl | (exfalso; simp only [Int32.lt_iff_toInt_lt, Int32.le_iff_toInt_le, Int64.lt_iff_toInt_lt, Int64.le_iff_toInt_le, ← Int32.toInt_inj, Int32.toInt_toInt64, xl_0, xl_1, xl_2, xl_3, xl_4, xl_5, xl_6, xl_7, xl_8, xl_9, xl_10, xl_11, xl_12, xl_13, xl_20, xl_30, xl_59, xl_63, xl_64, xl_99, xl_100, xl_120, xl_999, xl_m1, xl_m2, xl_m3, xl_m4, xl_m5, xL_0, xL_1, xL_2, xL_3, xL_4, xL_5, xL_6, xL_7, xL_8, xL_20, xL_59, xL_63, xL_99, xL_999] at *; omega) | (exfalso; simp_all; done))
  by_cases h6 : a = 5
  · subst h6
    refine P0.go (k := 5) (s' := (105, [some (.ref 56), some (.int 5), none, none], [.int 0], 102, xshD, xMt)) rfl ?_
    refine P0.ret (v := some (.int 0)) rfl ?_
    exact congrArg (fun z => some (Value.int z)) (show 0 = F_count 5 from by unfold F_count; (repeat' split) <;> first | rfl | (exfalso; simp only [Int32.lt_iff_toInt_lt, Int32.le_iff_toInt_le, Int64.lt_iff_toInt_lt, Int64.le_iff_toInt_le, ← Int32.toInt_inj, Int32.toInt_toInt64, xl_0, xl_1, xl_2, xl_3, xl_4, xl_5, xl_6, xl_7, xl_8, xl_9, xl_10, xl_11, xl_12, xl_13, xl_20, xl_30, xl_59, xl_63, xl_64, xl_99, xl_100, xl_120, xl_999, xl_m1, xl_m2, xl_m3, xl_m4, xl_m5, xL_0, xL_1, xL_2, xL_3, xL_4, xL_5, xL_6, xL_7, xL_8, xL_20, xL_59, xL_63, xL_99, xL_999] at *; omega) | (exfalso; simp_all; done))
  by_cases h7 : a = 6
  · subst h7
    refine P0.go (k := 3) (s' := (110, [some (.ref 56), some (.int 6), none, none], [.int (-1)], 102, xshD, xMt)) rfl ?_
    refine P0.ret (v := some (.int (-1))) rfl ?_
    exact congrArg (fun z => some (Value.int z)) (show (-1) = F_count 6 from by unfold F_count; (repeat' split) <;> first | rfl | (exfalso; simp only [Int32.lt_iff_toInt_lt, Int32.le_iff_toInt_le, Int64.lt_iff_toInt_lt, Int64.le_iff_toInt_le, ← Int32.toInt_inj, Int32.toInt_toInt64, xl_0, xl_1, xl_2, xl_3, xl_4, xl_5, xl_6, xl_7, xl_8, xl_9, xl_10, xl_11, xl_12, xl_13, xl_20, xl_30, xl_59, xl_63, xl_64, xl_99, xl_100, xl_120, xl_999, xl_m1, xl_m2, xl_m3, xl_m4, xl_m5, xL_0, xL_1, xL_2, xL_3, xL_4, xL_5, xL_6, xL_7, xL_8, xL_20, xL_59, xL_63, xL_99, xL_999] at *; omega) | (exfalso; simp_all; done))
  by_cases h8 : a = 7
  · subst h8
    refine P0.go (k := 2) (s' := (112, [some (.ref 56), some (.int 7), none, none], [.ref 56], 102, xshD, xMt)) rfl ?_
    refine P0.call (z := 170) (as := [.ref 56]) (pc := 115) (pl := [some (.ref 56), some (.int 7), none, none]) (st := []) (nz := 102) (sh := xshD) (M := xMt) rfl (Nat.le_of_ble_eq_true rfl) ?_
    show P0 170 (0, [some (.ref 56), none, none], [], 102, xshD, xMt) _
    refine P0.go (k := 9) (s' := (27, [some (.ref 56), some (.int 0), some (.int 0)], [.int 0], 102, xshD, xMt)) rfl ?_
    refine P0.ret (v := some (.int 0)) rfl ?_
    refine ⟨rfl, ?_⟩
    show P0 220 (115, [some (.ref 56), some (.int 7), none, none], [.int 0], 102, xshD, xMt) _
    refine P0.ret (v := some (.int 0)) rfl ?_
    exact congrArg (fun z => some (Value.int z)) (show 0 = F_count 7 from by unfold F_count; (repeat' split) <;> first | rfl | (exfalso; simp only [Int32.lt_iff_toInt_lt, Int32.le_iff_toInt_le, Int64.lt_iff_toInt_lt, Int64.le_iff_toInt_le, ← Int32.toInt_inj, Int32.toInt_toInt64, xl_0, xl_1, xl_2, xl_3, xl_4, xl_5, xl_6, xl_7, xl_8, xl_9, xl_10, xl_11, xl_12, xl_13, xl_20, xl_30, xl_59, xl_63, xl_64, xl_99, xl_100, xl_120, xl_999, xl_m1, xl_m2, xl_m3, xl_m4, xl_m5, xL_0, xL_1, xL_2, xL_3, xL_4, xL_5, xL_6, xL_7, xL_8, xL_20, xL_59, xL_63, xL_99, xL_999] at *; omega) | (exfalso; simp_all; done))
  by_cases h9 : a = 8
  · subst h9
    refine P0.go (k := 3) (s' := (120, [some (.ref 56), some (.int 8), none, none], [.int 0], 102, xshD, xMt)) rfl ?_
    refine P0.ret (v := some (.int 0)) rfl ?_
    exact congrArg (fun z => some (Value.int z)) (show 0 = F_count 8 from by unfold F_count; (repeat' split) <;> first | rfl | (exfalso; simp only [Int32.lt_iff_toInt_lt, Int32.le_iff_toInt_le, Int64.lt_iff_toInt_lt, Int64.le_iff_toInt_le, ← Int32.toInt_inj, Int32.toInt_toInt64, xl_0, xl_1, xl_2, xl_3, xl_4, xl_5, xl_6, xl_7, xl_8, xl_9, xl_10, xl_11, xl_12, xl_13, xl_20, xl_30, xl_59, xl_63, xl_64, xl_99, xl_100, xl_120, xl_999, xl_m1, xl_m2, xl_m3, xl_m4, xl_m5, xL_0, xL_1, xL_2, xL_3, xL_4, xL_5, xL_6, xL_7, xL_8, xL_20, xL_59, xL_63, xL_99, xL_999] at *; omega) | (exfalso; simp_all; done))
  by_cases h10 : a = 9
  · subst h10
    refine P0.go (k := 3) (s' := (125, [some (.ref 56), some (.int 9), none, none], [.int 0], 102, xshD, xMt)) rfl ?_
    refine P0.ret (v := some (.int 0)) rfl ?_
    exact congrArg (fun z => some (Value.int z)) (show 0 = F_count 9 from by unfold F_count; (repeat' split) <;> first | rfl | (exfalso; simp only [Int32.lt_iff_toInt_lt, Int32.le_iff_toInt_le, Int64.lt_iff_toInt_lt, Int64.le_iff_toInt_le, ← Int32.toInt_inj, Int32.toInt_toInt64, xl_0, xl_1, xl_2, xl_3, xl_4, xl_5, xl_6, xl_7, xl_8, xl_9, xl_10, xl_11, xl_12, xl_13, xl_20, xl_30, xl_59, xl_63, xl_64, xl_99, xl_100, xl_120, xl_999, xl_m1, xl_m2, xl_m3, xl_m4, xl_m5, xL_0, xL_1, xL_2, xL_3, xL_4, xL_5, xL_6, xL_7, xL_8, xL_20, xL_59, xL_63, xL_99, xL_999] at *; omega) | (exfalso; simp_all; done))
  by_cases h11 : a = 10
  · subst h11
    refine P0.go (k := 3) (s' := (130, [some (.ref 56), some (.int 10), none, none], [.int 0], 102, xshD, xMt)) rfl ?_
    refine P0.ret (v := some (.int 0)) rfl ?_
    exact congrArg (fun z => some (Value.int z)) (show 0 = F_count 10 from by unfold F_count; (repeat' split) <;> first | rfl | (exfalso; simp only [Int32.lt_iff_toInt_lt, Int32.le_iff_toInt_le, Int64.lt_iff_toInt_lt, Int64.le_iff_toInt_le, ← Int32.toInt_inj, Int32.toInt_toInt64, xl_0, xl_1, xl_2, xl_3, xl_4, xl_5, xl_6, xl_7, xl_8, xl_9, xl_10, xl_11, xl_12, xl_13, xl_20, xl_30, xl_59, xl_63, xl_64, xl_99, xl_100, xl_120, xl_999, xl_m1, xl_m2, xl_m3, xl_m4, xl_m5, xL_0, xL_1, xL_2, xL_3, xL_4, xL_5, xL_6, xL_7, xL_8, xL_20, xL_59, xL_63, xL_99, xL_999] at *; omega) | (exfalso; simp_all; done))
  by_cases h12 : a = 11
  · subst h12
    refine P0.go (k := 10) (s' := (172, [some (.ref 56), some (.int 11), some (.int 0), some (.int 0)], [.int 0], 102, xshD, xMt)) rfl ?_
    refine P0.ret (v := some (.int 0)) rfl ?_
    exact congrArg (fun z => some (Value.int z)) (show 0 = F_count 11 from by unfold F_count; (repeat' split) <;> first | rfl | (exfalso; simp only [Int32.lt_iff_toInt_lt, Int32.le_iff_toInt_le, Int64.lt_iff_toInt_lt, Int64.le_iff_toInt_le, ← Int32.toInt_inj, Int32.toInt_toInt64, xl_0, xl_1, xl_2, xl_3, xl_4, xl_5, xl_6, xl_7, xl_8, xl_9, xl_10, xl_11, xl_12, xl_13, xl_20, xl_30, xl_59, xl_63, xl_64, xl_99, xl_100, xl_120, xl_999, xl_m1, xl_m2, xl_m3, xl_m4, xl_m5, xL_0, xL_1, xL_2, xL_3, xL_4, xL_5, xL_6, xL_7, xL_8, xL_20, xL_59, xL_63, xL_99, xL_999] at *; omega) | (exfalso; simp_all; done))
  by_cases h13 : a = 12
  · subst h13
    refine P0.go (k := 3) (s' := (177, [some (.ref 56), some (.int 12), none, none], [.int 0], 102, xshD, xMt)) rfl ?_
    refine P0.ret (v := some (.int 0)) rfl ?_
    exact congrArg (fun z => some (Value.int z)) (show 0 = F_count 12 from by unfold F_count; (repeat' split) <;> first | rfl | (exfalso; simp only [Int32.lt_iff_toInt_lt, Int32.le_iff_toInt_le, Int64.lt_iff_toInt_lt, Int64.le_iff_toInt_le, ← Int32.toInt_inj, Int32.toInt_toInt64, xl_0, xl_1, xl_2, xl_3, xl_4, xl_5, xl_6, xl_7, xl_8, xl_9, xl_10, xl_11, xl_12, xl_13, xl_20, xl_30, xl_59, xl_63, xl_64, xl_99, xl_100, xl_120, xl_999, xl_m1, xl_m2, xl_m3, xl_m4, xl_m5, xL_0, xL_1, xL_2, xL_3, xL_4, xL_5, xL_6, xL_7, xL_8, xL_20, xL_59, xL_63, xL_99, xL_999] at *; omega) | (exfalso; simp_all; done))
  refine P0.tabd (t := 178) rfl (by simp only [Int32.lt_iff_toInt_lt, Int32.le_iff_toInt_le, Int64.lt_iff_toInt_lt, Int64.le_iff_toInt_le, ← Int32.toInt_inj, Int32.toInt_toInt64, xl_0, xl_1, xl_2, xl_3, xl_4, xl_5, xl_6, xl_7, xl_8, xl_9, xl_10, xl_11, xl_12, xl_13, xl_20, xl_30, xl_59, xl_63, xl_64, xl_99, xl_100, xl_120, xl_999, xl_m1, xl_m2, xl_m3, xl_m4, xl_m5, xL_0, xL_1, xL_2, xL_3, xL_4, xL_5, xL_6, xL_7, xL_8, xL_20, xL_59, xL_63, xL_99, xL_999] at *; omega) rfl ?_
  refine P0.go (k := 1) (s' := (179, [some (.ref 56), some (.int a), none, none], [.int (-1)], 102, xshD, xMt)) rfl ?_
  refine P0.ret (v := some (.int (-1))) rfl ?_
  exact congrArg (fun z => some (Value.int z)) (show (-1) = F_count a from by unfold F_count; (repeat' split) <;> first | rfl | (exfalso; simp only [Int32.lt_iff_toInt_lt, Int32.le_iff_toInt_le, Int64.lt_iff_toInt_lt, Int64.le_iff_toInt_le, ← Int32.toInt_inj, Int32.toInt_toInt64, xl_0, xl_1, xl_2, xl_3, xl_4, xl_5, xl_6, xl_7, xl_8, xl_9, xl_10, xl_11, xl_12, xl_13, xl_20, xl_30, xl_59, xl_63, xl_64, xl_99, xl_100, xl_120, xl_999, xl_m1, xl_m2, xl_m3, xl_m4, xl_m5, xL_0, xL_1, xL_2, xL_3, xL_4, xL_5, xL_6, xL_7, xL_8, xL_20, xL_59, xL_63, xL_99, xL_999] at *; omega) | (exfalso; simp_all; done))
