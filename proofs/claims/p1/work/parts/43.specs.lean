/-! THE FRESH OBJECTS: what each first call answers; the class (the reference is blind), the reference (the class is blind) -/
def xshC : List xSh := [.inr (10, [some (some 1), some (some 5), some (some 15), some (some 17), some (some 26), some (some 32), some (some 36), some (some 47), some (some 51), some (some 55), none, none]),
  .inr (2, [some (some 2), some (some 3), some (some 4), none, none, none]),
  .inl (.int, 24),
  .inl (.int, 24),
  .inl (.int, 24),
  .inr (7, [some (some 6), some (some 7), some (some 8), some (some 9), some (some 10), some (some 11), some (some 12), some (some 13), some (some 14), none]),
  .inl (.int, 30),
  .inl (.int, 30),
  .inl (.int, 30),
  .inl (.int, 30),
  .inl (.int, 30),
  .inl (.int, 30),
  .inl (.int, 30),
  .inl (.int, 30),
  .inl (.int, 240),
  .inr (9, [some (some 16), none, none, none]),
  .inl (.int, 120),
  .inr (5, [some (some 18), some (some 19), some (some 20), some (some 21), some (some 22), some (some 23), some (some 24), some (some 25), none]),
  .inl (.int, 10),
  .inl (.int, 10),
  .inl (.int, 10),
  .inl (.int, 10),
  .inl (.int, 10),
  .inl (.int, 20),
  .inl (.int, 20),
  .inl (.int, 20),
  .inr (3, [some (some 27), some (some 28), some (some 29), some (some 30), some (some 31), none]),
  .inl (.int, 6),
  .inl (.int, 6),
  .inl (.int, 6),
  .inl (.int, 6),
  .inl (.int, 6),
  .inr (6, [some (some 33), some (some 34), some (some 35), none]),
  .inl (.int, 40),
  .inl (.int, 40),
  .inl (.int, 40),
  .inr (0, [some (some 37), some (some 43), some (some 44), some (some 45), some (some 46), none, none]),
  .inr (8, [some (some 38), some (some 39), some (some 40), some (some 41), some (some 42), none, none]),
  .inl (.int, 30),
  .inl (.int, 64),
  .inl (.int, 8),
  .inl (.int, 8),
  .inl (.int, 8),
  .inl (.int, 8),
  .inl (.int, 8),
  .inl (.int, 8),
  .inl (.int, 8),
  .inr (1, [some (some 48), some (some 49), some (some 50), none]),
  .inl (.int, 6),
  .inl (.int, 12),
  .inl (.int, 72),
  .inr (4, [some (some 52), some (some 53), some (some 54), none]),
  .inl (.int, 96),
  .inl (.int, 8),
  .inl (.int, 8),
  .inl (.int, 4),
  .inl (.long, 0),
  .inl (.long, 0),
  .inl (.long, 0),
  .inl (.long, 0),
  .inl (.long, 0),
  .inl (.long, 0),
  .inl (.long, 0),
  .inl (.long, 0),
  .inl (.long, 0),
  .inl (.long, 0),
  .inl (.long, 0),
  .inl (.long, 0),
  .inl (.long, 0),
  .inl (.long, 0),
  .inl (.long, 0),
  .inl (.long, 0),
  .inl (.long, 0),
  .inl (.long, 0),
  .inl (.long, 0),
  .inl (.long, 0),
  .inl (.long, 0),
  .inl (.long, 0),
  .inl (.long, 0),
  .inl (.long, 0),
  .inl (.long, 0),
  .inl (.long, 0),
  .inl (.long, 0),
  .inl (.long, 0),
  .inl (.long, 0),
  .inl (.long, 0),
  .inl (.long, 0),
  .inl (.long, 0),
  .inl (.long, 0),
  .inl (.long, 0),
  .inl (.long, 0),
  .inl (.long, 0),
  .inl (.long, 0),
  .inl (.long, 0),
  .inl (.long, 0),
  .inl (.long, 0),
  .inl (.long, 0),
  .inl (.long, 0),
  .inl (.long, 0),
  .inl (.long, 0),
  .inl (.long, 0),
  .inl (.long, 0)]
def xshD : List xSh := [.inl (.long, 0),
  .inl (.long, 0),
  .inl (.long, 0),
  .inl (.long, 0),
  .inl (.long, 0),
  .inl (.long, 0),
  .inl (.long, 0),
  .inl (.long, 0),
  .inl (.long, 0),
  .inl (.long, 0),
  .inl (.long, 0),
  .inl (.long, 0),
  .inl (.long, 0),
  .inl (.long, 0),
  .inl (.long, 0),
  .inl (.long, 0),
  .inl (.long, 0),
  .inl (.long, 0),
  .inl (.long, 0),
  .inl (.long, 0),
  .inl (.long, 0),
  .inl (.long, 0),
  .inl (.long, 0),
  .inl (.long, 0),
  .inl (.long, 0),
  .inl (.long, 0),
  .inl (.long, 0),
  .inl (.long, 0),
  .inl (.long, 0),
  .inl (.long, 0),
  .inl (.long, 0),
  .inl (.long, 0),
  .inl (.long, 0),
  .inl (.long, 0),
  .inl (.long, 0),
  .inl (.long, 0),
  .inl (.long, 0),
  .inl (.long, 0),
  .inl (.long, 0),
  .inl (.long, 0),
  .inl (.long, 0),
  .inl (.long, 0),
  .inl (.long, 0),
  .inl (.long, 0),
  .inl (.long, 0),
  .inl (.long, 0),
  .inl (.long, 0),
  .inl (.long, 0),
  .inl (.long, 0),
  .inl (.long, 0),
  .inl (.long, 0),
  .inl (.long, 0),
  .inl (.long, 0),
  .inl (.long, 0),
  .inl (.long, 0),
  .inl (.long, 0),
  .inr (11, [none, some (some 57), some (some 58), some (some 59), some (some 60), some (some 61), none, some (some 62), some (some 63), some (some 64), some (some 65), some (some 66), some (some 67), some (some 68), some (some 69), some (some 70), none, none, some (some 71), some (some 72), some (some 73), some (some 74), some (some 75), some (some 76), some (some 77), some (some 78), none, none, some (some 79), some (some 80), some (some 81), none, some (some 82), some (some 83), some (some 84), some (some 85), some (some 86), none, none, none, some (some 87), some (some 88), some (some 89), none, some (some 90), some (some 91), some (some 92), some (some 93), some (some 94), some (some 95), none, some (some 96), none, some (some 97), some (some 98), none, some (some 99), some (some 100), some (some 101)]),
  .inl (.int, 24),
  .inl (.int, 24),
  .inl (.int, 24),
  .inl (.int, 24),
  .inl (.int, 2),
  .inl (.int, 30),
  .inl (.int, 30),
  .inl (.int, 30),
  .inl (.int, 30),
  .inl (.boolean, 30),
  .inl (.int, 30),
  .inl (.int, 30),
  .inl (.int, 240),
  .inl (.byte, 120),
  .inl (.int, 10),
  .inl (.int, 10),
  .inl (.int, 10),
  .inl (.int, 10),
  .inl (.int, 10),
  .inl (.int, 20),
  .inl (.int, 20),
  .inl (.int, 20),
  .inl (.char, 47),
  .inl (.int, 9),
  .inl (.int, 9),
  .inl (.int, 6),
  .inl (.int, 6),
  .inl (.int, 6),
  .inl (.int, 6),
  .inl (.int, 6),
  .inl (.int, 40),
  .inl (.int, 40),
  .inl (.int, 40),
  .inl (.int, 8),
  .inl (.boolean, 8),
  .inl (.int, 8),
  .inl (.int, 8),
  .inl (.int, 8),
  .inl (.boolean, 8),
  .inl (.int, 6),
  .inl (.int, 12),
  .inl (.int, 72),
  .inl (.boolean, 8),
  .inl (.int, 8),
  .inl (.int, 96)]
theorem xl_0 : (0 : Int32).toInt = 0 := by decide
theorem xl_1 : (1 : Int32).toInt = 1 := by decide
theorem xl_2 : (2 : Int32).toInt = 2 := by decide
theorem xl_3 : (3 : Int32).toInt = 3 := by decide
theorem xl_4 : (4 : Int32).toInt = 4 := by decide
theorem xl_5 : (5 : Int32).toInt = 5 := by decide
theorem xl_6 : (6 : Int32).toInt = 6 := by decide
theorem xl_7 : (7 : Int32).toInt = 7 := by decide
theorem xl_8 : (8 : Int32).toInt = 8 := by decide
theorem xl_9 : (9 : Int32).toInt = 9 := by decide
theorem xl_10 : (10 : Int32).toInt = 10 := by decide
theorem xl_11 : (11 : Int32).toInt = 11 := by decide
theorem xl_12 : (12 : Int32).toInt = 12 := by decide
theorem xl_13 : (13 : Int32).toInt = 13 := by decide
theorem xl_20 : (20 : Int32).toInt = 20 := by decide
theorem xl_30 : (30 : Int32).toInt = 30 := by decide
theorem xl_59 : (59 : Int32).toInt = 59 := by decide
theorem xl_63 : (63 : Int32).toInt = 63 := by decide
theorem xl_64 : (64 : Int32).toInt = 64 := by decide
theorem xl_99 : (99 : Int32).toInt = 99 := by decide
theorem xl_100 : (100 : Int32).toInt = 100 := by decide
theorem xl_120 : (120 : Int32).toInt = 120 := by decide
theorem xl_999 : (999 : Int32).toInt = 999 := by decide
theorem xl_m1 : (-1 : Int32).toInt = -1 := by decide
theorem xl_m2 : (-2 : Int32).toInt = -2 := by decide
theorem xl_m3 : (-3 : Int32).toInt = -3 := by decide
theorem xl_m4 : (-4 : Int32).toInt = -4 := by decide
theorem xl_m5 : (-5 : Int32).toInt = -5 := by decide
theorem xL_0 : (0 : Int64).toInt = 0 := by decide
theorem xL_1 : (1 : Int64).toInt = 1 := by decide
theorem xL_2 : (2 : Int64).toInt = 2 := by decide
theorem xL_3 : (3 : Int64).toInt = 3 := by decide
theorem xL_4 : (4 : Int64).toInt = 4 := by decide
theorem xL_5 : (5 : Int64).toInt = 5 := by decide
theorem xL_6 : (6 : Int64).toInt = 6 := by decide
theorem xL_7 : (7 : Int64).toInt = 7 := by decide
theorem xL_8 : (8 : Int64).toInt = 8 := by decide
theorem xL_20 : (20 : Int64).toInt = 20 := by decide
theorem xL_59 : (59 : Int64).toInt = 59 := by decide
theorem xL_63 : (63 : Int64).toInt = 63 := by decide
theorem xL_99 : (99 : Int64).toInt = 99 := by decide
theorem xL_999 : (999 : Int64).toInt = 999 := by decide
theorem xushr0 {x : Int32} : (x.toUInt32 >>> ((0 : Int32).toUInt32 &&& Int32.toUInt32 31)).toInt32 = x := by
  apply Int32.toBitVec_inj.mp
  show x.toBitVec >>> _ = x.toBitVec
  simp
  rw [show ((Int32.toUInt32 0 &&& Int32.toUInt32 31).mod 32).toNat = 0 from by decide]
  simp
def F_meeting (a b c d : Int32) : Int32 := if a < 0 ∨ 7 < a ∨ ¬ b = -1 then -1 else if c < 0 ∨ 99 < c ∨ d < 0 ∨ 999 < d then -2 else 0
def F_law (a b : Int32) : Int32 := if a < 0 ∨ 1 < a then -1 else if b < 0 ∨ (a = 0 ∧ 99 < b) ∨ (¬ a = 0 ∧ 999 < b) then -2 else if a = 0 then 7 else 5
def F_good (a : Int32) : Int32 := -1
def F_seat (a b c d : Int32) : Int32 := -1
def F_out (a b : Int32) : Int32 := -1
def F_like (a b : Int32) : Int32 := -1
def F_unlike (a : Int32) : Int32 := -1
def F_credential (a : Int32) : Int32 := -1
def F_about (a b : Int32) : Int32 := -1
def F_force (a : Int32) : Int32 := -1
def F_move (a b : Int32) : Int32 := if a < 0 ∨ 4 < a ∨ a = 0 ∨ a = 1 then -1 else if a = 3 then (if b < 0 ∨ 7 < b then -1 else 1) else if b = 0 then 1 else -1
def F_vote (a : Int32) : Int32 := if a = 0 then -3 else -2
def F_motion (a b : Int32) : Int32 := -1
def F_bind (a b : Int32) : Int32 := if a < 0 ∨ 7 < a ∨ (¬ b = -1 ∧ (b < 0 ∨ 7 < b)) then -5 else -1
def F_release (a b : Int32) : Int32 := if a < 0 ∨ 7 < a then -1 else if b < 0 ∨ 1 < b then -2 else 0
def F_had (a : Int32) : Int32 := if a < 0 ∨ 7 < a then -1 else 0
def F_group (a b : Int32) : Int32 := if a < 0 ∨ 5 < a then -1 else if b < 0 ∨ 99 < b then -2 else 0
def F_offer (a : Int32) : Int32 := if a < 1 ∨ 63 < a then -2 else 0
def F_gets (a b c : Int32) : Int32 := -1
def F_bargain (a b : Int32) : Int32 := -1
def F_breaks (a : Int32) : Int32 := -1
def F_amend (a b c : Int32) : Int32 := -1
def F_strike (a b c : Int32) : Int32 := -1
def F_platform (a : Int32) : Int32 := -1
def F_taken (a : Int32) : Int32 := -1
def F_count (a : Int32) : Int32 := if 0 ≤ a ∧ a ≤ 12 ∧ ¬ a = 6 then 0 else -1
