/-! TABLES OF THE ANALYZER: shapes by place, bounds of rows and fields, rows of two places, constants -/
def aSh (p : Nat) : Option xSh := (cond (Nat.ble p 50)
(cond (Nat.ble p 25)
(cond (Nat.ble p 12)
(cond (Nat.ble p 6)
(cond (Nat.ble p 3)
(cond (Nat.ble p 1)
(cond (Nat.ble p 0)
(cond (Nat.beq p 0) (some (.inr (10, [some (some 1), some (some 5), some (some 15), some (some 17), some (some 26), some (some 32), some (some 36), some (some 47), some (some 51), some (some 55), none, none]))) none)
(cond (Nat.beq p 1) (some (.inr (2, [some (some 2), some (some 3), some (some 4), none, none, none]))) none))
(cond (Nat.ble p 2)
(cond (Nat.beq p 2) (some (.inl (.int, 24))) none)
(cond (Nat.beq p 3) (some (.inl (.int, 24))) none)))
(cond (Nat.ble p 5)
(cond (Nat.ble p 4)
(cond (Nat.beq p 4) (some (.inl (.int, 24))) none)
(cond (Nat.beq p 5) (some (.inr (7, [some (some 6), some (some 7), some (some 8), some (some 9), some (some 10), some (some 11), some (some 12), some (some 13), some (some 14), none]))) none))
(cond (Nat.beq p 6) (some (.inl (.int, 30))) none)))
(cond (Nat.ble p 9)
(cond (Nat.ble p 8)
(cond (Nat.ble p 7)
(cond (Nat.beq p 7) (some (.inl (.int, 30))) none)
(cond (Nat.beq p 8) (some (.inl (.int, 30))) none))
(cond (Nat.beq p 9) (some (.inl (.int, 30))) none))
(cond (Nat.ble p 11)
(cond (Nat.ble p 10)
(cond (Nat.beq p 10) (some (.inl (.int, 30))) none)
(cond (Nat.beq p 11) (some (.inl (.int, 30))) none))
(cond (Nat.beq p 12) (some (.inl (.int, 30))) none))))
(cond (Nat.ble p 19)
(cond (Nat.ble p 16)
(cond (Nat.ble p 14)
(cond (Nat.ble p 13)
(cond (Nat.beq p 13) (some (.inl (.int, 30))) none)
(cond (Nat.beq p 14) (some (.inl (.int, 240))) none))
(cond (Nat.ble p 15)
(cond (Nat.beq p 15) (some (.inr (9, [some (some 16), none, none, none]))) none)
(cond (Nat.beq p 16) (some (.inl (.int, 120))) none)))
(cond (Nat.ble p 18)
(cond (Nat.ble p 17)
(cond (Nat.beq p 17) (some (.inr (5, [some (some 18), some (some 19), some (some 20), some (some 21), some (some 22), some (some 23), some (some 24), some (some 25), none]))) none)
(cond (Nat.beq p 18) (some (.inl (.int, 10))) none))
(cond (Nat.beq p 19) (some (.inl (.int, 10))) none)))
(cond (Nat.ble p 22)
(cond (Nat.ble p 21)
(cond (Nat.ble p 20)
(cond (Nat.beq p 20) (some (.inl (.int, 10))) none)
(cond (Nat.beq p 21) (some (.inl (.int, 10))) none))
(cond (Nat.beq p 22) (some (.inl (.int, 10))) none))
(cond (Nat.ble p 24)
(cond (Nat.ble p 23)
(cond (Nat.beq p 23) (some (.inl (.int, 20))) none)
(cond (Nat.beq p 24) (some (.inl (.int, 20))) none))
(cond (Nat.beq p 25) (some (.inl (.int, 20))) none)))))
(cond (Nat.ble p 38)
(cond (Nat.ble p 32)
(cond (Nat.ble p 29)
(cond (Nat.ble p 27)
(cond (Nat.ble p 26)
(cond (Nat.beq p 26) (some (.inr (3, [some (some 27), some (some 28), some (some 29), some (some 30), some (some 31), none]))) none)
(cond (Nat.beq p 27) (some (.inl (.int, 6))) none))
(cond (Nat.ble p 28)
(cond (Nat.beq p 28) (some (.inl (.int, 6))) none)
(cond (Nat.beq p 29) (some (.inl (.int, 6))) none)))
(cond (Nat.ble p 31)
(cond (Nat.ble p 30)
(cond (Nat.beq p 30) (some (.inl (.int, 6))) none)
(cond (Nat.beq p 31) (some (.inl (.int, 6))) none))
(cond (Nat.beq p 32) (some (.inr (6, [some (some 33), some (some 34), some (some 35), none]))) none)))
(cond (Nat.ble p 35)
(cond (Nat.ble p 34)
(cond (Nat.ble p 33)
(cond (Nat.beq p 33) (some (.inl (.int, 40))) none)
(cond (Nat.beq p 34) (some (.inl (.int, 40))) none))
(cond (Nat.beq p 35) (some (.inl (.int, 40))) none))
(cond (Nat.ble p 37)
(cond (Nat.ble p 36)
(cond (Nat.beq p 36) (some (.inr (0, [some (some 37), some (some 43), some (some 44), some (some 45), some (some 46), none, none]))) none)
(cond (Nat.beq p 37) (some (.inr (8, [some (some 38), some (some 39), some (some 40), some (some 41), some (some 42), none, none]))) none))
(cond (Nat.beq p 38) (some (.inl (.int, 30))) none))))
(cond (Nat.ble p 44)
(cond (Nat.ble p 41)
(cond (Nat.ble p 40)
(cond (Nat.ble p 39)
(cond (Nat.beq p 39) (some (.inl (.int, 64))) none)
(cond (Nat.beq p 40) (some (.inl (.int, 8))) none))
(cond (Nat.beq p 41) (some (.inl (.int, 8))) none))
(cond (Nat.ble p 43)
(cond (Nat.ble p 42)
(cond (Nat.beq p 42) (some (.inl (.int, 8))) none)
(cond (Nat.beq p 43) (some (.inl (.int, 8))) none))
(cond (Nat.beq p 44) (some (.inl (.int, 8))) none)))
(cond (Nat.ble p 47)
(cond (Nat.ble p 46)
(cond (Nat.ble p 45)
(cond (Nat.beq p 45) (some (.inl (.int, 8))) none)
(cond (Nat.beq p 46) (some (.inl (.int, 8))) none))
(cond (Nat.beq p 47) (some (.inr (1, [some (some 48), some (some 49), some (some 50), none]))) none))
(cond (Nat.ble p 49)
(cond (Nat.ble p 48)
(cond (Nat.beq p 48) (some (.inl (.int, 6))) none)
(cond (Nat.beq p 49) (some (.inl (.int, 12))) none))
(cond (Nat.beq p 50) (some (.inl (.int, 72))) none))))))
(cond (Nat.ble p 76)
(cond (Nat.ble p 63)
(cond (Nat.ble p 57)
(cond (Nat.ble p 54)
(cond (Nat.ble p 52)
(cond (Nat.ble p 51)
(cond (Nat.beq p 51) (some (.inr (4, [some (some 52), some (some 53), some (some 54), none]))) none)
(cond (Nat.beq p 52) (some (.inl (.int, 96))) none))
(cond (Nat.ble p 53)
(cond (Nat.beq p 53) (some (.inl (.int, 8))) none)
(cond (Nat.beq p 54) (some (.inl (.int, 8))) none)))
(cond (Nat.ble p 56)
(cond (Nat.ble p 55)
(cond (Nat.beq p 55) (some (.inl (.int, 4))) none)
(cond (Nat.beq p 56) (some (.inr (11, [none, some (some 57), some (some 58), some (some 59), some (some 60), some (some 61), none, some (some 62), some (some 63), some (some 64), some (some 65), some (some 66), some (some 67), some (some 68), some (some 69), some (some 70), none, none, some (some 71), some (some 72), some (some 73), some (some 74), some (some 75), some (some 76), some (some 77), some (some 78), none, none, some (some 79), some (some 80), some (some 81), none, some (some 82), some (some 83), some (some 84), some (some 85), some (some 86), none, none, none, some (some 87), some (some 88), some (some 89), none, some (some 90), some (some 91), some (some 92), some (some 93), some (some 94), some (some 95), none, some (some 96), none, some (some 97), some (some 98), none, some (some 99), some (some 100), some (some 101)]))) none))
(cond (Nat.beq p 57) (some (.inl (.int, 24))) none)))
(cond (Nat.ble p 60)
(cond (Nat.ble p 59)
(cond (Nat.ble p 58)
(cond (Nat.beq p 58) (some (.inl (.int, 24))) none)
(cond (Nat.beq p 59) (some (.inl (.int, 24))) none))
(cond (Nat.beq p 60) (some (.inl (.int, 24))) none))
(cond (Nat.ble p 62)
(cond (Nat.ble p 61)
(cond (Nat.beq p 61) (some (.inl (.int, 2))) none)
(cond (Nat.beq p 62) (some (.inl (.int, 30))) none))
(cond (Nat.beq p 63) (some (.inl (.int, 30))) none))))
(cond (Nat.ble p 70)
(cond (Nat.ble p 67)
(cond (Nat.ble p 65)
(cond (Nat.ble p 64)
(cond (Nat.beq p 64) (some (.inl (.int, 30))) none)
(cond (Nat.beq p 65) (some (.inl (.int, 30))) none))
(cond (Nat.ble p 66)
(cond (Nat.beq p 66) (some (.inl (.boolean, 30))) none)
(cond (Nat.beq p 67) (some (.inl (.int, 30))) none)))
(cond (Nat.ble p 69)
(cond (Nat.ble p 68)
(cond (Nat.beq p 68) (some (.inl (.int, 30))) none)
(cond (Nat.beq p 69) (some (.inl (.int, 240))) none))
(cond (Nat.beq p 70) (some (.inl (.byte, 120))) none)))
(cond (Nat.ble p 73)
(cond (Nat.ble p 72)
(cond (Nat.ble p 71)
(cond (Nat.beq p 71) (some (.inl (.int, 10))) none)
(cond (Nat.beq p 72) (some (.inl (.int, 10))) none))
(cond (Nat.beq p 73) (some (.inl (.int, 10))) none))
(cond (Nat.ble p 75)
(cond (Nat.ble p 74)
(cond (Nat.beq p 74) (some (.inl (.int, 10))) none)
(cond (Nat.beq p 75) (some (.inl (.int, 10))) none))
(cond (Nat.beq p 76) (some (.inl (.int, 20))) none)))))
(cond (Nat.ble p 89)
(cond (Nat.ble p 83)
(cond (Nat.ble p 80)
(cond (Nat.ble p 78)
(cond (Nat.ble p 77)
(cond (Nat.beq p 77) (some (.inl (.int, 20))) none)
(cond (Nat.beq p 78) (some (.inl (.int, 20))) none))
(cond (Nat.ble p 79)
(cond (Nat.beq p 79) (some (.inl (.char, 47))) none)
(cond (Nat.beq p 80) (some (.inl (.int, 9))) none)))
(cond (Nat.ble p 82)
(cond (Nat.ble p 81)
(cond (Nat.beq p 81) (some (.inl (.int, 9))) none)
(cond (Nat.beq p 82) (some (.inl (.int, 6))) none))
(cond (Nat.beq p 83) (some (.inl (.int, 6))) none)))
(cond (Nat.ble p 86)
(cond (Nat.ble p 85)
(cond (Nat.ble p 84)
(cond (Nat.beq p 84) (some (.inl (.int, 6))) none)
(cond (Nat.beq p 85) (some (.inl (.int, 6))) none))
(cond (Nat.beq p 86) (some (.inl (.int, 6))) none))
(cond (Nat.ble p 88)
(cond (Nat.ble p 87)
(cond (Nat.beq p 87) (some (.inl (.int, 40))) none)
(cond (Nat.beq p 88) (some (.inl (.int, 40))) none))
(cond (Nat.beq p 89) (some (.inl (.int, 40))) none))))
(cond (Nat.ble p 95)
(cond (Nat.ble p 92)
(cond (Nat.ble p 91)
(cond (Nat.ble p 90)
(cond (Nat.beq p 90) (some (.inl (.int, 8))) none)
(cond (Nat.beq p 91) (some (.inl (.boolean, 8))) none))
(cond (Nat.beq p 92) (some (.inl (.int, 8))) none))
(cond (Nat.ble p 94)
(cond (Nat.ble p 93)
(cond (Nat.beq p 93) (some (.inl (.int, 8))) none)
(cond (Nat.beq p 94) (some (.inl (.int, 8))) none))
(cond (Nat.beq p 95) (some (.inl (.boolean, 8))) none)))
(cond (Nat.ble p 98)
(cond (Nat.ble p 97)
(cond (Nat.ble p 96)
(cond (Nat.beq p 96) (some (.inl (.int, 6))) none)
(cond (Nat.beq p 97) (some (.inl (.int, 12))) none))
(cond (Nat.beq p 98) (some (.inl (.int, 72))) none))
(cond (Nat.ble p 100)
(cond (Nat.ble p 99)
(cond (Nat.beq p 99) (some (.inl (.boolean, 8))) none)
(cond (Nat.beq p 100) (some (.inl (.int, 8))) none))
(cond (Nat.beq p 101) (some (.inl (.int, 96))) none)))))))
def aSha (p : Nat) : Option xSh := bif Nat.ble 102 p then none else aSh p
theorem aSha_of {p : Nat} {d : xSh} (h : aSha p = some d) : xsh0[p]? = some d := by
  unfold aSha at h
  match p, h with
  | 0, h => exact h
  | 1, h => exact h
  | 2, h => exact h
  | 3, h => exact h
  | 4, h => exact h
  | 5, h => exact h
  | 6, h => exact h
  | 7, h => exact h
  | 8, h => exact h
  | 9, h => exact h
  | 10, h => exact h
  | 11, h => exact h
  | 12, h => exact h
  | 13, h => exact h
  | 14, h => exact h
  | 15, h => exact h
  | 16, h => exact h
  | 17, h => exact h
  | 18, h => exact h
  | 19, h => exact h
  | 20, h => exact h
  | 21, h => exact h
  | 22, h => exact h
  | 23, h => exact h
  | 24, h => exact h
  | 25, h => exact h
  | 26, h => exact h
  | 27, h => exact h
  | 28, h => exact h
  | 29, h => exact h
  | 30, h => exact h
  | 31, h => exact h
  | 32, h => exact h
  | 33, h => exact h
  | 34, h => exact h
  | 35, h => exact h
  | 36, h => exact h
  | 37, h => exact h
  | 38, h => exact h
  | 39, h => exact h
  | 40, h => exact h
  | 41, h => exact h
  | 42, h => exact h
  | 43, h => exact h
  | 44, h => exact h
  | 45, h => exact h
  | 46, h => exact h
  | 47, h => exact h
  | 48, h => exact h
  | 49, h => exact h
  | 50, h => exact h
  | 51, h => exact h
  | 52, h => exact h
  | 53, h => exact h
  | 54, h => exact h
  | 55, h => exact h
  | 56, h => exact h
  | 57, h => exact h
  | 58, h => exact h
  | 59, h => exact h
  | 60, h => exact h
  | 61, h => exact h
  | 62, h => exact h
  | 63, h => exact h
  | 64, h => exact h
  | 65, h => exact h
  | 66, h => exact h
  | 67, h => exact h
  | 68, h => exact h
  | 69, h => exact h
  | 70, h => exact h
  | 71, h => exact h
  | 72, h => exact h
  | 73, h => exact h
  | 74, h => exact h
  | 75, h => exact h
  | 76, h => exact h
  | 77, h => exact h
  | 78, h => exact h
  | 79, h => exact h
  | 80, h => exact h
  | 81, h => exact h
  | 82, h => exact h
  | 83, h => exact h
  | 84, h => exact h
  | 85, h => exact h
  | 86, h => exact h
  | 87, h => exact h
  | 88, h => exact h
  | 89, h => exact h
  | 90, h => exact h
  | 91, h => exact h
  | 92, h => exact h
  | 93, h => exact h
  | 94, h => exact h
  | 95, h => exact h
  | 96, h => exact h
  | 97, h => exact h
  | 98, h => exact h
  | 99, h => exact h
  | 100, h => exact h
  | 101, h => exact h
  | n + 102, h =>
    rw [show Nat.ble 102 (n + 102) = true from Nat.ble_eq_true_of_le (Nat.le_add_left 102 n)] at h
    cases h
def aIvA (p : Nat) : Option (Int × Int) := (cond (Nat.ble p 64)
(cond (Nat.ble p 22)
(cond (Nat.ble p 9)
(cond (Nat.ble p 7)
(cond (Nat.ble p 2)
(cond (Nat.beq p 2) (some (.negSucc 0, .ofNat 23)) none)
(cond (Nat.beq p 7) (some (.ofNat 0, .ofNat 7)) none))
(cond (Nat.ble p 8)
(cond (Nat.beq p 8) (some (.ofNat 0, .ofNat 23)) none)
(cond (Nat.beq p 9) (some (.ofNat 0, .ofNat 29)) none)))
(cond (Nat.ble p 13)
(cond (Nat.ble p 11)
(cond (Nat.beq p 11) (some (.ofNat 0, .ofNat 1)) none)
(cond (Nat.beq p 13) (some (.ofNat 0, .ofNat 8)) none))
(cond (Nat.ble p 14)
(cond (Nat.beq p 14) (some (.ofNat 0, .ofNat 7)) none)
(cond (Nat.beq p 22) (some (.ofNat 0, .ofNat 2)) none))))
(cond (Nat.ble p 43)
(cond (Nat.ble p 28)
(cond (Nat.ble p 23)
(cond (Nat.beq p 23) (some (.ofNat 0, .ofNat 3)) none)
(cond (Nat.beq p 28) (some (.ofNat 0, .ofNat 2147483647)) none))
(cond (Nat.ble p 34)
(cond (Nat.beq p 34) (some (.ofNat 0, .ofNat 29)) none)
(cond (Nat.beq p 43) (some (.negSucc 0, .ofNat 7)) none)))
(cond (Nat.ble p 53)
(cond (Nat.ble p 44)
(cond (Nat.beq p 44) (some (.ofNat 0, .ofNat 1)) none)
(cond (Nat.beq p 53) (some (.ofNat 0, .ofNat 12)) none))
(cond (Nat.ble p 58)
(cond (Nat.beq p 58) (some (.negSucc 0, .ofNat 23)) none)
(cond (Nat.beq p 64) (some (.ofNat 0, .ofNat 23)) none)))))
(cond (Nat.ble p 81)
(cond (Nat.ble p 69)
(cond (Nat.ble p 66)
(cond (Nat.ble p 65)
(cond (Nat.beq p 65) (some (.ofNat 0, .ofNat 2147483647)) none)
(cond (Nat.beq p 66) (some (.ofNat 0, .ofNat 1)) none))
(cond (Nat.ble p 68)
(cond (Nat.beq p 68) (some (.ofNat 0, .ofNat 8)) none)
(cond (Nat.beq p 69) (some (.ofNat 0, .ofNat 7)) none)))
(cond (Nat.ble p 75)
(cond (Nat.ble p 70)
(cond (Nat.beq p 70) (some (.negSucc 127, .ofNat 127)) none)
(cond (Nat.beq p 75) (some (.ofNat 0, .ofNat 2)) none))
(cond (Nat.ble p 80)
(cond (Nat.beq p 80) (some (.ofNat 0, .ofNat 42)) none)
(cond (Nat.beq p 81) (some (.ofNat 0, .ofNat 7)) none))))
(cond (Nat.ble p 91)
(cond (Nat.ble p 88)
(cond (Nat.ble p 83)
(cond (Nat.beq p 83) (some (.ofNat 0, .ofNat 2147483647)) none)
(cond (Nat.beq p 88) (some (.ofNat 0, .ofNat 29)) none))
(cond (Nat.ble p 90)
(cond (Nat.beq p 90) (some (.negSucc 0, .ofNat 7)) none)
(cond (Nat.beq p 91) (some (.ofNat 0, .ofNat 1)) none)))
(cond (Nat.ble p 99)
(cond (Nat.ble p 95)
(cond (Nat.beq p 95) (some (.ofNat 0, .ofNat 1)) none)
(cond (Nat.beq p 99) (some (.ofNat 0, .ofNat 1)) none))
(cond (Nat.beq p 100) (some (.ofNat 0, .ofNat 12)) none)))))
def aIvFl : List ((Nat × Nat) × (Int × Int)) := [((0, 10), (.ofNat 0, .ofNat 1)), ((1, 3), (.ofNat 0, .ofNat 24)), ((5, 9), (.ofNat 0, .ofNat 30)), ((15, 1), (.ofNat 0, .ofNat 120)), ((15, 2), (.ofNat 0, .ofNat 120)), ((15, 3), (.ofNat 0, .ofNat 1)), ((17, 8), (.ofNat 0, .ofNat 10)), ((26, 5), (.ofNat 0, .ofNat 6)), ((32, 3), (.ofNat 0, .ofNat 40)), ((36, 6), (.ofNat 0, .ofNat 8)), ((47, 3), (.ofNat 0, .ofNat 12)), ((51, 3), (.ofNat 0, .ofNat 8)), ((56, 0), (.ofNat 0, .ofNat 24)), ((56, 6), (.ofNat 0, .ofNat 30)), ((56, 16), (.ofNat 0, .ofNat 120)), ((56, 17), (.ofNat 0, .ofNat 10)), ((56, 26), (.ofNat 0, .ofNat 121)), ((56, 27), (.negSucc 0, .ofNat 121)), ((56, 31), (.ofNat 0, .ofNat 6)), ((56, 37), (.ofNat 0, .ofNat 1)), ((56, 39), (.ofNat 0, .ofNat 40)), ((56, 52), (.ofNat 0, .ofNat 12)), ((56, 55), (.ofNat 0, .ofNat 8))]
def aIvF (p b : Nat) : Option (Int × Int) := match aIvFl.find? (fun t => Nat.beq t.1.1 p && Nat.beq t.1.2 b) with
  | some t => some t.2
  | none => none
def aRws : List aRw := [(6, (.ofNat 3, .ofNat 3), 9, .ofNat 0, (.ofNat 0, .ofNat 7)), (27, (.ofNat 0, .ofNat 0), 28, .ofNat 0, (.ofNat 0, .ofNat 7)), (33, (.ofNat 0, .ofNat 0), 34, .ofNat 0, (.ofNat 0, .ofNat 7)), (62, (.ofNat 5, .ofNat 5), 65, .ofNat 0, (.ofNat 0, .ofNat 29)), (62, (.ofNat 4, .ofNat 4), 65, .ofNat 0, (.ofNat 0, .ofNat 23)), (62, (.ofNat 3, .ofNat 3), 65, .ofNat 100, (.ofNat 0, .ofNat 7)), (82, (.ofNat 0, .ofNat 0), 83, .ofNat 0, (.ofNat 0, .ofNat 7)), (87, (.ofNat 0, .ofNat 0), 88, .ofNat 0, (.ofNat 0, .ofNat 7))]
def aKc (p : Nat) : Option (List Int) := (cond (Nat.ble p 80)
(cond (Nat.beq p 80) (some [.ofNat 0, .ofNat 5, .ofNat 9, .ofNat 15, .ofNat 19, .ofNat 24, .ofNat 31, .ofNat 36, .ofNat 42]) none)
(cond (Nat.beq p 81) (some [.ofNat 5, .ofNat 4, .ofNat 6, .ofNat 4, .ofNat 5, .ofNat 7, .ofNat 5, .ofNat 6, .ofNat 5]) none))
def aPrA (p : Nat) : Bool := [13, 14, 58, 68, 69, 80, 81].any (Nat.beq p)
def aPrF (p b : Nat) : Bool := [(56, 0), (56, 6), (56, 26), (56, 27)].any (fun t : Nat × Nat => Nat.beq p t.1 && Nat.beq b t.2)
