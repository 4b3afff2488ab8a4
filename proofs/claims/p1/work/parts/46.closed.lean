/-! CLOSED RUNS on fresh objects: by computation -/
def xshE : List xSh := [.inl (.long, 0),
  .inl (.long, 0),
  .inl (.long, 0),
  .inl (.long, 0),
  .inl (.long, 0),
  .inl (.long, 0),
  .inl (.long, 0),
  .inl (.long, 0),
  .inl (.long, 0),
  .inl (.long, 0),
  .inl (.long, 0),
  .inl (.long, 0),
  .inl (.long, 0),
  .inl (.long, 0),
  .inl (.long, 0),
  .inl (.long, 0),
  .inl (.long, 0),
  .inl (.long, 0),
  .inl (.long, 0),
  .inl (.long, 0),
  .inl (.long, 0),
  .inl (.long, 0),
  .inl (.long, 0),
  .inl (.long, 0),
  .inl (.long, 0),
  .inl (.long, 0),
  .inl (.long, 0),
  .inl (.long, 0),
  .inl (.long, 0),
  .inl (.long, 0),
  .inl (.long, 0),
  .inl (.long, 0),
  .inl (.long, 0),
  .inl (.long, 0),
  .inl (.long, 0),
  .inl (.long, 0),
  .inl (.long, 0),
  .inl (.long, 0),
  .inl (.long, 0),
  .inl (.long, 0),
  .inl (.long, 0),
  .inl (.long, 0),
  .inl (.long, 0),
  .inl (.long, 0),
  .inl (.long, 0),
  .inl (.long, 0),
  .inl (.long, 0),
  .inl (.long, 0),
  .inl (.long, 0),
  .inl (.long, 0),
  .inl (.long, 0),
  .inl (.long, 0),
  .inl (.long, 0),
  .inl (.long, 0),
  .inl (.long, 0),
  .inl (.long, 0),
  .inr (11, [none, some (some 57), some (some 58), some (some 59), some (some 60), some (some 61), none, some (some 62), some (some 63), some (some 64), some (some 65), some (some 66), some (some 67), some (some 68), some (some 69), some (some 70), none, none, some (some 71), some (some 72), some (some 73), some (some 74), some (some 75), some (some 76), some (some 77), some (some 78), none, none, some (some 79), some (some 80), some (some 81), none, some (some 82), some (some 83), some (some 84), some (some 85), some (some 86), none, none, none, some (some 87), some (some 88), some (some 89), none, some (some 90), some (some 91), some (some 92), some (some 93), some (some 94), some (some 95), none, some (some 96), none, some (some 97), some (some 98), none, some (some 99), some (some 100), some (some 101)]),
  .inl (.long, 0),
  .inl (.long, 0),
  .inl (.long, 0),
  .inl (.long, 0),
  .inl (.long, 0),
  .inl (.long, 0),
  .inl (.long, 0),
  .inl (.long, 0),
  .inl (.long, 0),
  .inl (.long, 0),
  .inl (.long, 0),
  .inl (.long, 0),
  .inl (.long, 0),
  .inl (.long, 0),
  .inl (.long, 0),
  .inl (.long, 0),
  .inl (.long, 0),
  .inl (.long, 0),
  .inl (.long, 0),
  .inl (.long, 0),
  .inl (.long, 0),
  .inl (.long, 0),
  .inl (.long, 0),
  .inl (.long, 0),
  .inl (.long, 0),
  .inl (.long, 0),
  .inl (.long, 0),
  .inl (.long, 0),
  .inl (.long, 0),
  .inl (.long, 0),
  .inl (.long, 0),
  .inl (.long, 0),
  .inl (.long, 0),
  .inl (.long, 0),
  .inl (.boolean, 8),
  .inl (.long, 0),
  .inl (.int, 8),
  .inl (.int, 8),
  .inl (.boolean, 8),
  .inl (.long, 0),
  .inl (.long, 0),
  .inl (.long, 0),
  .inl (.long, 0),
  .inl (.long, 0),
  .inl (.long, 0)]
def xMtB : xM := fun p i => (cond (Nat.ble p 56)
 (cond (Nat.ble p 1)
 (cond (Nat.ble p 0)
 (cond (Nat.beq p 0) (cond (Nat.beq i 11) (-1) 0) 0)
 (cond (Nat.beq p 1) (cond (Nat.ble i 4) (cond (Nat.beq i 4) (7) 0) (cond (Nat.beq i 5) (5) 0)) 0))
 (cond (Nat.ble p 43)
 (cond (Nat.beq p 43) (cond (Nat.ble i 3) (cond (Nat.ble i 1) (cond (Nat.ble i 0) (cond (Nat.beq i 0) (-1) 0) (cond (Nat.beq i 1) (-1) 0)) (cond (Nat.ble i 2) (cond (Nat.beq i 2) (-1) 0) (cond (Nat.beq i 3) (-1) 0))) (cond (Nat.ble i 5) (cond (Nat.ble i 4) (cond (Nat.beq i 4) (-1) 0) (cond (Nat.beq i 5) (-1) 0)) (cond (Nat.ble i 6) (cond (Nat.beq i 6) (-1) 0) (cond (Nat.beq i 7) (-1) 0)))) 0)
 (cond (Nat.beq p 56) (cond (Nat.ble i 38) (cond (Nat.beq i 38) (-1) 0) (cond (Nat.beq i 50) (8) 0)) 0)))
 (cond (Nat.ble p 79)
 (cond (Nat.ble p 61)
 (cond (Nat.beq p 61) (cond (Nat.ble i 0) (cond (Nat.beq i 0) (7) 0) (cond (Nat.beq i 1) (5) 0)) 0)
 (cond (Nat.beq p 79) (cond (Nat.ble i 22) (cond (Nat.ble i 10) (cond (Nat.ble i 4) (cond (Nat.ble i 1) (cond (Nat.ble i 0) (cond (Nat.beq i 0) (112) 0) (cond (Nat.beq i 1) (108) 0)) (cond (Nat.ble i 2) (cond (Nat.beq i 2) (97) 0) (cond (Nat.ble i 3) (cond (Nat.beq i 3) (110) 0) (cond (Nat.beq i 4) (107) 0)))) (cond (Nat.ble i 7) (cond (Nat.ble i 5) (cond (Nat.beq i 5) (115) 0) (cond (Nat.ble i 6) (cond (Nat.beq i 6) (101) 0) (cond (Nat.beq i 7) (97) 0))) (cond (Nat.ble i 8) (cond (Nat.beq i 8) (116) 0) (cond (Nat.ble i 9) (cond (Nat.beq i 9) (97) 0) (cond (Nat.beq i 10) (112) 0))))) (cond (Nat.ble i 16) (cond (Nat.ble i 13) (cond (Nat.ble i 11) (cond (Nat.beq i 11) (112) 0) (cond (Nat.ble i 12) (cond (Nat.beq i 12) (101) 0) (cond (Nat.beq i 13) (97) 0))) (cond (Nat.ble i 14) (cond (Nat.beq i 14) (108) 0) (cond (Nat.ble i 15) (cond (Nat.beq i 15) (110) 0) (cond (Nat.beq i 16) (97) 0)))) (cond (Nat.ble i 19) (cond (Nat.ble i 17) (cond (Nat.beq i 17) (109) 0) (cond (Nat.ble i 18) (cond (Nat.beq i 18) (101) 0) (cond (Nat.beq i 19) (99) 0))) (cond (Nat.ble i 20) (cond (Nat.beq i 20) (108) 0) (cond (Nat.ble i 21) (cond (Nat.beq i 21) (111) 0) (cond (Nat.beq i 22) (115) 0)))))) (cond (Nat.ble i 34) (cond (Nat.ble i 28) (cond (Nat.ble i 25) (cond (Nat.ble i 23) (cond (Nat.beq i 23) (101) 0) (cond (Nat.ble i 24) (cond (Nat.beq i 24) (98) 0) (cond (Nat.beq i 25) (97) 0))) (cond (Nat.ble i 26) (cond (Nat.beq i 26) (108) 0) (cond (Nat.ble i 27) (cond (Nat.beq i 27) (108) 0) (cond (Nat.beq i 28) (111) 0)))) (cond (Nat.ble i 31) (cond (Nat.ble i 29) (cond (Nat.beq i 29) (116) 0) (cond (Nat.ble i 30) (cond (Nat.beq i 30) (115) 0) (cond (Nat.beq i 31) (115) 0))) (cond (Nat.ble i 32) (cond (Nat.beq i 32) (101) 0) (cond (Nat.ble i 33) (cond (Nat.beq i 33) (97) 0) (cond (Nat.beq i 34) (116) 0))))) (cond (Nat.ble i 40) (cond (Nat.ble i 37) (cond (Nat.ble i 35) (cond (Nat.beq i 35) (115) 0) (cond (Nat.ble i 36) (cond (Nat.beq i 36) (112) 0) (cond (Nat.beq i 37) (108) 0))) (cond (Nat.ble i 38) (cond (Nat.beq i 38) (97) 0) (cond (Nat.ble i 39) (cond (Nat.beq i 39) (110) 0) (cond (Nat.beq i 40) (107) 0)))) (cond (Nat.ble i 43) (cond (Nat.ble i 41) (cond (Nat.beq i 41) (115) 0) (cond (Nat.ble i 42) (cond (Nat.beq i 42) (100) 0) (cond (Nat.beq i 43) (101) 0))) (cond (Nat.ble i 44) (cond (Nat.beq i 44) (112) 0) (cond (Nat.ble i 45) (cond (Nat.beq i 45) (116) 0) (cond (Nat.beq i 46) (104) 0))))))) 0))
 (cond (Nat.ble p 80)
 (cond (Nat.beq p 80) (cond (Nat.ble i 4) (cond (Nat.ble i 2) (cond (Nat.ble i 1) (cond (Nat.beq i 1) (5) 0) (cond (Nat.beq i 2) (9) 0)) (cond (Nat.ble i 3) (cond (Nat.beq i 3) (15) 0) (cond (Nat.beq i 4) (19) 0))) (cond (Nat.ble i 6) (cond (Nat.ble i 5) (cond (Nat.beq i 5) (24) 0) (cond (Nat.beq i 6) (31) 0)) (cond (Nat.ble i 7) (cond (Nat.beq i 7) (36) 0) (cond (Nat.beq i 8) (42) 0)))) 0)
 (cond (Nat.ble p 81)
 (cond (Nat.beq p 81) (cond (Nat.ble i 3) (cond (Nat.ble i 1) (cond (Nat.ble i 0) (cond (Nat.beq i 0) (5) 0) (cond (Nat.beq i 1) (4) 0)) (cond (Nat.ble i 2) (cond (Nat.beq i 2) (6) 0) (cond (Nat.beq i 3) (4) 0))) (cond (Nat.ble i 5) (cond (Nat.ble i 4) (cond (Nat.beq i 4) (5) 0) (cond (Nat.beq i 5) (7) 0)) (cond (Nat.ble i 6) (cond (Nat.beq i 6) (5) 0) (cond (Nat.ble i 7) (cond (Nat.beq i 7) (6) 0) (cond (Nat.beq i 8) (5) 0))))) 0)
 (cond (Nat.beq p 90) (cond (Nat.ble i 3) (cond (Nat.ble i 1) (cond (Nat.ble i 0) (cond (Nat.beq i 0) (-1) 0) (cond (Nat.beq i 1) (-1) 0)) (cond (Nat.ble i 2) (cond (Nat.beq i 2) (-1) 0) (cond (Nat.beq i 3) (-1) 0))) (cond (Nat.ble i 5) (cond (Nat.ble i 4) (cond (Nat.beq i 4) (-1) 0) (cond (Nat.beq i 5) (-1) 0)) (cond (Nat.ble i 6) (cond (Nat.beq i 6) (-1) 0) (cond (Nat.beq i 7) (-1) 0)))) 0)))))
theorem P0.map {n y : Nat} {s : xS} {v : Option Value} (h : (xrun0 false n y s).map (fun r => r.1) = some v) : P0 y s (fun r => r.1 = v) := by
  cases hr : xrun0 false n y s with
  | none => rw [hr] at h; cases h
  | some r =>
    rw [hr] at h
    exact ⟨n, r, hr, Option.some.inj h⟩
theorem wc_rule : P0 113 (0, [some (.ref 0), none], [], 102, xshC, xMt) (fun r => r.1 = some (.int (-10))) := P0.map (n := 10000) (by decide +kernel)
theorem wc_ballot : P0 120 (0, [some (.ref 0)], [], 102, xshC, xMt) (fun r => r.1 = some (.int (-1))) := P0.map (n := 10000) (by decide +kernel)
theorem wc_plank : P0 130 (0, [some (.ref 0)], [], 102, xshC, xMt) (fun r => r.1 = some (.int 0)) := P0.map (n := 10000) (by decide +kernel)
theorem wm_rule : P0 180 (0, [some (.ref 56)], [], 102, xshD, xMt) (fun r => r.1 = some (.int (-10))) := P0.map (n := 10000) (by decide +kernel)
theorem wm_ballot : P0 199 (0, [some (.ref 56), none, none], [], 102, xshD, xMt) (fun r => r.1 = some (.int (-1))) := P0.map (n := 10000) (by decide +kernel)
theorem wm_plank : P0 215 (0, [some (.ref 56)], [], 102, xshD, xMt) (fun r => r.1 = some (.int 0)) := P0.map (n := 10000) (by decide +kernel)
