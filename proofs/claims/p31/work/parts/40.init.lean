/-! THE START: what the two constructors make, by computation -/
def xsh1 : List xSh := [.inr (10, [some (some 1), some (some 5), some (some 15), some (some 17), some (some 26), some (some 32), some (some 36), some (some 47), some (some 51), some (some 55), none, none]),
  .inr (2, [some (some 2), some (some 3), some (some 4), none, none, none]),
  .inl (.int, 24),
  .inl (.int, 24),
  .inl (.int, 24),
  .inr (7, [some (some 6), some (some 7), some (some 8), some (some 9), some (some 10), some (some 11), some (some 12), some (some 13), some (some 14), none]),
  .inl (.int, 30),
  .inl (.int, 30),
  .inl (.int, 30),
  .inl (.int, 30),
  .inl (.int, 30),
  .inl (.int, 30),
  .inl (.int, 30),
  .inl (.int, 30),
  .inl (.int, 240),
  .inr (9, [some (some 16), none, none, none]),
  .inl (.int, 120),
  .inr (5, [some (some 18), some (some 19), some (some 20), some (some 21), some (some 22), some (some 23), some (some 24), some (some 25), none]),
  .inl (.int, 10),
  .inl (.int, 10),
  .inl (.int, 10),
  .inl (.int, 10),
  .inl (.int, 10),
  .inl (.int, 20),
  .inl (.int, 20),
  .inl (.int, 20),
  .inr (3, [some (some 27), some (some 28), some (some 29), some (some 30), some (some 31), none]),
  .inl (.int, 6),
  .inl (.int, 6),
  .inl (.int, 6),
  .inl (.int, 6),
  .inl (.int, 6),
  .inr (6, [some (some 33), some (some 34), some (some 35), none]),
  .inl (.int, 40),
  .inl (.int, 40),
  .inl (.int, 40),
  .inr (0, [some (some 37), some (some 43), some (some 44), some (some 45), some (some 46), none, none]),
  .inr (8, [some (some 38), some (some 39), some (some 40), some (some 41), some (some 42), none, none]),
  .inl (.int, 30),
  .inl (.int, 64),
  .inl (.int, 8),
  .inl (.int, 8),
  .inl (.int, 8),
  .inl (.int, 8),
  .inl (.int, 8),
  .inl (.int, 8),
  .inl (.int, 8),
  .inr (1, [some (some 48), some (some 49), some (some 50), none]),
  .inl (.int, 6),
  .inl (.int, 12),
  .inl (.int, 72),
  .inr (4, [some (some 52), some (some 53), some (some 54), none]),
  .inl (.int, 96),
  .inl (.int, 8),
  .inl (.int, 8),
  .inl (.int, 4)]
def xsh0 : List xSh := [.inr (10, [some (some 1), some (some 5), some (some 15), some (some 17), some (some 26), some (some 32), some (some 36), some (some 47), some (some 51), some (some 55), none, none]),
  .inr (2, [some (some 2), some (some 3), some (some 4), none, none, none]),
  .inl (.int, 24),
  .inl (.int, 24),
  .inl (.int, 24),
  .inr (7, [some (some 6), some (some 7), some (some 8), some (some 9), some (some 10), some (some 11), some (some 12), some (some 13), some (some 14), none]),
  .inl (.int, 30),
  .inl (.int, 30),
  .inl (.int, 30),
  .inl (.int, 30),
  .inl (.int, 30),
  .inl (.int, 30),
  .inl (.int, 30),
  .inl (.int, 30),
  .inl (.int, 240),
  .inr (9, [some (some 16), none, none, none]),
  .inl (.int, 120),
  .inr (5, [some (some 18), some (some 19), some (some 20), some (some 21), some (some 22), some (some 23), some (some 24), some (some 25), none]),
  .inl (.int, 10),
  .inl (.int, 10),
  .inl (.int, 10),
  .inl (.int, 10),
  .inl (.int, 10),
  .inl (.int, 20),
  .inl (.int, 20),
  .inl (.int, 20),
  .inr (3, [some (some 27), some (some 28), some (some 29), some (some 30), some (some 31), none]),
  .inl (.int, 6),
  .inl (.int, 6),
  .inl (.int, 6),
  .inl (.int, 6),
  .inl (.int, 6),
  .inr (6, [some (some 33), some (some 34), some (some 35), none]),
  .inl (.int, 40),
  .inl (.int, 40),
  .inl (.int, 40),
  .inr (0, [some (some 37), some (some 43), some (some 44), some (some 45), some (some 46), none, none]),
  .inr (8, [some (some 38), some (some 39), some (some 40), some (some 41), some (some 42), none, none]),
  .inl (.int, 30),
  .inl (.int, 64),
  .inl (.int, 8),
  .inl (.int, 8),
  .inl (.int, 8),
  .inl (.int, 8),
  .inl (.int, 8),
  .inl (.int, 8),
  .inl (.int, 8),
  .inr (1, [some (some 48), some (some 49), some (some 50), none]),
  .inl (.int, 6),
  .inl (.int, 12),
  .inl (.int, 72),
  .inr (4, [some (some 52), some (some 53), some (some 54), none]),
  .inl (.int, 96),
  .inl (.int, 8),
  .inl (.int, 8),
  .inl (.int, 4),
  .inr (11, [none, some (some 57), some (some 58), some (some 59), some (some 60), some (some 61), none, some (some 62), some (some 63), some (some 64), some (some 65), some (some 66), some (some 67), some (some 68), some (some 69), some (some 70), none, none, some (some 71), some (some 72), some (some 73), some (some 74), some (some 75), some (some 76), some (some 77), some (some 78), none, none, some (some 79), some (some 80), some (some 81), none, some (some 82), some (some 83), some (some 84), some (some 85), some (some 86), none, none, none, some (some 87), some (some 88), some (some 89), none, some (some 90), some (some 91), some (some 92), some (some 93), some (some 94), some (some 95), none, some (some 96), none, some (some 97), some (some 98), none, some (some 99), some (some 100), some (some 101)]),
  .inl (.int, 24),
  .inl (.int, 24),
  .inl (.int, 24),
  .inl (.int, 24),
  .inl (.int, 2),
  .inl (.int, 30),
  .inl (.int, 30),
  .inl (.int, 30),
  .inl (.int, 30),
  .inl (.boolean, 30),
  .inl (.int, 30),
  .inl (.int, 30),
  .inl (.int, 240),
  .inl (.byte, 120),
  .inl (.int, 10),
  .inl (.int, 10),
  .inl (.int, 10),
  .inl (.int, 10),
  .inl (.int, 10),
  .inl (.int, 20),
  .inl (.int, 20),
  .inl (.int, 20),
  .inl (.char, 47),
  .inl (.int, 9),
  .inl (.int, 9),
  .inl (.int, 6),
  .inl (.int, 6),
  .inl (.int, 6),
  .inl (.int, 6),
  .inl (.int, 6),
  .inl (.int, 40),
  .inl (.int, 40),
  .inl (.int, 40),
  .inl (.int, 8),
  .inl (.boolean, 8),
  .inl (.int, 8),
  .inl (.int, 8),
  .inl (.int, 8),
  .inl (.boolean, 8),
  .inl (.int, 6),
  .inl (.int, 12),
  .inl (.int, 72),
  .inl (.boolean, 8),
  .inl (.int, 8),
  .inl (.int, 96)]
def xMt : xM := fun p i => (cond (Nat.ble p 56)
 (cond (Nat.ble p 1)
 (cond (Nat.ble p 0)
 (cond (Nat.beq p 0) (cond (Nat.beq i 11) (-1) 0) 0)
 (cond (Nat.beq p 1) (cond (Nat.ble i 4) (cond (Nat.beq i 4) (7) 0) (cond (Nat.beq i 5) (5) 0)) 0))
 (cond (Nat.ble p 43)
 (cond (Nat.beq p 43) (cond (Nat.ble i 3) (cond (Nat.ble i 1) (cond (Nat.ble i 0) (cond (Nat.beq i 0) (-1) 0) (cond (Nat.beq i 1) (-1) 0)) (cond (Nat.ble i 2) (cond (Nat.beq i 2) (-1) 0) (cond (Nat.beq i 3) (-1) 0))) (cond (Nat.ble i 5) (cond (Nat.ble i 4) (cond (Nat.beq i 4) (-1) 0) (cond (Nat.beq i 5) (-1) 0)) (cond (Nat.ble i 6) (cond (Nat.beq i 6) (-1) 0) (cond (Nat.beq i 7) (-1) 0)))) 0)
 (cond (Nat.beq p 56) (cond (Nat.beq i 38) (-1) 0) 0)))
 (cond (Nat.ble p 79)
 (cond (Nat.ble p 61)
 (cond (Nat.beq p 61) (cond (Nat.ble i 0) (cond (Nat.beq i 0) (7) 0) (cond (Nat.beq i 1) (5) 0)) 0)
 (cond (Nat.beq p 79) (cond (Nat.ble i 22) (cond (Nat.ble i 10) (cond (Nat.ble i 4) (cond (Nat.ble i 1) (cond (Nat.ble i 0) (cond (Nat.beq i 0) (112) 0) (cond (Nat.beq i 1) (108) 0)) (cond (Nat.ble i 2) (cond (Nat.beq i 2) (97) 0) (cond (Nat.ble i 3) (cond (Nat.beq i 3) (110) 0) (cond (Nat.beq i 4) (107) 0)))) (cond (Nat.ble i 7) (cond (Nat.ble i 5) (cond (Nat.beq i 5) (115) 0) (cond (Nat.ble i 6) (cond (Nat.beq i 6) (101) 0) (cond (Nat.beq i 7) (97) 0))) (cond (Nat.ble i 8) (cond (Nat.beq i 8) (116) 0) (cond (Nat.ble i 9) (cond (Nat.beq i 9) (97) 0) (cond (Nat.beq i 10) (112) 0))))) (cond (Nat.ble i 16) (cond (Nat.ble i 13) (cond (Nat.ble i 11) (cond (Nat.beq i 11) (112) 0) (cond (Nat.ble i 12) (cond (Nat.beq i 12) (101) 0) (cond (Nat.beq i 13) (97) 0))) (cond (Nat.ble i 14) (cond (Nat.beq i 14) (108) 0) (cond (Nat.ble i 15) (cond (Nat.beq i 15) (110) 0) (cond (Nat.beq i 16) (97) 0)))) (cond (Nat.ble i 19) (cond (Nat.ble i 17) (cond (Nat.beq i 17) (109) 0) (cond (Nat.ble i 18) (cond (Nat.beq i 18) (101) 0) (cond (Nat.beq i 19) (99) 0))) (cond (Nat.ble i 20) (cond (Nat.beq i 20) (108) 0) (cond (Nat.ble i 21) (cond (Nat.beq i 21) (111) 0) (cond (Nat.beq i 22) (115) 0)))))) (cond (Nat.ble i 34) (cond (Nat.ble i 28) (cond (Nat.ble i 25) (cond (Nat.ble i 23) (cond (Nat.beq i 23) (101) 0) (cond (Nat.ble i 24) (cond (Nat.beq i 24) (98) 0) (cond (Nat.beq i 25) (97) 0))) (cond (Nat.ble i 26) (cond (Nat.beq i 26) (108) 0) (cond (Nat.ble i 27) (cond (Nat.beq i 27) (108) 0) (cond (Nat.beq i 28) (111) 0)))) (cond (Nat.ble i 31) (cond (Nat.ble i 29) (cond (Nat.beq i 29) (116) 0) (cond (Nat.ble i 30) (cond (Nat.beq i 30) (115) 0) (cond (Nat.beq i 31) (115) 0))) (cond (Nat.ble i 32) (cond (Nat.beq i 32) (101) 0) (cond (Nat.ble i 33) (cond (Nat.beq i 33) (97) 0) (cond (Nat.beq i 34) (116) 0))))) (cond (Nat.ble i 40) (cond (Nat.ble i 37) (cond (Nat.ble i 35) (cond (Nat.beq i 35) (115) 0) (cond (Nat.ble i 36) (cond (Nat.beq i 36) (112) 0) (cond (Nat.beq i 37) (108) 0))) (cond (Nat.ble i 38) (cond (Nat.beq i 38) (97) 0) (cond (Nat.ble i 39) (cond (Nat.beq i 39) (110) 0) (cond (Nat.beq i 40) (107) 0)))) (cond (Nat.ble i 43) (cond (Nat.ble i 41) (cond (Nat.beq i 41) (115) 0) (cond (Nat.ble i 42) (cond (Nat.beq i 42) (100) 0) (cond (Nat.beq i 43) (101) 0))) (cond (Nat.ble i 44) (cond (Nat.beq i 44) (112) 0) (cond (Nat.ble i 45) (cond (Nat.beq i 45) (116) 0) (cond (Nat.beq i 46) (104) 0))))))) 0))
 (cond (Nat.ble p 80)
 (cond (Nat.beq p 80) (cond (Nat.ble i 4) (cond (Nat.ble i 2) (cond (Nat.ble i 1) (cond (Nat.beq i 1) (5) 0) (cond (Nat.beq i 2) (9) 0)) (cond (Nat.ble i 3) (cond (Nat.beq i 3) (15) 0) (cond (Nat.beq i 4) (19) 0))) (cond (Nat.ble i 6) (cond (Nat.ble i 5) (cond (Nat.beq i 5) (24) 0) (cond (Nat.beq i 6) (31) 0)) (cond (Nat.ble i 7) (cond (Nat.beq i 7) (36) 0) (cond (Nat.beq i 8) (42) 0)))) 0)
 (cond (Nat.ble p 81)
 (cond (Nat.beq p 81) (cond (Nat.ble i 3) (cond (Nat.ble i 1) (cond (Nat.ble i 0) (cond (Nat.beq i 0) (5) 0) (cond (Nat.beq i 1) (4) 0)) (cond (Nat.ble i 2) (cond (Nat.beq i 2) (6) 0) (cond (Nat.beq i 3) (4) 0))) (cond (Nat.ble i 5) (cond (Nat.ble i 4) (cond (Nat.beq i 4) (5) 0) (cond (Nat.beq i 5) (7) 0)) (cond (Nat.ble i 6) (cond (Nat.beq i 6) (5) 0) (cond (Nat.ble i 7) (cond (Nat.beq i 7) (6) 0) (cond (Nat.beq i 8) (5) 0))))) 0)
 (cond (Nat.beq p 90) (cond (Nat.ble i 3) (cond (Nat.ble i 1) (cond (Nat.ble i 0) (cond (Nat.beq i 0) (-1) 0) (cond (Nat.beq i 1) (-1) 0)) (cond (Nat.ble i 2) (cond (Nat.beq i 2) (-1) 0) (cond (Nat.beq i 3) (-1) 0))) (cond (Nat.ble i 5) (cond (Nat.ble i 4) (cond (Nat.beq i 4) (-1) 0) (cond (Nat.beq i 5) (-1) 0)) (cond (Nat.ble i 6) (cond (Nat.beq i 6) (-1) 0) (cond (Nat.beq i 7) (-1) 0)))) 0)))))
def xA1 : Option xZ := xrun0 true 3000 102 (0, xent 102 [.ref 0], [], 1, [.inr (10, xini.getD 10 [])], va_up (fun _ _ => 0) 0 (fun _ => 0))
def xMof (o : Option xZ) : xM := match o with
  | some r => r.2.2.2
  | none => fun _ _ => 0
def xM1 : xM := xMof xA1
def xsheq : xSh → xSh → Bool
  | .inl a, .inl b => decide (a.1 = b.1) && decide (a.2 = b.2)
  | .inr a, .inr b => decide (a.1 = b.1) && decide (a.2 = b.2)
  | _, _ => false
theorem xsheq_of : ∀ {a b : xSh}, xsheq a b = true → a = b
  | .inl a, .inl b, h => by
    obtain ⟨a1, a2⟩ := a
    obtain ⟨b1, b2⟩ := b
    simp only [xsheq, Bool.and_eq_true, decide_eq_true_eq] at h
    rw [h.1, h.2]
  | .inr a, .inr b, h => by
    obtain ⟨a1, a2⟩ := a
    obtain ⟨b1, b2⟩ := b
    simp only [xsheq, Bool.and_eq_true, decide_eq_true_eq] at h
    rw [h.1, h.2]
def xshEq : List xSh → List xSh → Bool
  | [], [] => true
  | a :: l, b :: k => xsheq a b && xshEq l k
  | _, _ => false
theorem xshEq_of : ∀ {l k : List xSh}, xshEq l k = true → l = k
  | [], [], _ => rfl
  | a :: l, b :: k, h => by
    simp only [xshEq, Bool.and_eq_true] at h
    rw [xsheq_of h.1, xshEq_of h.2]
def xchkZ (o : Option xZ) (v : Option Value) (nz : Nat) (sh : List xSh) : Bool := match o with
  | some r => decide (r.1 = v) && Nat.beq r.2.1 nz && xshEq r.2.2.1 sh
  | none => false
theorem xchkZ_of {o : Option xZ} {v : Option Value} {nz : Nat} {sh : List xSh} (h : xchkZ o v nz sh = true) : o = some (v, nz, sh, xMof o) := by
  cases o with
  | none => cases h
  | some r =>
    obtain ⟨v', nz', sh', M⟩ := r
    simp only [xchkZ, Bool.and_eq_true, decide_eq_true_eq] at h
    obtain ⟨⟨rfl, h2⟩, h3⟩ := h
    have h2 : nz' = nz := Nat.eq_of_beq_eq_true h2
    subst h2
    have h3 := xshEq_of h3
    subst h3
    rfl
theorem xA1_shape : xchkZ xA1 none 56 xsh1 = true := by decide +kernel
theorem xA1_eq : xA1 = some (none, 56, xsh1, xM1) := xchkZ_of xA1_shape
def xA2 : Option xZ := xrun0 true 3000 153 (0, xent 153 [.ref 56], [], 57, xsh1 ++ [.inr (11, xini.getD 11 [])], va_up xM1 56 (fun _ => 0))
def xM0 : xM := xMof xA2
theorem xA2_shape : xchkZ xA2 none 102 xsh0 = true := by decide +kernel
theorem xA2_eq : xA2 = some (none, 102, xsh0, xM0) := xchkZ_of xA2_shape
def xagree (sh : List xSh) (M1 M2 : xM) : Bool := (List.range sh.length).all (fun p => match sh[p]? with
  | some d => (List.range (xsl1 d)).all (fun i => decide (M1 p i = M2 p i))
  | none => true)
theorem xagree_sim {sh : List xSh} {M1 M2 : xM} (h : xagree sh M1 M2 = true) : xsim sh sh M1 M2 := by
  intro p d hp
  right
  refine ⟨hp, fun i hi => ?_⟩
  have h1 := List.all_eq_true.mp h p (List.mem_range.mpr (List.getElem?_eq_some_iff.mp hp).1)
  rw [hp] at h1
  exact of_decide_eq_true (List.all_eq_true.mp h1 i (List.mem_range.mpr hi))
theorem xM0_t : xagree xsh0 xMt xM0 = true := by decide +kernel
theorem xsl_sh0 : xsl xsh0 = 2663 := by decide +kernel
