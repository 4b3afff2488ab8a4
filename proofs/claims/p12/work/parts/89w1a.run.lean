/-! WORDS, of the class -/
def p97 (j : Nat) (l2 l3 l4 : Option aV) : List (Option aV) := [R_ 15, R_ j, l2, l3, l4]
def E97 : aE := [e0, (1, (0, 120)), (2, (0, 120)), (4, (0, 255))]
def c97 : aC := [((15, aco 1), aid 1), ((15, aco 2), aid 2), ((15, aco 3), aid 3)]
def xF97 (j : Nat) (l : Option aV) (E : aE) (F : List aL) (U : aU) : aCutG := ([(97, 70, p97 j l none none, [])], (5, E97 ++ E, F, c97, U, [], []))
/-- the word k, at s, that begins with c -/
def xM97 (j k s : Nat) (c : Int) : aCutG := ([(97, 59, p97 j (vi 4) (some (.inl (aco k))) (some (.inl (aco s))), [.inl (aco s), r_ j, r_ 15])], (5, [e0, (1, (0, 120)), (2, (0, 120)), (3, (0, 0)), (4, (c, c))], [lt_ 2 1], c97, [], [], []))
def U97 (cs : List Int) : aU := cs.map (fun c => ((21, aco c, aid 4), aco 0))
def n97 : aE := [(3, (0, 0))]
def r97 (j : Nat) (ws : List (Nat × Nat × Int)) (N : Nat) : Bool := arunG [] [] ([], []) ([xF97 j (some (.inl (aco (-1)))) [(3, (1, 1))] [] [], xF97 j (some (.inl (aco (-1)))) n97 [le_ 1 2] [], xF97 j (vi 4) n97 [lt_ 2 1] (U97 (ws.map (fun w => w.2.2)))] ++ ws.map (fun w => xM97 j w.1 w.2.1 w.2.2)) 5 (some (1, 0)) N [(97, 0, [R_ 15, R_ j, none, none, none], [])] (k4c k1_)
def z97 (j : Nat) : aCutG := ([(97, 76, p97 j none none none, [.inl (aco 0)])], (5, [e0], [], [((15, aco 2), aid 2), ((15, aco 3), aco 1)], [], [], []))
def q97 (j : Nat) (cs : List Int) : Bool := arunG [] [] wT [z97 j] 5 (some (1, 0)) 100 (xF97 j (some (.inl (aco (-1)))) [(3, (1, 1))] [] []).1 (xF97 j (some (.inl (aco (-1)))) [(3, (1, 1))] [] []).2 && (arunG [] [] wT [z97 j] 5 (some (1, 0)) 100 (xF97 j (some (.inl (aco (-1)))) n97 [le_ 1 2] []).1 (xF97 j (some (.inl (aco (-1)))) n97 [le_ 1 2] []).2 && arunG [] [] wT [z97 j] 5 (some (1, 0)) 100 (xF97 j (vi 4) n97 [lt_ 2 1] (U97 cs)).1 (xF97 j (vi 4) n97 [lt_ 2 1] (U97 cs)).2)
def m97 (j k s : Nat) (c : Int) : Bool := arunG [] [] ([], []) [([(97, 63, p97 j (vi 4) (some (.inl (aco k))) (some (.inl (aco s))), [.inl (aco k)])], (5, [e0], [], [], [], [], []))] 1 (some (1, 0)) 100 [(97, 62, p97 j (vi 4) (some (.inl (aco k))) (some (.inl (aco s))), [])] (khav wT (xM97 j k s c).2)
def ws1000 : List (Nat × Nat × List Int) := [(0, 0, [112, 108, 97, 110, 107]), (1, 6, [115, 101, 97, 116]), (2, 11, [97, 112, 112, 101, 97, 108]), (3, 18, [110, 97, 109, 101]), (4, 23, [99, 108, 111, 115, 101])]
theorem r97_1000 : r97 1000 (ws1000.map (fun w => (w.1, w.2.1, w.2.2.headD (-2)))) 12000 = true := by decide +kernel
theorem q97_1000 : q97 1000 ((ws1000.map (fun w => (w.1, w.2.1, w.2.2.headD (-2)))).map (fun w => w.2.2)) = true := by decide +kernel
theorem m97_1000 : ws1000.all (fun w => m97 1000 w.1 w.2.1 (w.2.2.headD (-2)) && (s99 1000 w.2.1 w.2.2 && Nat.ble w.1 7)) = true := by decide +kernel
def ws1006 : List (Nat × Nat × List Int) := [(0, 0, [98, 97, 108, 108, 111, 116, 115]), (1, 8, [115, 101, 97, 116, 115]), (2, 14, [112, 108, 97, 110, 107, 115]), (3, 21, [100, 101, 112, 116, 104])]
theorem r97_1006 : r97 1006 (ws1006.map (fun w => (w.1, w.2.1, w.2.2.headD (-2)))) 12000 = true := by decide +kernel
theorem q97_1006 : q97 1006 ((ws1006.map (fun w => (w.1, w.2.1, w.2.2.headD (-2)))).map (fun w => w.2.2)) = true := by decide +kernel
theorem m97_1006 : ws1006.all (fun w => m97 1006 w.1 w.2.1 (w.2.2.headD (-2)) && (s99 1006 w.2.1 w.2.2 && Nat.ble w.1 7)) = true := by decide +kernel
def ws1007 : List (Nat × Nat × List Int) := [(0, 0, [61]), (1, 2, [60]), (2, 4, [62])]
theorem r97_1007 : r97 1007 (ws1007.map (fun w => (w.1, w.2.1, w.2.2.headD (-2)))) 4000 = true := by decide +kernel
theorem q97_1007 : q97 1007 ((ws1007.map (fun w => (w.1, w.2.1, w.2.2.headD (-2)))).map (fun w => w.2.2)) = true := by decide +kernel
theorem m97_1007 : ws1007.all (fun w => m97 1007 w.1 w.2.1 (w.2.2.headD (-2)) && (s99 1007 w.2.1 w.2.2 && Nat.ble w.1 7)) = true := by decide +kernel
