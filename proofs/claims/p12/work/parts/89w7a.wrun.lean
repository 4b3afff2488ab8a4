/-! WORDS, of the reference -/
def p175 (f t : Int) : List (Option aV) := [R_ 56, some (.inl (aco f)), some (.inl (aco t)), none, none, none, none, none]
def ltk (i : Int) : aL := aadd (aco i) (lt_ 2 1)
def lek (i : Int) : aL := aadd (aco (-i)) (le_ 1 2)
def qsW (w : List Int) (n : Nat) : List (Int × Int) := (List.range n).map (fun i => (w.getD i 0, w.getD i 0))
abbrev tsT : Type := List (Nat × Nat × Int)
def kWd (ts : tsT) (qs : List (Int × Int)) (F : List aL) : aKn := kCs (kBs (kF (kV k1_ (-1, -1)) F) 2 (0 : Nat) qs) (ts.map (fun t => ((t.1, aco t.2.1), aco t.2.2)))
def cW (best : Int) (A B : aL) : aCutG := ([(175, 155, [R_ 56, none, none, none, none, none, none, none], [.inl (aco best)])], (4, [e0], [], [((56, aco 26), A), ((56, aco 27), B)], [], [], []))
def r175 (f t best : Int) (A B : aL) (K : aKn) : Bool := arunG [] [] wM [cW best A B] 4 (some (1, 0)) 4000 [(175, 0, p175 f t, [])] K
def an_ (n : Int) : aL := (n, [(2, 1)])
/-- the word of number best, as far as n letters go -/
def okW1 (ts : tsT) (f t best : Int) (w : List Int) (n : Nat) : Bool := bif Nat.beq n w.length then r175 f t best (an_ n) (aid 3) (kWd ts (qsW w n) [ltk (n - 1)]) else r175 f t best (an_ n) (an_ n) (kWd ts (qsW w n) [ltk (n - 1), lek n]) && (r175 f t best (an_ n) (an_ n) (kWd ts (qsW w n ++ [(0, w.getD n 0 - 1)]) [ltk n]) && r175 f t best (an_ n) (an_ n) (kWd ts (qsW w n ++ [(w.getD n 0 + 1, 255)]) [ltk n]))
def okW (ts : tsT) (f t : Int) (j : Nat) (w : List Int) : Bool := (List.range w.length).all (fun i => okW1 ts f t (f + j) w (i + 1))
def s175 (ts : tsT) (f t : Int) (gs : List (Int × Int)) : Bool := (arunG [] [] wM [cW f (aid 2) (aid 3)] 4 (some (1, 0)) 4000 [(175, 0, p175 f t, [])] (kV k1_ (0, 121)) && r175 f t f (an_ 0) (an_ 0) (kWd ts [] [lek 0])) && gs.all (fun q => r175 f t f (an_ 0) (an_ 0) (kWd ts [q] [ltk 0]))
def gsK : List (Int × Int) := [(0, 96), (98, 98), (100, 109), (111, 111), (113, 114), (116, 255)]
def gsF : List (Int × Int) := [(0, 97), (99, 99), (101, 111), (113, 114), (116, 255)]
def tsK : tsT := [(81, 0, 5), (81, 1, 4), (81, 2, 6), (81, 3, 4), (81, 4, 5), (80, 0, 0), (80, 1, 5), (80, 2, 9), (80, 3, 15), (80, 4, 19), (79, 0, 112), (79, 5, 115), (79, 9, 97), (79, 15, 110), (79, 19, 99)]
theorem tsK_in : ∀ t ∈ tsK, t ∈ cons_ := by decide +kernel
def tsK0 : tsT := [(81, 0, 5), (81, 1, 4), (81, 2, 6), (81, 3, 4), (81, 4, 5), (80, 0, 0), (80, 1, 5), (80, 2, 9), (80, 3, 15), (80, 4, 19), (79, 0, 112), (79, 1, 108), (79, 2, 97), (79, 3, 110), (79, 4, 107), (79, 5, 115), (79, 9, 97), (79, 15, 110), (79, 19, 99)]
theorem tsK0_in : ∀ t ∈ tsK0, t ∈ cons_ := by decide +kernel
def tsK1 : tsT := [(81, 0, 5), (81, 1, 4), (81, 2, 6), (81, 3, 4), (81, 4, 5), (80, 0, 0), (80, 1, 5), (80, 2, 9), (80, 3, 15), (80, 4, 19), (79, 0, 112), (79, 5, 115), (79, 6, 101), (79, 7, 97), (79, 8, 116), (79, 9, 97), (79, 15, 110), (79, 19, 99)]
theorem tsK1_in : ∀ t ∈ tsK1, t ∈ cons_ := by decide +kernel
def tsK2 : tsT := [(81, 0, 5), (81, 1, 4), (81, 2, 6), (81, 3, 4), (81, 4, 5), (80, 0, 0), (80, 1, 5), (80, 2, 9), (80, 3, 15), (80, 4, 19), (79, 0, 112), (79, 5, 115), (79, 9, 97), (79, 10, 112), (79, 11, 112), (79, 12, 101), (79, 13, 97), (79, 14, 108), (79, 15, 110), (79, 19, 99)]
theorem tsK2_in : ∀ t ∈ tsK2, t ∈ cons_ := by decide +kernel
def tsK3 : tsT := [(81, 0, 5), (81, 1, 4), (81, 2, 6), (81, 3, 4), (81, 4, 5), (80, 0, 0), (80, 1, 5), (80, 2, 9), (80, 3, 15), (80, 4, 19), (79, 0, 112), (79, 5, 115), (79, 9, 97), (79, 15, 110), (79, 16, 97), (79, 17, 109), (79, 18, 101), (79, 19, 99)]
theorem tsK3_in : ∀ t ∈ tsK3, t ∈ cons_ := by decide +kernel
def tsK4 : tsT := [(81, 0, 5), (81, 1, 4), (81, 2, 6), (81, 3, 4), (81, 4, 5), (80, 0, 0), (80, 1, 5), (80, 2, 9), (80, 3, 15), (80, 4, 19), (79, 0, 112), (79, 5, 115), (79, 9, 97), (79, 15, 110), (79, 19, 99), (79, 20, 108), (79, 21, 111), (79, 22, 115), (79, 23, 101)]
theorem tsK4_in : ∀ t ∈ tsK4, t ∈ cons_ := by decide +kernel
def tfK : Nat → tsT
  | 0 => tsK0
  | 1 => tsK1
  | 2 => tsK2
  | 3 => tsK3
  | 4 => tsK4
  | _ => []
theorem tfK_in : ∀ j, ∀ t ∈ tfK j, t ∈ cons_
  | 0 => tsK0_in
  | 1 => tsK1_in
  | 2 => tsK2_in
  | 3 => tsK3_in
  | 4 => tsK4_in
  | _ + 5 => fun t ht => by cases ht
theorem t175_K : s175 tsK 0 5 gsK = true := by decide +kernel
theorem w175_K0 : okW tsK0 0 5 0 (wK.getD 0 []) = true := by decide +kernel
theorem w175_K1 : okW tsK1 0 5 1 (wK.getD 1 []) = true := by decide +kernel
theorem w175_K2 : okW tsK2 0 5 2 (wK.getD 2 []) = true := by decide +kernel
theorem w175_K3 : okW tsK3 0 5 3 (wK.getD 3 []) = true := by decide +kernel
theorem w175_K4 : okW tsK4 0 5 4 (wK.getD 4 []) = true := by decide +kernel
theorem w175_K : ∀ j, j < wK.length → okW (tfK j) 0 5 j (wK.getD j []) = true
  | 0, _ => w175_K0
  | 1, _ => w175_K1
  | 2, _ => w175_K2
  | 3, _ => w175_K3
  | 4, _ => w175_K4
  | j + 5, h => absurd h (by show ¬ j + 5 < 5; omega)
def tsF : tsT := [(81, 5, 7), (81, 6, 5), (81, 7, 6), (81, 8, 5), (80, 5, 24), (80, 6, 31), (80, 7, 36), (80, 8, 42), (79, 24, 98), (79, 31, 115), (79, 36, 112), (79, 42, 100)]
theorem tsF_in : ∀ t ∈ tsF, t ∈ cons_ := by decide +kernel
def tsF0 : tsT := [(81, 5, 7), (81, 6, 5), (81, 7, 6), (81, 8, 5), (80, 5, 24), (80, 6, 31), (80, 7, 36), (80, 8, 42), (79, 24, 98), (79, 25, 97), (79, 26, 108), (79, 27, 108), (79, 28, 111), (79, 29, 116), (79, 30, 115), (79, 31, 115), (79, 36, 112), (79, 42, 100)]
theorem tsF0_in : ∀ t ∈ tsF0, t ∈ cons_ := by decide +kernel
def tsF1 : tsT := [(81, 5, 7), (81, 6, 5), (81, 7, 6), (81, 8, 5), (80, 5, 24), (80, 6, 31), (80, 7, 36), (80, 8, 42), (79, 24, 98), (79, 31, 115), (79, 32, 101), (79, 33, 97), (79, 34, 116), (79, 35, 115), (79, 36, 112), (79, 42, 100)]
theorem tsF1_in : ∀ t ∈ tsF1, t ∈ cons_ := by decide +kernel
def tsF2 : tsT := [(81, 5, 7), (81, 6, 5), (81, 7, 6), (81, 8, 5), (80, 5, 24), (80, 6, 31), (80, 7, 36), (80, 8, 42), (79, 24, 98), (79, 31, 115), (79, 36, 112), (79, 37, 108), (79, 38, 97), (79, 39, 110), (79, 40, 107), (79, 41, 115), (79, 42, 100)]
theorem tsF2_in : ∀ t ∈ tsF2, t ∈ cons_ := by decide +kernel
def tsF3 : tsT := [(81, 5, 7), (81, 6, 5), (81, 7, 6), (81, 8, 5), (80, 5, 24), (80, 6, 31), (80, 7, 36), (80, 8, 42), (79, 24, 98), (79, 31, 115), (79, 36, 112), (79, 42, 100), (79, 43, 101), (79, 44, 112), (79, 45, 116), (79, 46, 104)]
theorem tsF3_in : ∀ t ∈ tsF3, t ∈ cons_ := by decide +kernel
def tfF : Nat → tsT
  | 0 => tsF0
  | 1 => tsF1
  | 2 => tsF2
  | 3 => tsF3
  | _ => []
theorem tfF_in : ∀ j, ∀ t ∈ tfF j, t ∈ cons_
  | 0 => tsF0_in
  | 1 => tsF1_in
  | 2 => tsF2_in
  | 3 => tsF3_in
  | _ + 4 => fun t ht => by cases ht
theorem t175_F : s175 tsF 5 9 gsF = true := by decide +kernel
theorem w175_F0 : okW tsF0 5 9 0 (wF.getD 0 []) = true := by decide +kernel
theorem w175_F1 : okW tsF1 5 9 1 (wF.getD 1 []) = true := by decide +kernel
theorem w175_F2 : okW tsF2 5 9 2 (wF.getD 2 []) = true := by decide +kernel
theorem w175_F3 : okW tsF3 5 9 3 (wF.getD 3 []) = true := by decide +kernel
theorem w175_F : ∀ j, j < wF.length → okW (tfF j) 5 9 j (wF.getD j []) = true
  | 0, _ => w175_F0
  | 1, _ => w175_F1
  | 2, _ => w175_F2
  | 3, _ => w175_F3
  | j + 4, h => absurd h (by show ¬ j + 4 < 4; omega)
