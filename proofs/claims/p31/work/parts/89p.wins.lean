/-! BY HAND: bargains: who wins, who gives more, who breaks -/
def bt (s g : Int32) : Int32 := (s >>> (g &&& 31)) &&& 1
def vsm (f : Nat → Int32) (s : Int32) : Int32 := 0 + bt s 0 * f 0 + bt s 1 * f 1 + bt s 2 * f 2 + bt s 3 * f 3 + bt s 4 * f 4 + bt s 5 * f 5
def vall (f : Nat → Int32) : Int32 := 0 + f 0 + f 1 + f 2 + f 3 + f 4 + f 5
theorem vsm_63 (f : Nat → Int32) : vsm f 63 = vall f := by
  unfold vsm vall
  rw [show bt 63 0 = 1 by decide, show bt 63 1 = 1 by decide, show bt 63 2 = 1 by decide, show bt 63 3 = 1 by decide, show bt 63 4 = 1 by decide, show bt 63 5 = 1 by decide]
  simp only [Int32.one_mul]
def winF (f st : Nat → Int32) (k : Nat) : Bool := !(decide (2 * vsm f (st k) ≤ vall f))
def gvF (st wt : Nat → Int32) (k o g : Nat) : Bool := decide ((bt (st k) (Int32.ofNat g)).toInt = 0) || decide ((wt (6 * o + g)).toInt < (wt (6 * k + g)).toInt)
/-- all from 6 - n on -/
def gvA (st wt : Nat → Int32) (k o : Nat) : Nat → Bool
  | 0 => true
  | n + 1 => gvF st wt k o (5 - n) && gvA st wt k o n
def brP (f st wt : Nat → Int32) (o k : Nat) : Bool := !(Nat.beq k o) && (winF f st k && gvA st wt k o 6)
def brk (f st wt : Nat → Int32) (o : Nat) : Nat → Nat → Int32
  | 0, _ => -1
  | n + 1, k => if brP f st wt o k then Int32.ofNat k else brk f st wt o n (k + 1)
section ABG
variable {xs : Nat → Int32} {L : Nat} {M : xM} {Q : xZ → Prop}
set_option maxRecDepth 100000 in
theorem i12_0 {s S : Int32} (k : PL xs L 12 (4, [some (.ref 47), some (.int s), some (.int (S + bt s 0 * M 48 0)), some (.int 1)], [], 102, xsh0, M) Q) : PL xs L 12 (4, [some (.ref 47), some (.int s), some (.int S), some (.int 0)], [], 102, xsh0, M) Q :=
  PL.go (k := 18) (s' := (4, [some (.ref 47), some (.int s), some (.int (S + bt s 0 * M 48 0)), some (.int 1)], [], 102, xsh0, M)) rfl k
set_option maxRecDepth 100000 in
theorem i12_1 {s S : Int32} (k : PL xs L 12 (4, [some (.ref 47), some (.int s), some (.int (S + bt s 1 * M 48 1)), some (.int 2)], [], 102, xsh0, M) Q) : PL xs L 12 (4, [some (.ref 47), some (.int s), some (.int S), some (.int 1)], [], 102, xsh0, M) Q :=
  PL.go (k := 18) (s' := (4, [some (.ref 47), some (.int s), some (.int (S + bt s 1 * M 48 1)), some (.int 2)], [], 102, xsh0, M)) rfl k
set_option maxRecDepth 100000 in
theorem i12_2 {s S : Int32} (k : PL xs L 12 (4, [some (.ref 47), some (.int s), some (.int (S + bt s 2 * M 48 2)), some (.int 3)], [], 102, xsh0, M) Q) : PL xs L 12 (4, [some (.ref 47), some (.int s), some (.int S), some (.int 2)], [], 102, xsh0, M) Q :=
  PL.go (k := 18) (s' := (4, [some (.ref 47), some (.int s), some (.int (S + bt s 2 * M 48 2)), some (.int 3)], [], 102, xsh0, M)) rfl k
set_option maxRecDepth 100000 in
theorem i12_3 {s S : Int32} (k : PL xs L 12 (4, [some (.ref 47), some (.int s), some (.int (S + bt s 3 * M 48 3)), some (.int 4)], [], 102, xsh0, M) Q) : PL xs L 12 (4, [some (.ref 47), some (.int s), some (.int S), some (.int 3)], [], 102, xsh0, M) Q :=
  PL.go (k := 18) (s' := (4, [some (.ref 47), some (.int s), some (.int (S + bt s 3 * M 48 3)), some (.int 4)], [], 102, xsh0, M)) rfl k
set_option maxRecDepth 100000 in
theorem i12_4 {s S : Int32} (k : PL xs L 12 (4, [some (.ref 47), some (.int s), some (.int (S + bt s 4 * M 48 4)), some (.int 5)], [], 102, xsh0, M) Q) : PL xs L 12 (4, [some (.ref 47), some (.int s), some (.int S), some (.int 4)], [], 102, xsh0, M) Q :=
  PL.go (k := 18) (s' := (4, [some (.ref 47), some (.int s), some (.int (S + bt s 4 * M 48 4)), some (.int 5)], [], 102, xsh0, M)) rfl k
set_option maxRecDepth 100000 in
theorem i12_5 {s S : Int32} (k : PL xs L 12 (4, [some (.ref 47), some (.int s), some (.int (S + bt s 5 * M 48 5)), some (.int 6)], [], 102, xsh0, M) Q) : PL xs L 12 (4, [some (.ref 47), some (.int s), some (.int S), some (.int 5)], [], 102, xsh0, M) Q :=
  PL.go (k := 18) (s' := (4, [some (.ref 47), some (.int s), some (.int (S + bt s 5 * M 48 5)), some (.int 6)], [], 102, xsh0, M)) rfl k
set_option maxRecDepth 100000 in
theorem f12 {s : Int32} (k : Q (some (.int (vsm (M 48) s)), 102, xsh0, M)) : PL xs L 12 (0, xent 12 [.ref 47, .int s], [], 102, xsh0, M) Q := by
  refine PL.go (k := 4) (s' := (4, [some (.ref 47), some (.int s), some (.int 0), some (.int 0)], [], 102, xsh0, M)) rfl ?_
  refine i12_0 (i12_1 (i12_2 (i12_3 (i12_4 (i12_5 ?_)))))
  refine PL.go (k := 4) (s' := (32, [some (.ref 47), some (.int s), some (.int (vsm (M 48) s)), some (.int 6)], [.int (vsm (M 48) s)], 102, xsh0, M)) rfl ?_
  exact PL.ret (v := some (.int (vsm (M 48) s))) rfl k
theorem PLle {y : Nat} {x x' : Int32} {t f : Nat} {r : List (Option Value) × List Value × Nat × List xSh × xM} {Q : xZ → Prop} (a : x ≤ x' → PL xs L y (t, r) Q) (b : ¬ x ≤ x' → PL xs L y (f, r) Q) : PL xs L y (xcmp .le x x' t f, r) Q := by
  by_cases h : x ≤ x'
  · rw [show xcmp .le x x' t f = t from if_pos h]; exact a h
  · rw [show xcmp .le x x' t f = f from if_neg h]; exact b h
set_option maxRecDepth 100000 in
theorem f13 {m : Int32} (h0 : 0 ≤ m.toInt) (h1 : m.toInt < 12) (k : Q (some (.int (b2i (winF (M 48) (M 49) m.toInt.toNat))), 102, xsh0, M)) : PL xs L 13 (0, xent 13 [.ref 47, .int m], [], 102, xsh0, M) Q := by
  have hn := natC (i := m) rfl h0
  refine PL.go (k := 5) (s' := (7, [some (.ref 47), some (.int m)], [.int m, .ref 49, .ref 47, .int 2], 102, xsh0, M)) rfl ?_
  refine PL.next (ys_iald (p := 49) (n := 12) rfl rfl rfl h0 h1) ?_
  rw [hn]
  refine PL.callL (z := 12) (as := [.ref 47, .int (M 49 m.toInt.toNat)]) (pc := 11) (pl := [some (.ref 47), some (.int m)]) (st := [.int 2]) (nz := 102) (sh := xsh0) (M := M) rfl (Nat.le_of_ble_eq_true rfl) ?_
  refine f12 ⟨rfl, ?_⟩
  refine PL.go (k := 3) (s' := (15, [some (.ref 47), some (.int m)], [.int 63, .ref 47, .int (2 * vsm (M 48) (M 49 m.toInt.toNat))], 102, xsh0, M)) rfl ?_
  refine PL.callL (z := 12) (as := [.ref 47, .int 63]) (pc := 18) (pl := [some (.ref 47), some (.int m)]) (st := [.int (2 * vsm (M 48) (M 49 m.toInt.toNat))]) (nz := 102) (sh := xsh0) (M := M) rfl (Nat.le_of_ble_eq_true rfl) ?_
  refine f12 ⟨rfl, ?_⟩
  refine PL.go (k := 1) (s' := (xcmp .le (2 * vsm (M 48) (M 49 m.toInt.toNat)) (vsm (M 48) 63) 25 21, [some (.ref 47), some (.int m)], [], 102, xsh0, M)) rfl ?_
  rw [vsm_63]
  refine PLle (fun h => ?_) (fun h => ?_)
  · refine PL.go (k := 1) (s' := (26, [some (.ref 47), some (.int m)], [.int 0], 102, xsh0, M)) rfl ?_
    refine PL.ret (v := some (.int 0)) rfl ?_
    have e : winF (M 48) (M 49) m.toInt.toNat = false := by unfold winF; rw [decide_eq_true h]; rfl
    rw [e] at k
    exact k
  · refine PL.go (k := 2) (s' := (26, [some (.ref 47), some (.int m)], [.int 1], 102, xsh0, M)) rfl ?_
    refine PL.ret (v := some (.int 1)) rfl ?_
    have e : winF (M 48) (M 49) m.toInt.toNat = true := by unfold winF; rw [decide_eq_false h]; rfl
    rw [e] at k
    exact k
set_option maxRecDepth 100000 in
theorem i210_0 {m S A : Int32} (h0 : 0 ≤ m.toInt) (h1 : m.toInt < 12) (k : PL xs L 210 (7, [some (.ref 56), some (.int m), some (.int (S + bt (M 97 m.toInt.toNat) 0 * M 96 0)), some (.int (A + M 96 0)), some (.int 1)], [], 102, xsh0, M) Q) : PL xs L 210 (7, [some (.ref 56), some (.int m), some (.int S), some (.int A), some (.int 0)], [], 102, xsh0, M) Q := by
  have hn := natC (i := m) rfl h0
  refine PL.go (k := 7) (s' := (20, [some (.ref 56), some (.int m), some (.int S), some (.int A), some (.int 0)], [.int m, .ref 97, .int S], 102, xsh0, M)) rfl ?_
  refine PL.next (ys_iald (p := 97) (n := 12) rfl rfl rfl h0 h1) ?_
  rw [hn]
  exact PL.go (k := 20) (s' := (7, [some (.ref 56), some (.int m), some (.int (S + bt (M 97 m.toInt.toNat) 0 * M 96 0)), some (.int (A + M 96 0)), some (.int 1)], [], 102, xsh0, M)) rfl k
set_option maxRecDepth 100000 in
theorem i210_1 {m S A : Int32} (h0 : 0 ≤ m.toInt) (h1 : m.toInt < 12) (k : PL xs L 210 (7, [some (.ref 56), some (.int m), some (.int (S + bt (M 97 m.toInt.toNat) 1 * M 96 1)), some (.int (A + M 96 1)), some (.int 2)], [], 102, xsh0, M) Q) : PL xs L 210 (7, [some (.ref 56), some (.int m), some (.int S), some (.int A), some (.int 1)], [], 102, xsh0, M) Q := by
  have hn := natC (i := m) rfl h0
  refine PL.go (k := 7) (s' := (20, [some (.ref 56), some (.int m), some (.int S), some (.int A), some (.int 1)], [.int m, .ref 97, .int S], 102, xsh0, M)) rfl ?_
  refine PL.next (ys_iald (p := 97) (n := 12) rfl rfl rfl h0 h1) ?_
  rw [hn]
  exact PL.go (k := 20) (s' := (7, [some (.ref 56), some (.int m), some (.int (S + bt (M 97 m.toInt.toNat) 1 * M 96 1)), some (.int (A + M 96 1)), some (.int 2)], [], 102, xsh0, M)) rfl k
set_option maxRecDepth 100000 in
theorem i210_2 {m S A : Int32} (h0 : 0 ≤ m.toInt) (h1 : m.toInt < 12) (k : PL xs L 210 (7, [some (.ref 56), some (.int m), some (.int (S + bt (M 97 m.toInt.toNat) 2 * M 96 2)), some (.int (A + M 96 2)), some (.int 3)], [], 102, xsh0, M) Q) : PL xs L 210 (7, [some (.ref 56), some (.int m), some (.int S), some (.int A), some (.int 2)], [], 102, xsh0, M) Q := by
  have hn := natC (i := m) rfl h0
  refine PL.go (k := 7) (s' := (20, [some (.ref 56), some (.int m), some (.int S), some (.int A), some (.int 2)], [.int m, .ref 97, .int S], 102, xsh0, M)) rfl ?_
  refine PL.next (ys_iald (p := 97) (n := 12) rfl rfl rfl h0 h1) ?_
  rw [hn]
  exact PL.go (k := 20) (s' := (7, [some (.ref 56), some (.int m), some (.int (S + bt (M 97 m.toInt.toNat) 2 * M 96 2)), some (.int (A + M 96 2)), some (.int 3)], [], 102, xsh0, M)) rfl k
set_option maxRecDepth 100000 in
theorem i210_3 {m S A : Int32} (h0 : 0 ≤ m.toInt) (h1 : m.toInt < 12) (k : PL xs L 210 (7, [some (.ref 56), some (.int m), some (.int (S + bt (M 97 m.toInt.toNat) 3 * M 96 3)), some (.int (A + M 96 3)), some (.int 4)], [], 102, xsh0, M) Q) : PL xs L 210 (7, [some (.ref 56), some (.int m), some (.int S), some (.int A), some (.int 3)], [], 102, xsh0, M) Q := by
  have hn := natC (i := m) rfl h0
  refine PL.go (k := 7) (s' := (20, [some (.ref 56), some (.int m), some (.int S), some (.int A), some (.int 3)], [.int m, .ref 97, .int S], 102, xsh0, M)) rfl ?_
  refine PL.next (ys_iald (p := 97) (n := 12) rfl rfl rfl h0 h1) ?_
  rw [hn]
  exact PL.go (k := 20) (s' := (7, [some (.ref 56), some (.int m), some (.int (S + bt (M 97 m.toInt.toNat) 3 * M 96 3)), some (.int (A + M 96 3)), some (.int 4)], [], 102, xsh0, M)) rfl k
set_option maxRecDepth 100000 in
theorem i210_4 {m S A : Int32} (h0 : 0 ≤ m.toInt) (h1 : m.toInt < 12) (k : PL xs L 210 (7, [some (.ref 56), some (.int m), some (.int (S + bt (M 97 m.toInt.toNat) 4 * M 96 4)), some (.int (A + M 96 4)), some (.int 5)], [], 102, xsh0, M) Q) : PL xs L 210 (7, [some (.ref 56), some (.int m), some (.int S), some (.int A), some (.int 4)], [], 102, xsh0, M) Q := by
  have hn := natC (i := m) rfl h0
  refine PL.go (k := 7) (s' := (20, [some (.ref 56), some (.int m), some (.int S), some (.int A), some (.int 4)], [.int m, .ref 97, .int S], 102, xsh0, M)) rfl ?_
  refine PL.next (ys_iald (p := 97) (n := 12) rfl rfl rfl h0 h1) ?_
  rw [hn]
  exact PL.go (k := 20) (s' := (7, [some (.ref 56), some (.int m), some (.int (S + bt (M 97 m.toInt.toNat) 4 * M 96 4)), some (.int (A + M 96 4)), some (.int 5)], [], 102, xsh0, M)) rfl k
set_option maxRecDepth 100000 in
theorem i210_5 {m S A : Int32} (h0 : 0 ≤ m.toInt) (h1 : m.toInt < 12) (k : PL xs L 210 (7, [some (.ref 56), some (.int m), some (.int (S + bt (M 97 m.toInt.toNat) 5 * M 96 5)), some (.int (A + M 96 5)), some (.int 6)], [], 102, xsh0, M) Q) : PL xs L 210 (7, [some (.ref 56), some (.int m), some (.int S), some (.int A), some (.int 5)], [], 102, xsh0, M) Q := by
  have hn := natC (i := m) rfl h0
  refine PL.go (k := 7) (s' := (20, [some (.ref 56), some (.int m), some (.int S), some (.int A), some (.int 5)], [.int m, .ref 97, .int S], 102, xsh0, M)) rfl ?_
  refine PL.next (ys_iald (p := 97) (n := 12) rfl rfl rfl h0 h1) ?_
  rw [hn]
  exact PL.go (k := 20) (s' := (7, [some (.ref 56), some (.int m), some (.int (S + bt (M 97 m.toInt.toNat) 5 * M 96 5)), some (.int (A + M 96 5)), some (.int 6)], [], 102, xsh0, M)) rfl k
set_option maxRecDepth 100000 in
theorem f210 {m : Int32} (h0 : 0 ≤ m.toInt) (h1 : m.toInt < 12) (k : Q (some (.int (b2i (winF (M 96) (M 97) m.toInt.toNat))), 102, xsh0, M)) : PL xs L 210 (0, xent 210 [.ref 56, .int m], [], 102, xsh0, M) Q := by
  refine PL.go (k := 6) (s' := (7, [some (.ref 56), some (.int m), some (.int 0), some (.int 0), some (.int 0)], [], 102, xsh0, M)) rfl ?_
  refine i210_0 h0 h1 (i210_1 h0 h1 (i210_2 h0 h1 (i210_3 h0 h1 (i210_4 h0 h1 (i210_5 h0 h1 ?_)))))
  refine PL.go (k := 8) (s' := (xcmp .le (2 * vsm (M 96) (M 97 m.toInt.toNat)) (vall (M 96)) 63 59, [some (.ref 56), some (.int m), some (.int (vsm (M 96) (M 97 m.toInt.toNat))), some (.int (vall (M 96))), some (.int 6)], [], 102, xsh0, M)) rfl ?_
  refine PLle (fun h => ?_) (fun h => ?_)
  · refine PL.go (k := 1) (s' := (64, [some (.ref 56), some (.int m), some (.int (vsm (M 96) (M 97 m.toInt.toNat))), some (.int (vall (M 96))), some (.int 6)], [.int 0], 102, xsh0, M)) rfl ?_
    refine PL.ret (v := some (.int 0)) rfl ?_
    have e : winF (M 96) (M 97) m.toInt.toNat = false := by unfold winF; rw [decide_eq_true h]; rfl
    rw [e] at k
    exact k
  · refine PL.go (k := 2) (s' := (64, [some (.ref 56), some (.int m), some (.int (vsm (M 96) (M 97 m.toInt.toNat))), some (.int (vall (M 96))), some (.int 6)], [.int 1], 102, xsh0, M)) rfl ?_
    refine PL.ret (v := some (.int 1)) rfl ?_
    have e : winF (M 96) (M 97) m.toInt.toNat = true := by unfold winF; rw [decide_eq_false h]; rfl
    rw [e] at k
    exact k
end ABG
