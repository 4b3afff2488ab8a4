/-! WALKING PURE RUNS, many steps at a time -/
def xgo : Nat → Nat → xS → Option xS
  | 0, _, s => some s
  | k + 1, y, s => match xstep0 false y s with
    | some (.inl s') => xgo k y s'
    | _ => none
theorem P0.go {k y : Nat} {s s' : xS} {Q : xZ → Prop} (h : xgo k y s = some s') (kk : P0 y s' Q) : P0 y s Q := by
  induction k generalizing s with
  | zero =>
    cases h
    exact kk
  | succ k ih =>
    unfold xgo at h
    split at h
    · rename_i s1 h1
      exact P0.next h1 (ih h)
    · cases h
def xgoL (xs : Nat → Int32) (L : Nat) : Nat → Nat → xS → Option xS
  | 0, _, s => some s
  | k + 1, y, s => match xstep xs L y s with
    | some (.inl s') => xgoL xs L k y s'
    | _ => none
theorem PL.go {xs : Nat → Int32} {L k y : Nat} {s s' : xS} {Q : xZ → Prop} (h : xgoL xs L k y s = some s') (kk : PL xs L y s' Q) : PL xs L y s Q := by
  induction k generalizing s with
  | zero =>
    cases h
    exact kk
  | succ k ih =>
    unfold xgoL at h
    split at h
    · rename_i s1 h1
      exact PL.next h1 (ih h)
    · cases h
section XBR
variable {y : Nat} {x x' : Int32} {u u' : Int64} {t f : Nat} {r : List (Option Value) × List Value × Nat × List xSh × xM} {Q : xZ → Prop}
theorem P0.eq (a : x = x' → P0 y (t, r) Q) (b : ¬ x = x' → P0 y (f, r) Q) : P0 y (xcmp .eq x x' t f, r) Q := by
  by_cases h : x = x'
  · rw [show xcmp .eq x x' t f = t from if_pos h]; exact a h
  · rw [show xcmp .eq x x' t f = f from if_neg h]; exact b h
theorem P0.ne (a : ¬ x = x' → P0 y (t, r) Q) (b : x = x' → P0 y (f, r) Q) : P0 y (xcmp .ne x x' t f, r) Q := by
  by_cases h : x = x'
  · rw [show xcmp .ne x x' t f = f from if_pos h]; exact b h
  · rw [show xcmp .ne x x' t f = t from if_neg h]; exact a h
theorem P0.lt (a : x < x' → P0 y (t, r) Q) (b : ¬ x < x' → P0 y (f, r) Q) : P0 y (xcmp .lt x x' t f, r) Q := by
  by_cases h : x < x'
  · rw [show xcmp .lt x x' t f = t from if_pos h]; exact a h
  · rw [show xcmp .lt x x' t f = f from if_neg h]; exact b h
theorem P0.ge (a : x' ≤ x → P0 y (t, r) Q) (b : ¬ x' ≤ x → P0 y (f, r) Q) : P0 y (xcmp .ge x x' t f, r) Q := by
  by_cases h : x' ≤ x
  · rw [show xcmp .ge x x' t f = t from if_pos h]; exact a h
  · rw [show xcmp .ge x x' t f = f from if_neg h]; exact b h
theorem P0.gt (a : x' < x → P0 y (t, r) Q) (b : ¬ x' < x → P0 y (f, r) Q) : P0 y (xcmp .gt x x' t f, r) Q := by
  by_cases h : x' < x
  · rw [show xcmp .gt x x' t f = t from if_pos h]; exact a h
  · rw [show xcmp .gt x x' t f = f from if_neg h]; exact b h
theorem P0.le (a : x ≤ x' → P0 y (t, r) Q) (b : ¬ x ≤ x' → P0 y (f, r) Q) : P0 y (xcmp .le x x' t f, r) Q := by
  by_cases h : x ≤ x'
  · rw [show xcmp .le x x' t f = t from if_pos h]; exact a h
  · rw [show xcmp .le x x' t f = f from if_neg h]; exact b h
theorem lg_lt : lg_cmp u u' < 0 ↔ u < u' := by
  unfold lg_cmp
  simp only [gt_iff_lt, Int64.lt_iff_toInt_lt, ← Int64.toInt_inj]
  repeat' split
  · exact ⟨fun q => absurd q (by decide), fun q => by omega⟩
  · exact ⟨fun q => absurd q (by decide), fun q => by omega⟩
  · exact ⟨fun _ => by omega, fun _ => by decide⟩
theorem lg_gt : 0 < lg_cmp u u' ↔ u' < u := by
  unfold lg_cmp
  simp only [gt_iff_lt, Int64.lt_iff_toInt_lt, ← Int64.toInt_inj]
  repeat' split
  · exact ⟨fun _ => by omega, fun _ => by decide⟩
  · exact ⟨fun q => absurd q (by decide), fun q => by omega⟩
  · exact ⟨fun q => absurd q (by decide), fun q => by omega⟩
theorem P0.llt (a : u < u' → P0 y (t, r) Q) (b : ¬ u < u' → P0 y (f, r) Q) : P0 y (xcmp .lt (lg_cmp u u') 0 t f, r) Q := P0.lt (fun h => a (lg_lt.mp h)) (fun h => b (fun q => h (lg_lt.mpr q)))
theorem P0.lgt (a : u' < u → P0 y (t, r) Q) (b : ¬ u' < u → P0 y (f, r) Q) : P0 y (xcmp .gt (lg_cmp u u') 0 t f, r) Q := P0.gt (fun h => a (lg_gt.mp h)) (fun h => b (fun q => h (lg_gt.mpr q)))
end XBR
theorem P0.tabd {y pc t len a b w : Nat} {pl : List (Option Value)} {sk : List Value} {h : Nat × List xSh × xM} {x : Int32} {d lo hi : Int} {offs : Array Int} {Q : xZ → Prop} (hI : xI y pc = some (.tableswitch d lo hi offs, len, a, b, w)) (ho : x.toInt < lo ∨ hi < x.toInt) (ht : xtgt pc d = some t) (k : P0 y (t, pl, sk, h) Q) : P0 y (pc, pl, .int x :: sk, h) Q := by
  refine P0.next ?_ k
  unfold xstep0
  dsimp only
  rw [hI]
  show xo_tab d lo hi offs (pc, pl, .int x :: sk, h) = _
  simp only [xo_tab, xtab, if_pos ho, ht]
theorem P0.topi {y pc : Nat} {pl : List (Option Value)} {sk : List Value} {h : Nat × List xSh × xM} {x x' : Int32} {Q : xZ → Prop} (e : x = x') (k : P0 y (pc, pl, .int x' :: sk, h) Q) : P0 y (pc, pl, .int x :: sk, h) Q := e ▸ k
