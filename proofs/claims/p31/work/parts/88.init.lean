/-! THE START: its cells by the table -/
theorem xM0_in {p i : Nat} {d : xSh} (hp : xsh0[p]? = some d) (hi : i < xsl1 d) : xM0 p i = xMt p i := by
  rcases xagree_sim xM0_t p d hp with e | e
  · exact absurd hi (by rw [e]; exact Nat.not_lt_zero i)
  · exact (e.2 i hi).symm
/-- a check of all cells of a place, and of 0 -/
def aC1 (p : Nat) (f : Int32 → Bool) : Bool := f 0 && (match xsh0[p]? with
  | some d => (List.range (xsl1 d)).all (fun i => f (xMt p i))
  | none => true)
theorem aC1_of {p : Nat} {f : Int32 → Bool} (h : aC1 p f = true) (i : Nat) : f (xM0 p i) = true := by
  unfold aC1 at h
  rw [Bool.and_eq_true] at h
  cases c : xsh0[p]? with
  | none =>
    rw [xzo_0 p i (fun d hd => by rw [c] at hd; cases hd)]
    exact h.1
  | some d =>
    have h2 := h.2
    rw [c] at h2
    by_cases hi : i < xsl1 d
    · rw [xM0_in c hi]
      exact List.all_eq_true.mp h2 i (List.mem_range.mpr hi)
    · rw [xzo_0 p i (fun d' hd => by rw [c] at hd; cases hd; omega)]
      exact h.1
