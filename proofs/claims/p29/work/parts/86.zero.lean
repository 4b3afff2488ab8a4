/-! CELLS OUTSIDE THE SHAPES ARE 0, in every run from empty memory -/
def xzo (sh : List xSh) (M : xM) : Prop := ∀ (p i : Nat), (∀ d, sh[p]? = some d → xsl1 d ≤ i) → M p i = 0
theorem xzo_row {sh : List xSh} {M : xM} {p : Nat} {d : xSh} {r : Nat → Int32} (h : xzo sh M) (hp : sh[p]? = some d) (hr : ∀ i, xsl1 d ≤ i → r i = 0) : xzo sh (va_up M p r) := by
  intro p' i hi
  by_cases e : p' = p
  · subst e
    rw [va_up_self]
    exact hr i (hi d hp)
  · rw [va_up_ne _ _ e]
    exact h p' i hi
theorem xzo_up {sh : List xSh} {M : xM} {p j : Nat} {d : xSh} {x : Int32} (h : xzo sh M) (hp : sh[p]? = some d) (hj : j < xsl1 d) : xzo sh (xup M p j x) := by
  refine xzo_row h hp (fun i hi => ?_)
  show upd (M p) j x i = 0
  unfold upd
  rw [if_neg (by omega)]
  exact h p i (fun d' hd' => by rw [hp] at hd'; cases hd'; exact hi)
theorem xzo_new {sh : List xSh} {M : xM} {nz : Nat} {d : xSh} (h : xzo sh M) : xzo (sh ++ [d]) (va_up M nz (fun _ => 0)) := by
  intro p i hi
  by_cases e : p = nz
  · subst e
    rw [va_up_self]
  · rw [va_up_ne _ _ e]
    refine h p i (fun d' hd' => hi d' ?_)
    have hlt := (List.getElem?_eq_some_iff.mp hd').1
    rw [List.getElem?_append_left hlt]
    exact hd'
def xzQ : xS ⊕ ((Nat × List Value × xS) ⊕ Option Value) → Prop
  | .inl s => xzo s.2.2.2.2.1 s.2.2.2.2.2
  | .inr (.inl c) => xzo c.2.2.2.2.2.2.1 c.2.2.2.2.2.2.2
  | .inr (.inr _) => True
abbrev xzF (f : xS → xR) : Prop := ∀ (s : xS) (q : xS ⊕ ((Nat × List Value × xS) ⊕ Option Value)), xzo s.2.2.2.2.1 s.2.2.2.2.2 → f s = some q → xzQ q
theorem xnb {b : Bool} (h : ¬ b = true) : b = false := by
  cases b with
  | false => rfl
  | true => exact absurd rfl h
theorem xzo_iast : xzF xo_iast := by
  intro s q hz h
  unfold xo_iast at h
  simp only [Bool.cond_eq_ite] at h
  repeat' split at h
  all_goals first
    | (cases h; done)
    | (rename_i hp ho; cases h; exact xzo_up hz hp (xoutB_lt (xnb ho)))
theorem xzo_bast : xzF xo_bast := by
  intro s q hz h
  unfold xo_bast at h
  simp only [Bool.cond_eq_ite] at h
  repeat' split at h
  all_goals first
    | (cases h; done)
    | (rename_i hp ho; cases h; exact xzo_up hz hp (xoutB_lt (xnb ho)))
theorem xzo_cast : xzF xo_cast := by
  intro s q hz h
  unfold xo_cast at h
  simp only [Bool.cond_eq_ite] at h
  repeat' split at h
  all_goals first
    | (cases h; done)
    | (rename_i hp ho; cases h; exact xzo_up hz hp (xoutB_lt (xnb ho)))
theorem xzo_newo {ini : List (Option (Option Nat))} {a : Nat} : xzF (xo_new ini a) := by
  intro s q hz h
  unfold xo_new at h
  simp only [Bool.cond_eq_ite] at h
  repeat' split at h
  all_goals first
    | (cases h; done)
    | (cases h; exact xzo_new hz)
theorem xzo_newa {ty : FieldType} : xzF (xo_newa ty) := by
  intro s q hz h
  unfold xo_newa at h
  simp only [Bool.cond_eq_ite] at h
  repeat' split at h
  all_goals first
    | (cases h; done)
    | (cases h; exact xzo_new hz)
