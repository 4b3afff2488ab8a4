/-! CELLS OUTSIDE THE SHAPES ARE 0, in every run from empty memory -/
def xzo (sh : List xSh) (M : xM) : Prop := ∀ (p i : Nat), (∀ d, sh[p]? = some d → xsl1 d ≤ i) → M p i = 0
theorem xzo_row {sh : List xSh} {M : xM} {p : Nat} {d : xSh} {r : Nat → Int32} (h : xzo sh M) (hp : sh[p]? = some d) (hr : ∀ i, xsl1 d ≤ i → r i = 0) : xzo sh (va_up M p r) := by
  intro p' i hi
  by_cases e : p' = p
  · subst e
    rw [va_up_self]
    exact hr i (hi d hp)
  · rw [va_up_ne _ _ e]
    exact h p' i hi
theorem xzo_up {sh : List xSh} {M : xM} {p j : Nat} {d : xSh} {x : Int32} (h : xzo sh M) (hp : sh[p]? = some d) (hj : j < xsl1 d) : xzo sh (xup M p j x) := by
  refine xzo_row h hp (fun i hi => ?_)
  show upd (M p) j x i = 0
  unfold upd
  rw [if_neg (by omega)]
  exact h p i (fun d' hd' => by rw [hp] at hd'; cases hd'; exact hi)
theorem xzo_new {sh : List xSh} {M : xM} {nz : Nat} {d : xSh} (h : xzo sh M) : xzo (sh ++ [d]) (va_up M nz (fun _ => 0)) := by
  intro p i hi
  by_cases e : p = nz
  · subst e
    rw [va_up_self]
  · rw [va_up_ne _ _ e]
    refine h p i (fun d' hd' => hi d' ?_)
    have hlt := (List.getElem?_eq_some_iff.mp hd').1
    rw [List.getElem?_append_left hlt]
    exact hd'
def xzQ : xS ⊕ ((Nat × List Value × xS) ⊕ Option Value) → Prop
  | .inl s => xzo s.2.2.2.2.1 s.2.2.2.2.2
  | .inr (.inl c) => xzo c.2.2.2.2.2.2.1 c.2.2.2.2.2.2.2
  | .inr (.inr _) => True
abbrev xzF (f : xS → xR) : Prop := ∀ (s : xS) (q : xS ⊕ ((Nat × List Value × xS) ⊕ Option Value)), xzo s.2.2.2.2.1 s.2.2.2.2.2 → f s = some q → xzQ q
theorem xnb {b : Bool} (h : ¬ b = true) : b = false := by
  cases b with
  | false => rfl
  | true => exact absurd rfl h
theorem xzo_iast : xzF xo_iast := by
  intro s q hz h
  unfold xo_iast at h
  simp only [Bool.cond_eq_ite] at h
  repeat' split at h
  all_goals first
    | (cases h; done)
    | (rename_i hp ho; cases h; exact xzo_up hz hp (xoutB_lt (xnb ho)))
theorem xzo_bast : xzF xo_bast := by
  intro s q hz h
  unfold xo_bast at h
  simp only [Bool.cond_eq_ite] at h
  repeat' split at h
  all_goals first
    | (cases h; done)
    | (rename_i hp ho; cases h; exact xzo_up hz hp (xoutB_lt (xnb ho)))
theorem xzo_cast : xzF xo_cast := by
  intro s q hz h
  unfold xo_cast at h
  simp only [Bool.cond_eq_ite] at h
  repeat' split at h
  all_goals first
    | (cases h; done)
    | (rename_i hp ho; cases h; exact xzo_up hz hp (xoutB_lt (xnb ho)))
theorem xzo_newo {ini : List (Option (Option Nat))} {a : Nat} : xzF (xo_new ini a) := by
  intro s q hz h
  unfold xo_new at h
  simp only [Bool.cond_eq_ite] at h
  repeat' split at h
  all_goals first
    | (cases h; done)
    | (cases h; exact xzo_new hz)
theorem xzo_newa {ty : FieldType} : xzF (xo_newa ty) := by
  intro s q hz h
  unfold xo_newa at h
  simp only [Bool.cond_eq_ite] at h
  repeat' split at h
  all_goals first
    | (cases h; done)
    | (cases h; exact xzo_new hz)
theorem xzo_copy : xzF xo_copy := by
  intro s q hz h
  unfold xo_copy at h
  split at h
  · split at h
    · rename_i n0 n1 e1 e2
      rw [Bool.cond_eq_ite] at h
      split at h
      · rename_i hc
        cases h
        simp only [Bool.and_eq_true] at hc
        have h2 := Nat.le_of_ble_eq_true hc.2
        refine xzo_row hz e2 (fun i hi => ?_)
        have hi : n1 ≤ i := hi
        unfold va_cpy
        rw [if_neg (by omega)]
        exact hz _ _ (fun d hd => by rw [e2] at hd; cases hd; exact hi)
      · cases h
    · cases h
  · cases h
theorem xzo_sh {sh : List xSh} {M : xM} {p ci b : Nat} {fs : List (Option (Option Nat))} {r : Option (Option Nat)} (hz : xzo sh M) (hp : sh[p]? = some (.inr (ci, fs))) : xzo (sh.set p (.inr (ci, fs.set b r))) M := by
  intro p' i hi
  refine hz p' i (fun d hd => ?_)
  by_cases e : p' = p
  · subst e
    rw [hp] at hd
    cases hd
    have := hi (.inr (ci, fs.set b r)) (by rw [List.getElem?_set_self (List.getElem?_eq_some_iff.mp hp).1])
    have this : (fs.set b r).length ≤ i := this
    rw [List.length_set] at this
    exact this
  · exact hi d (by rw [List.getElem?_set_ne (Ne.symm e)]; exact hd)
theorem xzo_putf {a b : Nat} : xzF (xo_putf a b) := by
  intro s q hz h
  unfold xo_putf at h
  split at h
  · split at h
    · rename_i e1
      split at h
      · rename_i e2
        rw [Bool.cond_eq_ite] at h
        split at h
        · cases h
          exact xzo_up hz e1 (List.getElem?_eq_some_iff.mp e2).1
        · cases h
      · cases h
    · cases h
  · split at h
    · rename_i e1
      split at h
      · rw [Bool.cond_eq_ite] at h
        split at h
        · cases h
          exact xzo_sh hz e1
        · cases h
      · cases h
    · cases h
  · cases h
theorem xzo_call {inst : Bool} {ci z n : Nat} : xzF (xo_call inst ci z n) := by
  intro s q hz h
  obtain ⟨pc, pl, st, nz, sh, M⟩ := s
  simp only [xo_call, Bool.cond_eq_ite] at h
  repeat' split at h
  all_goals first
    | (cases h; done)
    | (cases h; exact hz)
theorem xzo_init {z n : Nat} : xzF (xo_init z n) := by
  intro s q hz h
  obtain ⟨pc, pl, st, nz, sh, M⟩ := s
  simp only [xo_init, Bool.cond_eq_ite] at h
  repeat' split at h
  all_goals first
    | (cases h; done)
    | (cases h; exact hz)
theorem xzo_obj : xzF xo_obj := by
  intro s q hz h
  unfold xo_obj at h
  simp only [Bool.cond_eq_ite] at h
  repeat' split at h
  all_goals first
    | (cases h; done)
    | (cases h; exact hz)
theorem xzo_ex {xs : Nat → Int32} {L y : Nat} {e : xEn} : xzF (xex xs L y e) := by
  intro s q hz h
  obtain ⟨i, len, a, b, z⟩ := e
  cases i with
  | iastore => exact xzo_iast s q hz h
  | bastore => exact xzo_bast s q hz h
  | castore => exact xzo_cast s q hz h
  | putfield f => exact xzo_putf s q hz h
  | newarray ty => exact xzo_newa s q hz h
  | new f =>
    have h : (bif Nat.ble (a + 1) 12 then xo_new (xini.getD a []) a else fun _ => none) s = some q := h
    cases c : Nat.ble (a + 1) 12 with
    | true => rw [c] at h; exact xzo_newo s q hz h
    | false => rw [c] at h; cases h
  | invokestatic f =>
    have h : (bif Nat.ble (a + 1) xN then xo_call false 0 a b else bif Nat.beq a 901 then xo_copy else fun _ => none) s = some q := h
    cases c : Nat.ble (a + 1) xN with
    | true =>
      rw [c] at h
      exact xzo_call s q hz h
    | false =>
      rw [c] at h
      cases c1 : Nat.beq a 901 with
      | true => rw [c1] at h; exact xzo_copy s q hz h
      | false => rw [c1] at h; cases h
  | invokevirtual f =>
    have h : (bif Nat.ble (a + 1) xN then xo_call true (xci a) a b else fun _ => none) s = some q := h
    cases c : Nat.ble (a + 1) xN with
    | true => rw [c] at h; exact xzo_call s q hz h
    | false => rw [c] at h; cases h
  | invokespecial f =>
    have h : (bif Nat.beq a 900 then xo_obj else bif Nat.ble (a + 1) xN then xo_init a b else fun _ => none) s = some q := h
    cases c : Nat.beq a 900 with
    | true => rw [c] at h; exact xzo_obj s q hz h
    | false =>
      rw [c] at h
      cases c1 : Nat.ble (a + 1) xN with
      | true => rw [c1] at h; exact xzo_init s q hz h
      | false => rw [c1] at h; cases h
  | _ =>
    first
      | (cases h; done)
      | (simp only [xex, xo_const, xo_iload, xo_lload, xo_aload, xo_istore, xo_astore, xo_iinc, xo_bin, xo_div, xo_lbin, xo_lsh, xo_un, xo_i2l, xo_l2i, xo_lcmp, xo_pop, xo_dup, xo_dup_x1, xo_dup_x2, xo_dup2, xo_if, xo_icmp, xo_goto, xo_tab, xo_look, xo_iald, xo_alen, xo_bald, xo_cald, xo_gets, xo_getf, xo_obj, xo_call, xo_init, xo_iret, xo_vret, Bool.cond_eq_ite] at h
         repeat' split at h
         all_goals first
           | (cases h; done)
           | (cases h; exact hz)
           | (cases h; trivial))
