/-! SOUNDNESS, 1: the world that an abstract heap stands for -/
/-- what lies outside the world: the script's cell, the Strings' cells, their bytes' cells, a static's value -/
abbrev xG : Type := Nat × (Nat → Nat) × (Nat → Nat) × Value
def xad (G : xG) (ad : Nat → Nat) (k : Nat) : Nat := if k < 999 then ad k else if k = 999 then G.1 else if k < 2000 then G.2.1 (k - 1000) else G.2.2.1 (k - 2000)
def xcv (G : xG) (ad : Nat → Nat) : Value → Value
  | .ref k => if k < 3000 then .ref (xad G ad k) else G.2.2.2
  | v => v
theorem xcv_ref {G : xG} {ad : Nat → Nat} {k : Nat} (h : k < 3000) : xcv G ad (.ref k) = .ref (xad G ad k) := if_pos h
theorem xcv_low {G : xG} {ad : Nat → Nat} {k : Nat} (h : k < 999) : xcv G ad (.ref k) = .ref (ad k) := by
  rw [xcv_ref (by omega), xad, if_pos h]
def xfv (ad : Nat → Nat) (row : Nat → Int32) (i : Nat) (f : Option (Option Nat)) : Value := match f with
  | none => .int (row i)
  | some none => .null
  | some (some q) => .ref (ad q)
def xce (ad : Nat → Nat) (cA : FieldType → ClassId) (row : Nat → Int32) (c : xSh) : va_E := match c with
  | .inl a => .inl (cA a.1, a.2, .inl row)
  | .inr o => .inr (o.1, o.2.mapIdx (xfv ad row))
def xw (ad : Nat → Nat) (cA : FieldType → ClassId) (sh : List xSh) (M : xM) : va_W := sh.mapIdx (fun k c => (ad k, xce ad cA (M k) c))
theorem xw_at {ad : Nat → Nat} {cA : FieldType → ClassId} {sh : List xSh} {M : xM} (k : Nat) : (xw ad cA sh M)[k]? = (sh[k]?).map (fun c => (ad k, xce ad cA (M k) c)) := List.getElem?_mapIdx
theorem xw_get {ad : Nat → Nat} {cA : FieldType → ClassId} {sh : List xSh} {M : xM} {k : Nat} {c : xSh} (h : sh[k]? = some c) : (xw ad cA sh M)[k]? = some (ad k, xce ad cA (M k) c) := by
  rw [xw_at, h]; rfl
theorem xw_len {ad : Nat → Nat} {cA : FieldType → ClassId} {sh : List xSh} {M : xM} : (xw ad cA sh M).length = sh.length := List.length_mapIdx
theorem xw_setM {ad : Nat → Nat} {cA : FieldType → ClassId} {sh : List xSh} {M : xM} {k : Nat} {c : xSh} (h : sh[k]? = some c) (row : Nat → Int32) : (xw ad cA sh M).set k (ad k, xce ad cA row c) = xw ad cA sh (va_up M k row) := by
  apply List.ext_getElem?
  intro j
  by_cases hj : j = k
  · subst hj
    have hl : j < (xw ad cA sh M).length := by rw [xw_len]; exact (List.getElem?_eq_some_iff.mp h).1
    rw [List.getElem?_set_self hl, xw_at, h]
    simp [va_up]
  · rw [List.getElem?_set_ne (Ne.symm hj), xw_at, xw_at]
    simp [va_up, hj]
theorem xw_setS {ad : Nat → Nat} {cA : FieldType → ClassId} {sh : List xSh} {M : xM} {k : Nat} {c : xSh} (h : sh[k]? = some c) (c' : xSh) : (xw ad cA sh M).set k (ad k, xce ad cA (M k) c') = xw ad cA (sh.set k c') M := by
  apply List.ext_getElem?
  intro j
  by_cases hj : j = k
  · subst hj
    have hs := (List.getElem?_eq_some_iff.mp h).1
    have hl : j < (xw ad cA sh M).length := by rw [xw_len]; exact hs
    rw [List.getElem?_set_self hl, xw_at, List.getElem?_set_self hs]
    rfl
  · rw [List.getElem?_set_ne (Ne.symm hj), xw_at, xw_at, List.getElem?_set_ne (Ne.symm hj)]
theorem xmap_up {ad : Nat → Nat} {row : Nat → Int32} {fs : List (Option (Option Nat))} {n q : Nat} (h : fs.all (fun f => match f with
    | some (some q) => !(Nat.beq q n)
    | _ => true) = true) : fs.mapIdx (xfv (va_up ad n q) row) = fs.mapIdx (xfv ad row) := by
  apply List.ext_getElem?
  intro j
  rw [List.getElem?_mapIdx, List.getElem?_mapIdx]
  cases hf : fs[j]? with
  | none => rfl
  | some f =>
    have hq := List.all_eq_true.mp h f (List.mem_of_getElem? hf)
    match f, hq with
    | none, _ => rfl
    | some none, _ => rfl
    | some (some r), hq =>
      have hr : r ≠ n := by
        intro e
        subst e
        simp at hq
      show some (Value.ref (va_up ad n q r)) = some (Value.ref (ad r))
      rw [va_up, if_neg hr]
theorem xce_up {ad : Nat → Nat} {cA : FieldType → ClassId} {row : Nat → Int32} {c : xSh} {n q : Nat} (h : xnoc n c = true) : xce (va_up ad n q) cA row c = xce ad cA row c := by
  cases c with
  | inl a => rfl
  | inr o =>
    have e := xmap_up (ad := ad) (row := row) (q := q) (show o.2.all _ = true from h)
    simp only [xce]
    rw [e]
theorem xw_push {ad : Nat → Nat} {cA : FieldType → ClassId} {sh : List xSh} {M : xM} {n q : Nat} {row : Nat → Int32} {c : xSh} (hn : n = sh.length) (h : sh.all (xnoc n) = true) (hc : xnoc n c = true) : xw ad cA sh M ++ [(q, xce ad cA row c)] = xw (va_up ad n q) cA (sh ++ [c]) (va_up M n row) := by
  apply List.ext_getElem?
  intro j
  rw [xw_at]
  by_cases hj : j < n
  · rw [List.getElem?_append_left (by rw [xw_len]; omega), List.getElem?_append_left (by omega), xw_at]
    cases hs : sh[j]? with
    | none => rfl
    | some d =>
      have hd := List.all_eq_true.mp h d (List.mem_of_getElem? hs)
      have hne : j ≠ n := by omega
      simp only [Option.map_some, va_up, if_neg hne]
      rw [xce_up hd]
  · by_cases hj2 : j = n
    · subst hj2
      rw [List.getElem?_append_right (by rw [xw_len]; omega), List.getElem?_append_right (by omega), xw_len, ← hn, Nat.sub_self]
      simp only [List.getElem?_cons_zero, Option.map_some, va_up, if_pos]
      rw [xce_up hc]
    · rw [List.getElem?_eq_none (by simp [xw_len]; omega), List.getElem?_eq_none (by simp; omega)]
      rfl
theorem xcv_up {G : xG} {ad : Nat → Nat} {n q : Nat} {v : Value} (h : xnov n v = true) : xcv G (va_up ad n q) v = xcv G ad v := by
  cases v with
  | ref k =>
    have hk : k ≠ n := by
      intro e
      subst e
      simp [xnov] at h
    simp only [xcv, xad, va_up, if_neg hk]
  | _ => rfl
theorem xcv_below {G : xG} {ad ad' : Nat → Nat} {n n' : Nat} (had : ∀ k, k < n ∨ n' ≤ k → ad' k = ad k) {v : Value} (h : xbv n v = true) : xcv G ad' v = xcv G ad v := by
  cases v with
  | ref k =>
    have hk : k < n ∨ 999 ≤ k := by
      simp only [xbv, Bool.or_eq_true, Nat.ble_eq] at h
      rcases h with h | h
      · exact Or.inl h
      · exact Or.inr h
    simp only [xcv, xad]
    rcases hk with hk | hk
    · rw [had k (Or.inl hk)]
    · rw [if_neg (Nat.not_lt.mpr hk), if_neg (Nat.not_lt.mpr hk)]
  | _ => rfl
theorem xcv_cat {G : xG} (hG : G.2.2.2.category = 1) (ad : Nat → Nat) (v : Value) : (xcv G ad v).category = v.category := by
  cases v with
  | ref k =>
    simp only [xcv]
    split
    · rfl
    · exact hG
  | _ => rfl
theorem xmap_cat {G : xG} (hG : G.2.2.2.category = 1) (ad : Nat → Nat) (st : List Value) : ((st.map (xcv G ad)).map fun v => v.category) = st.map fun v => v.category := by
  rw [List.map_map]
  exact List.map_congr_left (fun v _ => xcv_cat hG ad v)
/-- the locals -/
def xLs (G : xG) (ad : Nat → Nat) (ls : Array Slot) (nL : Nat) (pl : List (Option Value)) : Prop := pl.length = nL ∧ ls.size = nL ∧ lv_wf ls ∧ ∀ (i : Nat) (v : Value), pl[i]? = some (some v) → ls[i]? = some (.val (xcv G ad v))
def xpr (G : xG) (ad : Nat → Nat) (pl : List (Option Value)) : List (Nat × Value) := (List.range pl.length).filterMap (fun i => match pl[i]? with
  | some (some v) => some (i, xcv G ad v)
  | _ => none)
theorem xpr_mem {G : xG} {ad : Nat → Nat} {pl : List (Option Value)} {i : Nat} {v : Value} (h : pl[i]? = some (some v)) : (i, xcv G ad v) ∈ xpr G ad pl := by
  refine List.mem_filterMap.mpr ⟨i, List.mem_range.mpr (List.getElem?_eq_some_iff.mp h).1, ?_⟩
  rw [h]
theorem xpr_of {G : xG} {ad : Nat → Nat} {pl : List (Option Value)} {q : Nat × Value} (h : q ∈ xpr G ad pl) : ∃ v, pl[q.1]? = some (some v) ∧ q.2 = xcv G ad v := by
  obtain ⟨i, -, hi⟩ := List.mem_filterMap.mp h
  split at hi
  · rename_i v hv
    cases hi
    exact ⟨v, hv, rfl⟩
  · cases hi
theorem xLs.has {G : xG} {ad : Nat → Nat} {ls : Array Slot} {nL : Nat} {pl : List (Option Value)} (h : xLs G ad ls nL pl) : lv_has ls nL (xpr G ad pl) := by
  refine ⟨h.2.1, h.2.2.1, fun q hq => ?_⟩
  obtain ⟨v, h1, h2⟩ := xpr_of hq
  rw [h2]
  exact h.2.2.2 _ v h1
/-- behind a store of a one-word value at i -/
theorem xLs.set {G : xG} (hG : G.2.2.2.category = 1) {ad : Nat → Nat} {ls ls' : Array Slot} {nL : Nat} {pl : List (Option Value)} {i : Nat} {v : Value} (h : xLs G ad ls nL pl) (ho : xok1 pl i = true)
    (h' : lv_has ls' nL ((i, xcv G ad v) :: (xpr G ad pl).filter (fun q => !(q.1 == i) && !(q.1 + 1 == i && q.2.category == 2)))) : xLs G ad ls' nL (pl.set i (some v)) := by
  refine ⟨by rw [List.length_set]; exact h.1, h'.1, h'.2.1, fun j w hj => ?_⟩
  by_cases hji : j = i
  · subst hji
    have hl : j < pl.length := by
      rcases Nat.lt_or_ge j pl.length with q | q
      · exact q
      · rw [List.getElem?_eq_none (by simpa using q)] at hj
        cases hj
    rw [List.getElem?_set_self hl] at hj
    cases hj
    exact h'.2.2 _ List.mem_cons_self
  · rw [List.getElem?_set_ne (Ne.symm hji)] at hj
    refine h'.2.2 (j, xcv G ad w) (List.mem_cons_of_mem _ (List.mem_filter.mpr ⟨xpr_mem hj, ?_⟩))
    simp only [Bool.and_eq_true, Bool.not_eq_true', beq_eq_false_iff_ne, ne_eq, Bool.and_eq_false_iff]
    refine ⟨hji, ?_⟩
    by_cases hji1 : j + 1 = i
    · right
      rw [xcv_cat hG]
      subst hji1
      simp only [xok1, hj, Bool.and_eq_true] at ho
      cases w <;> simp_all [Value.category]
    · exact Or.inl hji1
theorem xLs.up {G : xG} {ad : Nat → Nat} {ls : Array Slot} {nL : Nat} {pl : List (Option Value)} {ad' : Nat → Nat} (h : xLs G ad ls nL pl) (he : ∀ (i : Nat) (v : Value), pl[i]? = some (some v) → xcv G ad' v = xcv G ad v) : xLs G ad' ls nL pl := ⟨h.1, h.2.1, h.2.2.1, fun i v hi => by rw [he i v hi]; exact h.2.2.2 i v hi⟩
