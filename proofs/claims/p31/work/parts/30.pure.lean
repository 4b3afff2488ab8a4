/-! PURE RUNS: without the script; al: cells may be made -/
def xscr : Instr → List Value → Bool
  | .iaload, _ :: .ref p :: _ => Nat.beq p 999
  | .arraylength, .ref p :: _ => Nat.beq p 999
  | _, _ => false
def xalc : Instr → List Value → Bool
  | .new _, _ => true
  | .newarray _, _ => true
  | .putfield _, .ref _ :: _ => true
  | _, _ => false
def xstep0 (al : Bool) (y : Nat) (s : xS) : xR := match xI y s.1 with
  | some e => bif xscr e.1 s.2.2.1 || (!al && xalc e.1 s.2.2.1) then none else xex (fun _ => 0) 0 y e s
  | none => none
def xrun0 (al : Bool) : Nat → Nat → xS → Option xZ
  | 0, _, _ => none
  | n + 1, y, s => match xstep0 al y s with
    | none => none
    | some (.inl s') => xrun0 al n y s'
    | some (.inr (.inl (z, as, pc, pl, st, nz, sh, M))) => bif Nat.ble (xargs as).length (xm z).2.2.1 then (match xrun0 al n z (0, xent z as, [], nz, sh, M) with
      | none => none
      | some (v, nz', sh', M') => bif Nat.beq nz' nz || xbelow nz pl st then xrun0 al n y (pc, pl, v.toList ++ st, nz', sh', M') else none) else none
    | some (.inr (.inr v)) => some (v, s.2.2.2)
theorem xscr_iald {xs : Nat → Int32} {L : Nat} {s : xS} (h : xscr .iaload s.2.2.1 = false) : xo_iald xs L s = xo_iald (fun _ => 0) 0 s := by
  unfold xo_iald
  split
  · rename_i pc pl i p st nz sh M
    have hp : Nat.beq p 999 = false := h
    rw [hp]
    rfl
  · rfl
theorem xscr_alen {L : Nat} {s : xS} (h : xscr .arraylength s.2.2.1 = false) : xo_alen L s = xo_alen 0 s := by
  unfold xo_alen
  split
  · rename_i pc pl p st nz sh M
    have hp : Nat.beq p 999 = false := h
    rw [hp]
    rfl
  · rfl
theorem xex_scr {xs : Nat → Int32} {L y : Nat} {e : xEn} {s : xS} (h : xscr e.1 s.2.2.1 = false) : xex xs L y e s = xex (fun _ => 0) 0 y e s := by
  obtain ⟨i, len, a, b, w⟩ := e
  cases i with
  | iaload => exact xscr_iald h
  | arraylength => exact xscr_alen h
  | _ => rfl
theorem xstep0_up {al : Bool} {xs : Nat → Int32} {L y : Nat} {s : xS} {q : xS ⊕ ((Nat × List Value × xS) ⊕ Option Value)} (h : xstep0 al y s = some q) : xstep xs L y s = some q := by
  unfold xstep0 at h
  unfold xstep
  split at h
  · rename_i e he
    rw [he]
    cases hc : xscr e.1 s.2.2.1 || (!al && xalc e.1 s.2.2.1) with
    | true => rw [hc] at h; cases h
    | false =>
      rw [hc] at h
      rw [Bool.or_eq_false_iff] at hc
      show xex xs L y e s = some q
      rw [xex_scr hc.1]
      exact h
  · cases h
theorem xrun0_up {al : Bool} {xs : Nat → Int32} {L : Nat} : ∀ (n y : Nat) (s : xS) (r : xZ), xrun0 al n y s = some r → xrun xs L n y s = some r
  | 0, _, _, _, h => by cases h
  | n + 1, y, s, r, h => by
    unfold xrun0 at h
    unfold xrun
    split at h
    · cases h
    · rename_i s' hs
      rw [xstep0_up hs]
      exact xrun0_up n y s' r h
    · rename_i z as pc pl st nz sh M hs
      rw [xstep0_up hs]
      simp only [Bool.cond_eq_ite] at h ⊢
      split at h
      · rename_i hn
        rw [if_pos hn]
        split at h
        · cases h
        · rename_i v nz' sh' M' hr
          rw [xrun0_up n _ _ _ hr]
          split at h
          · rename_i hb
            simp only [hb, if_true]
            exact xrun0_up n y _ r h
          · cases h
      · cases h
    · rename_i v hs
      rw [xstep0_up hs]
      exact h
theorem xrun0_succ {al : Bool} : ∀ (n y : Nat) (s : xS) (r : xZ), xrun0 al n y s = some r → xrun0 al (n + 1) y s = some r
  | 0, _, _, _, h => by cases h
  | n + 1, y, s, r, h => by
    unfold xrun0 at h
    unfold xrun0
    split at h
    · cases h
    · rename_i s' hs
      exact xrun0_succ n y s' r h
    · rename_i z as pc pl st nz sh M hs
      simp only [Bool.cond_eq_ite] at h ⊢
      split at h
      · rename_i hn
        rw [if_pos hn]
        split at h
        · cases h
        · rename_i v nz' sh' M' hr
          rw [xrun0_succ n _ _ _ hr]
          split at h
          · rename_i hb
            simp only [hb, if_true]
            exact xrun0_succ n y _ r h
          · cases h
      · cases h
    · exact h
theorem xrun0_add {al : Bool} {n y : Nat} {s : xS} {r : xZ} (h : xrun0 al n y s = some r) : ∀ k, xrun0 al (n + k) y s = some r
  | 0 => h
  | k + 1 => xrun0_succ (n + k) y s r (xrun0_add h k)
theorem xrun_succ {xs : Nat → Int32} {L : Nat} : ∀ (n y : Nat) (s : xS) (r : xZ), xrun xs L n y s = some r → xrun xs L (n + 1) y s = some r
  | 0, _, _, _, h => by cases h
  | n + 1, y, s, r, h => by
    unfold xrun at h
    unfold xrun
    split at h
    · cases h
    · rename_i s' hs
      exact xrun_succ n y s' r h
    · rename_i z as pc pl st nz sh M hs
      simp only [Bool.cond_eq_ite] at h ⊢
      split at h
      · rename_i hn
        rw [if_pos hn]
        split at h
        · cases h
        · rename_i v nz' sh' M' hr
          rw [xrun_succ n _ _ _ hr]
          split at h
          · rename_i hb
            simp only [hb, if_true]
            exact xrun_succ n y _ r h
          · cases h
      · cases h
    · exact h
theorem xrun_add {xs : Nat → Int32} {L n y : Nat} {s : xS} {r : xZ} (h : xrun xs L n y s = some r) : ∀ k, xrun xs L (n + k) y s = some r
  | 0 => h
  | k + 1 => xrun_succ (n + k) y s r (xrun_add h k)
/-- a pure run ends, and so -/
def P0 (y : Nat) (s : xS) (Q : xZ → Prop) : Prop := ∃ n r, xrun0 false n y s = some r ∧ Q r
def PL (xs : Nat → Int32) (L y : Nat) (s : xS) (Q : xZ → Prop) : Prop := ∃ n r, xrun xs L n y s = some r ∧ Q r
theorem P0.imp {y : Nat} {s : xS} {Q Q' : xZ → Prop} (h : P0 y s Q) (k : ∀ r, Q r → Q' r) : P0 y s Q' := by
  obtain ⟨n, r, h1, h2⟩ := h
  exact ⟨n, r, h1, k r h2⟩
theorem P0.next {y : Nat} {s s' : xS} {Q : xZ → Prop} (h : xstep0 false y s = some (.inl s')) (k : P0 y s' Q) : P0 y s Q := by
  obtain ⟨n, r, h1, h2⟩ := k
  refine ⟨n + 1, r, ?_, h2⟩
  unfold xrun0
  rw [h]
  exact h1
theorem P0.ret {y : Nat} {s : xS} {v : Option Value} {Q : xZ → Prop} (h : xstep0 false y s = some (.inr (.inr v))) (k : Q (v, s.2.2.2)) : P0 y s Q := by
  refine ⟨1, _, ?_, k⟩
  unfold xrun0
  rw [h]
theorem P0.call {y : Nat} {s : xS} {z : Nat} {as : List Value} {pc : Nat} {pl : List (Option Value)} {st : List Value} {nz : Nat} {sh : List xSh} {M : xM} {Q : xZ → Prop} (h : xstep0 false y s = some (.inr (.inl (z, as, pc, pl, st, nz, sh, M)))) (hn : (xargs as).length ≤ (xm z).2.2.1)
    (k : P0 z (0, xent z as, [], nz, sh, M) (fun r => r.2.1 = nz ∧ P0 y (pc, pl, r.1.toList ++ st, r.2) Q)) : P0 y s Q := by
  obtain ⟨n1, ⟨v, nz', sh', M'⟩, h1, hz, n2, r2, h2, h3⟩ := k
  have hz : nz' = nz := hz
  refine ⟨n1 + n2 + 1, r2, ?_, h3⟩
  unfold xrun0
  rw [h]
  have e1 := xrun0_add h1 n2
  have e2 := xrun0_add h2 n1
  rw [Nat.add_comm n2 n1] at e2
  simp only [Nat.ble_eq_true_of_le hn, cond_true, e1]
  subst hz
  rw [show Nat.beq nz' nz' = true from Nat.beq_refl nz', Bool.true_or]
  exact e2
theorem PL.next {xs : Nat → Int32} {L y : Nat} {s s' : xS} {Q : xZ → Prop} (h : xstep xs L y s = some (.inl s')) (k : PL xs L y s' Q) : PL xs L y s Q := by
  obtain ⟨n, r, h1, h2⟩ := k
  refine ⟨n + 1, r, ?_, h2⟩
  unfold xrun
  rw [h]
  exact h1
theorem PL.ret {xs : Nat → Int32} {L y : Nat} {s : xS} {v : Option Value} {Q : xZ → Prop} (h : xstep xs L y s = some (.inr (.inr v))) (k : Q (v, s.2.2.2)) : PL xs L y s Q := by
  refine ⟨1, _, ?_, k⟩
  unfold xrun
  rw [h]
theorem PL.call0 {al : Bool} {xs : Nat → Int32} {L y : Nat} {s : xS} {z : Nat} {as : List Value} {pc : Nat} {pl : List (Option Value)} {st : List Value} {nz : Nat} {sh : List xSh} {M : xM} {Q : xZ → Prop} {n1 : Nat} {r : xZ} (h : xstep xs L y s = some (.inr (.inl (z, as, pc, pl, st, nz, sh, M)))) (hn : (xargs as).length ≤ (xm z).2.2.1)
    (h1 : xrun0 al n1 z (0, xent z as, [], nz, sh, M) = some r) (hb : (Nat.beq r.2.1 nz || xbelow nz pl st) = true) (k : PL xs L y (pc, pl, r.1.toList ++ st, r.2) Q) : PL xs L y s Q := by
  obtain ⟨v, nz', sh', M'⟩ := r
  obtain ⟨n2, r2, h2, h3⟩ := k
  refine ⟨n1 + n2 + 1, r2, ?_, h3⟩
  unfold xrun
  rw [h]
  have e1 := xrun_add (xrun0_up (xs := xs) (L := L) _ _ _ _ h1) n2
  have e2 := xrun_add h2 n1
  rw [Nat.add_comm n2 n1] at e2
  simp only [Nat.ble_eq_true_of_le hn, cond_true, e1]
  rw [hb]
  exact e2
theorem PL.call {xs : Nat → Int32} {L y : Nat} {s : xS} {z : Nat} {as : List Value} {pc : Nat} {pl : List (Option Value)} {st : List Value} {nz : Nat} {sh : List xSh} {M : xM} {Q : xZ → Prop} (h : xstep xs L y s = some (.inr (.inl (z, as, pc, pl, st, nz, sh, M)))) (hn : (xargs as).length ≤ (xm z).2.2.1)
    (k : P0 z (0, xent z as, [], nz, sh, M) (fun r => r.2.1 = nz ∧ PL xs L y (pc, pl, r.1.toList ++ st, r.2) Q)) : PL xs L y s Q := by
  obtain ⟨n1, r, h1, hz, k⟩ := k
  refine PL.call0 h hn h1 ?_ k
  rw [hz, show Nat.beq nz nz = true from Nat.beq_refl nz, Bool.true_or]
