/-! A RUN SEES ITS OWN CELLS ALONE: shapes of which some are blind (xdm: nothing reads them), memories that agree on the rest -/
def xdm : xSh := .inl (.long, 0)
def xsim (sh1 sh2 : List xSh) (M1 M2 : xM) : Prop := ∀ (p : Nat) (d : xSh), sh1[p]? = some d → d = xdm ∨ (sh2[p]? = some d ∧ ∀ i, i < xsl1 d → M1 p i = M2 p i)
def xPure (f : xS → xR) : Prop := ∀ (pc : Nat) (pl : List (Option Value)) (sk : List Value) (h1 h2 : Nat × List xSh × xM) (q : xS ⊕ ((Nat × List Value × xS) ⊕ Option Value)), f (pc, pl, sk, h1) = some q → ∃ pc' pl' sk', q = .inl (pc', pl', sk', h1) ∧ f (pc, pl, sk, h2) = some (.inl (pc', pl', sk', h2))
theorem xpu {f : xS → xR} {pc pc' : Nat} {pl pl' : List (Option Value)} {sk sk' : List Value} {h1 h2 : Nat × List xSh × xM} {q : xS ⊕ ((Nat × List Value × xS) ⊕ Option Value)} (h : some (Sum.inl (pc', pl', sk', h1)) = some q) (hf : f (pc, pl, sk, h2) = some (.inl (pc', pl', sk', h2))) : ∃ pc' pl' sk', q = .inl (pc', pl', sk', h1) ∧ f (pc, pl, sk, h2) = some (.inl (pc', pl', sk', h2)) := by
  cases h
  exact ⟨_, _, _, rfl, hf⟩
theorem xpu_const {v : Value} {len : Nat} : xPure (xo_const v len) := by
  intro pc pl sk h1 h2 q h
  have h := Option.some.inj h
  subst h
  exact ⟨_, _, _, rfl, rfl⟩
theorem xpu_goto {tgt : Nat} : xPure (xo_goto tgt) := by
  intro pc pl sk h1 h2 q h
  have h := Option.some.inj h
  subst h
  exact ⟨_, _, _, rfl, rfl⟩
theorem xpu_iload {i len : Nat} : xPure (xo_iload i len) := by
  intro pc pl sk h1 h2 q h
  simp only [xo_iload] at h
  split at h
  · rename_i x hp
    have h := Option.some.inj h
    subst h
    exact ⟨_, _, _, rfl, by simp only [xo_iload, hp]⟩
  · cases h
theorem xpu_lload {i len : Nat} : xPure (xo_lload i len) := by
  intro pc pl sk h1 h2 q h
  simp only [xo_lload] at h
  split at h
  · rename_i x hp
    have h := Option.some.inj h
    subst h
    exact ⟨_, _, _, rfl, by simp only [xo_lload, hp]⟩
  · cases h
theorem xpu_aload {i len : Nat} : xPure (xo_aload i len) := by
  intro pc pl sk h1 h2 q h
  simp only [xo_aload] at h
  split at h
  · rename_i x hp
    cases hq : Nat.ble 3000 x with
    | true => rw [hq] at h; cases h
    | false =>
      rw [hq] at h
      have h := Option.some.inj h
      subst h
      exact ⟨_, _, _, rfl, by simp only [xo_aload, hp, hq, cond_false]⟩
  · cases h
theorem xpu_iinc {i : Nat} {n : Int} {len : Nat} : xPure (xo_iinc i n len) := by
  intro pc pl sk h1 h2 q h
  simp only [xo_iinc] at h
  split at h
  · rename_i x hp
    cases hq : xok1 pl i && Nat.beq len 3 with
    | false => rw [hq] at h; cases h
    | true =>
      rw [hq] at h
      have h := Option.some.inj h
      subst h
      exact ⟨_, _, _, rfl, by simp only [xo_iinc, hp, hq, cond_true]⟩
  · cases h
theorem xpu_istore {i len : Nat} : xPure (xo_istore i len) := by
  intro pc pl sk h1 h2 q h
  match sk, h with
  | .int x :: st, h =>
    simp only [xo_istore] at h
    cases hq : xok1 pl i with
    | false => rw [hq] at h; cases h
    | true =>
      rw [hq] at h
      have h := Option.some.inj h
      subst h
      exact ⟨_, _, _, rfl, by simp only [xo_istore, hq, cond_true]⟩
theorem xpu_astore {i len : Nat} : xPure (xo_astore i len) := by
  intro pc pl sk h1 h2 q h
  match sk, h with
  | .ref x :: st, h =>
    simp only [xo_astore] at h
    cases hq : xok1 pl i && Nat.ble (x + 1) 3000 with
    | false => rw [hq] at h; cases h
    | true =>
      rw [hq] at h
      have h := Option.some.inj h
      subst h
      exact ⟨_, _, _, rfl, by simp only [xo_astore, hq, cond_true]⟩
theorem xpu_bin {f : Int32 → Int32 → Int32} : xPure (xo_bin f) := by
  intro pc pl sk h1 h2 q h
  match sk, h with
  | .int y :: .int x :: st, h =>
    have h := Option.some.inj h
    subst h
    exact ⟨_, _, _, rfl, rfl⟩
theorem xpu_lbin {f : Int64 → Int64 → Int64} : xPure (xo_lbin f) := by
  intro pc pl sk h1 h2 q h
  match sk, h with
  | .long y :: .long x :: st, h =>
    have h := Option.some.inj h
    subst h
    exact ⟨_, _, _, rfl, rfl⟩
theorem xpu_lsh {f : Int64 → Int32 → Int64} : xPure (xo_lsh f) := by
  intro pc pl sk h1 h2 q h
  match sk, h with
  | .int y :: .long x :: st, h =>
    have h := Option.some.inj h
    subst h
    exact ⟨_, _, _, rfl, rfl⟩
theorem xpu_un {f : Int32 → Int32} : xPure (xo_un f) := by
  intro pc pl sk h1 h2 q h
  match sk, h with
  | .int x :: st, h =>
    have h := Option.some.inj h
    subst h
    exact ⟨_, _, _, rfl, rfl⟩
theorem xpu_i2l  : xPure (xo_i2l ) := by
  intro pc pl sk h1 h2 q h
  match sk, h with
  | .int x :: st, h =>
    have h := Option.some.inj h
    subst h
    exact ⟨_, _, _, rfl, rfl⟩
theorem xpu_l2i  : xPure (xo_l2i ) := by
  intro pc pl sk h1 h2 q h
  match sk, h with
  | .long x :: st, h =>
    have h := Option.some.inj h
    subst h
    exact ⟨_, _, _, rfl, rfl⟩
theorem xpu_lcmp  : xPure (xo_lcmp ) := by
  intro pc pl sk h1 h2 q h
  match sk, h with
  | .long y :: .long x :: st, h =>
    have h := Option.some.inj h
    subst h
    exact ⟨_, _, _, rfl, rfl⟩
theorem xpu_pop  : xPure (xo_pop ) := by
  intro pc pl sk h1 h2 q h
  match sk, h with
  | v :: st, h =>
    simp only [xo_pop] at h
    cases hq : xc1 v with
    | false => rw [hq] at h; cases h
    | true =>
      rw [hq] at h
      have h := Option.some.inj h
      subst h
      exact ⟨_, _, _, rfl, by simp only [xo_pop, hq, cond_true]⟩
theorem xpu_dup  : xPure (xo_dup ) := by
  intro pc pl sk h1 h2 q h
  match sk, h with
  | v :: st, h =>
    simp only [xo_dup] at h
    cases hq : xc1 v with
    | false => rw [hq] at h; cases h
    | true =>
      rw [hq] at h
      have h := Option.some.inj h
      subst h
      exact ⟨_, _, _, rfl, by simp only [xo_dup, hq, cond_true]⟩
theorem xpu_dup_x1  : xPure (xo_dup_x1 ) := by
  intro pc pl sk h1 h2 q h
  match sk, h with
  | v :: w :: st, h =>
    simp only [xo_dup_x1] at h
    cases hq : xc1 v && xc1 w with
    | false => rw [hq] at h; cases h
    | true =>
      rw [hq] at h
      have h := Option.some.inj h
      subst h
      exact ⟨_, _, _, rfl, by simp only [xo_dup_x1, hq, cond_true]⟩
theorem xpu_dup_x2  : xPure (xo_dup_x2 ) := by
  intro pc pl sk h1 h2 q h
  match sk, h with
  | v :: w :: u :: st, h =>
    simp only [xo_dup_x2] at h
    cases hq : xc1 v && xc1 w && xc1 u with
    | false => rw [hq] at h; cases h
    | true =>
      rw [hq] at h
      have h := Option.some.inj h
      subst h
      exact ⟨_, _, _, rfl, by simp only [xo_dup_x2, hq, cond_true]⟩
theorem xpu_dup2  : xPure (xo_dup2 ) := by
  intro pc pl sk h1 h2 q h
  match sk, h with
  | v :: w :: st, h =>
    simp only [xo_dup2] at h
    cases hq : xc1 v && xc1 w with
    | false => rw [hq] at h; cases h
    | true =>
      rw [hq] at h
      have h := Option.some.inj h
      subst h
      exact ⟨_, _, _, rfl, by simp only [xo_dup2, hq, cond_true]⟩
theorem xpu_if {op : Jvm.ClassFile.Cond} {tgt : Nat} : xPure (xo_if op tgt) := by
  intro pc pl sk h1 h2 q h
  match sk, h with
  | .int x :: st, h =>
    have h := Option.some.inj h
    subst h
    exact ⟨_, _, _, rfl, rfl⟩
theorem xpu_icmp {op : Jvm.ClassFile.Cond} {tgt : Nat} : xPure (xo_icmp op tgt) := by
  intro pc pl sk h1 h2 q h
  match sk, h with
  | .int y :: .int x :: st, h =>
    have h := Option.some.inj h
    subst h
    exact ⟨_, _, _, rfl, rfl⟩
theorem xpu_obj  : xPure (xo_obj ) := by
  intro pc pl sk h1 h2 q h
  match sk, h with
  | .ref p :: st, h =>
    simp only [xo_obj] at h
    cases hq : xcat st && Nat.ble (p + 1) 3000 with
    | false => rw [hq] at h; cases h
    | true =>
      rw [hq] at h
      have h := Option.some.inj h
      subst h
      exact ⟨_, _, _, rfl, by simp only [xo_obj, hq, cond_true]⟩
theorem xpu_div {f : Int32 → Int32 → Int32} : xPure (xo_div f) := by
  intro pc pl sk h1 h2 q h
  match sk, h with
  | .int y :: .int x :: st, h =>
    simp only [xo_div] at h
    split at h
    · cases h
    · rename_i hy
      have h := Option.some.inj h
      subst h
      exact ⟨_, _, _, rfl, by simp only [xo_div, if_neg hy]⟩
theorem xpu_tab {d lo hi : Int} {offs : Array Int} : xPure (xo_tab d lo hi offs) := by
  intro pc pl sk h1 h2 q h
  match sk, h with
  | .int x :: st, h =>
    simp only [xo_tab] at h
    split at h
    · rename_i t ht
      have h := Option.some.inj h
      subst h
      exact ⟨_, _, _, rfl, by simp only [xo_tab, ht]⟩
    · cases h
theorem xpu_look {d : Int} {ps : Array (Int × Int)} : xPure (xo_look d ps) := by
  intro pc pl sk h1 h2 q h
  match sk, h with
  | .int x :: st, h =>
    simp only [xo_look] at h
    split at h
    · rename_i t ht
      cases hq : (ps.toList.zip (ps.toList.drop 1)).all (fun (a, next) => a.1 < next.1) with
      | false => rw [hq] at h; cases h
      | true =>
        rw [hq] at h
        have h := Option.some.inj h
        subst h
        exact ⟨_, _, _, rfl, by simp only [xo_look, ht, hq, cond_true]⟩
    · cases h
theorem xpu_gets {a : Nat} : xPure (xo_gets a) := by
  intro pc pl sk h1 h2 q h
  simp only [xo_gets] at h
  cases h0 : Nat.beq a 0 with
  | true =>
    rw [h0] at h
    have h := Option.some.inj h
    subst h
    exact ⟨_, _, _, rfl, by simp only [xo_gets, h0, cond_true]⟩
  | false =>
    rw [h0] at h
    simp only [cond_false] at h
    cases hq : Nat.beq a 1 with
    | false => rw [hq] at h; cases h
    | true =>
      rw [hq] at h
      have h := Option.some.inj h
      subst h
      exact ⟨_, _, _, rfl, by simp only [xo_gets, h0, hq, cond_true, cond_false]⟩
/-- what two steps make -/
def xOut (nz : Nat) (sh1 sh2 : List xSh) (M1 M2 : xM) (q1 q2 : xS ⊕ ((Nat × List Value × xS) ⊕ Option Value)) : Prop :=
  (∃ pc pl sk M1' M2', q1 = .inl (pc, pl, sk, nz, sh1, M1') ∧ q2 = .inl (pc, pl, sk, nz, sh2, M2') ∧ xsim sh1 sh2 M1' M2' ∧ ∀ p, sh1[p]? = some xdm → M2' p = M2 p) ∨
  (∃ z as pc pl sk, q1 = .inr (.inl (z, as, pc, pl, sk, nz, sh1, M1)) ∧ q2 = .inr (.inl (z, as, pc, pl, sk, nz, sh2, M2))) ∨ (∃ v, q1 = .inr (.inr v) ∧ q2 = .inr (.inr v))
def xSimF (f : xS → xR) : Prop := ∀ (pc : Nat) (pl : List (Option Value)) (sk : List Value) (nz : Nat) (sh1 sh2 : List xSh) (M1 M2 : xM) (q : xS ⊕ ((Nat × List Value × xS) ⊕ Option Value)), xsim sh1 sh2 M1 M2 → f (pc, pl, sk, nz, sh1, M1) = some q → ∃ q2, f (pc, pl, sk, nz, sh2, M2) = some q2 ∧ xOut nz sh1 sh2 M1 M2 q q2
theorem xPure.sim {f : xS → xR} (h : xPure f) : xSimF f := by
  intro pc pl sk nz sh1 sh2 M1 M2 q hs hq
  obtain ⟨pc', pl', sk', e1, e2⟩ := h pc pl sk (nz, sh1, M1) (nz, sh2, M2) q hq
  exact ⟨_, e2, Or.inl ⟨pc', pl', sk', M1, M2, e1, rfl, hs, fun _ _ => rfl⟩⟩
theorem xsim.arr {sh1 sh2 : List xSh} {M1 M2 : xM} (h : xsim sh1 sh2 M1 M2) {p n : Nat} {ty : FieldType} (hp : sh1[p]? = some (.inl (ty, n))) (ht : ty ≠ .long) : sh2[p]? = some (.inl (ty, n)) ∧ ∀ i, i < n → M1 p i = M2 p i := by
  rcases h p _ hp with q | q
  · exact absurd (congrArg (fun d : xSh => match d with
      | .inl a => a.1
      | .inr _ => .int) q) ht
  · exact q
theorem xsim.obj {sh1 sh2 : List xSh} {M1 M2 : xM} (h : xsim sh1 sh2 M1 M2) {p ci : Nat} {fs : List (Option (Option Nat))} (hp : sh1[p]? = some (.inr (ci, fs))) : sh2[p]? = some (.inr (ci, fs)) ∧ ∀ i, i < fs.length → M1 p i = M2 p i := by
  rcases h p _ hp with q | q
  · cases q
  · exact q
theorem xsim.row {sh1 sh2 : List xSh} {M1 M2 : xM} (h : xsim sh1 sh2 M1 M2) {p : Nat} {d : xSh} (hp : sh1[p]? = some d) (hd : d ≠ xdm) {r1 r2 : Nat → Int32} (hr : ∀ i, i < xsl1 d → r1 i = r2 i) : xsim sh1 sh2 (va_up M1 p r1) (va_up M2 p r2) ∧ ∀ k, sh1[k]? = some xdm → va_up M2 p r2 k = M2 k := by
  refine ⟨fun k d' hk => ?_, fun k hk => ?_⟩
  · by_cases e : k = p
    · subst e
      rw [hp] at hk
      cases hk
      rcases h k d hp with q | q
      · exact absurd q hd
      · refine Or.inr ⟨q.1, fun i hi => ?_⟩
        simp only [va_up, if_pos]
        exact hr i hi
    · rcases h k d' hk with q | q
      · exact Or.inl q
      · refine Or.inr ⟨q.1, fun i hi => ?_⟩
        simp only [va_up, if_neg e]
        exact q.2 i hi
  · have e : k ≠ p := by
      intro e
      subst e
      rw [hp] at hk
      cases hk
      exact hd rfl
    simp only [va_up, if_neg e]
theorem xsim.cell {sh1 sh2 : List xSh} {M1 M2 : xM} (h : xsim sh1 sh2 M1 M2) {p : Nat} {d : xSh} (hp : sh1[p]? = some d) (hd : d ≠ xdm) (i : Nat) (x : Int32) : xsim sh1 sh2 (xup M1 p i x) (xup M2 p i x) ∧ ∀ k, sh1[k]? = some xdm → xup M2 p i x k = M2 k := by
  refine h.row hp hd (fun j hj => ?_)
  rcases h p d hp with q | q
  · exact absurd q hd
  · unfold upd
    by_cases e : j = i
    · rw [if_pos e, if_pos e]
    · rw [if_neg e, if_neg e]
      exact q.2 j hj
theorem xoutB_lt {i : Int32} {n : Nat} (h : xoutB i n = false) : i.toNatClampNeg < n := by
  have := xoutB_in h
  exact Nat.not_le.mp (fun q => this (Or.inr q))
theorem xarr_ne {ty : FieldType} {n : Nat} (h : ty ≠ .long) : (Sum.inl (ty, n) : xSh) ≠ xdm := by
  intro e
  exact h (congrArg (fun d : xSh => match d with
      | .inl a => a.1
      | .inr _ => .int) e)
theorem xsim_cald : xSimF xo_cald := by
  intro pc pl sk nz sh1 sh2 M1 M2 q hs h
  match sk, h with
  | .int i :: .ref p :: st, h =>
    simp only [xo_cald] at h
    split at h
    · rename_i n hp
      cases hq : xoutB i n with
      | true => rw [hq] at h; cases h
      | false =>
        rw [hq] at h
        have h := Option.some.inj h
        subst h
        obtain ⟨g1, g2⟩ := hs.arr hp (by decide)
        refine ⟨.inl (pc + 1, pl, .int (M1 p i.toNatClampNeg) :: st, nz, sh2, M2), ?_, Or.inl ⟨_, _, _, _, _, rfl, rfl, hs, fun _ _ => rfl⟩⟩
        simp only [xo_cald, g1, hq, g2 _ (xoutB_lt hq), cond_false]
    · cases h
theorem xsim_iald {s0 : List Value} : ∀ (pc : Nat) (pl : List (Option Value)) (sk : List Value) (nz : Nat) (sh1 sh2 : List xSh) (M1 M2 : xM) (q : xS ⊕ ((Nat × List Value × xS) ⊕ Option Value)), xscr .iaload sk = false → xsim sh1 sh2 M1 M2 → xo_iald (fun _ => 0) 0 (pc, pl, sk, nz, sh1, M1) = some q → ∃ q2, xo_iald (fun _ => 0) 0 (pc, pl, sk, nz, sh2, M2) = some q2 ∧ xOut nz sh1 sh2 M1 M2 q q2 := by
  intro pc pl sk nz sh1 sh2 M1 M2 q hn hs h
  match sk, hn, h with
  | .int i :: .ref p :: st, hn, h =>
    have hn : Nat.beq p 999 = false := hn
    simp only [xo_iald, hn, cond_false] at h
    split at h
    · rename_i n hp
      cases hq : xoutB i n with
      | true => rw [hq] at h; cases h
      | false =>
        rw [hq] at h
        have h := Option.some.inj h
        subst h
        obtain ⟨g1, g2⟩ := hs.arr hp (by decide)
        refine ⟨.inl (pc + 1, pl, .int (M1 p i.toNatClampNeg) :: st, nz, sh2, M2), ?_, Or.inl ⟨_, _, _, _, _, rfl, rfl, hs, fun _ _ => rfl⟩⟩
        simp only [xo_iald, hn, g1, hq, g2 _ (xoutB_lt hq), cond_false]
    · cases h
theorem xsim_bald : xSimF xo_bald := by
  intro pc pl sk nz sh1 sh2 M1 M2 q hs h
  match sk, h with
  | .int i :: .ref p :: st, h =>
    simp only [xo_bald] at h
    cases h9 : Nat.ble 2000 p with
    | true =>
      rw [h9] at h
      simp only [cond_true] at h
      cases h8 : Nat.ble (p + 1) 2008 with
      | false => rw [h8] at h; cases h
      | true =>
        rw [h8] at h
        simp only [cond_true] at h
        cases hq : xoutB i (xSl.getD (p - 2000) 0) with
        | true => rw [hq] at h; cases h
        | false =>
          rw [hq] at h
          have h := Option.some.inj h
          subst h
          refine ⟨.inl (pc + 1, pl, .int ((xSb.getD (p - 2000) []).getD i.toNatClampNeg 0) :: st, nz, sh2, M2), ?_, Or.inl ⟨_, _, _, _, _, rfl, rfl, hs, fun _ _ => rfl⟩⟩
          simp only [xo_bald, h9, h8, hq, cond_true, cond_false]
    | false =>
      rw [h9] at h
      simp only [cond_false] at h
      split at h
      · rename_i n hp
        cases hq : xoutB i n with
        | true => rw [hq] at h; cases h
        | false =>
          rw [hq] at h
          have h := Option.some.inj h
          subst h
          obtain ⟨g1, g2⟩ := hs.arr hp (by decide)
          refine ⟨.inl (pc + 1, pl, .int (M1 p i.toNatClampNeg) :: st, nz, sh2, M2), ?_, Or.inl ⟨_, _, _, _, _, rfl, rfl, hs, fun _ _ => rfl⟩⟩
          simp only [xo_bald, h9, g1, hq, g2 _ (xoutB_lt hq), cond_false]
      · rename_i n hp
        cases hq : xoutB i n with
        | true => rw [hq] at h; cases h
        | false =>
          rw [hq] at h
          have h := Option.some.inj h
          subst h
          obtain ⟨g1, g2⟩ := hs.arr hp (by decide)
          refine ⟨.inl (pc + 1, pl, .int (M1 p i.toNatClampNeg) :: st, nz, sh2, M2), ?_, Or.inl ⟨_, _, _, _, _, rfl, rfl, hs, fun _ _ => rfl⟩⟩
          simp only [xo_bald, h9, g1, hq, g2 _ (xoutB_lt hq), cond_false]
      · cases h
theorem xsim_iast : xSimF xo_iast := by
  intro pc pl sk nz sh1 sh2 M1 M2 q hs h
  match sk, h with
  | .int x :: .int i :: .ref p :: st, h =>
    simp only [xo_iast] at h
    split at h
    · rename_i n hp
      cases hq : xoutB i n with
      | true => rw [hq] at h; cases h
      | false =>
        rw [hq] at h
        have h := Option.some.inj h
        subst h
        obtain ⟨g1, g2⟩ := hs.arr hp (by decide)
        have g3 := hs.cell hp (xarr_ne (by decide)) i.toNatClampNeg x
        refine ⟨.inl (pc + 1, pl, st, nz, sh2, xup M2 p i.toNatClampNeg x), ?_, Or.inl ⟨_, _, _, _, _, rfl, rfl, g3.1, g3.2⟩⟩
        simp only [xo_iast, g1, hq, cond_false]
    · cases h
theorem xsim_cast : xSimF xo_cast := by
  intro pc pl sk nz sh1 sh2 M1 M2 q hs h
  match sk, h with
  | .int x :: .int i :: .ref p :: st, h =>
    simp only [xo_cast] at h
    split at h
    · rename_i n hp
      cases hq : xoutB i n with
      | true => rw [hq] at h; cases h
      | false =>
        rw [hq] at h
        have h := Option.some.inj h
        subst h
        obtain ⟨g1, g2⟩ := hs.arr hp (by decide)
        have g3 := hs.cell hp (xarr_ne (by decide)) i.toNatClampNeg (vp_nar .char x)
        refine ⟨.inl (pc + 1, pl, st, nz, sh2, xup M2 p i.toNatClampNeg (vp_nar .char x)), ?_, Or.inl ⟨_, _, _, _, _, rfl, rfl, g3.1, g3.2⟩⟩
        simp only [xo_cast, g1, hq, cond_false]
    · cases h
theorem xsim_bast : xSimF xo_bast := by
  intro pc pl sk nz sh1 sh2 M1 M2 q hs h
  match sk, h with
  | .int x :: .int i :: .ref p :: st, h =>
    simp only [xo_bast] at h
    split at h
    · rename_i n hp
      cases hq : xoutB i n with
      | true => rw [hq] at h; cases h
      | false =>
        rw [hq] at h
        have h := Option.some.inj h
        subst h
        obtain ⟨g1, g2⟩ := hs.arr hp (by decide)
        have g3 := hs.cell hp (xarr_ne (by decide)) i.toNatClampNeg (vp_nar .byte x)
        refine ⟨.inl (pc + 1, pl, st, nz, sh2, xup M2 p i.toNatClampNeg (vp_nar .byte x)), ?_, Or.inl ⟨_, _, _, _, _, rfl, rfl, g3.1, g3.2⟩⟩
        simp only [xo_bast, g1, hq, cond_false]
    · rename_i n hp
      cases hq : xoutB i n with
      | true => rw [hq] at h; cases h
      | false =>
        rw [hq] at h
        have h := Option.some.inj h
        subst h
        obtain ⟨g1, g2⟩ := hs.arr hp (by decide)
        have g3 := hs.cell hp (xarr_ne (by decide)) i.toNatClampNeg (vp_nar .boolean x)
        refine ⟨.inl (pc + 1, pl, st, nz, sh2, xup M2 p i.toNatClampNeg (vp_nar .boolean x)), ?_, Or.inl ⟨_, _, _, _, _, rfl, rfl, g3.1, g3.2⟩⟩
        simp only [xo_bast, g1, hq, cond_false]
    · cases h
theorem xsim_alen : ∀ (pc : Nat) (pl : List (Option Value)) (sk : List Value) (nz : Nat) (sh1 sh2 : List xSh) (M1 M2 : xM) (q : xS ⊕ ((Nat × List Value × xS) ⊕ Option Value)), xscr .arraylength sk = false → xsim sh1 sh2 M1 M2 → xo_alen 0 (pc, pl, sk, nz, sh1, M1) = some q → ∃ q2, xo_alen 0 (pc, pl, sk, nz, sh2, M2) = some q2 ∧ xOut nz sh1 sh2 M1 M2 q q2 := by
  intro pc pl sk nz sh1 sh2 M1 M2 q hn hs h
  match sk, hn, h with
  | .ref p :: st, hn, h =>
    have hn : Nat.beq p 999 = false := hn
    simp only [xo_alen, hn, cond_false] at h
    cases h9 : Nat.ble 2000 p with
    | true =>
      rw [h9] at h
      simp only [cond_true] at h
      cases h8 : Nat.ble (p + 1) 2008 with
      | false => rw [h8] at h; cases h
      | true =>
        rw [h8] at h
        have h := Option.some.inj h
        subst h
        refine ⟨.inl (pc + 1, pl, .int (Int32.ofNat (xSl.getD (p - 2000) 0)) :: st, nz, sh2, M2), ?_, Or.inl ⟨_, _, _, _, _, rfl, rfl, hs, fun _ _ => rfl⟩⟩
        simp only [xo_alen, hn, h9, h8, cond_true, cond_false]
    | false =>
      rw [h9] at h
      simp only [cond_false] at h
      split at h
      · rename_i n hp
        have h := Option.some.inj h
        subst h
        obtain ⟨g1, g2⟩ := hs.arr hp (by decide)
        refine ⟨.inl (pc + 1, pl, .int (Int32.ofNat n) :: st, nz, sh2, M2), ?_, Or.inl ⟨_, _, _, _, _, rfl, rfl, hs, fun _ _ => rfl⟩⟩
        simp only [xo_alen, hn, h9, g1, cond_false]
      · cases h
theorem xsim_getf {a b : Nat} : xSimF (xo_getf a b) := by
  intro pc pl sk nz sh1 sh2 M1 M2 q hs h
  match sk, h with
  | .ref p :: st, h =>
    simp only [xo_getf] at h
    cases h1 : Nat.beq a 100 with
    | true =>
      rw [h1] at h
      simp only [cond_true] at h
      cases h2 : Nat.ble 1000 p && Nat.ble (p + 1) 1008 with
      | false => rw [h2] at h; cases h
      | true =>
        rw [h2] at h
        have h := Option.some.inj h
        subst h
        refine ⟨.inl (pc + 3, pl, (bif Nat.beq b 0 then Value.ref (p + 1000) else .int 0) :: st, nz, sh2, M2), ?_, Or.inl ⟨_, _, _, _, _, rfl, rfl, hs, fun _ _ => rfl⟩⟩
        simp only [xo_getf, h1, h2, cond_true]
    | false =>
      rw [h1] at h
      simp only [cond_false] at h
      split at h
      · rename_i ci fs hp
        obtain ⟨g1, g2⟩ := hs.obj hp
        cases h2 : Nat.beq ci a with
        | false => rw [h2] at h; cases h
        | true =>
          rw [h2] at h
          simp only [cond_true] at h
          split at h
          · rename_i hf
            have h := Option.some.inj h
            subst h
            refine ⟨.inl (pc + 3, pl, .int (M1 p b) :: st, nz, sh2, M2), ?_, Or.inl ⟨_, _, _, _, _, rfl, rfl, hs, fun _ _ => rfl⟩⟩
            simp only [xo_getf, h1, g1, h2, hf, cond_true, cond_false, g2 b (List.getElem?_eq_some_iff.mp hf).1]
          · rename_i r hf
            cases h3 : Nat.ble 999 r with
            | true => rw [h3] at h; cases h
            | false =>
              rw [h3] at h
              have h := Option.some.inj h
              subst h
              refine ⟨.inl (pc + 3, pl, .ref r :: st, nz, sh2, M2), ?_, Or.inl ⟨_, _, _, _, _, rfl, rfl, hs, fun _ _ => rfl⟩⟩
              simp only [xo_getf, h1, g1, h2, hf, h3, cond_true, cond_false]
          · cases h
      · cases h
theorem xsim_putf {a b idx : Nat} : ∀ (pc : Nat) (pl : List (Option Value)) (sk : List Value) (nz : Nat) (sh1 sh2 : List xSh) (M1 M2 : xM) (q : xS ⊕ ((Nat × List Value × xS) ⊕ Option Value)), xalc (.putfield idx) sk = false → xsim sh1 sh2 M1 M2 → xo_putf a b (pc, pl, sk, nz, sh1, M1) = some q → ∃ q2, xo_putf a b (pc, pl, sk, nz, sh2, M2) = some q2 ∧ xOut nz sh1 sh2 M1 M2 q q2 := by
  intro pc pl sk nz sh1 sh2 M1 M2 q hn hs h
  match sk, hn, h with
  | .ref _ :: _, hn, h => cases hn
  | .int x :: .ref p :: st, hn, h =>
    simp only [xo_putf] at h
    split at h
    · rename_i ci fs hp
      obtain ⟨g1, g2⟩ := hs.obj hp
      split at h
      · rename_i hf
        cases h2 : Nat.beq ci a || (Nat.beq (ci + 50) a && (decide (x = 0) || decide (x = 1))) with
        | false => rw [h2] at h; cases h
        | true =>
          rw [h2] at h
          have h := Option.some.inj h
          subst h
          have g3 := hs.cell hp (by intro e; cases e) b x
          refine ⟨.inl (pc + 3, pl, st, nz, sh2, xup M2 p b x), ?_, Or.inl ⟨_, _, _, _, _, rfl, rfl, g3.1, g3.2⟩⟩
          simp only [xo_putf, g1, hf, h2, cond_true]
      · cases h
    · cases h
theorem xsim_copy : xSimF xo_copy := by
  intro pc pl sk nz sh1 sh2 M1 M2 q hs h
  match sk, h with
  | .int n :: .int dp :: .ref r :: .int sp :: .ref p :: st, h =>
    simp only [xo_copy] at h
    split at h
    · rename_i n0 n1 hp hr
      obtain ⟨g1, g2⟩ := hs.arr hp (by decide)
      obtain ⟨g3, g4⟩ := hs.arr hr (by decide)
      cases h2 : xcat st && !(decide (sp < 0)) && !(decide (dp < 0)) && !(decide (n < 0)) && Nat.ble (sp.toNatClampNeg + n.toNatClampNeg) n0 && Nat.ble (dp.toNatClampNeg + n.toNatClampNeg) n1 with
      | false => rw [h2] at h; cases h
      | true =>
        rw [h2] at h
        have h := Option.some.inj h
        subst h
        have h3 := h2
        simp only [Bool.and_eq_true, Nat.ble_eq] at h3
        have g5 := hs.row hr (xarr_ne (by decide)) (r1 := va_cpy (M1 p) (M1 r) sp.toNatClampNeg dp.toNatClampNeg n.toNatClampNeg) (r2 := va_cpy (M2 p) (M2 r) sp.toNatClampNeg dp.toNatClampNeg n.toNatClampNeg) (fun i hi => by
          unfold va_cpy
          by_cases e : dp.toNatClampNeg ≤ i ∧ i < dp.toNatClampNeg + n.toNatClampNeg
          · rw [if_pos e, if_pos e]
            exact g2 _ (by omega)
          · rw [if_neg e, if_neg e]
            exact g4 i hi)
        refine ⟨.inl (pc + 3, pl, st, nz, sh2, va_up M2 r (va_cpy (M2 p) (M2 r) sp.toNatClampNeg dp.toNatClampNeg n.toNatClampNeg)), ?_, Or.inl ⟨_, _, _, _, _, rfl, rfl, g5.1, g5.2⟩⟩
        simp only [xo_copy, g1, g3, h2, cond_true]
    · cases h
theorem xrcv_sim {sh1 sh2 : List xSh} {M1 M2 : xM} (hs : xsim sh1 sh2 M1 M2) {ci p : Nat} (h : xrcv ci p sh1 = true) : xrcv ci p sh2 = true := by
  unfold xrcv at h ⊢
  cases h1 : Nat.beq ci 100 with
  | true => rw [h1] at h; exact h
  | false =>
    rw [h1] at h
    simp only [cond_false] at h ⊢
    split at h
    · rename_i c fs hp
      rw [(hs.obj hp).1]
      exact h
    · cases h
theorem xsim_call {inst : Bool} {ci z n : Nat} : xSimF (xo_call inst ci z n) := by
  intro pc pl sk nz sh1 sh2 M1 M2 q hs h
  simp only [xo_call] at h
  cases h1 : Nat.ble n sk.length with
  | false => rw [h1] at h; cases h
  | true =>
    rw [h1] at h
    simp only [cond_true] at h
    cases inst with
    | true =>
      simp only [cond_true] at h
      split at h
      · rename_i p rest hd
        cases h2 : xcat rest && xrcv ci p sh1 with
        | false => rw [h2] at h; cases h
        | true =>
          rw [h2] at h
          have h := Option.some.inj h
          subst h
          rw [Bool.and_eq_true] at h2
          refine ⟨.inr (.inl (z, .ref p :: (sk.take n).reverse, (pc + 3, pl, rest, nz, sh2, M2))), ?_, Or.inr (Or.inl ⟨_, _, _, _, _, rfl, rfl⟩)⟩
          simp only [xo_call, h1, hd, h2.1, xrcv_sim hs h2.2, cond_true, Bool.true_and]
      · cases h
    | false =>
      simp only [cond_false] at h
      cases h2 : xcat (sk.drop n) with
      | false => rw [h2] at h; cases h
      | true =>
        rw [h2] at h
        have h := Option.some.inj h
        subst h
        refine ⟨.inr (.inl (z, (sk.take n).reverse, (pc + 3, pl, sk.drop n, nz, sh2, M2))), ?_, Or.inr (Or.inl ⟨_, _, _, _, _, rfl, rfl⟩)⟩
        simp only [xo_call, h1, h2, cond_true, cond_false]
theorem xsim_init {z n : Nat} : xSimF (xo_init z n) := by
  intro pc pl sk nz sh1 sh2 M1 M2 q hs h
  simp only [xo_init] at h
  cases h1 : Nat.ble n sk.length with
  | false => rw [h1] at h; cases h
  | true =>
    rw [h1] at h
    simp only [cond_true] at h
    split at h
    · rename_i p rest hd
      cases h2 : xcat rest && Nat.ble (p + 1) 999 with
      | false => rw [h2] at h; cases h
      | true =>
        rw [h2] at h
        have h := Option.some.inj h
        subst h
        refine ⟨.inr (.inl (z, .ref p :: (sk.take n).reverse, (pc + 3, pl, rest, nz, sh2, M2))), ?_, Or.inr (Or.inl ⟨_, _, _, _, _, rfl, rfl⟩)⟩
        simp only [xo_init, h1, hd, h2, cond_true]
    · cases h
theorem xsim_iret {r : Option FieldType} : xSimF (xo_iret r) := by
  intro pc pl sk nz sh1 sh2 M1 M2 q hs h
  match sk, h with
  | [.int v], h =>
    have h' : xo_iret r (pc, pl, [.int v], nz, sh2, M2) = some q := h
    have hq : q = .inr (.inr (some (.int v))) := by
      simp only [xo_iret, Bool.cond_eq_ite] at h
      repeat' split at h
      all_goals first | (cases h; done) | exact (Option.some.inj h).symm
    exact ⟨q, h', Or.inr (Or.inr ⟨_, hq, hq⟩)⟩
theorem xsim_vret {r : Option FieldType} : xSimF (xo_vret r) := by
  intro pc pl sk nz sh1 sh2 M1 M2 q hs h
  match sk, h with
  | [], h =>
    have h' : xo_vret r (pc, pl, [], nz, sh2, M2) = some q := h
    have hq : q = .inr (.inr none) := by
      simp only [xo_vret] at h
      split at h
      · exact (Option.some.inj h).symm
      · cases h
    exact ⟨q, h', Or.inr (Or.inr ⟨_, hq, hq⟩)⟩
set_option maxHeartbeats 4000000 in
theorem xsim_step {y pc : Nat} {pl : List (Option Value)} {sk : List Value} {nz : Nat} {sh1 sh2 : List xSh} {M1 M2 : xM} {q : xS ⊕ ((Nat × List Value × xS) ⊕ Option Value)} (hs : xsim sh1 sh2 M1 M2) (h : xstep0 false y (pc, pl, sk, nz, sh1, M1) = some q) : ∃ q2, xstep0 false y (pc, pl, sk, nz, sh2, M2) = some q2 ∧ xOut nz sh1 sh2 M1 M2 q q2 := by
  unfold xstep0 at h ⊢
  cases he : xI y pc with
  | none => simp only [he] at h; cases h
  | some en =>
    simp only [he] at h ⊢
    cases hc : xscr en.1 sk || (!false && xalc en.1 sk) with
    | true => rw [hc] at h; cases h
    | false =>
    rw [hc] at h
    simp only [cond_false] at h ⊢
    rw [Bool.or_eq_false_iff] at hc
    obtain ⟨i, len, a, b, w⟩ := en
    cases i with
    | iadd => exact xpu_bin.sim _ _ _ _ _ _ _ _ _ hs h
    | isub => exact xpu_bin.sim _ _ _ _ _ _ _ _ _ hs h
    | imul => exact xpu_bin.sim _ _ _ _ _ _ _ _ _ hs h
    | iand => exact xpu_bin.sim _ _ _ _ _ _ _ _ _ hs h
    | ior => exact xpu_bin.sim _ _ _ _ _ _ _ _ _ hs h
    | ixor => exact xpu_bin.sim _ _ _ _ _ _ _ _ _ hs h
    | ishl => exact xpu_bin.sim _ _ _ _ _ _ _ _ _ hs h
    | ishr => exact xpu_bin.sim _ _ _ _ _ _ _ _ _ hs h
    | iushr => exact xpu_bin.sim _ _ _ _ _ _ _ _ _ hs h
    | land => exact xpu_lbin.sim _ _ _ _ _ _ _ _ _ hs h
    | lor => exact xpu_lbin.sim _ _ _ _ _ _ _ _ _ hs h
    | lshl => exact xpu_lsh.sim _ _ _ _ _ _ _ _ _ hs h
    | lshr => exact xpu_lsh.sim _ _ _ _ _ _ _ _ _ hs h
    | lushr => exact xpu_lsh.sim _ _ _ _ _ _ _ _ _ hs h
    | i2b => exact xpu_un.sim _ _ _ _ _ _ _ _ _ hs h
    | i2c => exact xpu_un.sim _ _ _ _ _ _ _ _ _ hs h
    | i2l => exact xpu_i2l.sim _ _ _ _ _ _ _ _ _ hs h
    | l2i => exact xpu_l2i.sim _ _ _ _ _ _ _ _ _ hs h
    | lcmp => exact xpu_lcmp.sim _ _ _ _ _ _ _ _ _ hs h
    | idiv => exact xpu_div.sim _ _ _ _ _ _ _ _ _ hs h
    | irem => exact xpu_div.sim _ _ _ _ _ _ _ _ _ hs h
    | pop => exact xpu_pop.sim _ _ _ _ _ _ _ _ _ hs h
    | dup => exact xpu_dup.sim _ _ _ _ _ _ _ _ _ hs h
    | dup_x1 => exact xpu_dup_x1.sim _ _ _ _ _ _ _ _ _ hs h
    | dup_x2 => exact xpu_dup_x2.sim _ _ _ _ _ _ _ _ _ hs h
    | dup2 => exact xpu_dup2.sim _ _ _ _ _ _ _ _ _ hs h
    | iconst _ => exact xpu_const.sim pc pl sk nz sh1 sh2 M1 M2 q hs h
    | lconst _ => exact xpu_const.sim pc pl sk nz sh1 sh2 M1 M2 q hs h
    | bipush _ => exact xpu_const.sim pc pl sk nz sh1 sh2 M1 M2 q hs h
    | sipush _ => exact xpu_const.sim pc pl sk nz sh1 sh2 M1 M2 q hs h
    | ldc2_w _ => exact xpu_const.sim pc pl sk nz sh1 sh2 M1 M2 q hs h
    | iload _ => exact xpu_iload.sim pc pl sk nz sh1 sh2 M1 M2 q hs h
    | iload_n _ => exact xpu_iload.sim pc pl sk nz sh1 sh2 M1 M2 q hs h
    | lload _ => exact xpu_lload.sim pc pl sk nz sh1 sh2 M1 M2 q hs h
    | lload_n _ => exact xpu_lload.sim pc pl sk nz sh1 sh2 M1 M2 q hs h
    | aload _ => exact xpu_aload.sim pc pl sk nz sh1 sh2 M1 M2 q hs h
    | aload_n _ => exact xpu_aload.sim pc pl sk nz sh1 sh2 M1 M2 q hs h
    | istore _ => exact xpu_istore.sim pc pl sk nz sh1 sh2 M1 M2 q hs h
    | istore_n _ => exact xpu_istore.sim pc pl sk nz sh1 sh2 M1 M2 q hs h
    | astore _ => exact xpu_astore.sim pc pl sk nz sh1 sh2 M1 M2 q hs h
    | astore_n _ => exact xpu_astore.sim pc pl sk nz sh1 sh2 M1 M2 q hs h
    | goto _ => exact xpu_goto.sim pc pl sk nz sh1 sh2 M1 M2 q hs h
    | getstatic _ => exact xpu_gets.sim pc pl sk nz sh1 sh2 M1 M2 q hs h
    | iinc _ _ => exact xpu_iinc.sim _ _ _ _ _ _ _ _ _ hs h
    | ifCond _ _ => exact xpu_if.sim _ _ _ _ _ _ _ _ _ hs h
    | if_icmp _ _ => exact xpu_icmp.sim _ _ _ _ _ _ _ _ _ hs h
    | tableswitch _ _ _ _ => exact xpu_tab.sim _ _ _ _ _ _ _ _ _ hs h
    | lookupswitch _ _ => exact xpu_look.sim _ _ _ _ _ _ _ _ _ hs h
    | baload  => exact xsim_bald _ _ _ _ _ _ _ _ _ hs h
    | caload  => exact xsim_cald _ _ _ _ _ _ _ _ _ hs h
    | iastore  => exact xsim_iast _ _ _ _ _ _ _ _ _ hs h
    | bastore  => exact xsim_bast _ _ _ _ _ _ _ _ _ hs h
    | castore  => exact xsim_cast _ _ _ _ _ _ _ _ _ hs h
    | getfield _ => exact xsim_getf _ _ _ _ _ _ _ _ _ hs h
    | ireturn  => exact xsim_iret _ _ _ _ _ _ _ _ _ hs h
    | return_  => exact xsim_vret _ _ _ _ _ _ _ _ _ hs h
    | iaload => exact xsim_iald (s0 := []) _ _ _ _ _ _ _ _ _ hc.1 hs h
    | arraylength => exact xsim_alen _ _ _ _ _ _ _ _ _ hc.1 hs h
    | putfield idx => exact xsim_putf (idx := idx) _ _ _ _ _ _ _ _ _ (by simpa using hc.2) hs h
    | new idx => exact absurd hc.2 (by simp [xalc])
    | newarray t => exact absurd hc.2 (by simp [xalc])
    | ldc idx =>
      have h2 : (bif Nat.ble (a + 1) 8 then xo_const (.ref (1000 + a)) len else fun _ => none) (pc, pl, sk, nz, sh1, M1) = some q := h
      show ∃ q2, (bif Nat.ble (a + 1) 8 then xo_const (.ref (1000 + a)) len else fun _ => none) (pc, pl, sk, nz, sh2, M2) = some q2 ∧ _
      cases hq : Nat.ble (a + 1) 8 with
      | false => rw [hq] at h2; cases h2
      | true => rw [hq] at h2; exact xpu_const.sim _ _ _ _ _ _ _ _ _ hs h2
    | invokevirtual idx =>
      have h2 : (bif Nat.ble (a + 1) xN then xo_call true (xci a) a b else fun _ => none) (pc, pl, sk, nz, sh1, M1) = some q := h
      show ∃ q2, (bif Nat.ble (a + 1) xN then xo_call true (xci a) a b else fun _ => none) (pc, pl, sk, nz, sh2, M2) = some q2 ∧ _
      cases hq : Nat.ble (a + 1) xN with
      | false => rw [hq] at h2; cases h2
      | true => rw [hq] at h2; exact xsim_call _ _ _ _ _ _ _ _ _ hs h2
    | invokestatic idx =>
      have h2 : (bif Nat.ble (a + 1) xN then xo_call false 0 a b else bif Nat.beq a 901 then xo_copy else fun _ => none) (pc, pl, sk, nz, sh1, M1) = some q := h
      show ∃ q2, (bif Nat.ble (a + 1) xN then xo_call false 0 a b else bif Nat.beq a 901 then xo_copy else fun _ => none) (pc, pl, sk, nz, sh2, M2) = some q2 ∧ _
      cases hq : Nat.ble (a + 1) xN with
      | true => rw [hq] at h2; exact xsim_call _ _ _ _ _ _ _ _ _ hs h2
      | false =>
        rw [hq] at h2
        simp only [cond_false] at h2 ⊢
        cases hq2 : Nat.beq a 901 with
        | false => rw [hq2] at h2; cases h2
        | true => rw [hq2] at h2; exact xsim_copy _ _ _ _ _ _ _ _ _ hs h2
    | invokespecial idx =>
      have h2 : (bif Nat.beq a 900 then xo_obj else bif Nat.ble (a + 1) xN then xo_init a b else fun _ => none) (pc, pl, sk, nz, sh1, M1) = some q := h
      show ∃ q2, (bif Nat.beq a 900 then xo_obj else bif Nat.ble (a + 1) xN then xo_init a b else fun _ => none) (pc, pl, sk, nz, sh2, M2) = some q2 ∧ _
      cases hq2 : Nat.beq a 900 with
      | true => rw [hq2] at h2; exact xpu_obj.sim _ _ _ _ _ _ _ _ _ hs h2
      | false =>
        rw [hq2] at h2
        simp only [cond_false] at h2 ⊢
        cases hq : Nat.ble (a + 1) xN with
        | false => rw [hq] at h2; cases h2
        | true => rw [hq] at h2; exact xsim_init _ _ _ _ _ _ _ _ _ hs h2
    | _ => cases (show (none : xR) = some q from h)
/-- THE FRAME: a run over blind shapes is a run over the whole, and what was blind stays -/
theorem xsim_run : ∀ (n y : Nat) (pc : Nat) (pl : List (Option Value)) (sk : List Value) (nz : Nat) (sh1 sh2 : List xSh) (M1 M2 : xM) (r : xZ), xsim sh1 sh2 M1 M2 → xrun0 false n y (pc, pl, sk, nz, sh1, M1) = some r → ∃ M1' M2', r = (r.1, nz, sh1, M1') ∧ xrun0 false n y (pc, pl, sk, nz, sh2, M2) = some (r.1, nz, sh2, M2') ∧ xsim sh1 sh2 M1' M2' ∧ ∀ p, sh1[p]? = some xdm → M2' p = M2 p
  | 0, _, _, _, _, _, _, _, _, _, _, _, h => by cases h
  | n + 1, y, pc, pl, sk, nz, sh1, sh2, M1, M2, r, hs, h => by
    unfold xrun0 at h
    split at h
    · cases h
    · rename_i s' hst
      obtain ⟨q2, e2, ho⟩ := xsim_step hs hst
      rcases ho with ⟨pc', pl', sk', M1', M2', e3, e4, hs', hk⟩ | ⟨z, as, pc', pl', sk', e3, -⟩ | ⟨v, e3, -⟩
      · cases e3
        subst e4
        obtain ⟨N1, N2, f1, f2, f3, f4⟩ := xsim_run n y pc' pl' sk' nz sh1 sh2 M1' M2' r hs' h
        refine ⟨N1, N2, f1, ?_, f3, fun p hp => (f4 p hp).trans (hk p hp)⟩
        unfold xrun0
        rw [e2]
        exact f2
      · cases e3
      · cases e3
    · rename_i z as pc' pl' sk' nz' sh' M' hst
      obtain ⟨q2, e2, ho⟩ := xsim_step hs hst
      rcases ho with ⟨pc', pl', sk', M1', M2', e3, -⟩ | ⟨z, as, pc', pl', sk', e3, e4⟩ | ⟨v, e3, -⟩
      · cases e3
      · cases e3
        subst e4
        simp only [Bool.cond_eq_ite] at h
        split at h
        · rename_i hn
          split at h
          · cases h
          · rename_i v nz' sh' M' hr
            obtain ⟨N1, N2, f1, f2, f3, f4⟩ := xsim_run n z 0 (xent z as) [] nz sh1 sh2 M1 M2 _ hs hr
            injection f1 with f1a f1b
            injection f1b with f1c f1d
            injection f1d with f1e f1f
            subst f1c; subst f1e; subst f1f
            split at h
            · rename_i hb
              obtain ⟨O1, O2, g1, g2, g3, g4⟩ := xsim_run n y pc' pl' _ nz' sh' sh2 M' N2 r f3 h
              refine ⟨O1, O2, g1, ?_, g3, fun p hp => (g4 p hp).trans (f4 p hp)⟩
              unfold xrun0
              rw [e2]
              simp only [hn, cond_true, f2, hb]
              exact g2
            · cases h
        · cases h
      · cases e3
    · rename_i v hst
      obtain ⟨q2, e2, ho⟩ := xsim_step hs hst
      rcases ho with ⟨pc', pl', sk', M1', M2', e3, -⟩ | ⟨z, as, pc', pl', sk', e3, -⟩ | ⟨v', e3, e4⟩
      · cases e3
      · cases e3
      · cases e3
        subst e4
        cases h
        refine ⟨M1, M2, rfl, ?_, hs, fun _ _ => rfl⟩
        unfold xrun0
        rw [e2]
